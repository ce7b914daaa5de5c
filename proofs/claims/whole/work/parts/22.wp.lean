/-! The rules as they are used. -/
section Use
variable {ph : Bool} {k i pc len : Nat} {raw : Instr} {x : List Nat} {ls ls' : Vls} {st st' : List AV} {σ σ' : Mem} {P : Option Prop} {c s : Nat} {Q : Out → Mem → Prop} {rs : List Rw}
theorem wp_weak (hl : lessL ls' ls) (h : wp ph k i ls' st σ c s Q) : wp ph k i ls st σ c s Q := fun R hR => hR.1 _ _ _ _ _ _ _ _ _ hl (h R hR)
theorem wp_plain (hr : (rows k)[i]? = some (pc, raw, len, x)) (hp : plain ph raw x ls st σ = some (P, ls', st', σ')) (hP : hold P) (h : wp ph k (i + 1) ls' st' σ' c s Q) : wp ph k i ls st σ c s Q := fun R hR => hR.2.1 _ _ _ _ _ _ _ _ _ _ _ _ _ _ _ _ hr hp hP (h R hR)
theorem wp_goto (hR : rows k = rs) {off : Int} {t : Nat} (hi : rs[i]? = some (pc, .goto off, len, [t])) (h : wp ph k t ls st σ c s Q) : wp ph k i ls st σ c s Q := fun R hc => hc.2.2.1 _ _ _ _ _ _ _ _ _ _ _ _ (by rw [hR]; exact hi) (h R hc)
theorem wp_if (hR : rows k = rs) {cd : ClassFile.Cond} {off v : Int} {t : Nat} (hi : rs[i]? = some (pc, .ifCond cd off, len, [t])) (ht : cnd cd v 0 → wp ph k t ls st σ c s Q) (hf : ¬ cnd cd v 0 → wp ph k (i + 1) ls st σ c s Q) : wp ph k i ls (aI v :: st) σ c s Q := fun R hc => hc.2.2.2.1 _ _ _ _ _ _ _ _ _ _ _ _ _ _ (by rw [hR]; exact hi) (fun q => ht q R hc) (fun q => hf q R hc)
theorem wp_icmp (hR : rows k = rs) {cd : ClassFile.Cond} {off v w : Int} {t : Nat} (hi : rs[i]? = some (pc, .if_icmp cd off, len, [t])) (ht : cnd cd v w → wp ph k t ls st σ c s Q) (hf : ¬ cnd cd v w → wp ph k (i + 1) ls st σ c s Q) : wp ph k i ls (aI w :: aI v :: st) σ c s Q := fun R hc => hc.2.2.2.2.1 _ _ _ _ _ _ _ _ _ _ _ _ _ _ _ (by rw [hR]; exact hi) (fun q => ht q R hc) (fun q => hf q R hc)
theorem wp_nullN (hR : rows k = rs) {off : Int} {t : Nat} (hi : rs[i]? = some (pc, .ifnull off, len, [t])) (h : wp ph k t ls st σ c s Q) : wp ph k i ls (aN :: st) σ c s Q := fun R hc => hc.2.2.2.2.2.1 _ _ _ _ _ _ _ _ _ _ _ _ (by rw [hR]; exact hi) (h R hc)
theorem wp_nullR (hR : rows k = rs) {off r : Int} {t C : Nat} (hi : rs[i]? = some (pc, .ifnull off, len, [t])) (h : wp ph k (i + 1) ls st σ c s Q) : wp ph k i ls (aR C r :: st) σ c s Q := fun R hc => hc.2.2.2.2.2.2.1 _ _ _ _ _ _ _ _ _ _ _ _ _ _ (by rw [hR]; exact hi) (h R hc)
theorem wp_switch (hR : rows k = rs) {dflt lo hi v : Int} {offs : Array Int} {ts : List Nat} (hi : rs[i]? = some (pc, .tableswitch dflt lo hi offs, len, ts)) {t : Nat} (ht : swT lo ts v = t) (h : wp ph k t ls st σ c s Q) : wp ph k i ls (aI v :: st) σ c s Q := fun R hc => hc.2.2.2.2.2.2.2.1 _ _ _ _ _ _ _ _ _ _ _ _ _ _ _ _ (by rw [hR]; exact hi) (by rw [ht]; exact h R hc)
theorem wp_iret (hR : rows k = rs) {v : Int} (hi : rs[i]? = some (pc, .ireturn, len, x)) (ht : rett k = some .int) (h : Q (.inl (some (aI v))) σ) : wp ph k i ls [aI v] σ c s Q := fun R hc => hc.2.2.2.2.2.2.2.2.2.1 _ _ _ _ _ _ _ _ _ _ _ (by rw [hR]; exact hi) (Or.inl ht) h
theorem wp_zret (hR : rows k = rs) {v : Int} (hi : rs[i]? = some (pc, .ireturn, len, x)) (ht : rett k = some .boolean) (h01 : v = 0 ∨ v = 1) (h : Q (.inl (some (aI v))) σ) : wp ph k i ls [aI v] σ c s Q := fun R hc => hc.2.2.2.2.2.2.2.2.2.1 _ _ _ _ _ _ _ _ _ _ _ (by rw [hR]; exact hi) (Or.inr ⟨ht, h01⟩) h
theorem wp_dret (hR : rows k = rs) {v : UInt64} (hi : rs[i]? = some (pc, .dreturn, len, x)) (ht : rett k = some .double) (h : Q (.inl (some (aD v))) σ) : wp ph k i ls [aD v] σ c s Q := fun R hc => hc.2.2.2.2.2.2.2.2.2.2.1 _ _ _ _ _ _ _ _ _ _ _ (by rw [hR]; exact hi) ht h
theorem wp_aret (hR : rows k = rs) {v : Option (Nat × Int)} (hi : rs[i]? = some (pc, .areturn, len, x)) (ht : rett k = some (.object RX2)) (hv : v = none ∨ ∃ r, v = some (2, r)) (h : Q (.inl (some (.inr (.inr (.inr v))))) σ) : wp ph k i ls [.inr (.inr (.inr v))] σ c s Q := fun R hc => hc.2.2.2.2.2.2.2.2.2.2.2.1 _ _ _ _ _ _ _ _ _ _ _ (by rw [hR]; exact hi) ht hv h
theorem wp_vret (hR : rows k = rs) (hi : rs[i]? = some (pc, .return_, len, x)) (ht : rett k = none) (h : Q (.inl none) σ) : wp ph k i ls [] σ c s Q := fun R hc => hc.2.2.2.2.2.2.2.2.2.2.2.2.1 _ _ _ _ _ _ _ _ _ _ (by rw [hR]; exact hi) ht h
theorem wp_throw (hR : rows k = rs) {j E w : Nat} (hi : rs[i]? = some (pc, .new j, len, [1, E, w])) (hcat : hcat k = []) (hst : st.length ≤ 4) (hf : 6 ≤ frm k) (h1 : c + 1 ≤ mcs k) (h2 : s + 6 ≤ mss k) (h : Q (.inr E) σ) : wp ph k i ls st σ c s Q := fun R hc => hc.2.2.2.2.2.2.2.2.2.2.2.2.2.1 _ _ _ _ _ _ _ _ _ _ _ _ _ (by rw [hR]; exact hi) hcat hst hf h1 h2 h
theorem wp_wf (h : Wf ph σ → (∀ (j : Nat) (v : Int), ls[j]? = some (some (aI v)) → inR v) → wp ph k i ls st σ c s Q) : wp ph k i ls st σ c s Q := fun R hc => hc.2.2.2.2.2.2.2.2.2.2.2.2.2.2 _ _ _ _ _ _ _ _ (fun a b => h a b R hc)
/-- the figures of a call -/
def clOK (k k' n c s L C : Nat) : Bool := cfOK k' n && decide (L = argc k' n) && decide (L ≤ mxl k') && (decide (n = 2) || decide (tagO (own k') = C)) && decide (frm k' + 1 ≤ frm k) && decide (8 + (mxl k' + 11) + lcl k' ≤ lcl k) && decide (c + mcs k' ≤ mcs k) && decide (s + mss k' ≤ mss k)
def entL (k : Nat) (As : List AV) : Vls := As.map some ++ List.replicate (mxl k - As.length) none
/-- a method's run: from these values and this memory it comes to this end -/
def Ev (ph : Bool) (k : Nat) (As : List AV) (σ : Mem) (o : Out) (σ' : Mem) : Prop := wp ph k 0 (entL k As) [] σ 0 0 (fun o' σ2 => o' = o ∧ σ2 = σ')
theorem wp_callQ (hR : rows k = rs) {n k' w C : Nat} {As rest : List AV} {Q' : Out → Mem → Prop} (hi : rs[i]? = some (pc, raw, len, [n, k', w])) (hinv : isInv raw n = true) (hcl : clOK k k' n c s As.length C = true) (hc1 : (As.all fun a => !isC2 (some a)) = true) (hrl : rest.length ≤ 4) (hrec : n ≠ 2 → ∃ r, As[0]? = some (aR C r)) (hst : st = As.reverse ++ rest)
    (h : wp ph k' 0 (entL k' As) [] σ 0 0 Q') (hv : ∀ v σ', Q' (.inl v) σ' → wp ph k (i + 1) ls (v.toList ++ rest) σ' (c + mcs k') (s + mss k') Q) (hx : ∀ E σ', Q' (.inr E) σ' → xGo (wp ph) k i ls E σ' (c + mcs k') (s + mss k') Q) : wp ph k i ls st σ c s Q := by
  intro R hc
  subst hst
  unfold clOK at hcl
  simp only [Bool.and_eq_true, Bool.or_eq_true, decide_eq_true_eq] at hcl
  obtain ⟨⟨⟨⟨⟨⟨⟨a1, a2⟩, a3⟩, a4⟩, a5⟩, a6⟩, a7⟩, a8⟩ := hcl
  refine hc.2.2.2.2.2.2.2.2.1 _ _ _ _ _ _ _ _ _ _ _ _ _ _ _ Q' (by rw [hR]; exact hi) hinv a1 a2 a3 (fun a ha => ?_) hrl (fun hn => ?_) a5 a6 a7 a8 (h R hc) (fun v σ' hq => hv v σ' hq R hc) (fun E σ' hq => ?_)
  · have := List.all_eq_true.mp hc1 a ha
    simpa using this
  · rcases a4 with h0 | h0
    · exact absurd h0 hn
    · rw [h0]; exact hrec hn
  · have h1 := hx E σ' hq
    unfold xGo at h1 ⊢
    split
    · rename_i e
      rw [e] at h1
      exact h1
    · rename_i e
      split at h1
      · rename_i e2; exact absurd e2 e
      · obtain ⟨b1, b2, hh, b3, b4⟩ := h1
        exact ⟨b1, b2, hh, b3, b4 R hc⟩
theorem wp_call (hR : rows k = rs) {n k' w C : Nat} {As rest : List AV} {v : Option AV} (hev : Ev ph k' As σ (.inl v) σ') (hi : rs[i]? = some (pc, raw, len, [n, k', w])) (hinv : isInv raw n = true) (hcl : clOK k k' n c s As.length C = true) (hc1 : (As.all fun a => !isC2 (some a)) = true) (hrl : rest.length ≤ 4) (hrec : n ≠ 2 → ∃ r, As[0]? = some (aR C r)) (hst : st = As.reverse ++ rest) {c' s' : Nat} (hcc : c + mcs k' = c') (hss : s + mss k' = s')
    (h : wp ph k (i + 1) ls (v.toList ++ rest) σ' c' s' Q) : wp ph k i ls st σ c s Q := by
  subst hcc; subst hss
  refine wp_callQ hR hi hinv hcl hc1 hrl hrec hst hev (fun v2 σ2 hq => ?_) (fun E σ2 hq => ?_)
  · obtain ⟨h1, h2⟩ := hq
    cases h1
    subst h2
    exact h
  · cases hq.1
/-- a call that throws, in a method that catches nothing -/
theorem wp_callX (hR : rows k = rs) {n k' w C E : Nat} {As rest : List AV} (hev : Ev ph k' As σ (.inr E) σ') (hi : rs[i]? = some (pc, raw, len, [n, k', w])) (hinv : isInv raw n = true) (hcl : clOK k k' n c s As.length C = true) (hc1 : (As.all fun a => !isC2 (some a)) = true) (hrl : rest.length ≤ 4) (hrec : n ≠ 2 → ∃ r, As[0]? = some (aR C r)) (hst : st = As.reverse ++ rest) (hcat : hcat k = [])
    (h : Q (.inr E) σ') : wp ph k i ls st σ c s Q := by
  refine wp_callQ hR hi hinv hcl hc1 hrl hrec hst hev (fun v2 σ2 hq => ?_) (fun E2 σ2 hq => ?_)
  · cases hq.1
  · obtain ⟨h1, h2⟩ := hq
    cases h1
    subst h2
    unfold xGo
    rw [hcat]
    exact h
def pand (a b : Option Prop) : Option Prop := match a, b with | none, b => b | a, none => a | some a, some b => some (a ∧ b)
theorem pand_hold {a b : Option Prop} (h : hold (pand a b)) : hold a ∧ hold b := by
  unfold pand at h
  split at h
  · exact ⟨True.intro, h⟩
  · exact ⟨h, True.intro⟩
  · exact h
def seg (ph : Bool) : Nat → List Rw → Vls → List AV → Mem → PR
  | 0, _, ls, st, σ => some (none, ls, st, σ)
  | _ + 1, [], _, _, _ => none
  | n + 1, r :: rs, ls, st, σ => match plain ph r.2.1 r.2.2.2 ls st σ with
    | some (P, ls1, st1, σ1) => (match seg ph n rs ls1 st1 σ1 with | some (P2, ls2, st2, σ2) => some (pand P P2, ls2, st2, σ2) | none => none)
    | none => none
theorem wp_seg0 : ∀ (n : Nat) {k i : Nat} {rs : List Rw} {ls ls' : Vls} {st st' : List AV} {σ σ' : Mem} {P : Option Prop} {c s : Nat} {Q : Out → Mem → Prop}, (rows k).drop i = rs → seg ph n rs ls st σ = some (P, ls', st', σ') → hold P → wp ph k (i + n) ls' st' σ' c s Q → wp ph k i ls st σ c s Q
  | 0, k, i, rs, ls, ls', st, st', σ, σ', P, c, s, Q, hd, h, hP, hw => by
    cases h
    exact hw
  | n + 1, k, i, [], ls, ls', st, st', σ, σ', P, c, s, Q, hd, h, hP, hw => by cases h
  | n + 1, k, i, r :: rs, ls, ls', st, st', σ, σ', P, c, s, Q, hd, h, hP, hw => by
    simp only [seg] at h
    split at h
    · rename_i P1 ls1 st1 σ1 h1
      split at h
      · rename_i P2 ls2 st2 σ2 h2
        cases h
        obtain ⟨q1, q2⟩ := pand_hold hP
        obtain ⟨d1, d2⟩ := dropAt hd
        obtain ⟨pc, raw, len, x⟩ := r
        refine wp_plain d1 h1 q1 (wp_seg0 n d2 h2 q2 ?_)
        rw [show i + 1 + n = i + (n + 1) by omega]
        exact hw
      · cases h
    · cases h
theorem wp_seg (n : Nat) {i' : Nat} (hR : rows k = rs) (h : seg ph n (rs.drop i) ls st σ = some (P, ls', st', σ')) (hP : hold P) (hi : i + n = i') (hw : wp ph k i' ls' st' σ' c s Q) : wp ph k i ls st σ c s Q := by
  subst hi
  exact wp_seg0 n (by rw [hR]) h hP hw
theorem wp_mono {Q' : Out → Mem → Prop} (hq : ∀ o σ, Q o σ → Q' o σ) (h : wp ph k i ls st σ c s Q) : wp ph k i ls st σ c s Q' := by
  have h1 := h (fun k i ls st σ c s Q => ∀ Q', (∀ o σ, Q o σ → Q' o σ) → wp ph k i ls st σ c s Q') ⟨?_, ?_, ?_, ?_, ?_, ?_, ?_, ?_, ?_, ?_, ?_, ?_, ?_, ?_, ?_⟩
  · exact h1 Q' hq
  · intro k i ls ls' st σ c s Q hl h Q' hq; exact wp_weak hl (h Q' hq)
  · intro k i ls st σ c s Q pc raw len x P ls' st' σ' hr hp hP h Q' hq; exact wp_plain hr hp hP (h Q' hq)
  · intro k i ls st σ c s Q pc off len t hr h Q' hq; exact wp_goto rfl hr (h Q' hq)
  · intro k i ls st σ c s Q pc cd off len t v hr ht hf Q' hq; exact wp_if rfl hr (fun z => ht z Q' hq) (fun z => hf z Q' hq)
  · intro k i ls st σ c s Q pc cd off len t v w hr ht hf Q' hq; exact wp_icmp rfl hr (fun z => ht z Q' hq) (fun z => hf z Q' hq)
  · intro k i ls st σ c s Q pc off len t hr h Q' hq; exact wp_nullN rfl hr (h Q' hq)
  · intro k i ls st σ c s Q pc off len t C r hr h Q' hq; exact wp_nullR rfl hr (h Q' hq)
  · intro k i ls st σ c s Q pc dflt lo hi offs len ts v hr h Q' hq; exact wp_switch rfl hr rfl (h Q' hq)
  · intro k i ls σ c s Q pc raw len n k' w As rest Q0 hr hinv hcf hl1 hl2 hc hrl hrec hf hlo h1 h2 hcal hret hthr Q' hq R hR
    refine hR.2.2.2.2.2.2.2.2.1 _ _ _ _ _ _ _ _ _ _ _ _ _ _ _ Q0 hr hinv hcf hl1 hl2 hc hrl hrec hf hlo h1 h2 (hcal Q0 (fun _ _ z => z) R hR) (fun v σ' z => hret v σ' z Q' hq R hR) (fun E σ' z => ?_)
    have h1 := hthr E σ' z
    unfold xGo at h1 ⊢
    split
    · rename_i e
      rw [e] at h1
      exact hq _ _ h1
    · rename_i e
      split at h1
      · rename_i e2; exact absurd e2 e
      · obtain ⟨b1, b2, hh, b3, b4⟩ := h1
        exact ⟨b1, b2, hh, b3, b4 Q' hq R hR⟩
  · intro k i ls σ c s Q pc len x v hr hret h Q' hq R hR; exact hR.2.2.2.2.2.2.2.2.2.1 _ _ _ _ _ _ _ _ _ _ _ hr hret (hq _ _ h)
  · intro k i ls σ c s Q pc len x v hr hret h Q' hq; exact wp_dret rfl hr hret (hq _ _ h)
  · intro k i ls σ c s Q pc len x v hr hret hv h Q' hq; exact wp_aret rfl hr hret hv (hq _ _ h)
  · intro k i ls σ c s Q pc len x hr hret h Q' hq; exact wp_vret rfl hr hret (hq _ _ h)
  · intro k i ls st σ c s Q pc j len E w hr hcat hst hf h1 h2 h Q' hq; exact wp_throw rfl hr hcat hst hf h1 h2 (hq _ _ h)
  · intro k i ls st σ c s Q h Q' hq; exact wp_wf (fun a b => h a b Q' hq)
end Use
