/-! The rules of construction as they are used. -/
def wpC : RR := fun k i ls st σ c s Q => ∀ R : RR, closedR false R → c_con R → R k i ls st σ c s Q
theorem soundC {K : WK} (hG : G0 K) {k i : Nat} {ls : Vls} {st : List AV} {σ : Mem} {c s : Nat} {Q : Out → Mem → Prop} (h : wpC k i ls st σ c s Q) : Wst false K k i ls st σ c s Q :=
  h (Wst false K) ⟨s_weak false K, s_plain hG, s_goto false K, s_if false K, s_icmp false K, s_nullN false K, s_nullR false K, s_switch false K, s_call false hG, s_iret false K, s_dret false K, s_aret false K, s_vret false K, s_throw false hG, s_wf false K⟩ ⟨s_new hG, s_newa hG, s_newq hG, s_putq hG, s_astq hG, s_obj hG⟩
/-- what the memory comes to -/
def tgt (C : Nat) (r k : Int) : Int :=
  if C = 0 then (if 2 ≤ k ∧ k ≤ 7 then 1 else 0) else if C = 1 then (if k = 0 then 1 else 0)
  else if C = 2 then (if k = 1 then 1 else if k = 2 then -1 else if 3 ≤ k ∧ k ≤ 8 then 1 else 0)
  else if C = 3 then (if k = 1 ∨ k = 2 then 1 else 0) else if C = 4 then (if k = 1 ∨ k = 2 ∨ k = 6 then -1 else if k = 8 then 1 else 0)
  else if C = 5 then (if k = 0 ∨ k = 3 then 1 else if k = 2 then -1 else 0) else if C = 6 then (if 1 ≤ k ∧ k ≤ 6 then 1 else 0)
  else if C = 7 then (if k = 0 then 1 else 0) else if C = 8 then (if 1 ≤ k ∧ k ≤ 5 then 1 else 0) else if C = 9 then (if k = 2 ∨ k = 3 then 1 else 0)
  else if C = 10 then (if k = 0 ∨ k = 1 ∨ k = 3 ∨ k = 4 ∨ k = 5 then 1 else 0)
  else if C = 11 then (if k = 0 ∨ k = 1 ∨ k = 3 ∨ k = 7 ∨ k = 8 ∨ k = 9 ∨ k = 14 then 1 else if k = 13 then -1 else 0)
  else if C = 13 then (if r = 186 ∧ k = 6 then -1 else if r = 186 ∧ k = 7 then 1 else 0)
  else if C = 14 then (if r = 0 ∧ 0 ≤ k ∧ k < 8 then 1 else 0) else 0
abbrev Cnt : Type := Nat → Int
abbrev Cel : Type := Nat → Int → Int → Prop
def inc (cn : Cnt) (C : Nat) : Cnt := fun C' => if C' = C then cn C + 1 else cn C'
def addS (S : Cel) (C : Nat) (r k : Int) : Cel := fun C' r' k' => S C' r' k' ∨ (C' = C ∧ r' = r ∧ k' = k)
/-- a memory under construction: how many objects there are, which cells are set for good; h0: the memory of what is given (kinds 17 and on) -/
def St (h0 : Mem) (σ : Mem) (cn : Cnt) (S : Cel) : Prop :=
  (∀ C : Nat, C < 17 → σ 20 (C : Int) 0 = cn C ∧ 0 ≤ cn C) ∧ (∀ C r k, C < 17 → cn C ≤ r → σ C r k = 0) ∧ (∀ r j, σ 14 r j = 1 → j + 2 < cn 2) ∧ (∀ C r k, C < 17 → σ C r k = 0 ∨ σ C r k = tgt C r k) ∧ (∀ C r k, S C r k → C < 17 ∧ σ C r k = tgt C r k) ∧ (∀ C r k, 17 ≤ C → C < 20 → σ C r k = h0 C r k)
section StS
variable {h0 σ : Mem} {cn cn' : Cnt} {S S' : Cel}
theorem St.fr (h : St h0 σ cn S) {C : Nat} (hC : C < 17) : frO σ C := by
  obtain ⟨a1, a2, a3, a4, a5, a6⟩ := h
  refine ⟨by rw [(a1 C hC).1]; exact (a1 C hC).2, fun j => a2 C _ j hC (by rw [(a1 C hC).1]; exact Int.le_refl _), fun e r j h => ?_⟩
  have h2 : σ 20 2 0 = cn 2 := (a1 2 (by decide)).1
  rw [h2]
  exact a3 r j h
theorem St.new (h : St h0 σ cn S) {C : Nat} (hC : C < 17) : St h0 (mkO σ C) (inc cn C) S := by
  obtain ⟨a1, a2, a3, a4, a5, a6⟩ := h
  refine ⟨fun C' h' => ?_, fun C' r k h' hr => ?_, fun r j hj => ?_, fun C' r k h' => ?_, fun C' r k h' => ?_, fun C' r k h1 h2 => ?_⟩
  · have h1 := a1 C hC
    have h2 := a1 C' h'
    unfold inc
    by_cases e : C' = C
    · subst e
      rw [if_pos rfl]
      have : mkO σ C' 20 (C' : Int) 0 = σ 20 (C' : Int) 0 + 1 := up_s _ _ _ _ _
      omega
    · rw [if_neg e]
      have : mkO σ C 20 (C' : Int) 0 = σ 20 (C' : Int) 0 := up_o (Or.inr (Or.inl (by omega)))
      omega
  · rw [mkO_o (by omega)]
    refine a2 C' r k h' ?_
    unfold inc at hr
    split at hr
    · rename_i e; subst e; omega
    · exact hr
  · rw [mkO_o (by omega)] at hj
    have := a3 r j hj
    unfold inc
    split
    · rename_i e; subst e; omega
    · exact this
  · rw [mkO_o (by omega)]; exact a4 C' r k h'
  · obtain ⟨h1, h2⟩ := a5 C' r k h'
    exact ⟨h1, by rw [mkO_o (by omega)]; exact h2⟩
  · rw [mkO_o (by omega)]; exact a6 C' r k h1 h2
theorem St.set (h : St h0 σ cn S) {C : Nat} {r k v : Int} (hC : C < 17) (hr : r < cn C) (hv : v = tgt C r k) (h14 : C = 14 → k + 2 < cn 2) : St h0 (up σ C r k v) cn (addS S C r k) := by
  subst hv
  obtain ⟨a1, a2, a3, a4, a5, a6⟩ := h
  refine ⟨fun C' h' => ?_, fun C' r' k' h' hr' => ?_, fun r' j hj => ?_, fun C' r' k' h' => ?_, fun C' r' k' h' => ?_, fun C' r' k' h1 h2 => ?_⟩
  · rw [up_o (Or.inl (by omega))]; exact a1 C' h'
  · by_cases e : C' = C ∧ r' = r ∧ k' = k
    · obtain ⟨rfl, rfl, rfl⟩ := e
      omega
    · rw [up_o (by omega)]; exact a2 C' r' k' h' hr'
  · by_cases e : 14 = C ∧ r' = r ∧ j = k
    · obtain ⟨rfl, rfl, rfl⟩ := e
      exact h14 rfl
    · rw [up_o (by omega)] at hj; exact a3 r' j hj
  · by_cases e : C' = C ∧ r' = r ∧ k' = k
    · obtain ⟨rfl, rfl, rfl⟩ := e
      exact Or.inr (up_s _ _ _ _ _)
    · rw [up_o (by omega)]; exact a4 C' r' k' h'
  · by_cases e : C' = C ∧ r' = r ∧ k' = k
    · obtain ⟨rfl, rfl, rfl⟩ := e
      exact ⟨hC, up_s _ _ _ _ _⟩
    · rcases h' with h' | h'
      · obtain ⟨h1, h2⟩ := a5 C' r' k' h'
        exact ⟨h1, by rw [up_o (by omega)]; exact h2⟩
      · exact absurd h' e
  · rw [up_o (Or.inl (by omega))]; exact a6 C' r' k' h1 h2
theorem St.sub (h : St h0 σ cn S) (hc : ∀ C, cn C = cn' C) (hs : ∀ C r k, S' C r k → S C r k ∨ (C < 17 ∧ tgt C r k = 0)) : St h0 σ cn' S' := by
  have : cn = cn' := funext hc
  subst this
  obtain ⟨a1, a2, a3, a4, a5, a6⟩ := h
  refine ⟨a1, a2, a3, a4, fun C r k q => ?_, a6⟩
  rcases hs C r k q with h | ⟨h1, h2⟩
  · exact a5 C r k h
  · rcases a4 C r k h1 with h | h
    · exact ⟨h1, h.trans h2.symm⟩
    · exact ⟨h1, h⟩
end StS
section UseC
variable {k i pc len : Nat} {raw : Instr} {x : List Nat} {ls ls' : Vls} {st st' : List AV} {σ σ' h0 : Mem} {P : Option Prop} {c s : Nat} {Q : Out → Mem → Prop} {rs : List Rw} {cn cn' : Cnt} {S S' : Cel}
theorem wpC_plain (hr : (rows k)[i]? = some (pc, raw, len, x)) (hp : plain false raw x ls st σ = some (P, ls', st', σ')) (hP : hold P) (h : wpC k (i + 1) ls' st' σ' c s Q) : wpC k i ls st σ c s Q := fun R hR hc => hR.2.1 _ _ _ _ _ _ _ _ _ _ _ _ _ _ _ _ hr hp hP (h R hR hc)
theorem wpC_goto (hR : rows k = rs) {off : Int} {t : Nat} (hi : rs[i]? = some (pc, .goto off, len, [t])) (h : wpC k t ls st σ c s Q) : wpC k i ls st σ c s Q := fun R hc h2 => hc.2.2.1 _ _ _ _ _ _ _ _ _ _ _ _ (by rw [hR]; exact hi) (h R hc h2)
theorem wpC_if (hR : rows k = rs) {cd : ClassFile.Cond} {off v : Int} {t : Nat} (hi : rs[i]? = some (pc, .ifCond cd off, len, [t])) (ht : cnd cd v 0 → wpC k t ls st σ c s Q) (hf : ¬ cnd cd v 0 → wpC k (i + 1) ls st σ c s Q) : wpC k i ls (aI v :: st) σ c s Q := fun R hc h2 => hc.2.2.2.1 _ _ _ _ _ _ _ _ _ _ _ _ _ _ (by rw [hR]; exact hi) (fun q => ht q R hc h2) (fun q => hf q R hc h2)
theorem wpC_icmp (hR : rows k = rs) {cd : ClassFile.Cond} {off v w : Int} {t : Nat} (hi : rs[i]? = some (pc, .if_icmp cd off, len, [t])) (ht : cnd cd v w → wpC k t ls st σ c s Q) (hf : ¬ cnd cd v w → wpC k (i + 1) ls st σ c s Q) : wpC k i ls (aI w :: aI v :: st) σ c s Q := fun R hc h2 => hc.2.2.2.2.1 _ _ _ _ _ _ _ _ _ _ _ _ _ _ _ (by rw [hR]; exact hi) (fun q => ht q R hc h2) (fun q => hf q R hc h2)
theorem wpC_vret (hR : rows k = rs) (hi : rs[i]? = some (pc, .return_, len, x)) (ht : rett k = none) (h : Q (.inl none) σ) : wpC k i ls [] σ c s Q := fun R hc _ => hc.2.2.2.2.2.2.2.2.2.2.2.2.1 _ _ _ _ _ _ _ _ _ _ (by rw [hR]; exact hi) ht h
theorem wpC_seg0 : ∀ (n : Nat) {k i : Nat} {rs : List Rw} {ls ls' : Vls} {st st' : List AV} {σ σ' : Mem} {P : Option Prop} {c s : Nat} {Q : Out → Mem → Prop}, (rows k).drop i = rs → seg false n rs ls st σ = some (P, ls', st', σ') → hold P → wpC k (i + n) ls' st' σ' c s Q → wpC k i ls st σ c s Q
  | 0, k, i, rs, ls, ls', st, st', σ, σ', P, c, s, Q, hd, h, hP, hw => by
    cases h
    exact hw
  | n + 1, k, i, [], ls, ls', st, st', σ, σ', P, c, s, Q, hd, h, hP, hw => by cases h
  | n + 1, k, i, r :: rs, ls, ls', st, st', σ, σ', P, c, s, Q, hd, h, hP, hw => by
    simp only [seg] at h
    split at h
    · rename_i P1 ls1 st1 σ1 h1
      split at h
      · rename_i P2 ls2 st2 σ2 h2
        cases h
        obtain ⟨q1, q2⟩ := pand_hold hP
        obtain ⟨d1, d2⟩ := dropAt hd
        obtain ⟨pc, raw, len, x⟩ := r
        refine wpC_plain d1 h1 q1 (wpC_seg0 n d2 h2 q2 ?_)
        rw [show i + 1 + n = i + (n + 1) by omega]
        exact hw
      · cases h
    · cases h
theorem wpC_seg (n : Nat) {i' : Nat} (hR : rows k = rs) (h : seg false n (rs.drop i) ls st σ = some (P, ls', st', σ')) (hP : hold P) (hi : i + n = i') (hw : wpC k i' ls' st' σ' c s Q) : wpC k i ls st σ c s Q := by
  subst hi
  exact wpC_seg0 n (by rw [hR]) h hP hw
theorem wpC_call (hR : rows k = rs) {n k' w C : Nat} {As rest : List AV} {Q' : Out → Mem → Prop} (hi : rs[i]? = some (pc, raw, len, [n, k', w])) (hinv : isInv raw n = true) (hcl : clOK k k' n c s As.length C = true) (hc1 : (As.all fun a => !isC2 (some a)) = true) (hrl : rest.length ≤ 4) (hrec : n ≠ 2 → ∃ r, As[0]? = some (aR C r)) (hst : st = As.reverse ++ rest)
    (h : wpC k' 0 (entL k' As) [] σ 0 0 Q') (hv : ∀ o σ', Q' o σ' → o = .inl none ∧ wpC k (i + 1) ls rest σ' (c + mcs k') (s + mss k') Q) : wpC k i ls st σ c s Q := by
  intro R hc hcon
  subst hst
  unfold clOK at hcl
  simp only [Bool.and_eq_true, Bool.or_eq_true, decide_eq_true_eq] at hcl
  obtain ⟨⟨⟨⟨⟨⟨⟨a1, a2⟩, a3⟩, a4⟩, a5⟩, a6⟩, a7⟩, a8⟩ := hcl
  refine hc.2.2.2.2.2.2.2.2.1 _ _ _ _ _ _ _ _ _ _ _ _ _ _ _ Q' (by rw [hR]; exact hi) hinv a1 a2 a3 (fun a ha => ?_) hrl (fun hn => ?_) a5 a6 a7 a8 (h R hc hcon) (fun v σ' hq => ?_) (fun E σ' hq => ?_)
  · have := List.all_eq_true.mp hc1 a ha
    simpa using this
  · rcases a4 with h0 | h0
    · exact absurd h0 hn
    · rw [h0]; exact hrec hn
  · obtain ⟨e, h2⟩ := hv _ _ hq
    cases e
    exact h2 R hc hcon
  · obtain ⟨e, -⟩ := hv _ _ hq
    cases e
theorem wpC_gen (hS : St h0 σ cn S) (h : ∀ σ', St h0 σ' cn S → wpC k i ls st σ' c s Q) : wpC k i ls st σ c s Q := h σ hS
theorem wpC_obj (hR : rows k = rs) {C w j : Nat} {r : Int} (hi : rs[i]? = some (pc, .invokespecial j, len, [5, 0, w])) (h1 : 1 ≤ frm k) (h2 : 100 ≤ lcl k) (h3 : st.length ≤ 4) (h : wpC k (i + 1) ls st σ c s Q) : wpC k i ls (aR C r :: st) σ c s Q := fun R hc hcon => hcon.2.2.2.2.2 _ _ _ _ _ _ _ _ _ _ _ _ _ _ (by rw [hR]; exact hi) h1 h2 h3 (h R hc hcon)
theorem wpC_new (hR : rows k = rs) {C w j c' s' : Nat} {v : Int} (hi : rs[i]? = some (pc, .new j, len, [0, C, w])) (hC : C < 12) (hS : St h0 σ cn S) (hv : cn C = v) (h1 : c + 1 ≤ mcs k) (h2 : s + (fsp C).length ≤ mss k) (hc' : c + 1 = c') (hs' : s + (fsp C).length = s') (h : ∀ σ', St h0 σ' (inc cn C) S → wpC k (i + 1) ls (aR C v :: st) σ' c' s' Q) : wpC k i ls st σ c s Q := fun R hc hcon => by
  subst hv; subst hc'; subst hs'
  refine hcon.1 _ _ _ _ _ _ _ _ _ _ _ _ _ (by rw [hR]; exact hi) hC (hS.fr (by omega)) h1 h2 ?_
  rw [(hS.1 C (by omega)).1]
  exact h _ (hS.new (by omega)) R hc hcon
theorem wpC_newa (hR : rows k = rs) {C c' s' : Nat} {v n : Int} (hi : rs[i]? = some (pc, .newarray (atOf C), len, x)) (hC : C = 12 ∨ C = 13 ∨ C = 15 ∨ C = 16) (hS : St h0 σ cn S) (hv : cn C = v) (hn : n = nAl C v) (h1 : c + 1 ≤ mcs k) (h2 : s + n.toNat ≤ mss k) (hc' : c + 1 = c') (hs' : s + n.toNat = s') (h : ∀ σ', St h0 σ' (inc cn C) S → wpC k (i + 1) ls (aR C v :: st) σ' c' s' Q) : wpC k i ls (aI n :: st) σ c s Q := fun R hc hcon => by
  subst hv; subst hc'; subst hs'
  refine hcon.2.1 _ _ _ _ _ _ _ _ _ _ _ _ _ (by rw [hR]; exact hi) hC (by rw [(hS.1 C (by omega)).1]; exact hn) (hS.fr (by omega)) h1 h2 ?_
  rw [(hS.1 C (by omega)).1]
  exact h _ (hS.new (by omega)) R hc hcon
theorem wpC_newq (hR : rows k = rs) {C w j c' s' : Nat} {v : Int} (hi : rs[i]? = some (pc, .anewarray j, len, [C, w])) (hS : St h0 σ cn S) (hv : cn 14 = v) (h1 : c + 1 ≤ mcs k) (h2 : s + 8 ≤ mss k) (hc' : c + 1 = c') (hs' : s + 8 = s') (h : ∀ σ', St h0 σ' (inc cn 14) S → wpC k (i + 1) ls (aR 14 v :: st) σ' c' s' Q) : wpC k i ls (aI 8 :: st) σ c s Q := fun R hc hcon => by
  subst hv; subst hc'; subst hs'
  refine hcon.2.2.1 _ _ _ _ _ _ _ _ _ _ _ _ _ (by rw [hR]; exact hi) (hS.fr (by omega)) h1 h2 ?_
  have h9 : σ 20 14 0 = cn 14 := (hS.1 14 (by omega)).1
  rw [h9]
  exact h _ (hS.new (by omega)) R hc hcon
theorem wpC_putq (hR : rows k = rs) {C f w j t : Nat} {a b q r : Int} (hi : rs[i]? = some (pc, .putfield j, len, [C, f, w, 0])) (hf : (fsp C)[f]? = some (2, a, b, t)) (hq : q = lay a b r) (hS : St h0 σ cn S) (hC : C < 12) (hr : r < cn C) (ht : tgt C r f = 1) (h : ∀ σ', St h0 σ' cn (addS S C r f) → wpC k (i + 1) ls st σ' c s Q) : wpC k i ls (aR t q :: aR C r :: st) σ c s Q := fun R hc hcon =>
  hcon.2.2.2.1 _ _ _ _ _ _ _ _ _ _ _ _ _ _ _ _ _ _ _ (by rw [hR]; exact hi) hf hq (h _ (hS.set (by omega) hr ht.symm (fun e => by omega)) R hc hcon)
theorem wpC_astq (hR : rows k = rs) {j q : Int} (hi : rs[i]? = some (pc, .aastore, len, x)) (h1 : 0 ≤ j) (h8 : j < 8) (hq : q = j + 2) (hS : St h0 σ cn S) (hr : 0 < cn 14) (h2 : j + 2 < cn 2) (h : ∀ σ', St h0 σ' cn (addS S 14 0 j) → wpC k (i + 1) ls st σ' c s Q) : wpC k i ls (aR 2 q :: aI j :: aR 14 0 :: st) σ c s Q := fun R hc hcon => by
  subst hq
  exact hcon.2.2.2.2.1 _ _ _ _ _ _ _ _ _ _ _ _ _ (by rw [hR]; exact hi) h1 h8 (h _ (hS.set (by omega) hr (by unfold tgt; simp; omega) (fun _ => h2)) R hc hcon)
/-- a number is put into a field -/
theorem wpC_puti (hR : rows k = rs) {C f w j n : Nat} {v r : Int} (hi : rs[i]? = some (pc, .putfield j, len, [C, f, w, n])) (hp : plain false (.putfield j) [C, f, w, n] ls (aI v :: aR C r :: st) σ = some (P, ls, st, up σ C r f v)) (hP : hold P) (hS : St h0 σ cn S) (hC : C < 12) (hr : r < cn C) (ht : v = tgt C r f) (h : ∀ σ', St h0 σ' cn (addS S C r f) → wpC k (i + 1) ls st σ' c s Q) : wpC k i ls (aI v :: aR C r :: st) σ c s Q :=
  wpC_plain (by rw [hR]; exact hi) hp hP (h _ (hS.set (by omega) hr ht (fun e => by omega)))
end UseC
