/-! The law's rows ahead of its loop: both sides are made. -/
section L0
variable {R : RR} {k i pc len : Nat} {raw : Instr} {x : List Nat} {ls ls' : Vls} {st st' : List AV} {σ σ' h0 : Mem} {P : Option Prop} {c s : Nat} {Q : Out → Mem → Prop} {rs : List Rw} {cn : Cnt} {S : Cel}
theorem rg_seg0 (hR : closedR false R) : ∀ (n : Nat) {k i : Nat} {rs : List Rw} {ls ls' : Vls} {st st' : List AV} {σ σ' : Mem} {P : Option Prop} {c s : Nat} {Q : Out → Mem → Prop}, (rows k).drop i = rs → seg false n rs ls st σ = some (P, ls', st', σ') → hold P → R k (i + n) ls' st' σ' c s Q → R k i ls st σ c s Q
  | 0, k, i, rs, ls, ls', st, st', σ, σ', P, c, s, Q, hd, h, hP, hw => by
    cases h
    exact hw
  | n + 1, k, i, [], ls, ls', st, st', σ, σ', P, c, s, Q, hd, h, hP, hw => by cases h
  | n + 1, k, i, r :: rs, ls, ls', st, st', σ, σ', P, c, s, Q, hd, h, hP, hw => by
    simp only [seg] at h
    split at h
    · rename_i P1 ls1 st1 σ1 h1
      split at h
      · rename_i P2 ls2 st2 σ2 h2
        cases h
        obtain ⟨q1, q2⟩ := pand_hold hP
        obtain ⟨d1, d2⟩ := dropAt hd
        obtain ⟨pc, raw, len, x⟩ := r
        refine hR.2.1 _ _ _ _ _ _ _ _ _ _ _ _ _ _ _ _ d1 h1 q1 (rg_seg0 hR n d2 h2 q2 ?_)
        rw [show i + 1 + n = i + (n + 1) by omega]
        exact hw
      · cases h
    · cases h
theorem rg_call (hR : closedR false R) (hcon : c_con R) (hrs : rows k = rs) {n k' w C : Nat} {As rest : List AV} {Q' : Out → Mem → Prop} (hi : rs[i]? = some (pc, raw, len, [n, k', w])) (hinv : isInv raw n = true) (hcl : clOK k k' n c s As.length C = true) (hc1 : (As.all fun a => !isC2 (some a)) = true) (hrl : rest.length ≤ 4) (hrec : n ≠ 2 → ∃ r, As[0]? = some (aR C r)) (hst : st = As.reverse ++ rest)
    (h : wpC k' 0 (entL k' As) [] σ 0 0 Q') (hv : ∀ o σ', Q' o σ' → o = .inl none ∧ R k (i + 1) ls rest σ' (c + mcs k') (s + mss k') Q) : R k i ls st σ c s Q := by
  subst hst
  unfold clOK at hcl
  simp only [Bool.and_eq_true, Bool.or_eq_true, decide_eq_true_eq] at hcl
  obtain ⟨⟨⟨⟨⟨⟨⟨a1, a2⟩, a3⟩, a4⟩, a5⟩, a6⟩, a7⟩, a8⟩ := hcl
  refine hR.2.2.2.2.2.2.2.2.1 _ _ _ _ _ _ _ _ _ _ _ _ _ _ _ Q' (by rw [hrs]; exact hi) hinv a1 a2 a3 (fun a ha => ?_) hrl (fun hn => ?_) a5 a6 a7 a8 (h R hR hcon) (fun v σ' hq => ?_) (fun E σ' hq => ?_)
  · have := List.all_eq_true.mp hc1 a ha
    simpa using this
  · rcases a4 with h0 | h0
    · exact absurd h0 hn
    · rw [h0]; exact hrec hn
  · obtain ⟨e, h2⟩ := hv _ _ hq
    cases e
    exact h2
  · obtain ⟨e, -⟩ := hv _ _ hq
    cases e
def cnL : Cnt := inc (inc (adc (inc (adc (inc (fun _ => 0) 10) [(2, 10), (7, 186), (13, 186), (6, 10), (3, 10), (0, 10), (9, 10), (4, 10), (1, 1), (14, 1), (8, 1), (5, 1), (12, 1)]) 11) [(13, 7)]) 15) 16
def S1L : Cel := fun C r k => False ∨ (C = 10 ∧ r = 0) ∨ ((C = 2 ∨ C = 6 ∨ C = 3 ∨ C = 0 ∨ C = 9 ∨ C = 4) ∧ 0 ≤ r ∧ r < 10) ∨ (C = 7 ∧ 0 ≤ r ∧ r < 186) ∨ (C = 14 ∧ r = 0) ∨ (C = 1 ∧ r = 0) ∨ (C = 8 ∧ r = 0) ∨ (C = 5 ∧ r = 0)
def SL : Cel := fun C r k => S1L C r k ∨ (C = 11 ∧ r = 0) ∨ (C = 13 ∧ r = 186)
theorem z10 {C : Nat} (h : C ≠ 10) : inc (fun _ => 0) 10 C = 0 := if_neg h
theorem law0 (hR : closedR false R) (hcon : c_con R) (hS : St h0 σ (fun _ => 0) (fun _ _ _ => False)) (leaf : ∀ σ', St h0 σ' cnL SL → R 278 16 (LL 0 none none none) [] σ' 448 301379 Q) : R 278 0 (entL 278 [aR 17 0]) [] σ 0 0 Q := by
  show R 278 0 [some (aR 17 0), none, none, none, none, none, none, none, none] [] σ 0 0 Q
  refine hcon.1 278 0 _ _ σ 0 0 Q _ _ _ 10 _ rfl (by decide) (hS.fr (by decide)) (by decide +kernel) (by decide +kernel) ?_
  have e1 : σ 20 ((10 : Nat) : Int) 0 = 0 := (hS.1 10 (by decide)).1
  rw [e1]
  have hS1 := hS.new (C := 10) (by decide)
  generalize mkO σ 10 = σ1 at hS1 ⊢
  refine rg_seg0 hR 1 (P := none) (ls' := [some (aR 17 0), none, none, none, none, none, none, none, none]) (st' := [aR 10 0, aR 10 0]) (σ' := σ1) rfl rfl True.intro ?_
  refine rg_call hR hcon (C := 10) (As := [aR 10 0]) (rest := [aR 10 0]) rq_278 rfl rfl (show clOK 278 104 3 1 7 1 10 = true by decide +kernel) rfl (show 1 ≤ 4 by decide) (fun _ => ⟨_, rfl⟩) rfl (ic_fm hS1 (by decide) (fun C h => z10 h)) (fun o σ2 hq => ⟨hq.1, ?_⟩)
  have hS2 := hq.2
  clear hq
  refine rg_seg0 hR 1 (P := none) (ls' := [some (aR 17 0), some (aR 10 0), none, none, none, none, none, none, none]) (st' := []) (σ' := σ2) rfl rfl True.intro ?_
  refine hcon.1 278 4 _ _ σ2 _ _ Q _ _ _ 11 _ rfl (by decide) (hS2.fr (by decide)) (by decide +kernel) (by decide +kernel) ?_
  have e2 : σ2 20 ((11 : Nat) : Int) 0 = 0 := (hS2.1 11 (by decide)).1
  rw [e2]
  have hS3 := hS2.new (C := 11) (by decide)
  generalize mkO σ2 11 = σ3 at hS3 ⊢
  refine rg_seg0 hR 1 (P := none) (ls' := [some (aR 17 0), some (aR 10 0), none, none, none, none, none, none, none]) (st' := [aR 11 0, aR 11 0]) (σ' := σ3) rfl rfl True.intro ?_
  refine rg_call hR hcon (C := 11) (As := [aR 11 0]) (rest := [aR 11 0]) rq_278 rfl rfl (by decide +kernel) rfl (show 1 ≤ 4 by decide) (fun _ => ⟨_, rfl⟩) rfl (ic_model hS3 (by decide) (by decide)) (fun o σ4 hq => ⟨hq.1, ?_⟩)
  have hS4 := hq.2
  clear hq
  refine rg_seg0 hR 2 (P := none) (ls' := [some (aR 17 0), some (aR 10 0), some (aR 11 0), none, none, none, none, none, none]) (st' := [aI 1]) (σ' := σ4) rfl rfl True.intro ?_
  refine hcon.2.1 278 9 _ _ σ4 _ _ Q _ _ 15 _ 1 rfl (by decide) rfl (hS4.fr (by decide)) (by decide +kernel) (by decide +kernel) ?_
  have e4 : σ4 20 ((15 : Nat) : Int) 0 = 0 := (hS4.1 15 (by decide)).1
  rw [e4]
  have hS5 := hS4.new (C := 15) (by decide)
  generalize mkO σ4 15 = σ5 at hS5 ⊢
  refine rg_seg0 hR 2 (P := none) (ls' := [some (aR 17 0), some (aR 10 0), some (aR 11 0), some (aR 15 0), none, none, none, none, none]) (st' := [aI 1]) (σ' := σ5) rfl rfl True.intro ?_
  refine hcon.2.1 278 12 _ _ σ5 _ _ Q _ _ 16 _ 1 rfl (by decide) rfl (hS5.fr (by decide)) (by decide +kernel) (by decide +kernel) ?_
  have e5 : σ5 20 ((16 : Nat) : Int) 0 = 0 := (hS5.1 16 (by decide)).1
  rw [e5]
  have hS6 := hS5.new (C := 16) (by decide)
  generalize mkO σ5 16 = σ6 at hS6 ⊢
  refine rg_seg0 hR 3 (P := none) (ls' := LL 0 none none none) (st' := []) (σ' := σ6) rfl rfl True.intro ?_
  exact leaf σ6 hS6
/-- what there is when the loop begins -/
theorem St_fin (hS : St h0 σ cnL SL) : (∀ C r k, C < 12 → vld σ C r → σ C r k = tgt C r k) ∧ (∀ k, σ 13 186 k = tgt 13 186 k) ∧ (∀ r j, vld σ 14 r → 0 ≤ j → j < 8 → σ 14 r j = 1) ∧ (∀ C r k, 17 ≤ C → C < 20 → σ C r k = h0 C r k) ∧ (∀ C : Nat, C < 17 → σ 20 (C : Int) 0 = cnL C) := by
  obtain ⟨a1, a2, a3, a4, a5, a6⟩ := hS
  refine ⟨fun C r k hC hv => ?_, fun k => (a5 13 186 k (Or.inr (Or.inr ⟨rfl, rfl⟩))).2, fun r j hv j0 j1 => ?_, a6, fun C hC => (a1 C hC).1⟩
  · refine (a5 C r k ?_).2
    unfold vld at hv
    rw [if_pos (by omega), (a1 C (by omega)).1] at hv
    have : C = 0 ∨ C = 1 ∨ C = 2 ∨ C = 3 ∨ C = 4 ∨ C = 5 ∨ C = 6 ∨ C = 7 ∨ C = 8 ∨ C = 9 ∨ C = 10 ∨ C = 11 := by omega
    unfold SL S1L
    rcases this with rfl | rfl | rfl | rfl | rfl | rfl | rfl | rfl | rfl | rfl | rfl | rfl
    · rw [show cnL 0 = 10 by decide] at hv; omega
    · rw [show cnL 1 = 1 by decide] at hv; omega
    · rw [show cnL 2 = 10 by decide] at hv; omega
    · rw [show cnL 3 = 10 by decide] at hv; omega
    · rw [show cnL 4 = 10 by decide] at hv; omega
    · rw [show cnL 5 = 1 by decide] at hv; omega
    · rw [show cnL 6 = 10 by decide] at hv; omega
    · rw [show cnL 7 = 186 by decide] at hv; omega
    · rw [show cnL 8 = 1 by decide] at hv; omega
    · rw [show cnL 9 = 10 by decide] at hv; omega
    · rw [show cnL 10 = 1 by decide] at hv; omega
    · rw [show cnL 11 = 1 by decide] at hv; omega
  · unfold vld at hv
    rw [if_pos (by decide), (a1 14 (by decide)).1, show cnL 14 = 1 by decide] at hv
    have h := (a5 14 r j (Or.inl (Or.inr (Or.inr (Or.inr (Or.inr (Or.inl ⟨rfl, by omega⟩))))))).2
    rw [h]
    unfold tgt
    simp
    omega
end L0
