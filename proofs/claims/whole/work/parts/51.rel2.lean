/-! The relation: what changes what. -/
section Rel2
variable {c c' : Cs} {g g' : Gs} {N : Int}
theorem IF_cg (h : ∀ f, 0 ≤ f → f < g 1 → IF g f) (h1 : g' 1 = g 1) (hb : g 1 ≤ 24) (h2 : g' 2 = g 2) (h0 : (g' 0 = 0 → g 0 = 0) ∧ (1 ≤ g' 0 → 1 ≤ g 0)) (e : ∀ k, 30 ≤ k → k < 222 → g' k = g k) : ∀ f, 0 ≤ f → f < g' 1 → IF g' f := by
  intro f q0 q1
  rw [h1] at q1
  have hf := h f q0 q1
  unfold IF gf at hf ⊢
  rw [h2]
  simp (disch := omega) only [e]
  omega
theorem IRl_cg (h : IRl g) (e : ∀ k, 9 ≤ k → k < 30 → g' k = g k) : IRl g' := by
  unfold IRl at h ⊢
  simp (disch := omega) only [e]
  exact h
theorem R2_cg (h : R2 c g) (h1 : g' 1 = g 1) (hb : g 1 ≤ 24) (e : ∀ k, 30 ≤ k → k < 222 → g' k = g k) (ec : ∀ C k, 11 ≤ C → C ≤ 16 → c' C k = c C k) : R2 c' g' := by
  intro f q0 q1
  rw [h1] at q1
  have hf := h f q0 q1
  unfold gf at hf ⊢
  simp (disch := omega) only [e, ec]
  exact hf
theorem R4_cg (h : R4 c g) (h0 : 1 ≤ g' 0 → 1 ≤ g 0) (h1 : g' 1 = g 1) (h2 : g' 2 = g 2) (hb : g 1 ≤ 24) (h26 : 1 ≤ g 0 → ∀ f, 0 ≤ f → f < g 1 → 0 ≤ gf g f 6 ∧ gf g f 6 < g 2) (e : ∀ k, 30 ≤ k → k < 222 → g' k = g k) (ec : ∀ C k, 17 ≤ C → C ≤ 18 → c' C k = c C k) : R4 c' g' := by
  obtain ⟨a1, a2, a3⟩ := h
  have e6 : ∀ f w, 0 ≤ f → f < g 1 → 0 ≤ w → w < 8 → gf g' f w = gf g f w := fun f w q0 q1 q2 q3 => by
    unfold gf; exact e _ (by omega) (by omega)
  refine ⟨fun p q0 q1 => ?_, fun p i q0 q1 q2 q3 => ?_, fun q f q0 q1 => ?_⟩
  · rw [ec 17 p (by omega) (by omega), a1 p q0 (by omega), h1]
    refine sumTo_congr fun f f0 f1 => ?_
    rw [e6 f 6 f0 f1 (by omega) (by omega)]
  · rw [ec 17 p (by omega) (by omega)] at q3
    rw [ec 18 _ (by omega) (by omega), h1]
    obtain ⟨b1, b2, b3⟩ := a2 p i q0 (by omega) q2 q3
    rw [e6 _ 6 b1.1 b1.2 (by omega) (by omega), e6 _ 7 b1.1 b1.2 (by omega) (by omega)]
    exact ⟨b1, b2, b3⟩
  · rw [h1] at q1
    rw [e6 f 6 q0 q1 (by omega) (by omega), e6 f 7 q0 q1 (by omega) (by omega), ec 17 _ (by omega) (by omega), ec 18 _ (by omega) (by omega)]
    exact a3 (h0 q) f q0 q1
theorem R5_cg (h : R5 c g) (h8 : g' 8 = g 8) (hb : g 8 ≤ 24) (h4 : 0 < g' 4 → 0 < g 4) (e : ∀ k, 222 ≤ k → k < 250 → g' k = g k) (ec : ∀ C k, 25 ≤ C → C ≤ 26 → c' C k = c C k) (el : 0 < g' 4 → ∀ f b, lstB g' f b ↔ lstB g f b) (e7 : 0 < g' 4 → ∀ f b, lstB g f b → ga g' b 7 = ga g b 7) : R5 c' g' := by
  obtain ⟨a1, a2⟩ := h
  refine ⟨fun i q0 q1 => ?_, fun q f q0 q1 => ?_⟩
  · rw [h8] at q1
    rw [ec 25 i (by omega) (by omega), e _ (by omega) (by omega)]
    exact a1 i q0 q1
  · rw [ec 26 f (by omega) (by omega)]
    rcases a2 (h4 q) f q0 q1 with ⟨b1, b2⟩ | ⟨b, b1, b2⟩
    · exact Or.inl ⟨b1, fun b hb => b2 b ((el q f b).mp hb)⟩
    · exact Or.inr ⟨b, (el q f b).mpr b1, by rw [e7 q f b b1]; exact b2⟩
theorem R7_cg (h : R7 c g) (e : ∀ k, 9 ≤ k → k < 30 → g' k = g k) (ec : ∀ C k, C = 4 ∨ C = 27 → c' C k = c C k) : R7 c' g' := by
  obtain ⟨a0, a3, a4, a5, a7, a9⟩ := h
  unfold R7
  simp (disch := omega) only [e, ec]
  refine ⟨a0, a3, a4, a5, a7, fun q => ?_⟩
  obtain ⟨b1, b2, b6, b7⟩ := a9 q
  refine ⟨b1, b2, b6, fun i i0 i1 => ?_⟩
  rw [e _ (by omega) (by omega)]
  exact b7 i i0 i1
end Rel2
section Beg
variable {c : Cs} {g : Gs} {N b : Int}
theorem gBeg_e {k : Int} (h : ¬ k = 6) (h2 : ¬ k = 250 + 10 * b + 4) : gBeg g b k = g k := by unfold gBeg; rw [gs_o h2, gs_o h]
theorem cBeg_e {C : Nat} {k : Int} (h : ¬ (C = 2 ∧ k = 2)) (h2 : ¬ (C = 21 ∧ k = b)) (h3 : ¬ (C = 10 ∧ 0 ≤ k ∧ k < 2)) : cBeg c b C k = c C k := by
  unfold cBeg
  rw [cset_o h2, if_neg h3, cset_o h]
theorem RV_beg (h : IV g) (hr : RV N c g) (hN : 0 ≤ N) (h0 : 0 ≤ b) (hb : b < g 3) (h6 : g 6 < 0) (hs : ga g b 4 = 0) : RV N (cBeg c b) (gBeg g b) := by
  obtain ⟨i1, iB, iF, iR, iT⟩ := h
  obtain ⟨r1, r2, r3, r4, r5, r6, r7⟩ := hr
  unfold I1 at i1
  have e3 : gBeg g b 3 = g 3 := gBeg_e (by omega) (by omega)
  have hbb := iB b h0 hb
  unfold IB at hbb
  have ea : ∀ b' w, 0 ≤ b' → 0 ≤ w → w < 10 → ¬ (b' = b ∧ w = 4) → ga (gBeg g b) b' w = ga g b' w := fun b' w q0 q1 q2 q3 => gBeg_e (by omega) (by omega)
  have e4 : ga (gBeg g b) b 4 = 1 := by unfold ga gBeg; rw [gs_s rfl]
  have e6 : gBeg g b 6 = b := by unfold gBeg; rw [gs_o (by omega), gs_s rfl]
  have ep : pB (gBeg g b) = pB g := by unfold pB; simp (disch := omega) only [gBeg_e]
  refine ⟨?_, ?_, fun b' q0 q1 => ?_, ?_, ?_, ?_, ?_⟩
  · unfold R1 at r1 ⊢
    rw [ep, e6, show cBeg c b 2 2 = b from by unfold cBeg; rw [cset_o (by omega), if_neg (by omega), cset_s ⟨rfl, rfl⟩]]
    simp (disch := omega) only [gBeg_e, cBeg_e, true_and]
    omega
  · exact R2_cg r2 (gBeg_e (by omega) (by omega)) (by omega) (fun k k0 k1 => gBeg_e (by omega) (by omega)) (fun C k q0 q1 => cBeg_e (by omega) (by omega) (by omega))
  · rw [e3] at q1
    have hb' := r3 b' q0 q1
    have hi' := iB b' q0 q1
    unfold IB at hi'
    unfold R3b at hb' ⊢
    by_cases hbb : b' = b
    · rw [show cBeg c b 21 b' = 1 from by unfold cBeg; exact cset_s ⟨rfl, hbb⟩, show ga (gBeg g b) b' 4 = 1 from by rw [hbb]; exact e4]
      simp (disch := omega) only [ea, cBeg_e]
      exact ⟨hb'.1, hb'.2.1, hb'.2.2.1, hb'.2.2.2.1, trivial, hb'.2.2.2.2.2.1, hb'.2.2.2.2.2.2⟩
    · simp (disch := omega) only [ea, cBeg_e]
      by_cases h5 : ga g b' 5 < 0
      · rw [if_pos h5] at hb' ⊢
        exact hb'
      · rw [if_neg h5] at hb' ⊢
        first | exact hb' | (rw [ea b' (ga g b' 5) q0 (by omega) (by omega) (by omega)]; exact hb')
  · exact R4_cg r4 (by rw [gBeg_e (by omega) (by omega)]; exact id) (gBeg_e (by omega) (by omega)) (gBeg_e (by omega) (by omega)) (by omega) (fun q f f0 f1 => (iF f f0 f1).2.2.2.2 q) (fun k k0 k1 => gBeg_e (by omega) (by omega)) (fun C k q0 q1 => cBeg_e (by omega) (by omega) (by omega))
  · have el : 0 < g 4 → ∀ f b', lstB (gBeg g b) f b' ↔ lstB g f b' := fun h4 f b' => by
      unfold lstB
      rw [e3, gBeg_e (by omega) (by omega)]
      by_cases hbb : b' = b
      · rw [hbb, e4, hs]; omega
      · by_cases q : g 5 ≤ b' ∧ b' < g 3
        · have hp : 0 ≤ b' := by omega
          have hi' := iB b' hp q.2
          unfold IB at hi'
          rw [ea b' 4 hp (by omega) (by omega) (by omega), ea b' 5 hp (by omega) (by omega) (by omega)]
          by_cases q2 : ga g b' 4 = 2
          · rw [ea b' (1 - ga g b' 5) hp (by omega) (by omega) (by omega)]
          · simp [q2]
        · constructor
          · intro h; exact absurd ⟨h.1, h.2.1⟩ q
          · intro h; exact absurd ⟨h.1, h.2.1⟩ q
    refine R5_cg r5 (gBeg_e (by omega) (by omega)) (by omega) (by rw [gBeg_e (by omega) (by omega)]; exact id) (fun k k0 k1 => gBeg_e (by omega) (by omega)) (fun C k q0 q1 => cBeg_e (by omega) (by omega) (by omega)) (fun q => el (by rw [gBeg_e (by omega) (by omega)] at q; exact q)) (fun q f b' hl => ?_)
    have h4 : 0 < g 4 := by rw [gBeg_e (by omega) (by omega)] at q; exact q
    exact ea b' 7 (by have := hl.1; omega) (by omega) (by omega) (by omega)
  · intro q
    rw [e6]
    rw [ea b 8 h0 (by omega) (by omega) (by omega), ea b 9 h0 (by omega) (by omega) (by omega)]
    rw [show cBeg c b 10 0 = 0 from by unfold cBeg; rw [cset_o (by omega), if_pos (by omega)], show cBeg c b 10 1 = 0 from by unfold cBeg; rw [cset_o (by omega), if_pos (by omega)]]
    omega
  · exact R7_cg r7 (fun k k0 k1 => gBeg_e (by omega) (by omega)) (fun C k q => cBeg_e (by omega) (by omega) (by omega))
end Beg
