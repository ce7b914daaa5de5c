/-! The pictures read cells of a range alone. -/
section Ag
variable {g g' : Gs} {c : Cs} {N : Int}
theorem IV_ag (h : IV g) (e : ∀ k, 0 ≤ k → k < 3330 → g' k = g k) : IV g' := by
  obtain ⟨i1, iB, iF, iR, iT⟩ := h
  have b3 : (0 ≤ g 1 ∧ g 1 ≤ 24) ∧ 0 ≤ g 3 ∧ g 3 ≤ 307 := by unfold I1 at i1; omega
  have e1 := e 1 (by decide) (by decide)
  have e3 := e 3 (by decide) (by decide)
  have e4 := e 4 (by decide) (by decide)
  have e5 := e 5 (by decide) (by decide)
  have e0 := e 0 (by decide) (by decide)
  have e2 := e 2 (by decide) (by decide)
  have e6 := e 6 (by decide) (by decide)
  have ep : pB g' = pB g := by unfold pB; rw [e4, e3, e5]
  have et : ∀ b, tgB g' b = tgB g b := fun b => by unfold tgB; rw [ep]
  have ea : ∀ b w, 0 ≤ b → b < 307 → 0 ≤ w → w < 10 → ga g' b w = ga g b w := fun b w q0 q1 q2 q3 => e _ (by omega) (by omega)
  refine ⟨?_, fun b q0 q1 => ?_, fun f q0 q1 => ?_, ?_, fun h4 => ?_⟩
  · unfold I1 at i1 ⊢
    rw [e0, e1, e2, e3, e4, e5, e6, e 7 (by decide) (by decide), e 8 (by decide) (by decide)]
    exact i1
  · rw [e3] at q1
    have hb := iB b q0 q1
    unfold IB at hb ⊢
    rw [ea b 0 q0 (by omega) (by decide) (by decide), ea b 1 q0 (by omega) (by decide) (by decide), ea b 2 q0 (by omega) (by decide) (by decide), ea b 3 q0 (by omega) (by decide) (by decide), ea b 4 q0 (by omega) (by decide) (by decide), ea b 5 q0 (by omega) (by decide) (by decide), ea b 6 q0 (by omega) (by decide) (by decide), ea b 7 q0 (by omega) (by decide) (by decide), ea b 8 q0 (by omega) (by decide) (by decide), ea b 9 q0 (by omega) (by decide) (by decide), e1, e2, e4, e5, e6, ep, et]
    exact hb
  · rw [e1] at q1
    have hf := iF f q0 q1
    unfold IF gf at hf ⊢
    rw [e _ (by omega) (by omega), e (30 + 8 * f + 1) (by omega) (by omega), e (30 + 8 * f + 2) (by omega) (by omega), e (30 + 8 * f + 6) (by omega) (by omega), e (30 + 8 * f + 7) (by omega) (by omega), e0, e2]
    exact hf
  · unfold IRl at iR ⊢
    rw [e 9 (by decide) (by decide), e 18 (by decide) (by decide), e 19 (by decide) (by decide), e 20 (by decide) (by decide), e 22 (by decide) (by decide)]
    exact iR
  · rw [e4] at h4
    obtain ⟨t1, t2, t3⟩ := iT h4
    have hg : (0 ≤ g 5 ∧ g 3 = g 5 + g 4 - 1) ∧ 2 ≤ g 4 := by unfold I1 at i1; omega
    clear i1
    rw [e0, e3, e4, e5]
    refine ⟨fun t s q1 q2 q3 => ?_, ?_, fun t q1 q2 q3 => ?_⟩
    · have r : 0 ≤ g 5 + (2 * t - g 4 + s) ∧ g 5 + (2 * t - g 4 + s) < g 3 := by omega
      rw [ea (g 5 + t) s (by omega) (by omega) (by omega) (by omega), t1 t s q1 q2 q3, ea _ 4 r.1 (by omega) (by decide) (by decide), ea _ 5 r.1 (by omega) (by decide) (by decide)]
      by_cases h24 : ga g (g 5 + (2 * t - g 4 + s)) 4 = 2 ∨ ga g (g 5 + (2 * t - g 4 + s)) 4 = 4
      · rw [if_pos h24, if_pos h24]
        have hb := iB _ r.1 r.2
        have h5 : 0 ≤ ga g (g 5 + (2 * t - g 4 + s)) 5 ∧ ga g (g 5 + (2 * t - g 4 + s)) 5 ≤ 1 := by unfold IB at hb; omega
        rw [ea _ _ r.1 (by omega) h5.1 (by omega)]
      · rw [if_neg h24, if_neg h24]
    · rw [ea (g 3 - 1) 4 (by omega) (by omega) (by decide) (by decide)]; exact t2
    · rw [ea (g 5 + t) 4 (by omega) (by omega) (by decide) (by decide)] at q3
      exact t3 t q1 q2 q3
theorem RV_ag (hi : IV g) (h : RV N c g) (e : ∀ k, 0 ≤ k → k < 3330 → g' k = g k) : RV N c g' := by
  obtain ⟨i1, iB, iF, iR, iT⟩ := hi
  obtain ⟨r1, r2, r3, r4, r5, r6, r7⟩ := h
  have b3 : (0 ≤ g 1 ∧ g 1 ≤ 24) ∧ (0 ≤ g 3 ∧ g 3 ≤ 307) ∧ (0 ≤ g 8 ∧ g 8 ≤ 24) ∧ (g 6 < g 3) ∧ (0 < g 4 → 0 ≤ g 5) := by unfold I1 at i1; omega
  have e3 := e 3 (by decide) (by decide)
  have e4 := e 4 (by decide) (by decide)
  have e5 := e 5 (by decide) (by decide)
  have e6 := e 6 (by decide) (by decide)
  have ep : pB g' = pB g := by unfold pB; rw [e4, e3, e5]
  have ea : ∀ b w, 0 ≤ b → b < 307 → 0 ≤ w → w < 10 → ga g' b w = ga g b w := fun b w q0 q1 q2 q3 => e _ (by omega) (by omega)
  clear i1
  refine ⟨?_, ?_, fun b q0 q1 => ?_, ?_, ?_, fun q => ?_, ?_⟩
  · unfold R1 at r1 ⊢
    rw [ep, e3, e4, e6, e 0 (by decide) (by decide), e 1 (by decide) (by decide), e 2 (by decide) (by decide), e 7 (by decide) (by decide), e 8 (by decide) (by decide)]
    exact r1
  · exact R2_cg r2 (e 1 (by decide) (by decide)) b3.1.2 (fun k k0 k1 => e k (by omega) (by omega)) (fun _ _ _ _ => rfl)
  · rw [e3] at q1
    have hb := r3 b q0 q1
    have hi := iB b q0 q1
    unfold R3b at hb ⊢
    rw [ea b 0 q0 (by omega) (by decide) (by decide), ea b 1 q0 (by omega) (by decide) (by decide), ea b 2 q0 (by omega) (by decide) (by decide), ea b 3 q0 (by omega) (by decide) (by decide), ea b 4 q0 (by omega) (by decide) (by decide), ea b 5 q0 (by omega) (by decide) (by decide), ea b 6 q0 (by omega) (by decide) (by decide), ea b 7 q0 (by omega) (by decide) (by decide)]
    by_cases h5 : ga g b 5 < 0
    · rw [if_pos h5] at hb ⊢; exact hb
    · rw [if_neg h5] at hb ⊢
      have h51 : ga g b 5 ≤ 1 := by unfold IB at hi; omega
      rw [ea b (ga g b 5) q0 (by omega) (by omega) (by omega)]
      exact hb
  · exact R4_cg r4 (by rw [e 0 (by decide) (by decide)]; exact id) (e 1 (by decide) (by decide)) (e 2 (by decide) (by decide)) b3.1.2 (fun q f f0 f1 => (iF f f0 f1).2.2.2.2 q) (fun k k0 k1 => e k (by omega) (by omega)) (fun _ _ _ _ => rfl)
  · refine R5_cg r5 (e 8 (by decide) (by decide)) b3.2.2.1.2 (by rw [e4]; exact id) (fun k k0 k1 => e k (by omega) (by omega)) (fun _ _ _ _ => rfl) (fun q f b => ?_) (fun q f b hl => ?_)
    · rw [e4] at q
      have h5 := b3.2.2.2.2 q
      unfold lstB
      rw [e3, e5]
      by_cases hr : g 5 ≤ b ∧ b < g 3
      · rw [ea b 4 (by omega) (by omega) (by decide) (by decide), ea b 5 (by omega) (by omega) (by decide) (by decide)]
        by_cases h2 : ga g b 4 = 2
        · have hi := iB b (by omega) hr.2
          have h51 : 0 ≤ ga g b 5 ∧ ga g b 5 ≤ 1 := by unfold IB at hi; omega
          rw [ea b (1 - ga g b 5) (by omega) (by omega) (by omega) (by omega)]
        · constructor
          · intro h; exact absurd h.2.2.1 h2
          · intro h; exact absurd h.2.2.1 h2
      · constructor
        · intro h; exact absurd ⟨h.1, h.2.1⟩ hr
        · intro h; exact absurd ⟨h.1, h.2.1⟩ hr
    · rw [e4] at q
      have h5 := b3.2.2.2.2 q
      have := hl.1
      have := hl.2.1
      exact ea b 7 (by omega) (by omega) (by decide) (by decide)
  · rw [e6] at q ⊢
    rw [ea _ 8 q (by omega) (by decide) (by decide), ea _ 9 q (by omega) (by decide) (by decide)]
    exact r6 q
  · exact R7_cg r7 (fun k k0 k1 => e k (by omega) (by omega)) (fun _ _ _ => rfl)
theorem RV_N {M : Int} (h : RV N c g) (hN : N ≤ M) : RV M c g := by
  obtain ⟨r1, r2, r3, r4, r5, r6, r7⟩ := h
  refine ⟨r1, r2, r3, r4, r5, fun q => ?_, r7⟩
  have := r6 q
  omega
end Ag
