/-! The bout of two fencers of a pool, on both sides. -/
section Pbout
variable {N x y : Int} {σ : Mem}
theorem fnd_facts {p : Int → Bool} {n : Int} : ∀ (m : Nat) (i : Int), (n - i).toNat = m → (fnd p i n = -1 ∧ ∀ k, i ≤ k → k < n → ¬ p k = true) ∨ (i ≤ fnd p i n ∧ fnd p i n < n ∧ p (fnd p i n) = true ∧ ∀ k, i ≤ k → k < fnd p i n → ¬ p k = true) := by
  intro m
  induction m with
  | zero =>
    intro i e
    exact Or.inl ⟨fnd_end (by omega), fun k k0 k1 => by omega⟩
  | succ m ih =>
    intro i e
    by_cases hp : p i = true
    · rw [fnd_y (by omega) hp]
      exact Or.inr ⟨Int.le_refl i, by omega, hp, fun k k0 k1 => by omega⟩
    · rw [fnd_n (by omega) hp]
      rcases ih (i + 1) (by omega) with ⟨h1, h2⟩ | ⟨h1, h2, h3, h4⟩
      · refine Or.inl ⟨h1, fun k k0 k1 => ?_⟩
        by_cases q : k = i
        · rw [q]; exact hp
        · exact h2 k (by omega) k1
      · refine Or.inr ⟨by omega, h2, h3, fun k k0 k1 => ?_⟩
        by_cases q : k = i
        · rw [q]; exact hp
        · exact h4 k (by omega) k1
theorem fp_pool (h : J N σ σ) (hxy : ¬ x = y) {b : Int} (h0 : 0 ≤ b) (hb : b < pB (σ 13 186)) : (fp_findInPool 0 x y σ b = true) ↔ mtch σ x y b := by
  have rg := J_rg h
  have hpB := pB_le h.1.1
  have hb307 : 0 ≤ b ∧ b < 307 := by omega
  have h3 := h.1.2.1.2.2.1 b h0 (by omega)
  have ib := h.1.1.2.1 b h0 (by omega)
  have hne : ga (σ 13 186) b 0 ≠ ga (σ 13 186) b 1 := by
    unfold IB at ib
    exact (ib.2.2.2.2.2.2.2.2.2.2.2.2.2.1 hb).2.2.2.2
  have f0 : zo_fencerOn 0 b 0 σ = ga (σ 13 186) b 0 := by
    have := cz_fe (σ := σ) (c := cv σ 0) (s := 0) hb307 (by decide)
    rw [wcm_id] at this
    rw [this, show 2 * b + 0 = 2 * b by omega]
    exact h3.1
  have f1 : zo_fencerOn 0 b 1 σ = ga (σ 13 186) b 1 := by
    have := cz_fe (σ := σ) (c := cv σ 0) (s := 1) hb307 (by decide)
    rw [wcm_id] at this
    rw [this]
    exact h3.2.1
  have hw : ∀ f, (zo_isWith 0 b f σ = 0) ↔ ¬ (ga (σ 13 186) b 0 = f ∨ ga (σ 13 186) b 1 = f) := fun f => by
    unfold zo_isWith
    rw [f0, f1]
    by_cases q0 : ga (σ 13 186) b 0 = f
    · rw [if_pos q0]; omega
    · rw [if_neg q0]
      by_cases q1 : ga (σ 13 186) b 1 = f
      · rw [if_neg (show ¬ ¬ ga (σ 13 186) b 1 = f by omega)]; omega
      · rw [if_pos q1]; omega
  unfold fp_findInPool mtch
  rw [mat_row, mat_row]
  have wx := hw x
  have wy := hw y
  by_cases q1 : zo_isWith 0 b x σ = 0
  · rw [if_pos q1]
    have := wx.mp q1
    constructor
    · intro q; exact absurd q (by decide)
    · intro q; omega
  · rw [if_neg q1]
    have hx : ga (σ 13 186) b 0 = x ∨ ga (σ 13 186) b 1 = x := by
      by_cases q : ga (σ 13 186) b 0 = x ∨ ga (σ 13 186) b 1 = x
      · exact q
      · exact absurd (wx.mpr q) q1
    by_cases q2 : zo_isWith 0 b y σ = 0
    · rw [if_pos q2]
      have := wy.mp q2
      constructor
      · intro q; exact absurd q (by decide)
      · intro q; omega
    · rw [if_neg q2]
      have hy : ga (σ 13 186) b 0 = y ∨ ga (σ 13 186) b 1 = y := by
        by_cases q : ga (σ 13 186) b 0 = y ∨ ga (σ 13 186) b 1 = y
        · exact q
        · exact absurd (wy.mpr q) q2
      constructor
      · intro _; omega
      · intro _; rfl
theorem ca_poolBout (h : J N σ σ) : Cal N 188 [aR 11 0, aI x, aI y] (zo_xpoolBout x y σ) σ (fun E => if E = 2 then 1 else 2) := by
  have r1 := J_R1 h
  have rg := J_rg h
  have hpB := pB_le h.1.1
  have e01 : σ 0 0 1 = pB (σ 13 186) := r1.2.2.2.2.2.2.1
  have e60 : σ 6 0 0 = σ 13 186 1 := r1.2.2.2.1
  generalize hB : fnd (fp_findInPool 0 x y σ) 0 (pB (σ 13 186)) = B
  have hf := fnd_facts (p := fp_findInPool 0 x y σ) (n := pB (σ 13 186)) _ 0 rfl
  rw [hB] at hf
  obtain ⟨-, -, -, x4, -, x6⟩ := h.1.2.2
  have hC : (0 ≤ x ∧ x < σ 13 186 1) → (0 ≤ y ∧ y < σ 13 186 1) → ¬ x = y → ¬ mof σ x 6 < 0 → mof σ x 6 = mof σ y 6 → ((0 ≤ B ∧ B < 307) ∧ mtch σ x y B ∧ ∀ b, 0 ≤ b → b < B → ¬ mtch σ x y b) := fun hx hy hxy h6 hs => by
    rcases hf with ⟨h1, h2⟩ | ⟨h1, h2, h3, h4⟩
    · exfalso
      obtain ⟨b, b0, b1, hb⟩ := x4 x y hx.1 hx.2 hy.1 hy.2 hxy (by have : ¬ gf (σ 13 186) x 6 < 0 := h6; omega) hs
      exact h2 b b0 b1 ((fp_pool h hxy b0 b1).mpr hb)
    · refine ⟨by omega, (fp_pool h hxy h1 h2).mp h3, fun b b0 b1 hb => h4 b b0 b1 ((fp_pool h hxy b0 (by omega)).mpr hb)⟩
  have hev := ev_ypoolBout x y B σ rg.2.1 hC
  refine ⟨_, _, hev, ?_, ?_⟩
  · unfold zm_ypoolBout
    repeat' split
    all_goals exact J_thr h
  · unfold zo_xpoolBout zo_ypoolBout zm_ypoolBout
    rw [e01, hB, e60]
    by_cases hx : 0 ≤ x ∧ x < σ 13 186 1
    · rw [if_neg (show ¬ (x < 0 ∨ σ 13 186 1 ≤ x) by omega), if_pos hx, if_pos hx]
      by_cases hy : 0 ≤ y ∧ y < σ 13 186 1
      · rw [if_neg (show ¬ (y < 0 ∨ σ 13 186 1 ≤ y) by omega), if_pos hy, if_pos hy]
        by_cases hxy : x = y
        · rw [if_neg (show ¬ ¬ x = y by omega), if_pos hxy, if_pos hxy]
          exact Or.inr ⟨_, rfl, up_s _ _ _ _ _, by decide⟩
        · rw [if_pos hxy, if_neg hxy, if_neg hxy]
          rcases hf with ⟨h1, h2⟩ | ⟨h1, h2, h3, h4⟩
          · rw [if_neg (show ¬ ¬ B = -1 by omega)]
            by_cases h6 : mof σ x 6 < 0
            · rw [if_pos h6, if_pos h6]
              exact Or.inr ⟨_, rfl, up_s _ _ _ _ _, by decide⟩
            · rw [if_neg h6, if_neg h6]
              by_cases hs : mof σ x 6 = mof σ y 6
              · have := (hC hx hy hxy h6 hs).1
                omega
              · rw [if_neg hs, if_neg hs]
                exact Or.inr ⟨_, rfl, up_s _ _ _ _ _, by decide⟩
          · have hm := (fp_pool h hxy h1 h2).mp h3
            have h6 := x6 B h1 h2
            have i1 := J_I1 h
            have hg0 : 1 ≤ σ 13 186 0 := by unfold I1 at i1; omega
            clear i1
            have hfx := (h.1.1.2.2.1 x hx.1 hx.2).2.2.2.2 hg0
            have hsame : mof σ x 6 = mof σ y 6 := by
              show gf (σ 13 186) x 6 = gf (σ 13 186) y 6
              rcases hm with ⟨m1, m2⟩ | ⟨m1, m2⟩
              · have m1' : ga (σ 13 186) B 0 = x := m1
                have m2' : ga (σ 13 186) B 1 = y := m2
                rw [m1', m2'] at h6; exact h6
              · have m1' : ga (σ 13 186) B 0 = y := m1
                have m2' : ga (σ 13 186) B 1 = x := m2
                rw [m1', m2'] at h6; exact h6.symm
            have hn : ¬ mof σ x 6 < 0 := by
              show ¬ gf (σ 13 186) x 6 < 0
              omega
            rw [if_pos (show ¬ B = -1 by omega), if_neg hn, if_neg hn, if_pos hsame, if_pos hsame]
            exact Or.inl ⟨_, rfl, up_s _ _ _ _ _, rfl⟩
      · rw [if_pos (show y < 0 ∨ σ 13 186 1 ≤ y by omega), if_neg hy, if_neg hy]
        exact Or.inr ⟨_, rfl, up_s _ _ _ _ _, by decide⟩
    · rw [if_pos (show x < 0 ∨ σ 13 186 1 ≤ x by omega), if_neg hx, if_neg hx]
      exact Or.inr ⟨_, rfl, up_s _ _ _ _ _, by decide⟩
end Pbout
