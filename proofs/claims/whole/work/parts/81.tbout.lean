/-! A bout of the table, on both sides. -/
section Tbout
variable {N r i : Int} {σ : Mem}
def isR (u r : Int) : Prop := (r = 2 ∨ r = 4 ∨ r = 8 ∨ r = 16 ∨ r = 32) ∧ r ≤ u
theorem irs_p (n : Nat) : ∀ u : Int, irN r n 1 u = 1 := by
  induction n with
  | zero => intro u; rfl
  | succ n ih =>
    intro u
    rw [irN]
    by_cases h : u < 2
    · rw [if_pos h]
    · rw [if_neg h, if_pos (show ¬ (1 : Int) = 0 by decide)]
      exact ih _
theorem irs_y {n : Nat} {u : Int} (h : ¬ u < 2) (hr : u = r) : irN r (n + 1) 0 u = 1 := by
  rw [irN, if_neg h, if_neg (show ¬ ¬ (0 : Int) = 0 by decide), if_neg (show ¬ ¬ u = r by omega)]
  exact irs_p n _
theorem irs_n {n : Nat} {u v : Int} (h : ¬ u < 2) (hr : ¬ u = r) (hv : wr (u.tdiv 2) = v) : irN r (n + 1) 0 u = irN r n 0 v := by
  rw [irN, if_neg h, if_neg (show ¬ ¬ (0 : Int) = 0 by decide), if_pos hr, hv]
theorem irs_e {n : Nat} {u : Int} (h : u < 2) : irN r (n + 1) 0 u = 0 := by
  rw [irN, if_pos h]
theorem ir_2 {n : Nat} : irN r (n + 2) 0 2 = if r = 2 then 1 else 0 := by
  by_cases h : r = 2
  · rw [if_pos h, irs_y (by decide) h.symm]
  · rw [if_neg h, irs_n (v := 1) (by decide) (by omega) (by decide), irs_e (by decide)]
theorem ir_4 {n : Nat} : irN r (n + 3) 0 4 = if r = 4 ∨ r = 2 then 1 else 0 := by
  by_cases h : r = 4
  · rw [if_pos (Or.inl h), irs_y (by decide) h.symm]
  · rw [irs_n (v := 2) (by decide) (by omega) (by decide), ir_2]
    by_cases h2 : r = 2
    · rw [if_pos h2, if_pos (Or.inr h2)]
    · rw [if_neg h2, if_neg (by omega)]
theorem ir_8 {n : Nat} : irN r (n + 4) 0 8 = if r = 8 ∨ r = 4 ∨ r = 2 then 1 else 0 := by
  by_cases h : r = 8
  · rw [if_pos (Or.inl h), irs_y (by decide) h.symm]
  · rw [irs_n (v := 4) (by decide) (by omega) (by decide), ir_4]
    by_cases h2 : r = 4 ∨ r = 2
    · rw [if_pos h2, if_pos (Or.inr h2)]
    · rw [if_neg h2, if_neg (by omega)]
theorem ir_16 {n : Nat} : irN r (n + 5) 0 16 = if r = 16 ∨ r = 8 ∨ r = 4 ∨ r = 2 then 1 else 0 := by
  by_cases h : r = 16
  · rw [if_pos (Or.inl h), irs_y (by decide) h.symm]
  · rw [irs_n (v := 8) (by decide) (by omega) (by decide), ir_8]
    by_cases h2 : r = 8 ∨ r = 4 ∨ r = 2
    · rw [if_pos h2, if_pos (Or.inr h2)]
    · rw [if_neg h2, if_neg (by omega)]
theorem ir_32 {n : Nat} : irN r (n + 6) 0 32 = if r = 32 ∨ r = 16 ∨ r = 8 ∨ r = 4 ∨ r = 2 then 1 else 0 := by
  by_cases h : r = 32
  · rw [if_pos (Or.inl h), irs_y (by decide) h.symm]
  · rw [irs_n (v := 16) (by decide) (by omega) (by decide), ir_16]
    by_cases h2 : r = 16 ∨ r = 8 ∨ r = 4 ∨ r = 2
    · rw [if_pos h2, if_pos (Or.inr h2)]
    · rw [if_neg h2, if_neg (by omega)]
theorem m_round {u : Int} (hu : u = 2 ∨ u = 4 ∨ u = 8 ∨ u = 16 ∨ u = 32) : (irN r 6 0 u = 0) ↔ ¬ isR u r := by
  unfold isR
  rcases hu with rfl | rfl | rfl | rfl | rfl
  · rw [ir_2]; split <;> omega
  · rw [ir_4]; split <;> omega
  · rw [ir_8]; split <;> omega
  · rw [ir_16]; split <;> omega
  · rw [ir_32]; split <;> omega
theorem c_round (hu : σ 9 0 0 = 2 ∨ σ 9 0 0 = 4 ∨ σ 9 0 0 = 8 ∨ σ 9 0 0 = 16 ∨ σ 9 0 0 = 32) : (zo_hasRound 0 r σ = 0) ↔ ¬ isR (σ 9 0 0) r := by
  unfold isR zo_hasRound
  generalize σ 9 0 0 = u at hu ⊢
  repeat' split
  all_goals omega
theorem ca_tableBout (h : J N σ σ) : Cal N 220 [aR 11 0, aI r, aI i] (zo_xtableBout r i σ) σ (fun E => if E = 1 then 1 else 2) := by
  have r1 := J_R1 h
  have rg := J_rg h
  have i1 := J_I1 h
  have e9 : σ 9 0 0 = σ 13 186 4 := r1.2.2.2.2.2.2.2.1
  have e01 : σ 0 0 1 = pB (σ 13 186) := r1.2.2.2.2.2.2.1
  have h4 : ¬ σ 13 186 4 = 0 → (σ 13 186 4 = 2 ∨ σ 13 186 4 = 4 ∨ σ 13 186 4 = 8 ∨ σ 13 186 4 = 16 ∨ σ 13 186 4 = 32) ∧ (0 ≤ σ 13 186 5 ∧ σ 13 186 5 ≤ 276) := fun q => by unfold I1 at i1; omega
  clear i1
  have hr0 : ¬ zo_misRound r σ = 0 → 0 ≤ r := fun q => by
    unfold zo_misRound at q
    by_cases q0 : σ 13 186 4 = 0
    · rw [q0] at q
      exact absurd (irs_e (by decide)) q
    · rw [m_round (h4 q0).1] at q
      unfold isR at q
      omega
  have hev := ev_ytableBout r i σ rg.2.2.2.2.2.2.2.2 hr0
  refine ⟨_, _, hev, ?_, ?_⟩
  · unfold zm_ytableBout
    repeat' split
    all_goals exact J_thr h
  · unfold zo_xtableBout zo_ytableBout zm_ytableBout
    by_cases q0 : σ 13 186 4 = 0
    · rw [if_pos (show σ 9 0 0 = 0 by omega), if_neg (show ¬ ¬ σ 13 186 4 = 0 by omega), if_neg (show ¬ ¬ σ 13 186 4 = 0 by omega)]
      exact Or.inr ⟨_, rfl, up_s _ _ _ _ _, by decide⟩
    · obtain ⟨u4, u5⟩ := h4 q0
      rw [if_neg (show ¬ σ 9 0 0 = 0 by omega), if_pos q0, if_pos q0]
      have hc := c_round (r := r) (σ := σ) (by rw [e9]; exact u4)
      rw [e9] at hc
      have hm : (zo_misRound r σ = 0) ↔ ¬ isR (σ 13 186 4) r := m_round u4
      by_cases q1 : isR (σ 13 186 4) r
      · rw [if_neg (show ¬ zo_hasRound 0 r σ = 0 from fun x => (hc.mp x) q1), if_neg (show ¬ zo_misRound r σ = 0 from fun x => (hm.mp x) q1), if_neg (show ¬ zo_misRound r σ = 0 from fun x => (hm.mp x) q1)]
        unfold isR at q1
        rw [td2 (x := r) (by omega), wr_eq (z := r / 2) (by omega) (by omega), wr_eq (z := r / 2 - 1) (by omega) (by omega)]
        by_cases q2 : 0 ≤ i ∧ i ≤ r / 2 - 1
        · rw [if_neg (show ¬ i < 0 by omega), if_pos (show i < r / 2 by omega), if_pos q2, if_pos q2]
          refine Or.inl ⟨_, rfl, up_s _ _ _ _ _, ?_⟩
          have ep : pB (σ 13 186) = σ 13 186 5 := by unfold pB; rw [if_neg q0]
          unfold zo_boutOfRound
          rw [fo_row, gF_r u4 u5 (by omega) q1.2, e9, e01, ep, wr_eq (z := σ 13 186 5 + σ 13 186 4) (by omega) (by omega), wr_eq (z := σ 13 186 5 + σ 13 186 4 - r) (by omega) (by omega)]
        · by_cases q3 : i < 0
          · rw [if_pos q3, if_neg q2, if_neg q2]
            exact Or.inr ⟨_, rfl, up_s _ _ _ _ _, by decide⟩
          · rw [if_neg q3, if_neg (show ¬ i < r / 2 by omega), if_neg q2, if_neg q2]
            exact Or.inr ⟨_, rfl, up_s _ _ _ _ _, by decide⟩
      · rw [if_pos (hc.mpr q1), if_pos (hm.mpr q1), if_pos (hm.mpr q1)]
        exact Or.inr ⟨_, rfl, up_s _ _ _ _ _, by decide⟩
end Tbout
