/-! Copying meets. -/
theorem fcopy_eq {m q : Int} {σ : Mem} (h : 0 ≤ σ 6 q 0 ∧ σ 6 q 0 ≤ 24) : zm_fcopy m q σ = rcpy (rcpy (rcpy (rcpy (rcpy (rcpy (up σ 6 m 0 (σ 6 q 0)) (18 * m + 1) (18 * q + 1) (σ 6 q 0)) (18 * m + 2) (18 * q + 2) (σ 6 q 0)) (18 * m + 3) (18 * q + 3) (σ 6 q 0)) (18 * m + 4) (18 * q + 4) (σ 6 q 0)) (18 * m + 5) (18 * q + 5) (σ 6 q 0)) (18 * m + 6) (18 * q + 6) (3 * σ 6 q 0) := by
  unfold zm_fcopy
  simp (disch := omega) only [rcpy_o, up_s, wr_eq]
theorem pcopy_eq {m q : Int} {σ : Mem} (h : 0 ≤ σ 3 q 0 ∧ σ 3 q 0 ≤ 6) : zm_pcopy m q σ = rcpy (rcpy (up σ 3 m 0 (σ 3 q 0)) (18 * m + 7) (18 * q + 7) (σ 3 q 0)) (18 * m + 8) (18 * q + 8) (24 * σ 3 q 0) := by
  unfold zm_pcopy
  simp (disch := omega) only [rcpy_o, up_s, wr_eq]
theorem bcopy_eq {m q : Int} {σ : Mem} (hm : m ≠ q) (h : 0 ≤ σ 0 q 0 ∧ σ 0 q 0 ≤ 307) : zm_bcopy m q σ = rcpy (rcpy (rcpy (rcpy (rcpy (rcpy (up (up σ 0 m 0 (σ 0 q 0)) 0 m 1 (σ 0 q 1)) (18 * m + 9) (18 * q + 9) (2 * σ 0 q 0)) (18 * m + 10) (18 * q + 10) (2 * σ 0 q 0)) (18 * m + 11) (18 * q + 11) (σ 0 q 0)) (18 * m + 12) (18 * q + 12) (σ 0 q 0)) (18 * m + 13) (18 * q + 13) (σ 0 q 0)) (18 * m + 14) (18 * q + 14) (σ 0 q 0) := by
  unfold zm_bcopy
  simp (disch := omega) only [rcpy_o, up_s, up_o, wr_eq]
theorem tcopy_eq {m q : Int} {σ : Mem} (hm : m ≠ q) : zm_tcopy m q σ = rcpy (rcpy (up (up σ 9 m 0 (σ 9 q 0)) 9 m 1 (σ 9 q 1)) (18 * m + 15) (18 * q + 15) (σ 9 q 1)) (18 * m + 16) (18 * q + 16) 24 := by
  unfold zm_tcopy
  simp (disch := omega) only [rcpy_o, up_s, up_o, wr_eq]
theorem rlcopy_eq {m q : Int} {σ : Mem} (hm : m ≠ q) : zm_rlcopy m q σ = rcpy (up (up (up (up (up (up (up (up σ 4 m 0 (σ 4 q 0)) 4 m 1 (σ 4 q 1)) 4 m 2 (σ 4 q 2)) 4 m 3 (σ 4 q 3)) 4 m 4 (σ 4 q 4)) 4 m 5 (σ 4 q 5)) 4 m 6 (σ 4 q 6)) 4 m 7 (σ 4 q 7)) (18 * m + 17) (18 * q + 17) 6 := by
  unfold zm_rlcopy
  simp (disch := omega) only [rcpy_o, up_s, up_o, wr_eq]
/-- what a copied meet is to have -/
def CpP (σ : Mem) (q : Int) : Prop := (0 ≤ σ 6 q 0 ∧ σ 6 q 0 ≤ 24) ∧ (0 ≤ σ 3 q 0 ∧ σ 3 q 0 ≤ 6) ∧ (0 ≤ σ 0 q 0 ∧ σ 0 q 0 ≤ 307) ∧ (0 ≤ σ 9 q 1 ∧ σ 9 q 1 ≤ 24)
theorem mcopy_eq {m q : Int} {σ : Mem} (hm : m ≠ q) (h : CpP σ q) : zm_mcopy m q σ = zm_rlcopy m q (zm_tcopy m q (zm_bcopy m q (zm_pcopy m q (zm_fcopy m q (rcpy (up (up (up σ 2 m 0 (σ 2 q 0)) 2 m 1 (σ 2 q 1)) 2 m 2 (σ 2 q 2)) (18 * m) (18 * q) 2))))) := by
  unfold zm_mcopy
  simp (disch := omega) only [rcpy_o, up_s, up_o]
theorem rl_m {m j : Int} (h : 0 ≤ m ∧ m < 10) (hj : 0 ≤ j ∧ j < 18) : rowLen (18 * m + j) = rl18 j := rowLen_18 h hj
/-- the copy, cell by cell; nothing else changes -/
theorem mcopy_o {m q : Int} {σ : Mem} (hm : m ≠ q) (h : CpP σ q) {C : Nat} {r k : Int} (h1 : ¬ ((C = 0 ∨ C = 2 ∨ C = 3 ∨ C = 4 ∨ C = 6 ∨ C = 9) ∧ r = m)) (h2 : ¬ (C = 13 ∧ 18 * m ≤ r ∧ r < 18 * m + 18)) : zm_mcopy m q σ C r k = σ C r k := by
  obtain ⟨a1, a2, a3, a4⟩ := h
  rw [mcopy_eq hm ⟨a1, a2, a3, a4⟩, rlcopy_eq hm, tcopy_eq hm]
  rw [bcopy_eq hm (by rw [pcopy_eq (by rw [fcopy_eq (by simp (disch := omega) only [rcpy_o, up_o]; exact a1)]; simp (disch := omega) only [rcpy_o, up_o]; exact a2)]; rw [fcopy_eq (by simp (disch := omega) only [rcpy_o, up_o]; exact a1)]; simp (disch := omega) only [rcpy_o, up_o]; exact a3)]
  rw [pcopy_eq (by rw [fcopy_eq (by simp (disch := omega) only [rcpy_o, up_o]; exact a1)]; simp (disch := omega) only [rcpy_o, up_o]; exact a2)]
  rw [fcopy_eq (by simp (disch := omega) only [rcpy_o, up_o]; exact a1)]
  simp (disch := omega) only [rcpy_o, up_o]
def usedP (g : Gs) (C : Nat) (k : Int) : Prop := (C = 0 ∧ 0 ≤ k ∧ k < 2) ∨ (C = 2 ∧ 0 ≤ k ∧ k < 3) ∨ (C = 3 ∧ k = 0) ∨ (C = 4 ∧ 0 ≤ k ∧ k < 8) ∨ (C = 6 ∧ k = 0) ∨ (C = 9 ∧ 0 ≤ k ∧ k < 2) ∨ (C = 10 ∧ 0 ≤ k ∧ k < 2) ∨ ((C = 11 ∨ C = 12 ∨ C = 13 ∨ C = 14 ∨ C = 15) ∧ 0 ≤ k ∧ k < g 1) ∨ (C = 16 ∧ 0 ≤ k ∧ k < 3 * g 1) ∨ (C = 17 ∧ 0 ≤ k ∧ k < g 2) ∨ (C = 18 ∧ 0 ≤ k ∧ k < 24 * g 2) ∨ ((C = 19 ∨ C = 20) ∧ 0 ≤ k ∧ k < 2 * g 3) ∨ ((C = 21 ∨ C = 22 ∨ C = 23 ∨ C = 24) ∧ 0 ≤ k ∧ k < g 3) ∨ (C = 25 ∧ 0 ≤ k ∧ k < g 8) ∨ (C = 26 ∧ 0 ≤ k ∧ k < 24) ∨ (C = 27 ∧ 0 ≤ k ∧ k < 6)
theorem mcopy_u {m q : Int} {σ : Mem} {g : Gs} (hm : m ≠ q) (m0 : 0 ≤ m ∧ m < 10) (q0 : 0 ≤ q ∧ q < 10) (h : CpP σ q) (g1 : σ 6 q 0 = g 1) (g2 : σ 3 q 0 = g 2) (g3 : σ 0 q 0 = g 3) (g8 : σ 9 q 1 = g 8) {C : Nat} {k : Int} (hu : usedP g C k) : cv (zm_mcopy m q σ) m C k = cv σ q C k := by
  obtain ⟨a1, a2, a3, a4⟩ := h
  rw [mcopy_eq hm ⟨a1, a2, a3, a4⟩, rlcopy_eq hm, tcopy_eq hm]
  rw [bcopy_eq hm (by rw [pcopy_eq (by rw [fcopy_eq (by simp (disch := omega) only [rcpy_o, up_o]; exact a1)]; simp (disch := omega) only [rcpy_o, up_o]; exact a2)]; rw [fcopy_eq (by simp (disch := omega) only [rcpy_o, up_o]; exact a1)]; simp (disch := omega) only [rcpy_o, up_o]; exact a3)]
  rw [pcopy_eq (by rw [fcopy_eq (by simp (disch := omega) only [rcpy_o, up_o]; exact a1)]; simp (disch := omega) only [rcpy_o, up_o]; exact a2)]
  rw [fcopy_eq (by simp (disch := omega) only [rcpy_o, up_o]; exact a1)]
  simp (disch := omega) only [rcpy_o, up_o]
  generalize hz : rcpy _ (18 * m + 17) (18 * q + 17) 6 = zz
  unfold usedP at hu
  rcases hu with h | h | h | h | h | h | h | h | h | h | h | h | h | h | h | h
  · obtain ⟨rfl, h1, h2⟩ := h
    have hk : k = 0 ∨ k = 1 := by omega
    rcases hk with rfl | rfl <;> (show zz _ m _ = σ _ q _; rw [← hz]; simp (disch := omega) only [rcpy_o, rcpy_s, up_o, up_s])
  · obtain ⟨rfl, h1, h2⟩ := h
    have hk : k = 0 ∨ k = 1 ∨ k = 2 := by omega
    rcases hk with rfl | rfl | rfl <;> (show zz _ m _ = σ _ q _; rw [← hz]; simp (disch := omega) only [rcpy_o, rcpy_s, up_o, up_s])
  · obtain ⟨rfl, rfl⟩ := h
    show zz _ m _ = σ _ q _
    rw [← hz]
    simp (disch := omega) only [rcpy_o, rcpy_s, up_o, up_s]
  · obtain ⟨rfl, h1, h2⟩ := h
    have hk : k = 0 ∨ k = 1 ∨ k = 2 ∨ k = 3 ∨ k = 4 ∨ k = 5 ∨ k = 6 ∨ k = 7 := by omega
    rcases hk with rfl | rfl | rfl | rfl | rfl | rfl | rfl | rfl <;> (show zz _ m _ = σ _ q _; rw [← hz]; simp (disch := omega) only [rcpy_o, rcpy_s, up_o, up_s])
  · obtain ⟨rfl, rfl⟩ := h
    show zz _ m _ = σ _ q _
    rw [← hz]
    simp (disch := omega) only [rcpy_o, rcpy_s, up_o, up_s]
  · obtain ⟨rfl, h1, h2⟩ := h
    have hk : k = 0 ∨ k = 1 := by omega
    rcases hk with rfl | rfl <;> (show zz _ m _ = σ _ q _; rw [← hz]; simp (disch := omega) only [rcpy_o, rcpy_s, up_o, up_s])
  · obtain ⟨rfl, h1, h2⟩ := h
    have L1 : rowLen (18 * m) = 2 := by have := rl_m (j := 0) m0 (by decide); rw [Int.add_zero] at this; exact this
    have L2 : rowLen (18 * q) = 2 := by have := rl_m (j := 0) q0 (by decide); rw [Int.add_zero] at this; exact this
    have e1 : cv (zz) m 10 k = zz 13 (18 * m) k := by unfold cv; rw [if_neg (by decide)]; congr 1 <;> omega
    have e2 : cv σ q 10 k = σ 13 (18 * q) k := by unfold cv; rw [if_neg (by decide)]; congr 1 <;> omega
    rw [e1, e2, ← hz]
    simp (disch := omega) only [rcpy_o, rcpy_s, up_o, up_s]
  · obtain ⟨hC, h1, h2⟩ := h
    rcases hC with rfl | rfl | rfl | rfl | rfl
    · have L1 : rowLen (18 * m + 1) = 24 := rl_m m0 (by decide)
      have L2 : rowLen (18 * q + 1) = 24 := rl_m q0 (by decide)
      have e1 : cv (zz) m 11 k = zz 13 (18 * m + 1) k := by unfold cv; rw [if_neg (by decide)]; congr 1 <;> omega
      have e2 : cv σ q 11 k = σ 13 (18 * q + 1) k := by unfold cv; rw [if_neg (by decide)]; congr 1 <;> omega
      rw [e1, e2, ← hz]
      simp (disch := omega) only [rcpy_o, rcpy_s, up_o, up_s]
    · have L1 : rowLen (18 * m + 2) = 24 := rl_m m0 (by decide)
      have L2 : rowLen (18 * q + 2) = 24 := rl_m q0 (by decide)
      have e1 : cv (zz) m 12 k = zz 13 (18 * m + 2) k := by unfold cv; rw [if_neg (by decide)]; congr 1 <;> omega
      have e2 : cv σ q 12 k = σ 13 (18 * q + 2) k := by unfold cv; rw [if_neg (by decide)]; congr 1 <;> omega
      rw [e1, e2, ← hz]
      simp (disch := omega) only [rcpy_o, rcpy_s, up_o, up_s]
    · have L1 : rowLen (18 * m + 3) = 24 := rl_m m0 (by decide)
      have L2 : rowLen (18 * q + 3) = 24 := rl_m q0 (by decide)
      have e1 : cv (zz) m 13 k = zz 13 (18 * m + 3) k := by unfold cv; rw [if_neg (by decide)]; congr 1 <;> omega
      have e2 : cv σ q 13 k = σ 13 (18 * q + 3) k := by unfold cv; rw [if_neg (by decide)]; congr 1 <;> omega
      rw [e1, e2, ← hz]
      simp (disch := omega) only [rcpy_o, rcpy_s, up_o, up_s]
    · have L1 : rowLen (18 * m + 4) = 24 := rl_m m0 (by decide)
      have L2 : rowLen (18 * q + 4) = 24 := rl_m q0 (by decide)
      have e1 : cv (zz) m 14 k = zz 13 (18 * m + 4) k := by unfold cv; rw [if_neg (by decide)]; congr 1 <;> omega
      have e2 : cv σ q 14 k = σ 13 (18 * q + 4) k := by unfold cv; rw [if_neg (by decide)]; congr 1 <;> omega
      rw [e1, e2, ← hz]
      simp (disch := omega) only [rcpy_o, rcpy_s, up_o, up_s]
    · have L1 : rowLen (18 * m + 5) = 24 := rl_m m0 (by decide)
      have L2 : rowLen (18 * q + 5) = 24 := rl_m q0 (by decide)
      have e1 : cv (zz) m 15 k = zz 13 (18 * m + 5) k := by unfold cv; rw [if_neg (by decide)]; congr 1 <;> omega
      have e2 : cv σ q 15 k = σ 13 (18 * q + 5) k := by unfold cv; rw [if_neg (by decide)]; congr 1 <;> omega
      rw [e1, e2, ← hz]
      simp (disch := omega) only [rcpy_o, rcpy_s, up_o, up_s]
  · obtain ⟨rfl, h1, h2⟩ := h
    have L1 : rowLen (18 * m + 6) = 72 := rl_m m0 (by decide)
    have L2 : rowLen (18 * q + 6) = 72 := rl_m q0 (by decide)
    have e1 : cv (zz) m 16 k = zz 13 (18 * m + 6) k := by unfold cv; rw [if_neg (by decide)]; congr 1 <;> omega
    have e2 : cv σ q 16 k = σ 13 (18 * q + 6) k := by unfold cv; rw [if_neg (by decide)]; congr 1 <;> omega
    rw [e1, e2, ← hz]
    simp (disch := omega) only [rcpy_o, rcpy_s, up_o, up_s]
  · obtain ⟨rfl, h1, h2⟩ := h
    have L1 : rowLen (18 * m + 7) = 6 := rl_m m0 (by decide)
    have L2 : rowLen (18 * q + 7) = 6 := rl_m q0 (by decide)
    have e1 : cv (zz) m 17 k = zz 13 (18 * m + 7) k := by unfold cv; rw [if_neg (by decide)]; congr 1 <;> omega
    have e2 : cv σ q 17 k = σ 13 (18 * q + 7) k := by unfold cv; rw [if_neg (by decide)]; congr 1 <;> omega
    rw [e1, e2, ← hz]
    simp (disch := omega) only [rcpy_o, rcpy_s, up_o, up_s]
  · obtain ⟨rfl, h1, h2⟩ := h
    have L1 : rowLen (18 * m + 8) = 144 := rl_m m0 (by decide)
    have L2 : rowLen (18 * q + 8) = 144 := rl_m q0 (by decide)
    have e1 : cv (zz) m 18 k = zz 13 (18 * m + 8) k := by unfold cv; rw [if_neg (by decide)]; congr 1 <;> omega
    have e2 : cv σ q 18 k = σ 13 (18 * q + 8) k := by unfold cv; rw [if_neg (by decide)]; congr 1 <;> omega
    rw [e1, e2, ← hz]
    simp (disch := omega) only [rcpy_o, rcpy_s, up_o, up_s]
  · obtain ⟨hC, h1, h2⟩ := h
    rcases hC with rfl | rfl
    · have L1 : rowLen (18 * m + 9) = 614 := rl_m m0 (by decide)
      have L2 : rowLen (18 * q + 9) = 614 := rl_m q0 (by decide)
      have e1 : cv (zz) m 19 k = zz 13 (18 * m + 9) k := by unfold cv; rw [if_neg (by decide)]; congr 1 <;> omega
      have e2 : cv σ q 19 k = σ 13 (18 * q + 9) k := by unfold cv; rw [if_neg (by decide)]; congr 1 <;> omega
      rw [e1, e2, ← hz]
      simp (disch := omega) only [rcpy_o, rcpy_s, up_o, up_s]
    · have L1 : rowLen (18 * m + 10) = 614 := rl_m m0 (by decide)
      have L2 : rowLen (18 * q + 10) = 614 := rl_m q0 (by decide)
      have e1 : cv (zz) m 20 k = zz 13 (18 * m + 10) k := by unfold cv; rw [if_neg (by decide)]; congr 1 <;> omega
      have e2 : cv σ q 20 k = σ 13 (18 * q + 10) k := by unfold cv; rw [if_neg (by decide)]; congr 1 <;> omega
      rw [e1, e2, ← hz]
      simp (disch := omega) only [rcpy_o, rcpy_s, up_o, up_s]
  · obtain ⟨hC, h1, h2⟩ := h
    rcases hC with rfl | rfl | rfl | rfl
    · have L1 : rowLen (18 * m + 11) = 307 := rl_m m0 (by decide)
      have L2 : rowLen (18 * q + 11) = 307 := rl_m q0 (by decide)
      have e1 : cv (zz) m 21 k = zz 13 (18 * m + 11) k := by unfold cv; rw [if_neg (by decide)]; congr 1 <;> omega
      have e2 : cv σ q 21 k = σ 13 (18 * q + 11) k := by unfold cv; rw [if_neg (by decide)]; congr 1 <;> omega
      rw [e1, e2, ← hz]
      simp (disch := omega) only [rcpy_o, rcpy_s, up_o, up_s]
    · have L1 : rowLen (18 * m + 12) = 307 := rl_m m0 (by decide)
      have L2 : rowLen (18 * q + 12) = 307 := rl_m q0 (by decide)
      have e1 : cv (zz) m 22 k = zz 13 (18 * m + 12) k := by unfold cv; rw [if_neg (by decide)]; congr 1 <;> omega
      have e2 : cv σ q 22 k = σ 13 (18 * q + 12) k := by unfold cv; rw [if_neg (by decide)]; congr 1 <;> omega
      rw [e1, e2, ← hz]
      simp (disch := omega) only [rcpy_o, rcpy_s, up_o, up_s]
    · have L1 : rowLen (18 * m + 13) = 307 := rl_m m0 (by decide)
      have L2 : rowLen (18 * q + 13) = 307 := rl_m q0 (by decide)
      have e1 : cv (zz) m 23 k = zz 13 (18 * m + 13) k := by unfold cv; rw [if_neg (by decide)]; congr 1 <;> omega
      have e2 : cv σ q 23 k = σ 13 (18 * q + 13) k := by unfold cv; rw [if_neg (by decide)]; congr 1 <;> omega
      rw [e1, e2, ← hz]
      simp (disch := omega) only [rcpy_o, rcpy_s, up_o, up_s]
    · have L1 : rowLen (18 * m + 14) = 307 := rl_m m0 (by decide)
      have L2 : rowLen (18 * q + 14) = 307 := rl_m q0 (by decide)
      have e1 : cv (zz) m 24 k = zz 13 (18 * m + 14) k := by unfold cv; rw [if_neg (by decide)]; congr 1 <;> omega
      have e2 : cv σ q 24 k = σ 13 (18 * q + 14) k := by unfold cv; rw [if_neg (by decide)]; congr 1 <;> omega
      rw [e1, e2, ← hz]
      simp (disch := omega) only [rcpy_o, rcpy_s, up_o, up_s]
  · obtain ⟨rfl, h1, h2⟩ := h
    have L1 : rowLen (18 * m + 15) = 24 := rl_m m0 (by decide)
    have L2 : rowLen (18 * q + 15) = 24 := rl_m q0 (by decide)
    have e1 : cv (zz) m 25 k = zz 13 (18 * m + 15) k := by unfold cv; rw [if_neg (by decide)]; congr 1 <;> omega
    have e2 : cv σ q 25 k = σ 13 (18 * q + 15) k := by unfold cv; rw [if_neg (by decide)]; congr 1 <;> omega
    rw [e1, e2, ← hz]
    simp (disch := omega) only [rcpy_o, rcpy_s, up_o, up_s]
  · obtain ⟨rfl, h1, h2⟩ := h
    have L1 : rowLen (18 * m + 16) = 24 := rl_m m0 (by decide)
    have L2 : rowLen (18 * q + 16) = 24 := rl_m q0 (by decide)
    have e1 : cv (zz) m 26 k = zz 13 (18 * m + 16) k := by unfold cv; rw [if_neg (by decide)]; congr 1 <;> omega
    have e2 : cv σ q 26 k = σ 13 (18 * q + 16) k := by unfold cv; rw [if_neg (by decide)]; congr 1 <;> omega
    rw [e1, e2, ← hz]
    simp (disch := omega) only [rcpy_o, rcpy_s, up_o, up_s]
  · obtain ⟨rfl, h1, h2⟩ := h
    have L1 : rowLen (18 * m + 17) = 6 := rl_m m0 (by decide)
    have L2 : rowLen (18 * q + 17) = 6 := rl_m q0 (by decide)
    have e1 : cv (zz) m 27 k = zz 13 (18 * m + 17) k := by unfold cv; rw [if_neg (by decide)]; congr 1 <;> omega
    have e2 : cv σ q 27 k = σ 13 (18 * q + 17) k := by unfold cv; rw [if_neg (by decide)]; congr 1 <;> omega
    rw [e1, e2, ← hz]
    simp (disch := omega) only [rcpy_o, rcpy_s, up_o, up_s]
theorem RV_use {N : Int} {c c' : Cs} {g : Gs} (hi : IV g) (h : RV N c g) (e : ∀ C k, usedP g C k → c' C k = c C k) : RV N c' g := by
  obtain ⟨i1, iB, iF, iR, iT⟩ := hi
  obtain ⟨r1, r2, r3, r4, r5, r6, r7⟩ := h
  have b1 : 0 ≤ g 1 ∧ g 1 ≤ 24 := by unfold I1 at i1; omega
  have b8 : g 8 ≤ 24 := by unfold I1 at i1; omega
  clear i1
  refine ⟨?_, fun f f0 f1 => ?_, fun b q0 q1 => ?_, ⟨fun p p0 p1 => ?_, fun p i p0 p1 i0 i1 => ?_, fun q f f0 f1 => ?_⟩, ⟨fun i i0 i1 => ?_, fun q f f0 f1 => ?_⟩, fun q => ?_, ?_⟩
  · unfold R1 at r1 ⊢
    rw [e 2 0 (by unfold usedP; omega), e 2 1 (by unfold usedP; omega), e 2 2 (by unfold usedP; omega), e 6 0 (by unfold usedP; omega), e 3 0 (by unfold usedP; omega), e 0 0 (by unfold usedP; omega), e 0 1 (by unfold usedP; omega), e 9 0 (by unfold usedP; omega), e 9 1 (by unfold usedP; omega)]
    exact r1
  · have hf := r2 f f0 f1
    rw [e 11 f (by unfold usedP; omega), e 12 f (by unfold usedP; omega), e 13 f (by unfold usedP; omega), e 14 f (by unfold usedP; omega), e 15 f (by unfold usedP; omega), e 16 (3 * f) (by unfold usedP; omega), e 16 (3 * f + 1) (by unfold usedP; omega), e 16 (3 * f + 2) (by unfold usedP; omega)]
    exact hf
  · have hb := r3 b q0 q1
    unfold R3b at hb ⊢
    rw [e 19 (2 * b) (by unfold usedP; omega), e 19 (2 * b + 1) (by unfold usedP; omega), e 20 (2 * b) (by unfold usedP; omega), e 20 (2 * b + 1) (by unfold usedP; omega), e 21 b (by unfold usedP; omega), e 22 b (by unfold usedP; omega), e 23 b (by unfold usedP; omega), e 24 b (by unfold usedP; omega)]
    exact hb
  · rw [e 17 p (by unfold usedP; omega)]
    exact r4.1 p p0 p1
  · rw [e 17 p (by unfold usedP; omega)] at i1
    have h17 := r4.1 p p0 p1
    have hb := sumTo_bd (f := fun f => if gf g f 6 = p then 1 else 0) (n := g 1) (c := 1) (by decide) b1.1 (fun i _ _ => by split <;> omega)
    rw [e 18 _ (by unfold usedP; omega)]
    exact r4.2.1 p i p0 p1 i0 i1
  · have hf := iF f f0 f1
    have h3 := r4.2.2 q f f0 f1
    unfold IF at hf
    have h6 : 0 ≤ gf g f 6 ∧ gf g f 6 < g 2 := hf.2.2.2.2 q
    have h17 := r4.1 _ h6.1 h6.2
    have hb := sumTo_bd (f := fun f' => if gf g f' 6 = gf g f 6 then 1 else 0) (n := g 1) (c := 1) (by decide) b1.1 (fun i _ _ => by split <;> omega)
    clear hf
    rw [e 17 _ (by unfold usedP; omega), e 18 _ (by unfold usedP; omega)]
    exact h3
  · rw [e 25 i (by unfold usedP; omega)]
    exact r5.1 i i0 i1
  · rw [e 26 f (by unfold usedP; omega)]
    exact r5.2 q f f0 f1
  · rw [e 10 0 (by unfold usedP; omega), e 10 1 (by unfold usedP; omega)]
    exact r6 q
  · obtain ⟨a0, a3, a4, a5, a7, a9⟩ := r7
    unfold R7
    rw [e 4 0 (by unfold usedP; omega), e 4 1 (by unfold usedP; omega), e 4 2 (by unfold usedP; omega), e 4 3 (by unfold usedP; omega), e 4 4 (by unfold usedP; omega), e 4 5 (by unfold usedP; omega), e 4 6 (by unfold usedP; omega), e 4 7 (by unfold usedP; omega)]
    refine ⟨a0, a3, a4, a5, a7, fun q => ?_⟩
    obtain ⟨b1, b2, b6, b7⟩ := a9 q
    exact ⟨b1, b2, b6, fun i i0 i1 => by rw [e 27 i (by unfold usedP; omega)]; exact b7 i i0 i1⟩
