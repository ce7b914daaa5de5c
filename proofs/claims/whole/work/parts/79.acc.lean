/-! The account, on both sides. -/
theorem wr_wr (z : Int) : wr (wr z) = wr z := by
  have := wr_wl z 0
  rw [Int.add_zero, Int.add_zero] at this
  exact this
section Acc
variable {N w : Int} {σ X Y : Mem} {g : Gs}
theorem sumTo_wr {p q : Int → Int} (e : ∀ i, 0 ≤ i → wr (p i) = wr (q i)) (n : Nat) : wr (sumTo p n) = wr (sumTo q n) := by
  induction n with
  | zero => rfl
  | succ n ih =>
    rw [show ((n + 1 : Nat) : Int) = (n : Int) + 1 from rfl, sumTo_s _ (by omega), sumTo_s _ (by omega), ← wr_wl, ih, wr_wl, Int.add_comm, ← wr_wl, e _ (by omega), wr_wl, Int.add_comm]
theorem sumTo_3 (p : Int → Int) (n : Nat) : sumTo p (3 * n) = sumTo (fun i => p (3 * i) + p (3 * i + 1) + p (3 * i + 2)) n := by
  induction n with
  | zero => rfl
  | succ n ih =>
    rw [show (3 : Int) * ((n + 1 : Nat) : Int) = 3 * (n : Int) + 1 + 1 + 1 by omega, sumTo_s _ (by omega), sumTo_s _ (by omega), sumTo_s _ (by omega), ih, show ((n + 1 : Nat) : Int) = (n : Int) + 1 from rfl, sumTo_s _ (by omega), show 3 * (n : Int) + 1 + 1 = 3 * n + 2 by omega]
    omega
/-- a sum may stop where nothing is left -/
theorem sumTo_stop {p : Int → Int} {a : Int} (h0 : 0 ≤ a) (m : Nat) (e : ∀ i, a ≤ i → i < a + m → p i = 0) : sumTo p (a + m) = sumTo p a := by
  induction m with
  | zero => rw [show a + ((0 : Nat) : Int) = a by omega]
  | succ m ih =>
    rw [show a + ((m + 1 : Nat) : Int) = (a + m) + 1 by omega, sumTo_s _ (by omega), ih (fun i i0 i1 => e i i0 (by omega)), e _ (by omega) (by omega), Int.add_zero]
theorem cntG_0 (h : J N σ σ) {v k : Int} (hv : 0 ≤ v ∧ v < 4) (hk : σ 13 186 1 ≤ k) : cntG σ v k = 0 := by
  have rg := J_rg h
  unfold cntG
  have : sumTo (ctk σ (4 * k + v)) (σ 13 186 3) = 0 := sumTo_00 rg.2.2.2.1.1 (fun b q0 q1 => by
    have ib := h.1.1.2.1 b q0 q1
    have l0 : mat σ b 0 < σ 13 186 1 := by unfold IB at ib; exact ib.2.1.2
    have l1 : mat σ b 1 < σ 13 186 1 := by unfold IB at ib; exact ib.2.2.1.2
    unfold ctk
    rw [show (4 * k + v) / 4 = k by omega, if_neg (show ¬ mat σ b 0 = k by omega), if_neg (show ¬ mat σ b 1 = k by omega)]
    repeat' split
    all_goals rfl)
  rw [this]
  rfl
theorem ca_account (h : J N σ σ) : Cal N 234 [aR 11 0, aI w] (zo_xaccount w σ) (zm_xaccount w σ) (fun _ => 1) := by
  have r1 := J_R1 h
  have rg := J_rg h
  by_cases hw : 0 ≤ w ∧ w ≤ 8
  · have ea : zm_xaccount w σ = talM σ := by
      unfold zm_xaccount
      rw [if_neg (by omega), tally_eq h]
      repeat' split
      all_goals rfl
    rw [ea]
    have hstate : ∀ i, 0 ≤ i → i < σ 13 186 3 → rget (talM σ) 11 i = mat σ i 4 := fun i i0 i1 => by
      unfold talM
      rw [wst_row (by omega), rg_11 (by omega)]
      exact (h.1.2.1.2.2.1 i i0 i1).2.2.2.2.1
    have hm : ∀ i v, mat (talM σ) i v = mat σ i v := fun i v => by rw [mat_row, mat_row, tal_row]
    have hml : ∀ i v, mat (laid (talM σ)) i v = mat σ i v := fun i v => by
      show laid (talM σ) 13 186 (250 + 10 * i + v) = σ 13 186 (250 + 10 * i + v)
      rw [laid_o (by omega), tal_row]
    have hfl : ∀ i v, mof (laid (talM σ)) i v = mof σ i v := fun i v => by
      show laid (talM σ) 13 186 (30 + 8 * i + v) = σ 13 186 (30 + 8 * i + v)
      rw [laid_o (by omega), tal_row]
    have hl3 : laid (talM σ) 13 186 3 = σ 13 186 3 := (laid_o (by omega)).trans (congrFun tal_row 3)
    have hl1 : laid (talM σ) 13 186 1 = σ 13 186 1 := (laid_o (by omega)).trans (congrFun tal_row 1)
    have hlc : ∀ v k, (0 ≤ v ∧ v < 4) → (0 ≤ k ∧ k < 24) → laid (talM σ) 13 189 (4 * k + v) = cntG σ v k := fun v k hv hk => by
      rw [laid_c hv hk]
      exact cntG_row tal_row v k
    have t0 : talM σ 0 0 0 = σ 13 186 3 := (wst_o (by omega)).trans r1.2.2.2.2.2.1
    have t6 : talM σ 6 0 0 = σ 13 186 1 := (wst_o (by omega)).trans r1.2.2.2.1
    have eo : ∃ v, zo_xaccount w σ = .inl (some (aI v)) ∧ zo_yaccount w (talM σ) = v := by
      unfold zo_xaccount zo_yaccount
      rw [if_neg (by omega), if_pos hw, tally_eq h]
      have et : wst σ (cntG σ) = talM σ := rfl
      rw [et]
      by_cases h5 : w = 5
      · subst h5
        refine ⟨_, by rw [if_pos rfl], ?_⟩
        unfold zo_msum
        rw [if_pos (by decide), if_pos rfl, hl3, t0]
        refine congrArg wr (sumTo_congr fun i i0 i1 => ?_)
        have h3 := h.1.2.1.2.2.1 i i0 i1
        unfold R3b at h3
        unfold fo_msum5 fo_touchesInFinished zo_touchesOn
        rw [hml, hml, hml, z0, z0, hstate i i0 i1, wr_eq (z := 2 * i) (by omega) (by omega), wr_eq (z := 2 * i + 0) (by omega) (by omega), wr_eq (z := 2 * i + 1) (by omega) (by omega), show 2 * i + 0 = 2 * i by omega]
        have e0 : rget (talM σ) 10 (2 * i) = mat σ i 2 := by
          unfold talM
          rw [wst_row (by omega), rg_10 (by omega)]
          exact h3.2.2.1
        have e1 : rget (talM σ) 10 (2 * i + 1) = mat σ i 3 := by
          unfold talM
          rw [wst_row (by omega), rg_10 (by omega)]
          exact h3.2.2.2.1
        rw [e0, e1]
      · rw [if_neg h5]
        by_cases h6 : w = 6
        · subst h6
          refine ⟨_, by rw [if_pos rfl], ?_⟩
          unfold zo_msum
          rw [if_pos (by decide), if_neg (by decide), if_pos rfl, hl1]
          have e : sumTo (fo_sumOfIndicators (talM σ)) 24 = sumTo (fo_sumOfIndicators (talM σ)) (σ 13 186 1) := by
            have := sumTo_stop (p := fo_sumOfIndicators (talM σ)) rg.2.1.1 (24 - σ 13 186 1).toNat (fun i i0 i1 => by
              unfold fo_sumOfIndicators zo_indicator
              have a2 := tal_get (σ := σ) (w := 2) (k := i) (by decide) (by omega)
              have a3 := tal_get (σ := σ) (w := 3) (k := i) (by decide) (by omega)
              rw [show (182 : Int) = 180 + 2 from rfl, show (183 : Int) = 180 + 3 from rfl, a2, a3, cntG_0 h (by decide) i0, cntG_0 h (by decide) i0]
              rfl)
            rw [show σ 13 186 1 + (((24 - σ 13 186 1).toNat : Nat) : Int) = 24 by omega] at this
            exact this
          rw [e]
          refine congrArg wr (sumTo_congr fun i i0 i1 => ?_)
          unfold fo_msum6 fo_sumOfIndicators zo_mindicator zo_indicator
          have a2 := tal_get (σ := σ) (w := 2) (k := i) (by decide) (by omega)
          have a3 := tal_get (σ := σ) (w := 3) (k := i) (by decide) (by omega)
          rw [wr_eq (z := 4 * i) (by omega) (by omega), wr_eq (z := 4 * i + 2) (by omega) (by omega), wr_eq (z := 4 * i + 3) (by omega) (by omega), hlc 2 i (by decide) (by omega), hlc 3 i (by decide) (by omega), show (182 : Int) = 180 + 2 from rfl, show (183 : Int) = 180 + 3 from rfl, a2, a3]
        · rw [if_neg h6]
          by_cases h7 : w = 7
          · subst h7
            refine ⟨_, by rw [if_pos rfl], ?_⟩
            unfold zo_msum
            rw [if_pos (by decide), if_neg (by decide), if_neg (by decide), if_pos rfl, hl1, t6, wr_eq (z := 3 * σ 13 186 1) (by omega) (by omega)]
            have e3 := sumTo_3 (fo_sumOfCards 0 (talM σ)) (σ 13 186 1).toNat
            rw [show (((σ 13 186 1).toNat : Nat) : Int) = σ 13 186 1 by omega] at e3
            rw [e3]
            have ew := sumTo_wr (p := fo_msum7 (laid (talM σ))) (q := fun i => mof σ i 3 + mof σ i 4 + mof σ i 5) (fun i i0 => by
              unfold fo_msum7
              rw [hfl, hfl, hfl, wr_wl, wr_wr]) (σ 13 186 1).toNat
            rw [show (((σ 13 186 1).toNat : Nat) : Int) = σ 13 186 1 by omega] at ew
            rw [ew]
            refine congrArg wr (sumTo_congr fun i i0 i1 => ?_)
            have hr2 := h.1.2.1.2.1 i i0 i1
            have hc : ∀ j, (0 ≤ j ∧ j < 72) → fo_sumOfCards 0 (talM σ) j = cv σ 0 16 j := fun j hj => by
              unfold fo_sumOfCards talM
              rw [z0, wst_row (by omega), rg_6 hj]
            rw [hc _ (by omega), hc _ (by omega), hc _ (by omega), hr2.2.2.2.2.2.1, hr2.2.2.2.2.2.2.1, hr2.2.2.2.2.2.2.2]
            rfl
          · rw [if_neg h7]
            by_cases h8 : w = 8
            · subst h8
              refine ⟨_, by rw [if_pos rfl], ?_⟩
              unfold zo_msum
              rw [if_pos (by decide), if_neg (by decide), if_neg (by decide), if_neg (by decide), hl1]
              have e : sumTo (fo_sumOfVictories (talM σ)) 24 = sumTo (fo_sumOfVictories (talM σ)) (σ 13 186 1) := by
                have := sumTo_stop (p := fo_sumOfVictories (talM σ)) rg.2.1.1 (24 - σ 13 186 1).toNat (fun i i0 i1 => by
                  have a0 := tal_get (σ := σ) (w := 0) (k := i) (by decide) (by omega)
                  exact a0.trans (cntG_0 h (by decide) i0))
                rw [show σ 13 186 1 + (((24 - σ 13 186 1).toNat : Nat) : Int) = 24 by omega] at this
                exact this
              rw [e]
              refine congrArg wr (sumTo_congr fun i i0 i1 => ?_)
              unfold fo_msum8 fo_sumOfVictories
              have a0 := tal_get (σ := σ) (w := 0) (k := i) (by decide) (by omega)
              have l0 := hlc 0 i (by decide) (by omega)
              rw [Int.add_zero] at l0
              rw [wr_eq (z := 4 * i) (by omega) (by omega), l0]
              exact a0.symm
            · rw [if_neg h8, if_neg (show ¬ 5 ≤ w by omega)]
              refine ⟨_, rfl, ?_⟩
              rw [tal_row, t0]
              refine congrArg wr (sumTo_congr fun i i0 i1 => ?_)
              unfold fo_minState fo_bcountIn
              rw [z0, hstate i i0 i1, hm]
    obtain ⟨v, e1, e2⟩ := eo
    rw [e1]
    refine ⟨_, _, ev_yaccount w _ (by rw [tal_row]; exact rg.2.1) (by rw [tal_row]; exact rg.2.2.2.1) (lay_ok h tal_row), ?_, ?_⟩
    · unfold zm_yaccount
      rw [if_pos hw]
      split
      · exact J_laid h
      · exact J_talM h
    · refine Or.inl ⟨_, rfl, ?_, e2⟩
      unfold zm_yaccount
      rw [if_pos hw]
      split
      · exact laid_6
      · exact up_s _ _ _ _ _
  · have ea : zm_xaccount w σ = σ := by unfold zm_xaccount; rw [if_pos (by omega)]
    have eo : zo_xaccount w σ = .inr 0 := by unfold zo_xaccount; rw [if_pos (by omega)]
    rw [ea, eo]
    refine ⟨_, _, ev_yaccount w σ rg.2.1 rg.2.2.2.1 (lay_ok h rfl), ?_, ?_⟩
    · unfold zm_yaccount
      rw [if_neg hw]; exact J_thr h
    · unfold zm_yaccount
      rw [if_neg hw]; exact Or.inr ⟨_, rfl, up_s _ _ _ _ _, by decide⟩
end Acc
