/-! Results, places, reasons: both sides. -/
section Rank
variable {N x y f w : Int} {σ K L X Y : Mem} {c : Cs} {g : Gs}
/-- the class's memory after its tally -/
def talM (σ : Mem) : Mem := wst σ (cntG σ)
theorem tal_row : talM σ 13 186 = σ 13 186 := funext fun k => wst_o (by omega)
theorem J_laid (h : J N σ σ) {v : Int} : J N (laid (up (talM σ) 11 0 6 v)) (laid (up (talM σ) 11 0 6 v)) :=
  J_mod (J_cls h (fun C r k q => by
    rw [laid_o (by unfold clsP at q; omega), up_o (by unfold clsP at q; omega)]
    exact wst_o (by unfold clsP at q; omega))) (fun C r k q => by
    rw [laid_o (by unfold modP at q; omega), up_o (by unfold modP at q; omega)]
    exact wst_o (by unfold modP at q; omega))
theorem J_talM (h : J N σ σ) {v : Int} : J N (up (talM σ) 11 0 6 v) (up (talM σ) 11 0 6 v) :=
  J_mod (J_cls h (fun C r k q => by
    rw [up_o (by unfold clsP at q; omega)]
    exact wst_o (by unfold clsP at q; omega))) (fun C r k q => by
    rw [up_o (by unfold modP at q; omega)]
    exact wst_o (by unfold modP at q; omega))
theorem X_row {v : Int} : (up (talM σ) 11 0 6 v) 13 186 = σ 13 186 := funext fun k => (up_o (by omega)).trans (wst_o (by omega))
theorem laid_v {v w k : Int} (hw : 0 ≤ w ∧ w < 4) (hk : 0 ≤ k ∧ k < 24) : laid (up (talM σ) 11 0 6 v) 13 189 (4 * k + w) = cntG σ w k := by
  rw [laid_c hw hk]
  exact cntG_row X_row w k
theorem laid_6 {v : Int} : laid (up (talM σ) 11 0 6 v) 11 0 6 = v := (laid_o (by omega)).trans (up_s _ _ _ _ _)
theorem tal_get {w k : Int} (hw : 0 ≤ w ∧ w < 4) (hk : 0 ≤ k ∧ k < 24) : rget (talM σ) (180 + w) k = cntG σ w k := by
  unfold talM
  rw [wst_get (by omega) hk, show 180 + w - 180 = w by omega]
theorem ca_result (h : J N σ σ) : Cal N 206 [aR 11 0, aI f, aI w] (zo_xresult f w σ) (zm_xresult f w σ) (fun E => if E = 2 then 1 else 2) := by
  have r1 := J_R1 h
  have rg := J_rg h
  by_cases hf : 0 ≤ f ∧ f < σ 13 186 1
  · by_cases hw : 0 ≤ w ∧ w ≤ 4
    · have ea : zm_xresult f w σ = talM σ := by
        unfold zm_xresult
        rw [if_neg (by omega), if_neg (by omega), tally_eq h]
        rfl
      have eo : zo_xresult f w σ = .inl (some (aI (zo_snumber f w (talM σ)))) := by
        unfold zo_xresult
        rw [if_neg (by omega), if_neg (by omega), tally_eq h]
        rfl
      rw [ea, eo]
      refine ⟨_, _, ev_yresult f w _ (by rw [tal_row]; exact rg.2.1) (lay_ok h tal_row), ?_, ?_⟩
      · unfold zm_yresult
        rw [tal_row, if_pos hf, if_pos hw]
        split
        · exact J_laid h
        · exact J_laid h
      · refine Or.inl ⟨_, rfl, ?_, ?_⟩
        · unfold zm_yresult
          rw [tal_row, if_pos hf, if_pos hw]
          split
          · exact laid_6
          · exact laid_6
        · unfold zo_yresult zo_snumber zo_mindicator zo_indicator
          rw [tal_row, if_pos hf, if_pos hw, wr_eq (z := 4 * f) (by omega) (by omega), wr_eq (z := 4 * f + 2) (by omega) (by omega), wr_eq (z := 4 * f + 3) (by omega) (by omega), wr_eq (z := 4 * f + w) (by omega) (by omega), laid_v (by decide) (by omega), laid_v (by decide) (by omega)]
          have hww : w = 0 ∨ w = 1 ∨ w = 2 ∨ w = 3 ∨ w = 4 := by omega
          rcases hww with rfl | rfl | rfl | rfl | rfl
          · rw [if_neg (by decide), if_pos rfl, laid_v (by decide) (by omega)]; exact (tal_get (w := 0) (by decide) (by omega)).symm
          · rw [if_neg (by decide), if_neg (by decide), if_pos rfl, laid_v (by decide) (by omega)]; exact (tal_get (w := 1) (by decide) (by omega)).symm
          · rw [if_neg (by decide), if_neg (by decide), if_neg (by decide), if_pos rfl, laid_v (by decide) (by omega)]; exact (tal_get (w := 2) (by decide) (by omega)).symm
          · rw [if_neg (by decide), if_neg (by decide), if_neg (by decide), if_neg (by decide), if_pos rfl, laid_v (by decide) (by omega)]; exact (tal_get (w := 3) (by decide) (by omega)).symm
          · rw [if_pos (by decide), if_neg (by decide), if_neg (by decide), if_neg (by decide), if_neg (by decide)]
            have t2 := tal_get (σ := σ) (w := 2) (k := f) (by decide) (by omega)
            have t3 := tal_get (σ := σ) (w := 3) (k := f) (by decide) (by omega)
            rw [show (182 : Int) = 180 + 2 from rfl, show (183 : Int) = 180 + 3 from rfl, t2, t3]
    · have ea : zm_xresult f w σ = σ := by unfold zm_xresult; rw [if_neg (by omega), if_pos (by omega)]
      have eo : zo_xresult f w σ = .inr 0 := by unfold zo_xresult; rw [if_neg (by omega), if_pos (by omega)]
      rw [ea, eo]
      refine ⟨_, _, ev_yresult f w σ rg.2.1 (lay_ok h rfl), ?_, ?_⟩
      · unfold zm_yresult
        rw [if_pos hf, if_neg hw]; exact J_thr h
      · unfold zm_yresult
        rw [if_pos hf, if_neg hw]; exact Or.inr ⟨_, rfl, up_s _ _ _ _ _, by decide⟩
  · have ea : zm_xresult f w σ = σ := by unfold zm_xresult; rw [if_pos (by omega)]
    have eo : zo_xresult f w σ = .inr 2 := by unfold zo_xresult; rw [if_pos (by omega)]
    rw [ea, eo]
    refine ⟨_, _, ev_yresult f w σ rg.2.1 (lay_ok h rfl), ?_, ?_⟩
    · unfold zm_yresult
      rw [if_neg hf]; exact J_thr h
    · unfold zm_yresult
      rw [if_neg hf]; exact Or.inr ⟨_, rfl, up_s _ _ _ _ _, by decide⟩
/-- class and model compare alike -/
theorem cmp_eq (h : J N σ σ) {v : Int} (hx : 0 ≤ x ∧ x < σ 13 186 1) (hy : 0 ≤ y ∧ y < σ 13 186 1) : zo_compare 0 x y (talM σ) = zo_morder x y (laid (up (talM σ) 11 0 6 v)) := by
  have rg := J_rg h
  have h24 : (0 ≤ x ∧ x < 24) ∧ (0 ≤ y ∧ y < 24) := by omega
  have bb := cntG_b h
  rw [cmp_c (V := cntG σ 0) (O := cntG σ 1) (S := cntG σ 2) (R := cntG σ 3) h24.1 h24.2 (fun i i0 i1 => tal_get (w := 0) (by decide) ⟨i0, i1⟩) (fun i i0 i1 => tal_get (w := 1) (by decide) ⟨i0, i1⟩) (fun i i0 i1 => tal_get (w := 2) (by decide) ⟨i0, i1⟩) (fun i i0 i1 => tal_get (w := 3) (by decide) ⟨i0, i1⟩) (bb 0) (bb 1) (bb 2) (bb 3)]
  rw [cmp_m (V := cntG σ 0) (O := cntG σ 1) (S := cntG σ 2) (R := cntG σ 3) h24.1 h24.2 (fun i i0 i1 => by have := laid_v (σ := σ) (v := v) (w := 0) (k := i) (by decide) ⟨i0, i1⟩; rw [Int.add_zero] at this; exact this) (fun i i0 i1 => laid_v (by decide) ⟨i0, i1⟩) (fun i i0 i1 => laid_v (by decide) ⟨i0, i1⟩) (fun i i0 i1 => laid_v (by decide) ⟨i0, i1⟩) (bb 0) (bb 1) (bb 2) (bb 3)]
  have e : zo_isStronger 0 x y (talM σ) = zo_misStronger x y (laid (up (talM σ) 11 0 6 v)) := by
    have hs : ∀ i, 0 ≤ i → i < σ 13 186 1 → rget (talM σ) 2 i = gf (σ 13 186) i 1 := fun i i0 i1 => by
      unfold talM
      rw [wst_row (by omega), rg_2 (by omega)]
      exact (h.1.2.1.2.1 i i0 i1).2.1
    have hm : ∀ i, mof (laid (up (talM σ) 11 0 6 v)) i 1 = gf (σ 13 186) i 1 := fun i => by
      show laid (up (talM σ) 11 0 6 v) 13 186 (30 + 8 * i + 1) = σ 13 186 (30 + 8 * i + 1)
      rw [laid_o (by omega)]
      exact congrFun X_row _
    unfold zo_isStronger zo_misStronger
    simp only [z0, hm]
    rw [hs x hx.1 hx.2, hs y hy.1 hy.2]
  rw [e]
theorem ex_eq (h : J N σ σ) (hx : 0 ≤ x ∧ x < σ 13 186 1) : (¬ zo_isExcluded 0 x σ = 0) ↔ mof σ x 2 = 1 := by
  have rg := J_rg h
  have hi := (h.1.1.2.2.1 x hx.1 hx.2).2.2.1
  have hr := (h.1.2.1.2.1 x hx.1 hx.2).2.2.2.2.1
  unfold zo_isExcluded
  rw [z0, rg_5 (by omega), hr]
  show _ ↔ gf (σ 13 186) x 2 = 1
  by_cases q : gf (σ 13 186) x 2 = 0
  · rw [if_pos q]; omega
  · rw [if_neg q]; omega
theorem mof_row {F : Mem} {a b : Int} : mof F a b = gf (F 13 186) a b := id rfl
theorem ca_why (h : J N σ σ) : Cal N 213 [aR 11 0, aI x, aI y] (zo_xwhy x y σ) (zm_xwhy x y σ) (fun E => if E = 2 then 1 else 2) := by
  have r1 := J_R1 h
  have rg := J_rg h
  by_cases hx : 0 ≤ x ∧ x < σ 13 186 1
  · by_cases hy : 0 ≤ y ∧ y < σ 13 186 1
    · have ex := ex_eq h hx
      have ey := ex_eq h hy
      by_cases hok : ¬ mof σ x 2 = 1 ∧ ¬ mof σ y 2 = 1 ∧ ¬ x = y
      · obtain ⟨h1, h2, h3⟩ := hok
        have n1 : ¬ ¬ zo_isExcluded 0 x σ = 0 := fun q => h1 (ex.mp q)
        have n2 : ¬ ¬ zo_isExcluded 0 y σ = 0 := fun q => h2 (ey.mp q)
        have ea : zm_xwhy x y σ = talM σ := by
          unfold zm_xwhy
          rw [if_neg (by omega), if_neg (by omega), if_neg n1, if_neg n2, if_pos h3, tally_eq h]
          rfl
        have eo : zo_xwhy x y σ = .inl (some (aI (zo_compare 0 x y (talM σ)))) := by
          unfold zo_xwhy
          rw [if_neg (by omega), if_neg (by omega), if_neg n1, if_neg n2, if_pos h3, tally_eq h]
          rfl
        rw [ea, eo]
        have m1 : ∀ a, mof (talM σ) a 2 = mof σ a 2 := fun a => by rw [mof_row, mof_row, tal_row]
        refine ⟨_, _, ev_ywhy x y _ (by rw [tal_row]; exact rg.2.1) (lay_ok h tal_row), ?_, ?_⟩
        · unfold zm_ywhy
          rw [tal_row, if_pos hx, if_pos hy, if_neg h3, m1, if_neg h1, m1, if_pos h2]
          exact J_laid h
        · refine Or.inl ⟨_, rfl, ?_, ?_⟩
          · unfold zm_ywhy
            rw [tal_row, if_pos hx, if_pos hy, if_neg h3, m1, if_neg h1, m1, if_pos h2]
            exact laid_6
          · unfold zo_ywhy
            rw [tal_row, if_pos hx, if_pos hy, if_neg h3, m1, if_neg h1, m1, if_pos h2]
            exact (cmp_eq h hx hy).symm
      · have ea : zm_xwhy x y σ = σ := by
          unfold zm_xwhy
          rw [if_neg (by omega), if_neg (by omega)]
          by_cases q1 : ¬ zo_isExcluded 0 x σ = 0
          · rw [if_pos q1]
          · rw [if_neg q1]
            by_cases q2 : ¬ zo_isExcluded 0 y σ = 0
            · rw [if_pos q2]
            · rw [if_neg q2, if_neg]
              intro q3
              exact hok ⟨fun z => q1 (ex.mpr z), fun z => q2 (ey.mpr z), q3⟩
        have eo : zo_xwhy x y σ = .inr 3 := by
          unfold zo_xwhy
          rw [if_neg (by omega), if_neg (by omega)]
          by_cases q1 : ¬ zo_isExcluded 0 x σ = 0
          · rw [if_pos q1]
          · rw [if_neg q1]
            by_cases q2 : ¬ zo_isExcluded 0 y σ = 0
            · rw [if_pos q2]
            · rw [if_neg q2, if_neg]
              intro q3
              exact hok ⟨fun z => q1 (ex.mpr z), fun z => q2 (ey.mpr z), q3⟩
        have ez : zm_ywhy x y σ = up σ 11 0 6 2 := by
          unfold zm_ywhy
          rw [if_pos hx, if_pos hy]
          by_cases q3 : x = y
          · rw [if_pos q3]
          · rw [if_neg q3]
            by_cases q1 : mof σ x 2 = 1
            · rw [if_pos q1]
            · rw [if_neg q1, if_neg]
              intro q2
              exact hok ⟨q1, q2, q3⟩
        rw [ea, eo]
        refine ⟨_, _, ev_ywhy x y σ rg.2.1 (lay_ok h rfl), ?_, ?_⟩
        · rw [ez]; exact J_thr h
        · rw [ez]; exact Or.inr ⟨_, rfl, up_s _ _ _ _ _, by decide⟩
    · have ea : zm_xwhy x y σ = σ := by unfold zm_xwhy; rw [if_neg (by omega), if_pos (by omega)]
      have eo : zo_xwhy x y σ = .inr 2 := by unfold zo_xwhy; rw [if_neg (by omega), if_pos (by omega)]
      rw [ea, eo]
      refine ⟨_, _, ev_ywhy x y σ rg.2.1 (lay_ok h rfl), ?_, ?_⟩
      · unfold zm_ywhy
        rw [if_pos hx, if_neg hy]; exact J_thr h
      · unfold zm_ywhy
        rw [if_pos hx, if_neg hy]; exact Or.inr ⟨_, rfl, up_s _ _ _ _ _, by decide⟩
  · have ea : zm_xwhy x y σ = σ := by unfold zm_xwhy; rw [if_pos (by omega)]
    have eo : zo_xwhy x y σ = .inr 2 := by unfold zo_xwhy; rw [if_pos (by omega)]
    rw [ea, eo]
    refine ⟨_, _, ev_ywhy x y σ rg.2.1 (lay_ok h rfl), ?_, ?_⟩
    · unfold zm_ywhy
      rw [if_neg hx]; exact J_thr h
    · unfold zm_ywhy
      rw [if_neg hx]; exact Or.inr ⟨_, rfl, up_s _ _ _ _ _, by decide⟩
theorem ca_place (h : J N σ σ) : Cal N 212 [aR 11 0, aI f] (zo_xplace f σ) (zm_xplace f σ) (fun E => if E = 2 then 1 else 2) := by
  have r1 := J_R1 h
  have rg := J_rg h
  by_cases hf : 0 ≤ f ∧ f < σ 13 186 1
  · have ex := ex_eq h hf
    by_cases h1 : mof σ f 2 = 1
    · have n1 := ex.mpr h1
      have ea : zm_xplace f σ = σ := by unfold zm_xplace; rw [if_neg (by omega), if_pos n1]
      have eo : zo_xplace f σ = .inr 3 := by unfold zo_xplace; rw [if_neg (by omega), if_pos n1]
      rw [ea, eo]
      refine ⟨_, _, ev_yplace f σ rg.2.1 (lay_ok h rfl), ?_, ?_⟩
      · unfold zm_yplace
        rw [if_pos hf, if_neg (fun q => q h1)]; exact J_thr h
      · unfold zm_yplace
        rw [if_pos hf, if_neg (fun q => q h1)]; exact Or.inr ⟨_, rfl, up_s _ _ _ _ _, by decide⟩
    · have n1 : ¬ ¬ zo_isExcluded 0 f σ = 0 := fun q => h1 (ex.mp q)
      have ea : zm_xplace f σ = talM σ := by
        unfold zm_xplace
        rw [if_neg (by omega), if_neg n1, tally_eq h]
        rfl
      have eo : zo_xplace f σ = .inl (some (aI (wr (sumTo (fo_countBefore 0 f (talM σ)) (talM σ 6 0 0))))) := by
        unfold zo_xplace
        rw [if_neg (by omega), if_neg n1, tally_eq h]
        rfl
      rw [ea, eo]
      have m1 : ∀ a, mof (talM σ) a 2 = mof σ a 2 := fun a => by rw [mof_row, mof_row, tal_row]
      refine ⟨_, _, ev_yplace f _ (by rw [tal_row]; exact rg.2.1) (lay_ok h tal_row), ?_, ?_⟩
      · unfold zm_yplace
        rw [tal_row, if_pos hf, m1, if_pos h1]
        exact J_laid h
      · refine Or.inl ⟨_, rfl, ?_, ?_⟩
        · unfold zm_yplace
          rw [tal_row, if_pos hf, m1, if_pos h1]
          exact laid_6
        · unfold zo_yplace
          rw [tal_row, if_pos hf, m1, if_pos h1]
          have e6 : talM σ 6 0 0 = σ 13 186 1 := (wst_o (by omega)).trans r1.2.2.2.1
          have el : laid (up (talM σ) 11 0 6 0) 13 186 1 = σ 13 186 1 := (laid_o (by omega)).trans (congrFun X_row 1)
          rw [e6, el]
          refine congrArg wr (sumTo_congr fun i i0 i1 => ?_)
          have ei := ex_eq h ⟨i0, i1⟩
          have exi : zo_isExcluded 0 i (talM σ) = zo_isExcluded 0 i σ := by
            unfold zo_isExcluded talM
            rw [z0, wst_row (by omega)]
          have mi : mof (laid (up (talM σ) 11 0 6 0)) i 2 = mof σ i 2 := by
            show laid (up (talM σ) 11 0 6 0) 13 186 (30 + 8 * i + 2) = σ 13 186 (30 + 8 * i + 2)
            rw [laid_o (by omega)]
            exact congrFun X_row _
          have hi2 := (h.1.1.2.2.1 i i0 i1).2.2.1
          have hi2' : mof σ i 2 = 0 ∨ mof σ i 2 = 1 := hi2
          unfold fo_mplaceOf fo_countBefore
          rw [exi, mi, cmp_eq h ⟨i0, i1⟩ hf (v := 0)]
          by_cases q : i = f
          · rw [if_pos q, if_pos q]
          · rw [if_neg q, if_neg q]
            by_cases q2 : mof σ i 2 = 1
            · rw [if_pos (show ¬ mof σ i 2 = 0 by omega), if_pos (ei.mpr q2)]
            · rw [if_neg (show ¬ ¬ mof σ i 2 = 0 by omega), if_neg (fun z => q2 (ei.mp z))]
  · have ea : zm_xplace f σ = σ := by unfold zm_xplace; rw [if_pos (by omega)]
    have eo : zo_xplace f σ = .inr 2 := by unfold zo_xplace; rw [if_pos (by omega)]
    rw [ea, eo]
    refine ⟨_, _, ev_yplace f σ rg.2.1 (lay_ok h rfl), ?_, ?_⟩
    · unfold zm_yplace
      rw [if_neg hf]; exact J_thr h
    · unfold zm_yplace
      rw [if_neg hf]; exact Or.inr ⟨_, rfl, up_s _ _ _ _ _, by decide⟩
end Rank
