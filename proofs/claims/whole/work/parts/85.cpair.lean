/-! Pairs of a club, on both sides. -/
section Cpair
variable {N : Int} {σ : Mem}
def fcc (σ : Mem) (i : Int) : Int := if ¬ rget σ 1 (zo_fencerOn 0 i 0 σ) = rget σ 1 (zo_fencerOn 0 i 1 σ) then 0 else 1
theorem ev_xclubPairs (σ : Mem) (hL : 0 ≤ σ 0 0 1 ∧ σ 0 0 1 ≤ 2147483647) : Ev true 112 [aR 10 0] σ (.inl (some (aI (wr (sumTo (fcc σ) (σ 0 0 1)))))) σ := by
  have hr : rs (fr_clubPairs σ) ((σ 0 0 1).toNat + 1) (0, 0) = some (.inl (some (aI (wr (sumTo (fcc σ) (σ 0 0 1)))))) := by
    refine rs_cnt (fun i => (wr (sumTo (fcc σ) i), i)) hL.1 (fun i i0 i1 => ?_) ?_
    · show fr_clubPairs σ (wr (sumTo (fcc σ) i), i) = _
      simp only [fr_clubPairs]
      rw [if_neg (by omega), wr_eq (z := i + 1) (by omega) (by omega), sumTo_s _ i0]
      unfold fcc
      by_cases q : ¬ rget σ 1 (zo_fencerOn 0 i 0 σ) = rget σ 1 (zo_fencerOn 0 i 1 σ)
      · rw [if_pos q, if_pos q, Int.add_zero]
      · rw [if_neg q, if_neg q, wr_wl]
    · show fr_clubPairs σ (wr (sumTo (fcc σ) (σ 0 0 1)), σ 0 0 1) = _
      simp only [fr_clubPairs]
      rw [if_pos (Int.le_refl _)]
  show wp true 112 0 [some (aR 10 0), none, none, none, none] [] σ 0 0 _
  refine wp_seg 4 (P := none) (ls' := [some (aR 10 0), some (aI 0), some (aI 0), none, none]) (st' := []) (σ' := σ) rq_112 rfl True.intro (i' := 4) rfl ?_
  exact lr_clubPairs σ _ _ 0 0 hr
theorem ca_clubPairs (h : J N σ σ) : Cal N 182 [aR 11 0] (.inl (some (aI (wr (sumTo (fcc σ) (σ 0 0 1)))))) σ (fun _ => 1) := by
  have r1 := J_R1 h
  have rg := J_rg h
  have hpB := pB_le h.1.1
  refine ⟨_, _, ev_yclubPairs σ rg.2.1, J_thr h, Or.inl ⟨_, rfl, up_s _ _ _ _ _, ?_⟩⟩
  rw [r1.2.2.2.2.2.2.1]
  refine congrArg wr ?_
  have x5 := h.1.2.2.2.2.2.2.1
  refine Eq.trans ?_ (x5.symm.trans ?_)
  · refine sumTo_congr fun x x0 x1 => ?_
    unfold fcq
    refine sumTo_congr fun y y0 y1 => ?_
    unfold fcp
    show (if gf (σ 13 186) x 6 < 0 then (0 : Int) else if ¬ gf (σ 13 186) x 6 = gf (σ 13 186) y 6 then 0 else if ¬ gf (σ 13 186) x 0 = gf (σ 13 186) y 0 then 0 else 1) = _
    by_cases q1 : gf (σ 13 186) x 6 < 0
    · rw [if_pos q1, if_neg (by omega)]
    · rw [if_neg q1]
      by_cases q2 : gf (σ 13 186) x 6 = gf (σ 13 186) y 6
      · rw [if_neg (show ¬ ¬ gf (σ 13 186) x 6 = gf (σ 13 186) y 6 from fun q => q q2)]
        by_cases q3 : gf (σ 13 186) x 0 = gf (σ 13 186) y 0
        · rw [if_neg (show ¬ ¬ gf (σ 13 186) x 0 = gf (σ 13 186) y 0 from fun q => q q3), if_pos ⟨by omega, q2, q3⟩]
        · rw [if_pos q3, if_neg (fun q => q3 q.2.2)]
      · rw [if_pos q2, if_neg (fun q => q2 q.2.1)]
  · refine sumTo_congr fun b b0 b1 => ?_
    have hb307 : 0 ≤ b ∧ b < 307 := by omega
    have h3 := h.1.2.1.2.2.1 b b0 (by omega)
    have ib := h.1.1.2.1 b b0 (by omega)
    unfold IB at ib
    have hlr := ib.2.2.2.2.2.2.2.2.2.2.2.2.2.1 b1
    have l0 := ib.2.1.2
    have l1 := ib.2.2.1.2
    clear ib
    have f0 : zo_fencerOn 0 b 0 σ = ga (σ 13 186) b 0 := by
      have := cz_fe (σ := σ) (c := cv σ 0) (s := 0) hb307 (by decide)
      rw [wcm_id] at this
      rw [this, show 2 * b + 0 = 2 * b by omega]
      exact h3.1
    have f1 : zo_fencerOn 0 b 1 σ = ga (σ 13 186) b 1 := by
      have := cz_fe (σ := σ) (c := cv σ 0) (s := 1) hb307 (by decide)
      rw [wcm_id] at this
      rw [this]
      exact h3.2.1
    unfold fcc
    rw [f0, f1, rg_1 (by omega), rg_1 (by omega), (h.1.2.1.2.1 _ hlr.2.2.1 l0).1, (h.1.2.1.2.1 _ hlr.2.2.2.1 l1).1]
    by_cases q : gf (σ 13 186) (ga (σ 13 186) b 0) 0 = gf (σ 13 186) (ga (σ 13 186) b 1) 0
    · rw [if_pos q, if_neg (fun z => z q)]
    · rw [if_neg q, if_pos q]
end Cpair
