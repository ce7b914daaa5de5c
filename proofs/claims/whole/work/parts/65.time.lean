/-! Beginning a bout; its time is over. -/
section Time
variable {N M b s : Int} {σ : Mem} {c c' : Cs} {g g' : Gs}
theorem fo_row {F : Mem} {r : Int} : zo_mfirstOf r F = gF (F 13 186) r := rfl
theorem keep_row (h : J N σ σ) : (wcm (zm_keep 0 σ) c') 13 186 = σ 13 186 := funext fun k => mod_keep h _ _ _ (by omega)
theorem pB_le (h : IV g) : 0 ≤ pB g ∧ pB g ≤ g 3 := by
  have i1 := h.1
  unfold I1 at i1
  unfold pB
  split <;> omega
theorem rfill_wcm : rfill (wcm σ c) 0 0 = wcm σ (fun C k => if C = 10 ∧ 0 ≤ k ∧ k < 2 then 0 else c C k) := by
  funext C r k
  unfold rfill rfillTo wcm
  rw [show rowLen 0 = 2 from rfl]
  dsimp only
  by_cases h : C = 13 ∧ r = 0 ∧ 0 ≤ k ∧ k < 2
  · rw [if_pos h, if_neg (by omega), if_pos (by omega), if_pos ⟨by omega, by omega⟩]
  · rw [if_neg h]
    by_cases h1 : (C = 0 ∨ C = 2 ∨ C = 3 ∨ C = 4 ∨ C = 6 ∨ C = 9) ∧ r = 0
    · rw [if_pos h1, if_pos h1, if_neg (by omega)]
    · rw [if_neg h1, if_neg h1]
      by_cases h2 : C = 13 ∧ 0 ≤ r ∧ r < 18
      · rw [if_pos h2, if_pos h2, if_neg (by omega)]
      · rw [if_neg h2, if_neg h2]
theorem IX_beg (hi : IV g) (h : IX g) (h0 : 0 ≤ b) : IX (gBeg g b) := by
  have e : ∀ k, k ≠ 6 → k ≠ 250 + 10 * b + 4 → gBeg g b k = g k := fun k q1 q2 => by unfold gBeg; rw [gs_o q2, gs_o q1]
  have b3 : 0 < g 4 → 0 ≤ g 5 := by have i1 := hi.1; unfold I1 at i1; omega
  have ep : pB (gBeg g b) = pB g := by unfold pB; rw [e 3 (by decide) (by omega), e 4 (by decide) (by omega), e 5 (by decide) (by omega)]
  exact IX_fr hi h (e 1 (by decide) (by omega)) (e 4 (by decide) (by omega)) (fun _ => e 5 (by decide) (by omega)) (e 8 (by decide) (by omega)) ep (fun k k0 k1 => e k (by omega) (by omega)) (fun f w q0 q1 q2 => e _ (by have := hi.1; unfold I1 at this; omega) (by have := hi.1; unfold I1 at this; omega)) (fun b' w q0 q1 q2 => e _ (by omega) (by omega)) (fun q p p0 p1 => e _ (by have := b3 q; omega) (by have := b3 q; omega))
theorem ca_begin (h : J N σ σ) (hN : 0 ≤ N) : Cal N 190 [aR 11 0, aI b] (zo_xbegin b σ) (zm_xbegin b σ) (fun E => if E = 2 then 1 else 2) := by
  have r1 := J_R1 h
  have rg := J_rg h
  by_cases hok : (0 ≤ b ∧ b < σ 13 186 3) ∧ σ 13 186 6 < 0 ∧ mat σ b 4 = 0 ∧ 0 ≤ mat σ b 0 ∧ 0 ≤ mat σ b 1
  · obtain ⟨hb, h6, h4, hL, hR⟩ := hok
    have hb307 : 0 ≤ b ∧ b < 307 := by omega
    have h3 := h.1.2.1.2.2.1 b hb.1 hb.2
    have hk := kp_keep h
    generalize hc0 : cv (zm_keep 0 σ) 0 = c0 at hk
    have hm : zm_mstart 0 b (zm_keep 0 σ) = wcm (zm_keep 0 σ) (cBeg c0 b) := by
      have e : zm_keep 0 σ = wcm (zm_keep 0 σ) c0 := by rw [← hc0]; exact (wcm_id _).symm
      have e2 : ∀ K, zm_mstart 0 b (wcm K c0) = wcm K (cBeg c0 b) := fun K => by
        unfold zm_mstart
        rw [wu_2, z0, z00, rfill_wcm, ws_11 hb307]
        rfl
      exact (congrArg (zm_mstart 0 b) e).trans (e2 _)
    have ef0 : zo_fencerOn 0 b 0 σ = ga (σ 13 186) b 0 := by
      have := cz_fe (σ := σ) (c := cv σ 0) (s := 0) hb307 (by decide)
      rw [wcm_id] at this
      rw [this, show 2 * b + 0 = 2 * b by omega]
      exact h3.1
    have ef1 : zo_fencerOn 0 b 1 σ = ga (σ 13 186) b 1 := by
      have := cz_fe (σ := σ) (c := cv σ 0) (s := 1) hb307 (by decide)
      rw [wcm_id] at this
      rw [this]
      exact h3.2.1
    have hL' : 0 ≤ ga (σ 13 186) b 0 := hL
    have hR' : 0 ≤ ga (σ 13 186) b 1 := hR
    have e11 : rget σ 11 b = 0 := by rw [rg_11 hb307]; exact h3.2.2.2.2.1.trans h4
    have kb : ¬ zo_knowsBoth 0 b σ = 0 := by unfold zo_knowsBoth; rw [ef0, ef1, if_neg (by omega), if_neg (by omega)]; decide
    have hg : KP N (cBeg c0 b) (gBeg (σ 13 186) b) := ⟨IV_beg hk.1 hb.1 hb.2 h6 h4 hL hR, RV_beg hk.1 hk.2.1 hN hb.1 hb.2 h6 h4, IX_beg hk.1 hk.2.2 hb.1⟩
    have ea : zm_xbegin b σ = wcm (zm_keep 0 σ) (cBeg c0 b) := by
      unfold zm_xbegin
      rw [if_neg (by rw [x_has]; omega), if_neg (by omega), if_neg (by omega), if_pos kb, hm]
    have eo : zo_xbegin b σ = .inl (some (aI (if cBeg c0 b 0 1 ≤ b then 15 else 5))) := by
      unfold zo_xbegin
      rw [if_neg (by rw [x_has]; omega), if_neg (by omega), if_neg (by omega), if_pos kb, hm, cz_tg]
    rw [ea, eo]
    have er := keep_row (c' := cBeg c0 b) h
    have e4 : mat (wcm (zm_keep 0 σ) (cBeg c0 b)) b 4 = 0 := by show (wcm (zm_keep 0 σ) (cBeg c0 b)) 13 186 _ = 0; rw [er]; exact h4
    have eLR : 0 ≤ mat (wcm (zm_keep 0 σ) (cBeg c0 b)) b 0 ∧ 0 ≤ mat (wcm (zm_keep 0 σ) (cBeg c0 b)) b 1 := by
      constructor
      · show 0 ≤ (wcm (zm_keep 0 σ) (cBeg c0 b)) 13 186 _; rw [er]; exact hL
      · show 0 ≤ (wcm (zm_keep 0 σ) (cBeg c0 b)) 13 186 _; rw [er]; exact hR
    have em : mput (up (zm_mchanges (up (wcm (zm_keep 0 σ) (cBeg c0 b)) 11 0 6 0)) 13 186 6 b) b 4 1 = wg (zm_mchanges (up (wcm (zm_keep 0 σ) (cBeg c0 b)) 11 0 6 0)) (gBeg (σ 13 186) b) := by
      have := mch_wg (c' := cBeg c0 b) h
      generalize zm_mchanges (up (wcm (zm_keep 0 σ) (cBeg c0 b)) 11 0 6 0) = Y at this ⊢
      rw [this, up_wg, mput_wg, wg_wg]
      rfl
    refine ⟨_, _, ev_ybegin b _ (pasts_keep h) (by rw [er]; exact rg.2.2.2.1), ?_, ?_⟩
    · unfold zm_ybegin
      rw [er, if_pos hb, if_neg (by omega), if_neg (by rw [e4]; decide), if_pos eLR, em]
      exact J_chg h (Int.le_refl N) hg
    · refine Or.inl ⟨_, rfl, ?_, ?_⟩
      · unfold zm_ybegin
        rw [er, if_pos hb, if_neg (by omega), if_neg (by rw [e4]; decide), if_pos eLR, em]
        exact mch_6 h
      · unfold zo_ybegin
        rw [er, if_pos hb, if_neg (by omega), if_neg (by rw [e4]; decide), if_pos eLR, em]
        unfold zo_mtarget
        rw [mat_wg]
        have hb2 : b < gBeg (σ 13 186) b 3 := by unfold gBeg; rw [gs_o (by omega), gs_o (by decide)]; exact hb.2
        have hp := (hg.2.1.1).2.2.2.2.2.2.1
        rw [hp]
        by_cases hq : pB (gBeg (σ 13 186) b) ≤ b
        · rw [if_pos hq]
          obtain ⟨⟨t1, t2, t3, t4⟩, -⟩ := tab_of hg.1 hb.1 hb2 hq
          have := rnd_p (gBeg (σ 13 186) b 4 - (b - gBeg (σ 13 186) b 5))
          rw [if_pos (by omega)]
        · rw [if_neg hq]
          have ib := hg.1.2.1 b hb.1 hb2
          have i2 := hg.1.1
          unfold IB at ib
          have h7 := ib.2.2.2.2.2.2.2.2.2.2.2.2.2.1 (by omega)
          clear ib
          unfold I1 at i2
          rw [if_neg (by omega)]
  · have ea : zm_xbegin b σ = σ := by
      unfold zm_xbegin
      by_cases q1 : zo_has 0 b σ = 0
      · rw [if_pos q1]
      · rw [if_neg q1]
        rw [x_has] at q1
        by_cases q2 : σ 2 0 2 = -1
        · rw [if_neg (by omega)]
          have hb307 : 0 ≤ b ∧ b < 307 := by omega
          have h3 := h.1.2.1.2.2.1 b (by omega) (by omega)
          have e11 : rget σ 11 b = mat σ b 4 := by rw [rg_11 hb307]; exact h3.2.2.2.2.1
          by_cases q3 : rget σ 11 b = 0
          · rw [if_neg (by omega)]
            have hi := h.1.1.2.1 b (by omega) (by omega)
            have hlr : mat σ b 0 < 0 ∨ mat σ b 1 < 0 := by omega
            have hmin : -1 ≤ mat σ b 0 ∧ -1 ≤ mat σ b 1 := by unfold IB at hi; exact ⟨hi.2.1.1, hi.2.2.1.1⟩
            rw [if_neg]
            intro q4
            apply q4
            unfold zo_knowsBoth
            have ef0 : zo_fencerOn 0 b 0 σ = mat σ b 0 := by
              have := cz_fe (σ := σ) (c := cv σ 0) (s := 0) hb307 (by decide)
              rw [wcm_id] at this
              rw [this, show 2 * b + 0 = 2 * b by omega]
              exact h3.1
            have ef1 : zo_fencerOn 0 b 1 σ = mat σ b 1 := by
              have := cz_fe (σ := σ) (c := cv σ 0) (s := 1) hb307 (by decide)
              rw [wcm_id] at this
              rw [this]
              exact h3.2.1
            rw [ef0, ef1]
            by_cases q5 : mat σ b 0 = -1
            · rw [if_pos q5]
            · rw [if_neg q5, if_pos (by omega)]
          · rw [if_pos q3]
        · rw [if_pos q2]
    rw [ea]
    refine ⟨_, _, ev_ybegin b _ rg.2.2.2.2.2.2.1 rg.2.2.2.1, ?_, ?_⟩
    · unfold zm_ybegin
      by_cases q1 : 0 ≤ b ∧ b < σ 13 186 3
      · rw [if_pos q1]
        by_cases q2 : 0 ≤ σ 13 186 6
        · rw [if_pos q2]; exact J_thr h
        · rw [if_neg q2]
          by_cases q3 : ¬ mat σ b 4 = 0
          · rw [if_pos q3]; exact J_thr h
          · rw [if_neg q3, if_neg (by omega)]; exact J_thr h
      · rw [if_neg q1]; exact J_thr h
    · refine Or.inr ?_
      unfold zm_ybegin zo_xbegin
      by_cases q1 : 0 ≤ b ∧ b < σ 13 186 3
      · rw [if_neg (by rw [x_has]; omega), if_pos q1]
        have hb307 : 0 ≤ b ∧ b < 307 := by omega
        have h3 := h.1.2.1.2.2.1 b q1.1 q1.2
        have e11 : rget σ 11 b = mat σ b 4 := by rw [rg_11 hb307]; exact h3.2.2.2.2.1
        by_cases q2 : 0 ≤ σ 13 186 6
        · rw [if_pos q2, if_pos (by omega)]
          exact ⟨_, rfl, up_s _ _ _ _ _, by decide⟩
        · rw [if_neg q2, if_neg (by omega), e11]
          by_cases q3 : ¬ mat σ b 4 = 0
          · rw [if_pos q3, if_pos q3]
            exact ⟨_, rfl, up_s _ _ _ _ _, by decide⟩
          · rw [if_neg q3, if_neg q3, if_neg (show ¬ (0 ≤ mat σ b 0 ∧ 0 ≤ mat σ b 1) by omega)]
            have hi := h.1.1.2.1 b q1.1 q1.2
            have hmin : -1 ≤ mat σ b 0 ∧ -1 ≤ mat σ b 1 := by unfold IB at hi; exact ⟨hi.2.1.1, hi.2.2.1.1⟩
            have ef0 : zo_fencerOn 0 b 0 σ = mat σ b 0 := by
              have := cz_fe (σ := σ) (c := cv σ 0) (s := 0) hb307 (by decide)
              rw [wcm_id] at this
              rw [this, show 2 * b + 0 = 2 * b by omega]
              exact h3.1
            have ef1 : zo_fencerOn 0 b 1 σ = mat σ b 1 := by
              have := cz_fe (σ := σ) (c := cv σ 0) (s := 1) hb307 (by decide)
              rw [wcm_id] at this
              rw [this]
              exact h3.2.1
            have kb : zo_knowsBoth 0 b σ = 0 := by
              unfold zo_knowsBoth
              rw [ef0, ef1]
              by_cases q5 : mat σ b 0 = -1
              · rw [if_pos q5]
              · rw [if_neg q5, if_pos (by omega)]
            rw [kb, if_neg (by decide)]
            exact ⟨_, rfl, up_s _ _ _ _ _, by decide⟩
      · rw [if_pos (by rw [x_has]; omega), if_neg q1]
        exact ⟨_, rfl, up_s _ _ _ _ _, by decide⟩
end Time
