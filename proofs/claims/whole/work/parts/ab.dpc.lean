/-! drawPools, on both sides. -/
section DPc
variable {N p : Int} {σ : Mem}
theorem ca_drawPools (h : J N σ σ) : ∃ o a, Ev true 106 [aR 10 0, aI p] σ o a ∧ Cal N 174 [aR 11 0, aI p] o a (fun E => if E = 0 then 1 else if E = 1 then 2 else 0) := by
  have r1 := J_R1 h
  have rg := J_rg h
  by_cases hp : 1 ≤ p ∧ p ≤ 6
  · have hw : wr (p * 3) = 3 * p := by rw [wr_eq (by omega) (by omega)]; omega
    have hin : ∀ M : Mem, Ev true 154 [aI p, aI 1, aI 6] M (.inl (some (aI 1))) M := fun M => ev_min_y p 1 6 M hp
    have hd : 0 ≤ (σ 13 186 1).tdiv p ∧ (σ 13 186 1).tdiv p ≤ 24 ∧ (3 ≤ (σ 13 186 1).tdiv p ↔ 3 * p ≤ σ 13 186 1) := by
      rw [Int.tdiv_eq_ediv_of_nonneg rg.2.1.1]
      have : p = 1 ∨ p = 2 ∨ p = 3 ∨ p = 4 ∨ p = 5 ∨ p = 6 := by omega
      rcases this with rfl | rfl | rfl | rfl | rfl | rfl <;> omega
    have hwd : wr ((σ 13 186 1).tdiv p) = (σ 13 186 1).tdiv p := wr_eq (by omega) (by omega)
    by_cases h0 : σ 13 186 0 = 0
    · by_cases h3 : 3 * p ≤ σ 13 186 1
      · obtain ⟨c1, g1, t, L, R, H, t0, ec, em, hKP, d00⟩ := dp_all h h0 hp
        have row : ∀ r k, 186 ≤ r → wcm (rkS0 σ) (cPo c1 t L R H) 13 r k = σ 13 r k := fun r k hr => by
          rw [wcm_o (by omega) (by omega), rkS0_c (by omega) (by omega)]
          obtain ⟨-, k2, -, -⟩ := keep_facts h.2.1 h.1
          exact k2 _ (by omega) _
        have fld : ∀ r k, wcm (rkS0 σ) (cPo c1 t L R H) 11 r k = σ 11 r k := fun r k => by
          rw [wcm_o (by omega) (by omega), rkS0_c (by omega) (by omega)]
          obtain ⟨k1, -, -, -⟩ := keep_facts h.2.1 h.1
          exact k1 _ _ _ (by omega) (by omega) (by omega)
        have hcl := xp_3 (F := wcm (rkS0 σ) (cPo c1 t L R H)) hp hw ⟨by rw [r1.1]; exact h0, by rw [r1.2.2.2.1]; exact h3⟩ (hA_keep h) (by rw [rkS0_eq h]; exact ec)
        have f00 : wcm (rkS0 σ) (cPo c1 t L R H) 0 0 0 = t := wk_0.trans d00
        rw [f00] at hcl
        generalize hF : wcm (rkS0 σ) (cPo c1 t L R H) = F at *
        have hp4 : 0 ≤ (up F 11 0 6 0) 11 0 4 ∧ (up F 11 0 6 0) 11 0 4 ≤ 8 := by rw [up_o (by omega), fld]; exact rg.2.2.2.2.2.2.1
        obtain ⟨m1, -⟩ := mch_facts hp4
        have hX : zm_mchanges (up F 11 0 6 0) = wg (zm_mchanges (up F 11 0 6 0)) (σ 13 186) := by
          have e : (zm_mchanges (up F 11 0 6 0)) 13 186 = σ 13 186 := funext fun k => by rw [m1 _ _ _ (by omega) (by omega), up_o (by omega)]; exact row 186 k (by decide)
          conv => rhs; rw [← e]
          exact (wg_id _).symm
        have hev := mp_4 (M := F) (hin F) rfl (by rw [row 186 0 (by decide)]; exact h0) (by rw [row 186 1 (by decide), hwd]; omega) hp.1 hp4 _ (by rw [hX]; exact em (zm_mchanges (up F 11 0 6 0)))
        refine ⟨_, _, hcl, _, _, hev, ?_, Or.inl ⟨_, rfl, by rw [wg_o (by omega), m1 _ _ _ (by omega) (by omega), up_s], rfl⟩⟩
        refine J_chg2 (c' := cPo c1 t L R H) (g' := gPo g1 p t L R H) h (Int.le_refl N) hKP (fun C r k z => ?_) (fun C r k z => ?_)
        · rw [wg_o (by unfold clsP at z; omega), m1 _ _ _ (by unfold clsP at z; omega) (by unfold clsP at z; omega), up_o (by unfold clsP at z; omega), ← hF]
          by_cases qw : (C = 0 ∨ C = 2 ∨ C = 3 ∨ C = 4 ∨ C = 6 ∨ C = 9) ∧ r = 0
          · unfold wcm
            rw [if_pos qw, if_pos qw]
          · by_cases qr : C = 13 ∧ 0 ≤ r ∧ r < 18
            · unfold wcm
              rw [if_neg qw, if_neg qw, if_pos qr, if_pos qr]
            · rw [wcm_o qw qr, wcm_o qw qr]
              exact rkS0_c (by unfold clsP at z; omega) (by unfold clsP at z; omega)
        · by_cases z6 : C = 13 ∧ r = 186
          · obtain ⟨rfl, rfl⟩ := z6
            rw [wg_r, wg_r]
          · rw [wg_o z6, wg_o z6]
            refine mch_cong (fun C r k z => ?_) rg.2.2.2.2.2.2.1 C r k z
            rw [up_o (by unfold modP at z; omega)]
            unfold modP at z
            rcases z with ⟨rfl, -⟩ | ⟨rfl, z⟩
            · exact fld r k
            · exact row r k (by omega)
      · exact ⟨_, _, xp_2 hp hw (Or.inr (by rw [r1.2.2.2.1]; omega)), _, _, mp_3 (hin σ) rfl h0 (by rw [hwd]; omega) hp.1, J_thr h, Or.inr ⟨_, rfl, up_s _ _ _ _ _, by decide⟩⟩
    · exact ⟨_, _, xp_2 hp hw (Or.inl (by rw [r1.1]; exact h0)), _, _, mp_2 (hin σ) rfl h0 hp.1, J_thr h, Or.inr ⟨_, rfl, up_s _ _ _ _ _, by decide⟩⟩
  · exact ⟨_, _, xp_1 hp, _, _, mp_1 (ev_min_n p 1 6 σ hp) rfl, J_thr h, Or.inr ⟨_, rfl, up_s _ _ _ _ _, by decide⟩⟩
end DPc
