/-! The table is drawn: the calls of both sides agree. -/
section DTd
variable {N n B t j i w b f k : Int} {C : Nat} {K X S M σ : Mem} {c : Cs} {g : Gs} {o : Int → Int} {P : Int → Bool}
theorem oS_row : (rkS0 σ) 13 184 = oS σ := by
  funext k
  unfold rkS0 rkM
  exact wor_r
/-- the class's memory behind its table -/
def dtM (σ : Mem) : Mem := wcm (rkS0 σ) (cTab (cv (rkS0 σ) 0) (σ 13 186 3) (nS σ) (oS σ))
theorem cv_rkS0 (q : ownK C) : cv (rkS0 σ) 0 C k = cv (zm_keep 0 σ) 0 C k := by
  unfold ownK at q
  unfold cv
  by_cases h1 : C < 10
  · rw [if_pos h1, if_pos h1]; exact rkS0_c (by omega) (by omega)
  · rw [if_neg h1, if_neg h1]; exact rkS0_c (by omega) (by omega)
theorem cin_S (h : J N σ σ) : wr (sumTo (fo_fcountIn 0 σ) (σ 6 0 0)) = nS σ := by
  have rg := J_rg h
  have r1 := J_R1 h
  have nb := nS_b h
  have rn := rank_n (kp_keep h) (Y := σ) rfl
  have e := cin_kp h.1 (Y := σ) rfl
  have rn2 := rank_n h.1 (Y := σ) rfl
  rw [r1.2.2.2.1, e]
  unfold nS
  rw [rn, rn2]
theorem hFT_of (h : J N σ σ) : σ 2 0 0 = 1 → 2 ≤ wr (sumTo (fo_fcountIn 0 σ) (σ 6 0 0)) → Ev true 38 [aR 2 (0), aR 7 (184), aI ((zm_rankAll (zm_keep (0) σ)) 8 (0) 0)] (zm_rankAll (zm_keep (0) σ)) (.inl none) (dtM σ) := fun h0 h2 => by
  have r1 := J_R1 h
  have rg := J_rg h
  have nb := nS_b h
  have i1 := J_I1 h
  have hB : 0 ≤ σ 13 186 3 ∧ σ 13 186 3 ≤ 276 := by unfold I1 at i1; omega
  rw [cin_S h] at h2
  rw [rkS0_eq h, rkS0_n]
  have kr := (kp_keep h).2.1.1
  have pB3 : pB (σ 13 186) = σ 13 186 3 := by
    unfold pB
    have : σ 13 186 4 = 0 := by unfold I1 at i1; omega
    rw [if_pos this]
  have e := ev_fillTable (n := nS σ) (B := σ 13 186 3) (K := rkS0 σ) (c := cv (rkS0 σ) 0) (by omega) hB (by rw [cv_rkS0 (by unfold ownK; omega)]; exact kr.2.2.2.2.2.1) (by rw [cv_rkS0 (by unfold ownK; omega)]; rw [← pB3]; exact kr.2.2.2.2.2.2.1) (fun i i0 i1 => by rw [oS_row]; exact (oS_at h i0 i1).1.1)
  rw [wcm_id, oS_row] at e
  exact e
theorem stC (h : J N σ σ) (t : Int) : wr (sumTo (fo_bcountIn 0 t σ) (σ 0 0 0)) = cntP (fun b => decide (ga (σ 13 186) b 4 = t)) (σ 13 186 3) := by
  have rg := J_rg h
  have r1 := J_R1 h
  have bb := cntP_b (P := fun b => decide (ga (σ 13 186) b 4 = t)) rg.2.2.2.1.1
  have e : sumTo (fo_bcountIn 0 t σ) (σ 13 186 3) = cntP (fun b => decide (ga (σ 13 186) b 4 = t)) (σ 13 186 3) := sumTo_congr fun b b0 b1 => by
    have h4 := (h.1.2.1.2.2.1 b b0 b1).2.2.2.2.1
    unfold fo_bcountIn
    rw [z0, rg_11 (by omega), h4]
    by_cases q : ga (σ 13 186) b 4 = t
    · rw [if_neg (fun z => z q), if_pos (decide_eq_true q)]
    · rw [if_pos q, if_neg (fun z => q (of_decide_eq_true z))]
  rw [r1.2.2.2.2.2.1, e, wr_eq (by omega) (by omega)]
theorem stM (h : J N σ σ) (t : Int) : wr (sumTo (fo_minState t σ) (σ 13 186 3)) = cntP (fun b => decide (ga (σ 13 186) b 4 = t)) (σ 13 186 3) := by
  have rg := J_rg h
  have bb := cntP_b (P := fun b => decide (ga (σ 13 186) b 4 = t)) rg.2.2.2.1.1
  have e : sumTo (fo_minState t σ) (σ 13 186 3) = cntP (fun b => decide (ga (σ 13 186) b 4 = t)) (σ 13 186 3) := sumTo_congr fun b b0 b1 => by
    unfold fo_minState
    rw [mat_row2]
    by_cases q : ga (σ 13 186) b 4 = t
    · rw [if_neg (fun z => z q), if_pos (decide_eq_true q)]
    · rw [if_pos q, if_neg (fun z => q (of_decide_eq_true z))]
  rw [e, wr_eq (by omega) (by omega)]
/-- a bout is in progress, or none is in that state -/
theorem st_1 (h : J N σ σ) : 0 < cntP (fun b => decide (ga (σ 13 186) b 4 = 1)) (σ 13 186 3) ↔ 0 ≤ σ 13 186 6 := by
  have rg := J_rg h
  have ib : ∀ b, 0 ≤ b → b < σ 13 186 3 → (ga (σ 13 186) b 4 = 1 ↔ σ 13 186 6 = b) := fun b b0 b1 => by
    have ib := h.1.1.2.1 b b0 b1
    unfold IB at ib
    exact ⟨fun z => (ib.2.2.2.2.2.2.2.1 z).1, ib.2.2.2.2.2.2.2.2.1⟩
  constructor
  · intro q
    by_cases q6 : 0 ≤ σ 13 186 6
    · exact q6
    · exfalso
      have := cnt_zero (P := fun b => decide (ga (σ 13 186) b 4 = 1)) rg.2.2.2.1.1 (fun i i0 i1 z => by
        have z2 := (ib i i0 i1).mp (of_decide_eq_true z)
        omega)
      omega
  · intro q
    have := cnt_pos (P := fun b => decide (ga (σ 13 186) b 4 = 1)) (i := σ 13 186 6) (n := σ 13 186 3) q (by omega) (decide_eq_true ((ib _ q (by omega)).mpr rfl))
    omega
theorem hA_keep (h : J N σ σ) : 0 ≤ zm_tally 0 (zm_keep 0 σ) 6 0 0 ∧ zm_tally 0 (zm_keep 0 σ) 6 0 0 ≤ 24 := by
  rw [tally_kp (kp_keep h) (Y := σ) rfl, wst_o (by omega)]
  have e : (zm_keep 0 σ) 6 0 0 = σ 13 186 1 := (kp_keep h).2.1.1.2.2.2.1
  rw [e]
  exact (J_rg h).2.1
theorem dtM_o {r k : Int} (h : C = 11 ∨ (C = 13 ∧ 186 ≤ r)) : dtM σ C r k = zm_keep 0 σ C r k := by
  unfold dtM
  rw [wcm_o (by omega) (by omega)]
  exact rkS0_c (by omega) (by omega)
theorem dtM_mod (h : J N σ σ) {r k : Int} (q : C = 11 ∨ (C = 13 ∧ 186 ≤ r)) : dtM σ C r k = σ C r k := by
  rw [dtM_o q]
  obtain ⟨k1, k2, k3, k4⟩ := keep_facts h.2.1 h.1
  rcases q with q | ⟨rfl, q⟩
  · exact k1 _ _ _ (by omega) (by omega) (by omega)
  · exact k2 _ (by omega) _
theorem ca_drawTable (h : J N σ σ) : Cal N 217 [aR 11 0] (zo_xdrawTable (dtM σ) σ) (zm_xdrawTable (dtM σ) σ) (fun _ => 1) := by
  have r1 := J_R1 h
  have rg := J_rg h
  have nb := nS_b h
  have p0 : σ 2 0 0 = σ 13 186 0 := r1.1
  have p6 : σ 2 0 2 = σ 13 186 6 := r1.2.2.1
  have c0 := stC h 0
  have cb := cntP_b (P := fun b => decide (ga (σ 13 186) b 4 = 0)) rg.2.2.2.1.1
  have cb1 := cntP_b (P := fun b => decide (ga (σ 13 186) b 4 = 1)) rg.2.2.2.1.1
  have s1 := st_1 h
  have hst : ∀ X : Mem, X 13 186 = σ 13 186 → Ev true 177 [aR 11 0] X (.inl (some (aI (nS σ)))) X := fun X hX => by
    have e := ev_mstaying X (by rw [hX]; exact rg.2.1)
    rw [show X 13 186 1 = σ 13 186 1 from congrFun hX 1, stay_kp (kp_keep h) (Y := σ) rfl (ag_of hX)] at e
    exact e
  by_cases hok : σ 13 186 0 = 1 ∧ σ 13 186 6 < 0 ∧ cntP (fun b => decide (ga (σ 13 186) b 4 = 0)) (σ 13 186 3) = 0 ∧ 2 ≤ nS σ
  · obtain ⟨k0, k6, kz, kn⟩ := hok
    have i1 := J_I1 h
    have hB : 0 ≤ σ 13 186 3 ∧ σ 13 186 3 ≤ 276 := by unfold I1 at i1; omega
    clear i1
    have hn : 2 ≤ nS σ ∧ nS σ ≤ 24 := by omega
    have ho : ∀ i, 0 ≤ i → i < nS σ → 0 ≤ oS σ i ∧ oS σ i < σ 13 186 1 := fun i i0 i1 => (oS_at h i0 i1).1
    have ea : zm_xdrawTable (dtM σ) σ = dtM σ := by
      unfold zm_xdrawTable
      rw [if_neg (by omega), if_neg (by omega), c0, if_pos (by omega), cin_S h, if_pos kn]
    have eo : zo_xdrawTable (dtM σ) σ = .inl (some (aI (szO (nS σ)))) := by
      unfold zo_xdrawTable
      rw [if_neg (by omega), if_neg (by omega), c0, if_pos (by omega), cin_S h, if_pos kn]
      have : dtM σ 9 0 0 = szO (nS σ) := by
        unfold dtM
        rw [wk_9]
        exact (cTab_f hn hB.1).2.2.1
      rw [this]
    rw [ea, eo]
    have row : dtM σ 13 186 = σ 13 186 := funext fun k => dtM_mod h (Or.inr ⟨rfl, by decide⟩)
    have pa : 0 ≤ dtM σ 11 0 4 ∧ dtM σ 11 0 4 ≤ 8 := by rw [dtM_mod h (Or.inl rfl)]; exact rg.2.2.2.2.2.2.1
    have rowm : (zm_mchanges (up (dtM σ) 11 0 6 0)) 13 186 = σ 13 186 := funext fun k => by rw [mch_g, up_o (by omega)]; exact congrFun row k
    have rowX : (laid (zm_mchanges (up (dtM σ) 11 0 6 0))) 13 186 = σ 13 186 := laid_row.trans rowm
    have hra : ∀ i, 0 ≤ i → i < nS σ → Ev true 210 [aR 11 0, aI i] (wg (laid (zm_mchanges (up (dtM σ) 11 0 6 0))) (gSd (σ 13 186) (nS σ) (oS σ) i)) (.inl (some (aI (oS σ i)))) (wg (laid (zm_mchanges (up (dtM σ) 11 0 6 0))) (gSd (σ 13 186) (nS σ) (oS σ) i)) := fun i i0 i1 => by
      have hag : agF (wg (laid (zm_mchanges (up (dtM σ) 11 0 6 0))) (gSd (σ 13 186) (nS σ) (oS σ) i)) (σ 13 186) := fun k hk => by
        rw [wg_r]
        unfold gSd
        rw [if_neg (by omega), if_neg (by omega)]
      have hcn : ∀ w k, 0 ≤ w → w < 4 → 0 ≤ k → k < 24 → (wg (laid (zm_mchanges (up (dtM σ) 11 0 6 0))) (gSd (σ 13 186) (nS σ) (oS σ) i)) 13 189 (4 * k + w) = cntG σ w k := fun w k w0 w1 k0 k1 => by
        rw [wg_o (by omega)]
        exact laid_cn rowm w k w0 w1 k0 k1
      have x1 := hag 1 (Or.inl rfl)
      have e := ev_mrankedAt i (wg (laid (zm_mchanges (up (dtM σ) 11 0 6 0))) (gSd (σ 13 186) (nS σ) (oS σ) i)) (by rw [x1]; exact rg.2.1)
      rw [x1, rank_find (kp_keep h) (Y := σ) rfl hag hcn i, if_pos ⟨i0, i1⟩] at e
      exact e
    have hev := ev_ydrawTable_y (dtM σ) (nS σ) (oS σ) hn (by rw [row]; exact hB) (fun i i0 i1 => (ho i i0 i1).1) pa (lay_ok h rowm) (hst _ row) (hst _ rowX) (by rw [row]; exact k0) (by
      have m0 : ∀ t, wr (sumTo (fo_minState t (dtM σ)) (dtM σ 13 186 3)) = cntP (fun b => decide (ga (σ 13 186) b 4 = t)) (σ 13 186 3) := fun t => by
        rw [← stM h t, row]
        exact congrArg wr (sumTo_congr fun b _ _ => by unfold fo_minState; rw [mat_row2, mat_row2, row])
      rw [m0, m0, wr_eq (by omega) (by omega)]
      omega) (by rw [row]; exact hra)
    rw [row] at hev
    refine ⟨_, _, hev, ?_, Or.inl ⟨_, rfl, ?_, rfl⟩⟩
    · have hp2 : 0 ≤ (up (dtM σ) 11 0 6 0) 11 0 4 ∧ (up (dtM σ) 11 0 6 0) 11 0 4 ≤ 8 := by rw [up_o (by omega)]; exact pa
      obtain ⟨m1, -⟩ := mch_facts hp2
      have dX : ∀ C r k, ¬ (C = 13 ∧ (r = 189 ∨ r = 190)) → dtX (dtM σ) (nS σ) (oS σ) C r k = zm_mchanges (up (dtM σ) 11 0 6 0) C r k := fun C r k z => by
        unfold dtX wsd
        rw [if_neg (by omega), laid_o (by omega)]
      have hKP : KP N (cTab (cv (rkS0 σ) 0) (σ 13 186 3) (nS σ) (oS σ)) (gTab (σ 13 186) (σ 13 186 3) (nS σ) (oS σ)) := KP_tab (KP_c (kp_keep h) (fun C k q => cv_rkS0 q)) k0 k6 hn ho (fun i j i0 i1 j0 j1 z => rank_inj (kp_keep h) (Y := σ) rfl i0 i1 j0 j1 z)
      refine J_chg2 (c' := cTab (cv (rkS0 σ) 0) (σ 13 186 3) (nS σ) (oS σ)) (g' := gTab (σ 13 186) (σ 13 186 3) (nS σ) (oS σ)) h (Int.le_refl N) hKP (fun C r k z => ?_) (fun C r k z => ?_)
      · rw [wg_o (by unfold clsP at z; omega), dX _ _ _ (by unfold clsP at z; omega), m1 _ _ _ (by unfold clsP at z; omega) (by unfold clsP at z; omega), up_o (by unfold clsP at z; omega)]
        unfold dtM
        by_cases qw : (C = 0 ∨ C = 2 ∨ C = 3 ∨ C = 4 ∨ C = 6 ∨ C = 9) ∧ r = 0
        · unfold wcm
          rw [if_pos qw, if_pos qw]
        · by_cases qr : C = 13 ∧ 0 ≤ r ∧ r < 18
          · unfold wcm
            rw [if_neg qw, if_neg qw, if_pos qr, if_pos qr]
          · rw [wcm_o qw qr, wcm_o qw qr]
            exact rkS0_c (by unfold clsP at z; omega) (by unfold clsP at z; omega)
      · by_cases z6 : C = 13 ∧ r = 186
        · obtain ⟨rfl, rfl⟩ := z6
          rw [wg_r, wg_r]
        · rw [wg_o z6, wg_o z6, dX _ _ _ (by unfold modP at z; omega)]
          refine mch_cong (fun C r k z => ?_) rg.2.2.2.2.2.2.1 C r k z
          rw [up_o (by unfold modP at z; omega)]
          exact dtM_mod h (by unfold modP at z; omega)
    · have hp2 : 0 ≤ (up (dtM σ) 11 0 6 0) 11 0 4 ∧ (up (dtM σ) 11 0 6 0) 11 0 4 ≤ 8 := by rw [up_o (by omega)]; exact pa
      obtain ⟨m1, -⟩ := mch_facts hp2
      rw [wg_o (by omega)]
      unfold dtX wsd
      rw [if_neg (by omega), laid_o (by omega), m1 _ _ _ (by omega) (by omega), up_s]
  · have ea : zm_xdrawTable (dtM σ) σ = σ := by
      unfold zm_xdrawTable
      rw [c0, cin_S h]
      by_cases q0 : σ 2 0 0 = 1
      · rw [if_neg (fun z => z q0)]
        by_cases q6 : σ 2 0 2 = -1
        · rw [if_neg (fun z => z q6)]
          by_cases qz : cntP (fun b => decide (ga (σ 13 186) b 4 = 0)) (σ 13 186 3) ≤ 0
          · rw [if_pos qz, if_neg (by omega)]
          · rw [if_neg qz]
        · rw [if_pos q6]
      · rw [if_pos q0]
    have eo : zo_xdrawTable (dtM σ) σ = .inr 1 := by
      unfold zo_xdrawTable
      rw [c0, cin_S h]
      by_cases q0 : σ 2 0 0 = 1
      · rw [if_neg (fun z => z q0)]
        by_cases q6 : σ 2 0 2 = -1
        · rw [if_neg (fun z => z q6)]
          by_cases qz : cntP (fun b => decide (ga (σ 13 186) b 4 = 0)) (σ 13 186 3) ≤ 0
          · rw [if_pos qz, if_neg (by omega)]
          · rw [if_neg qz]
        · rw [if_pos q6]
      · rw [if_pos q0]
    rw [ea, eo]
    refine ⟨_, _, ev_ydrawTable_n σ (nS σ) rg.2.2.2.1 (hst σ rfl) ?_, J_thr h, Or.inr ⟨_, rfl, up_s _ _ _ _ _, by decide⟩⟩
    rw [stM h 0, stM h 1, wr_eq (by omega) (by omega)]
    rintro ⟨z0, z1, z2⟩
    exact hok ⟨z0, by omega, by omega, z2⟩
end DTd
