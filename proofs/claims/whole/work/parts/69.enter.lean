/-! A result is entered, on both sides. -/
theorem mat_row2 {F : Mem} {b w : Int} : mat F b w = ga (F 13 186) b w := id rfl
section Enter
variable {N M b s x y w r : Int} {σ K Y aa bb : Mem} {c c' : Cs} {g g' : Gs}
theorem knows_w (hk : KP N c g) (h0 : 0 ≤ b) (hb : b < g 3) : (¬ zo_knowsBoth 0 b (wcm K c) = 0) ↔ (0 ≤ ga g b 0 ∧ 0 ≤ ga g b 1) := by
  have i1 := hk.1.1
  have hb307 : 0 ≤ b ∧ b < 307 := by unfold I1 at i1; omega
  have h3 := hk.2.1.2.2.1 b h0 hb
  have ib := hk.1.2.1 b h0 hb
  unfold R3b at h3
  have hm : -1 ≤ ga g b 0 ∧ -1 ≤ ga g b 1 := by unfold IB at ib; exact ⟨ib.2.1.1, ib.2.2.1.1⟩
  unfold zo_knowsBoth
  rw [cz_fe hb307 (by decide), cz_fe hb307 (by decide), show 2 * b + 0 = 2 * b by omega, h3.1, h3.2.1]
  by_cases q0 : ga g b 0 = -1
  · rw [if_pos q0]; omega
  · rw [if_neg q0]
    by_cases q1 : ga g b 1 = -1
    · rw [if_pos q1]; omega
    · rw [if_neg q1]; omega
theorem reason_eq (hk : KP N c g) (hY : Y 13 186 = g) (h0 : 0 ≤ b) (hb : b < g 3) : zo_reasonAgainst 0 b x y w (wcm K c) = zo_mreasonFor b x y w Y := by
  have i1 := hk.1.1
  have hb307 : (0 ≤ b ∧ b < 307) ∧ -1 ≤ g 6 := by unfold I1 at i1; omega
  have h3 := hk.2.1.2.2.1 b h0 hb
  have r1 := hk.2.1.1
  unfold R3b at h3
  unfold R1 at r1
  have tm := tg_m hk.1 h0 hb
  have tc := tg_c (b := b) hk.2.1
  have kn := knows_w (K := K) hk h0 hb
  unfold zo_reasonAgainst zo_mreasonFor zo_mtarget
  simp only [kn, z0, mat_row2, cz_tg, tc, wk_2]
  simp only [hY, tm]
  rw [ wr_11g hb307.1, h3.2.2.2.2.1, r1.2.2.1]
  generalize ga g b 4 = A
  generalize ga g b 0 = L
  generalize ga g b 1 = R
  generalize tgB g b = T
  generalize g 6 = G at hb307
  have hG := hb307.2
  clear hb307 kn tm tc h3 r1 i1 hk
  by_cases q1 : A = 0
  · rw [if_pos q1, if_pos q1]
    by_cases q2 : G = -1
    · rw [if_pos q2, if_pos (show G < 0 by omega)]
      by_cases q3 : 0 ≤ L ∧ 0 ≤ R
      · rw [if_pos q3, if_pos q3]
        by_cases q4 : 0 ≤ x ∧ x ≤ T
        · rw [if_neg (by omega), if_neg (by omega), if_pos q4]
          by_cases q5 : 0 ≤ y ∧ y ≤ T
          · rw [if_neg (by omega), if_pos q5.2, if_pos q5]
            repeat' split
            all_goals omega
          · rw [if_neg q5]
            by_cases q6 : y < 0
            · rw [if_pos q6]
            · rw [if_neg q6, if_neg (by omega)]
        · rw [if_neg q4]
          by_cases q6 : x < 0
          · rw [if_pos q6]
          · rw [if_neg q6, if_pos (by omega)]
      · rw [if_neg q3, if_neg q3]
    · rw [if_neg q2, if_neg (show ¬ G < 0 by omega)]
  · rw [if_neg q1, if_neg q1]
theorem reason_0 (hk : KP N c g) (hY : Y 13 186 = g) (h0 : 0 ≤ b) (hb : b < g 3) (h : zo_mreasonFor b x y w Y ≤ 0) : ga g b 4 = 0 ∧ g 6 = -1 ∧ (0 ≤ ga g b 0 ∧ 0 ≤ ga g b 1) ∧ (0 ≤ x ∧ x ≤ tgB g b) ∧ (0 ≤ y ∧ y ≤ tgB g b) ∧ (x = y → w = 0 ∨ w = 1) := by
  have i1 := hk.1.1
  have hg : -1 ≤ g 6 := by unfold I1 at i1; omega
  have tm := tg_m hk.1 h0 hb
  unfold zo_mreasonFor zo_mtarget at h
  simp only [mat_row2, hY, tm] at h
  generalize ga g b 4 = A at h ⊢
  generalize ga g b 0 = L at h ⊢
  generalize ga g b 1 = R at h ⊢
  generalize tgB g b = T at h ⊢
  generalize g 6 = G at h hg ⊢
  clear tm i1 hk
  by_cases q1 : A = 0
  · rw [if_pos q1] at h
    by_cases q2 : G < 0
    · rw [if_pos q2] at h
      by_cases q3 : 0 ≤ L ∧ 0 ≤ R
      · rw [if_pos q3] at h
        by_cases q4 : 0 ≤ x ∧ x ≤ T
        · rw [if_pos q4] at h
          by_cases q5 : 0 ≤ y ∧ y ≤ T
          · rw [if_pos q5] at h
            refine ⟨q1, by omega, q3, q4, q5, fun e => ?_⟩
            repeat' split at h
            all_goals omega
          · rw [if_neg q5] at h; exact absurd h (by decide)
        · rw [if_neg q4] at h; exact absurd h (by decide)
      · rw [if_neg q3] at h; exact absurd h (by decide)
    · rw [if_neg q2] at h; exact absurd h (by decide)
  · rw [if_neg q1] at h; exact absurd h (by decide)
theorem reason_nn : 0 ≤ zo_mreasonFor b x y w Y := by
  unfold zo_mreasonFor
  repeat' split
  all_goals decide
theorem kp_keep2 (h : J N aa bb) : KP N (cv (zm_keep 0 aa) 0) (bb 13 186) := by
  obtain ⟨k1, k2, k3, k4⟩ := keep_facts h.2.1 h.1
  refine KP_c h.1 (fun C k q => ?_)
  unfold ownK at q
  unfold cv
  by_cases hC : C < 10
  · rw [if_pos hC, if_pos hC]; exact k1 _ _ _ (by omega) (by omega) (by omega)
  · rw [if_neg hC, if_neg hC]; exact k1 _ _ _ (by omega) (by omega) (by omega)
theorem enter_J (h : J N aa bb) (h0 : 0 ≤ b) (hb : b < bb 13 186 3) : zo_reasonAgainst 0 b x y w aa = zo_mreasonFor b x y w bb ∧ (zo_mreasonFor b x y w bb = 0 → ∃ c' g', KP N c' g' ∧ zm_eur b x y w aa = wcm (zm_keep 0 aa) c' ∧ (∀ Y, Y 13 186 = bb 13 186 → 0 ≤ Y 11 0 4 ∧ Y 11 0 4 ≤ 8 → zm_menters b x y w Y = wg (zm_mchanges Y) g' ∧ zo_menters b x y w Y = c' 22 b) ∧ g' 3 = bb 13 186 3 ∧ 0 ≤ c' 22 b) := by
  have hre : zo_reasonAgainst 0 b x y w aa = zo_mreasonFor b x y w bb := by
    have := reason_eq (K := aa) (x := x) (y := y) (w := w) (Y := bb) h.1 rfl h0 hb
    rw [wcm_id] at this
    exact this
  refine ⟨hre, fun hz => ?_⟩
  have hk := kp_keep2 h
  generalize hc0 : cv (zm_keep 0 aa) 0 = c at hk
  have eK : zm_keep 0 aa = wcm (zm_keep 0 aa) c := by rw [← hc0]; exact (wcm_id _).symm
  generalize hg : bb 13 186 = g at hk hb
  have i1 := hk.1.1
  have hb307 : 0 ≤ b ∧ b < 307 := by unfold I1 at i1; omega
  obtain ⟨z1, z2, z3, z4, z5, z6⟩ := reason_0 hk hg h0 hb (by rw [hz]; decide)
  have ht15 : tgB g b ≤ 15 := by unfold tgB; split <;> omega
  have a2 : ga (gs (gs g (250 + 10 * b + 2) x) (250 + 10 * b + 3) y) b 2 = x := by unfold ga; rw [gs_o (by omega), gs_s rfl]
  have a3 : ga (gs (gs g (250 + 10 * b + 2) x) (250 + 10 * b + 3) y) b 3 = y := gs_s rfl
  obtain ⟨c', g', f1, f2, f3, f4, f5, f6, f7⟩ := fin_all (s := if x = y then w else if x ≤ y then 1 else 0) (c0 := cset (cset c 20 (2 * b) x) 20 (2 * b + 1) y) (g0 := gs (gs g (250 + 10 * b + 2) x) (250 + 10 * b + 3) y) hk h0 hb (Or.inl z1) z3 (by by_cases q : x = y; (rw [if_pos q]; exact z6 q); (rw [if_neg q]; split; exact Or.inr rfl; exact Or.inl rfl)) (Or.inr z2) (fun k q1 q2 => by rw [gs_o q2, gs_o q1]) (fun C k q => by rw [cset_o (by omega), cset_o (by omega)]) (by rw [cset_o (by omega), cset_s ⟨rfl, rfl⟩, a2]) (by rw [cset_s ⟨rfl, rfl⟩, a3]) (by rw [a2]; omega) (by rw [a3]; omega)
  have hb' : b < g' 3 := by rw [f4]; exact hb
  have h3' := f3.2.1.2.2.1 b h0 hb'
  have ib' := f3.1.2.1 b h0 hb'
  unfold R3b at h3'
  have w22 : c' 22 b = ga g' b (ga g' b 5) ∧ 0 ≤ ga g' b (ga g' b 5) := by
    unfold IB at ib'
    obtain ⟨b1, b2, b3, b4, b5, b6, b7, b8, b9, ba, bb', bc, -⟩ := ib'
    obtain ⟨e5, e0, e1⟩ := bc f5
    have e22 := h3'.2.2.2.2.2.1
    rw [if_neg (by omega)] at e22
    refine ⟨e22, ?_⟩
    have : ga g' b 5 = 0 ∨ ga g' b 5 = 1 := by omega
    rcases this with q | q
    · rw [q]; exact e0
    · rw [q]; exact e1
  refine ⟨c', g', f3, ?_, fun Y hY hp => ?_, f4, by rw [w22.1]; exact w22.2⟩
  · have e := f1 (zm_keep 0 aa)
    rw [← e]
    have er : rset (rset (zm_keep 0 aa) 10 (wr (wr (2 * b) + 0)) x) 10 (wr (wr (2 * b) + 1)) y = wcm (zm_keep 0 aa) (cset (cset c 20 (2 * b) x) 20 (2 * b + 1) y) := by
      have e2 : ∀ K, rset (rset (wcm K c) 10 (wr (wr (2 * b) + 0)) x) 10 (wr (wr (2 * b) + 1)) y = wcm K (cset (cset c 20 (2 * b) x) 20 (2 * b + 1) y) := fun K => by
        rw [wr_eq (z := 2 * b) (by omega) (by omega), wr_eq (z := 2 * b + 0) (by omega) (by omega), wr_eq (z := 2 * b + 1) (by omega) (by omega), show 2 * b + 0 = 2 * b by omega, ws_10 (by omega), ws_10 (by omega)]
      exact (congrArg (fun Z => rset (rset Z 10 (wr (wr (2 * b) + 0)) x) 10 (wr (wr (2 * b) + 1)) y) eK).trans (e2 _)
    unfold zm_eur
    rw [hre, hz, if_pos rfl, er]
    by_cases q : x = y
    · rw [if_neg (by omega), if_pos q]
    · rw [if_pos q, if_neg q]
      by_cases q2 : x ≤ y
      · rw [if_pos q2, if_pos q2]
      · rw [if_neg q2, if_neg q2]
  · obtain ⟨m1, -⟩ := mch_facts (b := Y) hp
    have hrow : zm_mchanges Y 13 186 = g := by
      rw [← hY]
      exact funext fun k => m1 _ _ _ (by omega) (by omega)
    have hz2 : zo_mreasonFor b x y w Y ≤ 0 := by
      have e1 := reason_eq (K := aa) (x := x) (y := y) (w := w) (Y := Y) hk hY h0 hb
      have e2 := reason_eq (K := aa) (x := x) (y := y) (w := w) (Y := bb) hk hg h0 hb
      omega
    have hm : zm_mchanges Y = wg (zm_mchanges Y) g := by rw [← hrow]; exact (wg_id _).symm
    have e3 : mput (mput (zm_mchanges Y) b 2 x) b 3 y = wg (zm_mchanges Y) (gs (gs g (250 + 10 * b + 2) x) (250 + 10 * b + 3) y) := by
      generalize zm_mchanges Y = Z at hm
      rw [hm, mput_wg, mput_wg, wg_wg]
    have e := f2 (zm_mchanges Y)
    have ez : zm_menters b x y w Y = wg (zm_mchanges Y) g' := by
      rw [← e]
      unfold zm_menters
      rw [if_pos hz2, e3]
      by_cases q2 : x ≤ y
      · rw [if_pos q2]
        by_cases q : x = y
        · rw [if_pos (by omega), if_pos q]
        · rw [if_neg (by omega), if_neg q, if_pos q2]
      · rw [if_neg q2, if_neg (by omega), if_neg q2]
    refine ⟨ez, ?_⟩
    have eo : zo_menters b x y w Y = mat (zm_menters b x y w Y) b (mat (zm_menters b x y w Y) b 5) := by
      unfold zo_menters zm_menters
      rw [if_pos hz2, if_pos hz2]
      repeat' split
      all_goals rfl
    rw [eo, ez, mat_wg, mat_wg, w22.1]
/-- a result is refused -/
theorem J_ref (h : J N aa bb) : J N (up aa 10 0 6 r) (up bb 11 0 5 r) := by
  obtain ⟨j0, ⟨h1, h2, h3, h4⟩, ⟨s1, s2, s3⟩, ⟨t1, t2, t3, t4, t5⟩, jl⟩ := h
  have ec : ∀ m C k, ownK C → cv (up aa 10 0 6 r) m C k = cv aa m C k := fun m C k q => by
    unfold ownK at q
    unfold cv
    by_cases hC : C < 10
    · rw [if_pos hC, if_pos hC]; exact up_o (by omega)
    · rw [if_neg hC, if_neg hC]; exact up_o (by omega)
  exact ⟨KP_c j0 (ec 0), ⟨h1, h2, h3, fun i i0 i1 => KP_c (h4 i i0 i1) (ec _)⟩, ⟨s1, s2, fun q => KP_c (s3 q) (ec 1)⟩, ⟨(up_s _ _ _ _ _).trans (up_s _ _ _ _ _).symm, t2, t3, t4, t5⟩, jl⟩
theorem ca_enter (h : J N σ σ) : Cal N 202 [aR 11 0, aI b, aI x, aI y, aI w] (zo_xenter b x y w σ) (zm_xenter b x y w σ) (fun E => if E = 2 then 1 else 2) := by
  have r1 := J_R1 h
  have rg := J_rg h
  have hWin : ∀ F : Mem, F 13 186 = σ 13 186 → 0 ≤ b → b < F 13 186 3 → WinOK b F := fun F hF q0 q1 => by
    have hh := fin_hyp (b := b) h.1.1 q0 (by rw [← hF]; exact q1)
    unfold WinOK
    simp only [fo_row, mat_row]
    rw [hF] at q1 ⊢
    exact ⟨⟨q0, by omega⟩, hh⟩
  by_cases hb : 0 ≤ b ∧ b < σ 13 186 3
  · obtain ⟨e1, e2⟩ := enter_J (x := x) (y := y) (w := w) h hb.1 hb.2
    have hnn := reason_nn (b := b) (x := x) (y := y) (w := w) (Y := σ)
    by_cases hz : zo_mreasonFor b x y w σ = 0
    · obtain ⟨c', g', f1, f2, f3, f4, f5⟩ := e2 hz
      have eu : zo_eur b x y w σ = 1 := by
        unfold zo_eur
        rw [e1, hz, if_pos rfl]
        repeat' split
        all_goals rfl
      have ea : zm_xenter b x y w σ = wcm (zm_keep 0 σ) c' := by
        unfold zm_xenter
        rw [if_neg (by rw [x_has]; omega), eu, if_pos (by decide), f2]
      have eo : zo_xenter b x y w σ = .inl (some (aI (c' 22 b))) := by
        unfold zo_xenter
        rw [if_neg (by rw [x_has]; omega), eu, if_pos (by decide), f2, wr_12g (by omega)]
      rw [ea, eo]
      have er := keep_row (c' := c') h
      have erX : (up (wcm (zm_keep 0 σ) c') 11 0 6 0) 13 186 = σ 13 186 := by
        rw [← er]
        exact funext fun k => up_o (by omega)
      obtain ⟨g1, g2⟩ := f3 (up (wcm (zm_keep 0 σ) c') 11 0 6 0) erX (by rw [up_o (by omega)]; exact pasts_keep h)
      refine ⟨_, _, ev_yenter b x y w _ (pasts_keep h) (by rw [er]; exact rg.2.2.2.1) (hWin _ er), ?_, ?_⟩
      · unfold zm_yenter
        rw [er, if_pos hb, g2, if_pos f5, g1]
        exact J_chg h (Int.le_refl N) f1
      · refine Or.inl ⟨_, rfl, ?_, ?_⟩
        · unfold zm_yenter
          rw [er, if_pos hb, g2, if_pos f5, g1]
          exact mch_6 h
        · unfold zo_yenter
          rw [er, if_pos hb, g2, if_pos f5]
    · generalize hR : zo_mreasonFor b x y w σ = R at *
      have eu : zo_eur b x y w σ = 0 := by
        unfold zo_eur
        rw [e1, if_neg hz]
      have ea : zm_xenter b x y w σ = up σ 10 0 6 R := by
        unfold zm_xenter
        rw [if_neg (by rw [x_has]; omega), eu, if_neg (by decide)]
        unfold zm_eur
        rw [e1, if_neg hz]
      have eo : zo_xenter b x y w σ = .inr 4 := by
        unfold zo_xenter
        rw [if_neg (by rw [x_has]; omega), eu, if_neg (by decide)]
      rw [ea, eo]
      have e6 : (up σ 10 0 6 R) 13 186 = σ 13 186 := rfl
      have hRX : zo_mreasonFor b x y w (up (up σ 10 0 6 R) 11 0 6 0) = R := hR
      have em : zm_menters b x y w (up (up σ 10 0 6 R) 11 0 6 0) = up (up (up σ 10 0 6 R) 11 0 6 0) 11 0 5 R := by
        unfold zm_menters
        rw [hRX, if_neg (by omega)]
      have eom : zo_menters b x y w (up (up σ 10 0 6 R) 11 0 6 0) = -1 := by
        unfold zo_menters
        rw [hRX, if_neg (by omega)]
      refine ⟨_, _, ev_yenter b x y w _ rg.2.2.2.2.2.2.1 rg.2.2.2.1 (hWin _ e6), ?_, ?_⟩
      · unfold zm_yenter
        rw [e6, if_pos hb, eom, if_neg (by decide), em]
        refine J_mod (b := up σ 11 0 5 R) (J_cls (a := up σ 10 0 6 R) (J_ref h) (fun C r' k q => ?_)) (fun C r' k q => ?_)
        · rw [up_o (by unfold clsP at q; omega), up_o (by unfold clsP at q; omega), up_o (by unfold clsP at q; omega)]
        · unfold up
          unfold modP at q
          by_cases q1 : C = 11 ∧ r' = 0 ∧ k = 5
          · rw [if_neg (by omega), if_pos q1, if_pos q1]
          · rw [if_neg (by omega), if_neg q1, if_neg (by omega), if_neg (by omega), if_neg q1]
      · refine Or.inr ⟨_, rfl, ?_, by decide⟩
        unfold zm_yenter
        rw [e6, if_pos hb, eom, if_neg (by decide)]
        exact up_s _ _ _ _ _
  · have ea : zm_xenter b x y w σ = σ := by
      unfold zm_xenter
      rw [if_pos (by rw [x_has]; omega)]
    have eo : zo_xenter b x y w σ = .inr 2 := by
      unfold zo_xenter
      rw [if_pos (by rw [x_has]; omega)]
    rw [ea, eo]
    refine ⟨_, _, ev_yenter b x y w _ rg.2.2.2.2.2.2.1 rg.2.2.2.1 (hWin _ rfl), ?_, ?_⟩
    · unfold zm_yenter
      rw [if_neg hb]; exact J_thr h
    · unfold zm_yenter
      rw [if_neg hb]; exact Or.inr ⟨_, rfl, up_s _ _ _ _ _, by decide⟩
end Enter
