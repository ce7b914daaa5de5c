/-! A leg of the relay, on both sides. -/
section Leg
variable {N M x y s : Int} {σ K X : Mem} {c c' : Cs} {g g' : Gs}
theorem KP_rel (hk : KP N c g) (e : ∀ k, k ≠ 7 → ¬ (9 ≤ k ∧ k < 30) → g' k = g k) (h7 : 0 ≤ g' 7 ∧ g' 7 ≤ 2147483647) (hR : IRl g') (ec : ∀ C k, ¬ (C = 2 ∧ k = 1) → C ≠ 4 → C ≠ 27 → c' C k = c C k) (h21 : c' 2 1 = g' 7) (hR7 : R7 c' g') : KP N c' g' :=
  ⟨IV_sm hk.1 e h7 hR, RV_sm hk.1 hk.2.1 e ec h21 hR7, IX_sm hk.1 hk.2.2 e⟩
/-- the model's leg after what is kept -/
def lTail (x y : Int) (Y : Mem) : Mem :=
  if ¬ wr (Y 13 186 18 + 1) = 9 then up (up (up Y 13 186 19 (wr (Y 13 186 19 + x))) 13 186 20 (wr (Y 13 186 20 + y))) 13 186 18 (wr (Y 13 186 18 + 1))
  else if ¬ wr (wr (Y 13 186 19 + x) - wr (Y 13 186 20 + y)) = 0 then (if wr (wr (Y 13 186 19 + x) - wr (Y 13 186 20 + y)) ≤ 0 then up (up (up (up (up Y 13 186 19 (wr (Y 13 186 19 + x))) 13 186 20 (wr (Y 13 186 20 + y))) 13 186 18 (wr (Y 13 186 18 + 1))) 13 186 22 0) 13 186 21 (Y 13 186 11) else up (up (up (up (up Y 13 186 19 (wr (Y 13 186 19 + x))) 13 186 20 (wr (Y 13 186 20 + y))) 13 186 18 (wr (Y 13 186 18 + 1))) 13 186 22 0) 13 186 21 (Y 13 186 10))
  else up (zm_mdraws (up (up (up (up Y 13 186 19 (wr (Y 13 186 19 + x))) 13 186 20 (wr (Y 13 186 20 + y))) 13 186 18 (wr (Y 13 186 18 + 1))) 13 186 22 1)) 13 186 21 ((zm_mdraws (up (up (up (up Y 13 186 19 (wr (Y 13 186 19 + x))) 13 186 20 (wr (Y 13 186 20 + y))) 13 186 18 (wr (Y 13 186 18 + 1))) 13 186 22 1)) 13 186 (wr (10 + zo_mdraws (up (up (up (up Y 13 186 19 (wr (Y 13 186 19 + x))) 13 186 20 (wr (Y 13 186 20 + y))) 13 186 18 (wr (Y 13 186 18 + 1))) 13 186 22 1))))
theorem yleg_eq {F : Mem} (h9 : ¬ F 13 186 9 = 0) (h18 : ¬ F 13 186 18 = 9) (f0 : ¬ zo_mfits 0 x F = 0) (f1 : ¬ zo_mfits 1 y F = 0) : zm_yleg x y F = lTail x y (zm_mchanges (up F 11 0 6 0)) ∧ (zo_yleg x y F = wr (9 - wr (zm_mchanges (up F 11 0 6 0) 13 186 18 + 1))) := by
  unfold zm_yleg zo_yleg lTail
  rw [if_neg h9, if_neg h9, if_pos h18, if_pos h18, if_neg f0, if_neg f0, if_neg f1, if_neg f1]
  generalize zm_mchanges (up F 11 0 6 0) = Y
  have hd : ∀ Z : Mem, zm_mdraws Z 13 186 18 = Z 13 186 18 := fun Z => up_o (by omega)
  constructor
  · by_cases q1 : ¬ wr (Y 13 186 18 + 1) = 9
    · rw [if_pos q1, if_pos q1]
    · rw [if_neg q1, if_neg q1]
      by_cases q2 : ¬ wr (wr (Y 13 186 19 + x) - wr (Y 13 186 20 + y)) = 0
      · rw [if_pos q2, if_pos q2, if_pos q2]
      · rw [if_neg q2, if_neg q2, if_neg q2]
  · by_cases q1 : ¬ wr (Y 13 186 18 + 1) = 9
    · rw [if_pos q1]
    · rw [if_neg q1]
      by_cases q2 : ¬ wr (wr (Y 13 186 19 + x) - wr (Y 13 186 20 + y)) = 0
      · rw [if_pos q2, if_pos q2]
        split <;> rfl
      · rw [if_neg q2, if_neg q2, hd, up_o (by omega), up_s]
theorem leg_all (hk : KP N c g) (h9 : g 9 = 1) (hT : g 18 < 9) (hx : 0 ≤ x ∧ x ≤ 5 * (g 18 + 1) - g 19) (hy : 0 ≤ y ∧ y ≤ 5 * (g 18 + 1) - g 20) : ∃ c' g', (∀ K, zm_tellLeg 0 x y (wcm K c) = wcm K c') ∧ (∀ X, lTail x y (wg X g) = wg X g') ∧ KP N c' g' ∧ c' 4 3 = g 18 + 1 := by
  have hr := hk.1.2.2.2.1
  have r7 := hk.2.1.2.2.2.2.2.2
  have r21 : c 2 1 = g 7 := hk.2.1.1.2.1
  have i7 : 0 ≤ g 7 ∧ g 7 ≤ 2147483647 := by have := hk.1.1; unfold I1 at this; omega
  unfold IRl at hr
  unfold R7 at r7
  obtain ⟨a0, a3, a4, a5, a7, a8⟩ := r7
  obtain ⟨b1, b2, b6, b27⟩ := a8 h9
  have w19 : wr (g 19 + x) = g 19 + x := wr_eq (by omega) (by omega)
  have w20 : wr (g 20 + y) = g 20 + y := wr_eq (by omega) (by omega)
  have w18 : wr (g 18 + 1) = g 18 + 1 := wr_eq (by omega) (by omega)
  have wd : wr (g 19 + x - (g 20 + y)) = g 19 + x - (g 20 + y) := wr_eq (by omega) (by omega)
  generalize hc1 : cset (cset (cset c 4 4 (g 19 + x)) 4 5 (g 20 + y)) 4 3 (g 18 + 1) = c1
  generalize hg1 : gs (gs (gs g 19 (g 19 + x)) 20 (g 20 + y)) 18 (g 18 + 1) = g1
  have hadd : ∀ K, zm_radd 0 x y (wcm K c) = wcm K c1 := fun K => by
    unfold zm_radd
    rw [wk_4, a4, w19, wu_4, wk_4, cset_o (by omega), a5, w20, wu_4, wk_4, cset_o (by omega), cset_o (by omega), a3, w18, wu_4, hc1]
  have d3 : c1 4 3 = g 18 + 1 := by rw [← hc1, cset_s ⟨rfl, rfl⟩]
  have d4 : c1 4 4 = g 19 + x := by rw [← hc1, cset_o (by omega), cset_o (by omega), cset_s ⟨rfl, rfl⟩]
  have d5 : c1 4 5 = g 20 + y := by rw [← hc1, cset_o (by omega), cset_s ⟨rfl, rfl⟩]
  have dc : ∀ C k, ¬ (C = 4 ∧ (k = 3 ∨ k = 4 ∨ k = 5)) → c1 C k = c C k := fun C k q => by rw [← hc1, cset_o (by omega), cset_o (by omega), cset_o (by omega)]
  have eg : ∀ k, ¬ (k = 18 ∨ k = 19 ∨ k = 20) → g1 k = g k := fun k q => by rw [← hg1, gs_o (by omega), gs_o (by omega), gs_o (by omega)]
  have e18 : g1 18 = g 18 + 1 := by rw [← hg1, gs_s rfl]
  have e19 : g1 19 = g 19 + x := by rw [← hg1, gs_o (by omega), gs_o (by omega), gs_s rfl]
  have e20 : g1 20 = g 20 + y := by rw [← hg1, gs_o (by omega), gs_s rfl]
  have hY : ∀ X, up (up (up (wg X g) 13 186 19 (g 19 + x)) 13 186 20 (g 20 + y)) 13 186 18 (g 18 + 1) = wg X g1 := fun X => by rw [up_wg, up_wg, up_wg, hg1]
  have hI1 : IRl g1 := by
    unfold IRl
    rw [eg 9 (by decide), e18, e19, e20, eg 22 (by decide)]
    omega
  by_cases q1 : g 18 + 1 = 9
  · by_cases q2 : g 19 + x = g 20 + y
    · -- the winner is drawn
      have hsd : 0 ≤ (g 7 * 1103515245 + 12345) % 2147483648 ∧ (g 7 * 1103515245 + 12345) % 2147483648 < 2147483648 := by omega
      generalize hs : (g 7 * 1103515245 + 12345) % 2147483648 = sd at hsd
      generalize hw : sd / 65536 % 2 = w
      have hw01 : w = 0 ∨ w = 1 := by omega
      refine ⟨cset (cset (cset c1 4 7 1) 2 1 sd) 4 6 (if w = 0 then c1 4 1 else c1 4 2), gs (gs (gs g1 22 1) 7 sd) 21 (g (10 + w)), fun K => ?_, fun X => ?_, ?_, ?_⟩
      · unfold zm_tellLeg
        rw [hadd, wk_4, d3, if_neg (by omega), wk_4, wk_4, d4, d5, if_neg (by omega), wu_4, wk_4, cset_s ⟨rfl, rfl⟩, if_neg (by decide)]
        unfold zm_drawSide zo_drawSide
        rw [wk_2, cset_o (by omega), dc 2 1 (by omega), r21, seedC i7.1 (by omega), hs, up_s, Int.tdiv_eq_ediv_of_nonneg hsd.1, wr_eq (by omega) (by omega), tm2 (by omega), hw, wu_2]
        unfold zm_decide
        rcases hw01 with rfl | rfl
        · rw [if_neg (by decide), wk_4, cset_o (by omega), cset_o (by omega), wu_4]
          rfl
        · rw [if_pos (by decide), wk_4, cset_o (by omega), cset_o (by omega), wu_4]
          rfl
      · unfold lTail
        simp only [wg_r]
        rw [w18, w19, w20, wd, if_neg (by omega), if_neg (by omega), hY, up_wg]
        unfold zm_mdraws zo_mdraws
        rw [wg_r, gs_o (by omega), eg 7 (by omega), seedM, hs, ishr_16 hsd.1 hsd.2, tm2 (by omega), hw, up_wg, wr_eq (by omega) (by omega), wg_r, up_wg, gs_o (by omega), gs_o (by omega), eg (10 + w) (by omega)]
      · have dg : ∀ k, ¬ (k = 7 ∨ k = 21 ∨ k = 22 ∨ k = 18 ∨ k = 19 ∨ k = 20) → gs (gs (gs g1 22 1) 7 sd) 21 (g (10 + w)) k = g k := fun k q => by rw [gs_o (by omega), gs_o (by omega), gs_o (by omega), eg k (by omega)]
        have f7 : gs (gs (gs g1 22 1) 7 sd) 21 (g (10 + w)) 7 = sd := by rw [gs_o (by omega), gs_s rfl]
        have f22 : gs (gs (gs g1 22 1) 7 sd) 21 (g (10 + w)) 22 = 1 := by rw [gs_o (by omega), gs_o (by omega), gs_s rfl]
        have f21 : gs (gs (gs g1 22 1) 7 sd) 21 (g (10 + w)) 21 = g (10 + w) := gs_s rfl
        have f18 : gs (gs (gs g1 22 1) 7 sd) 21 (g (10 + w)) 18 = g 18 + 1 := by rw [gs_o (by omega), gs_o (by omega), gs_o (by omega), e18]
        have f19 : gs (gs (gs g1 22 1) 7 sd) 21 (g (10 + w)) 19 = g 19 + x := by rw [gs_o (by omega), gs_o (by omega), gs_o (by omega), e19]
        have f20 : gs (gs (gs g1 22 1) 7 sd) 21 (g (10 + w)) 20 = g 20 + y := by rw [gs_o (by omega), gs_o (by omega), gs_o (by omega), e20]
        refine KP_rel hk (fun k k0 k1 => dg k (by omega)) (by rw [f7]; omega) ?_ (fun C k q q4 q27 => by rw [cset_o (by omega), cset_o (by omega), cset_o (by omega), dc C k (by omega)]) ?_ ?_
        · unfold IRl
          rw [dg 9 (by decide), f18, f19, f20, f22]
          omega
        · rw [cset_o (by omega), cset_s ⟨rfl, rfl⟩, f7]
        · unfold R7
          rw [dg 9 (by decide), dg 10 (by decide), dg 11 (by decide), f18, f19, f20, f21, f22]
          refine ⟨?_, ?_, ?_, ?_, ?_, fun _ => ⟨?_, ?_, ?_, fun i i0 i1 => ?_⟩⟩
          · rw [cset_o (by omega), cset_o (by omega), cset_o (by omega), dc 4 0 (by omega)]; exact a0
          · rw [cset_o (by omega), cset_o (by omega), cset_o (by omega)]; exact d3
          · rw [cset_o (by omega), cset_o (by omega), cset_o (by omega)]; exact d4
          · rw [cset_o (by omega), cset_o (by omega), cset_o (by omega)]; exact d5
          · rw [cset_o (by omega), cset_o (by omega), cset_s ⟨rfl, rfl⟩]
          · rw [cset_o (by omega), cset_o (by omega), cset_o (by omega), dc 4 1 (by omega)]; exact b1
          · rw [cset_o (by omega), cset_o (by omega), cset_o (by omega), dc 4 2 (by omega)]; exact b2
          · rw [cset_s ⟨rfl, rfl⟩]
            rcases hw01 with q | q
            · rw [q, if_pos rfl, dc 4 1 (by omega)]; exact b1
            · rw [q, if_neg (by decide), dc 4 2 (by omega)]; exact b2
          · rw [cset_o (by omega), cset_o (by omega), cset_o (by omega), dc 27 i (by omega), dg (12 + i) (by omega)]; exact b27 i i0 i1
      · rw [cset_o (by omega), cset_o (by omega), cset_o (by omega)]; exact d3
    · -- who has more
      generalize hw : (if g 19 + x ≤ g 20 + y then (1 : Int) else 0) = w
      have hw01 : w = 0 ∨ w = 1 := by rw [← hw]; split; exact Or.inr rfl; exact Or.inl rfl
      refine ⟨cset (cset c1 4 7 0) 4 6 (if w = 0 then c1 4 1 else c1 4 2), gs (gs g1 22 0) 21 (g (10 + w)), fun K => ?_, fun X => ?_, ?_, ?_⟩
      · unfold zm_tellLeg
        rw [hadd, wk_4, d3, if_neg (by omega), wk_4, wk_4, d4, d5, if_pos q2, wu_4, wk_4, cset_s ⟨rfl, rfl⟩, if_pos rfl, wk_4, wk_4, cset_o (by omega), cset_o (by omega), d4, d5]
        unfold zm_decide
        by_cases q3 : g 19 + x ≤ g 20 + y
        · rw [if_pos q3] at hw ⊢
          subst hw
          rw [if_pos (by decide), wk_4, cset_o (by omega), wu_4]
          rfl
        · rw [if_neg q3] at hw ⊢
          subst hw
          rw [if_neg (by decide), wk_4, cset_o (by omega), wu_4]
          rfl
      · unfold lTail
        simp only [wg_r]
        rw [w18, w19, w20, wd, if_neg (by omega), if_pos (by omega), hY, up_wg, up_wg, up_wg]
        by_cases q3 : g 19 + x ≤ g 20 + y
        · rw [if_pos q3] at hw
          subst hw
          rw [if_pos (by omega)]
          rfl
        · rw [if_neg q3] at hw
          subst hw
          rw [if_neg (by omega)]
          rfl
      · have dg : ∀ k, ¬ (k = 21 ∨ k = 22 ∨ k = 18 ∨ k = 19 ∨ k = 20) → gs (gs g1 22 0) 21 (g (10 + w)) k = g k := fun k q => by rw [gs_o (by omega), gs_o (by omega), eg k (by omega)]
        have f22 : gs (gs g1 22 0) 21 (g (10 + w)) 22 = 0 := by rw [gs_o (by omega), gs_s rfl]
        have f21 : gs (gs g1 22 0) 21 (g (10 + w)) 21 = g (10 + w) := gs_s rfl
        have f18 : gs (gs g1 22 0) 21 (g (10 + w)) 18 = g 18 + 1 := by rw [gs_o (by omega), gs_o (by omega), e18]
        have f19 : gs (gs g1 22 0) 21 (g (10 + w)) 19 = g 19 + x := by rw [gs_o (by omega), gs_o (by omega), e19]
        have f20 : gs (gs g1 22 0) 21 (g (10 + w)) 20 = g 20 + y := by rw [gs_o (by omega), gs_o (by omega), e20]
        refine KP_rel hk (fun k k0 k1 => dg k (by omega)) (by rw [dg 7 (by decide)]; exact i7) ?_ (fun C k q q4 q27 => by rw [cset_o (by omega), cset_o (by omega), dc C k (by omega)]) ?_ ?_
        · unfold IRl
          rw [dg 9 (by decide), f18, f19, f20, f22]
          omega
        · rw [cset_o (by omega), cset_o (by omega), dc 2 1 (by omega), dg 7 (by decide)]; exact r21
        · unfold R7
          rw [dg 9 (by decide), dg 10 (by decide), dg 11 (by decide), f18, f19, f20, f21, f22]
          refine ⟨?_, ?_, ?_, ?_, ?_, fun _ => ⟨?_, ?_, ?_, fun i i0 i1 => ?_⟩⟩
          · rw [cset_o (by omega), cset_o (by omega), dc 4 0 (by omega)]; exact a0
          · rw [cset_o (by omega), cset_o (by omega)]; exact d3
          · rw [cset_o (by omega), cset_o (by omega)]; exact d4
          · rw [cset_o (by omega), cset_o (by omega)]; exact d5
          · rw [cset_o (by omega), cset_s ⟨rfl, rfl⟩]
          · rw [cset_o (by omega), cset_o (by omega), dc 4 1 (by omega)]; exact b1
          · rw [cset_o (by omega), cset_o (by omega), dc 4 2 (by omega)]; exact b2
          · rw [cset_s ⟨rfl, rfl⟩]
            rcases hw01 with q | q
            · rw [q, if_pos rfl, dc 4 1 (by omega)]; exact b1
            · rw [q, if_neg (by decide), dc 4 2 (by omega)]; exact b2
          · rw [cset_o (by omega), cset_o (by omega), dc 27 i (by omega), dg (12 + i) (by omega)]; exact b27 i i0 i1
      · rw [cset_o (by omega), cset_o (by omega)]; exact d3
  · refine ⟨c1, g1, fun K => ?_, fun X => ?_, ?_, d3⟩
    · unfold zm_tellLeg
      rw [hadd, wk_4, d3, if_pos q1]
    · unfold lTail
      simp only [wg_r]
      rw [w18, w19, w20, if_pos q1, hY]
    · refine KP_rel hk (fun k k0 k1 => eg k (by omega)) (by rw [eg 7 (by decide)]; exact i7) hI1 (fun C k q q4 q27 => dc C k (by omega)) ?_ ?_
      · rw [dc 2 1 (by omega), eg 7 (by decide)]; exact r21
      · unfold R7
        rw [eg 9 (by decide), eg 10 (by decide), eg 11 (by decide), e18, e19, e20, eg 21 (by decide), eg 22 (by decide), dc 4 0 (by omega), dc 4 1 (by omega), dc 4 2 (by omega), dc 4 6 (by omega), dc 4 7 (by omega)]
        refine ⟨a0, d3, d4, d5, a7, fun _ => ⟨b1, b2, b6, fun i i0 i1 => ?_⟩⟩
        rw [dc 27 i (by omega), eg (12 + i) (by omega)]
        exact b27 i i0 i1
theorem fits_0 {F : Mem} (hR : IRl (F 13 186)) : (¬ zo_mfits 0 x F = 0 ↔ (0 ≤ x ∧ x ≤ 5 * (F 13 186 18 + 1) - F 13 186 19)) ∧ (¬ zo_mfits 1 y F = 0 ↔ (0 ≤ y ∧ y ≤ 5 * (F 13 186 18 + 1) - F 13 186 20)) := by
  unfold IRl at hR
  unfold zo_mfits
  rw [wr_eq (z := F 13 186 18 + 1) (by omega) (by omega), wr_eq (z := 5 * (F 13 186 18 + 1)) (by omega) (by omega), show wr (19 + 0) = 19 by decide, show wr (19 + 1) = 20 by decide, wr_eq (z := _ - F 13 186 19) (by omega) (by omega), wr_eq (z := _ - F 13 186 20) (by omega) (by omega)]
  constructor
  · by_cases q : x < 0
    · rw [if_pos q]; omega
    · rw [if_neg q]
      by_cases q2 : 5 * (F 13 186 18 + 1) - F 13 186 19 < x
      · rw [if_pos q2]; omega
      · rw [if_neg q2]; omega
  · by_cases q : y < 0
    · rw [if_pos q]; omega
    · rw [if_neg q]
      by_cases q2 : 5 * (F 13 186 18 + 1) - F 13 186 20 < y
      · rw [if_pos q2]; omega
      · rw [if_neg q2]; omega
theorem ca_leg (h : J N σ σ) : Cal N 230 [aR 11 0, aI x, aI y] (zo_xleg x y σ) (zm_xleg x y σ) (fun E => if E = 1 then 1 else 2) := by
  have rg := J_rg h
  have hr := h.1.1.2.2.2.1
  have r7 := h.1.2.1.2.2.2.2.2.2
  have hfit := fits_0 (x := x) (y := y) hr
  unfold IRl at hr
  unfold R7 at r7
  obtain ⟨a0, a3, a4, a5, a7, a8⟩ := r7
  have k0 : σ 4 0 0 = σ 13 186 9 := a0
  have k3 : σ 4 0 3 = σ 13 186 18 := a3
  have k4 : σ 4 0 4 = σ 13 186 19 := a4
  have k5 : σ 4 0 5 = σ 13 186 20 := a5
  have hca : (¬ zo_canAdd 0 x y σ = 0) ↔ ((0 ≤ x ∧ x ≤ 5 * (σ 13 186 18 + 1) - σ 13 186 19) ∧ (0 ≤ y ∧ y ≤ 5 * (σ 13 186 18 + 1) - σ 13 186 20)) := by
    unfold zo_canAdd
    rw [k3, k4, k5, wr_eq (z := σ 13 186 18 + 1) (by omega) (by omega), wr_eq (z := 5 * (σ 13 186 18 + 1)) (by omega) (by omega), wr_eq (z := _ - σ 13 186 19) (by omega) (by omega), wr_eq (z := _ - σ 13 186 20) (by omega) (by omega)]
    by_cases q : x < 0
    · rw [if_pos q]; omega
    · rw [if_neg q]
      by_cases q1 : y < 0
      · rw [if_pos q1]; omega
      · rw [if_neg q1]
        by_cases q2 : 5 * (σ 13 186 18 + 1) - σ 13 186 19 < x
        · rw [if_pos q2]; omega
        · rw [if_neg q2]
          by_cases q3 : 5 * (σ 13 186 18 + 1) - σ 13 186 20 < y
          · rw [if_pos q3]; omega
          · rw [if_neg q3]; omega
  by_cases h9 : σ 13 186 9 = 0
  · have ea : zm_xleg x y σ = σ := by unfold zm_xleg; rw [if_pos (by omega)]
    have eo : zo_xleg x y σ = .inr 1 := by unfold zo_xleg; rw [if_pos (by omega)]
    rw [ea, eo]
    refine ⟨_, _, ev_yleg x y σ rg.2.2.2.2.2.2.1, ?_, ?_⟩
    · unfold zm_yleg
      rw [if_pos h9]; exact J_thr h
    · unfold zm_yleg
      rw [if_pos h9]; exact Or.inr ⟨_, rfl, up_s _ _ _ _ _, by decide⟩
  · by_cases h18 : σ 13 186 18 = 9
    · have ea : zm_xleg x y σ = σ := by unfold zm_xleg; rw [if_neg (by omega), if_neg (by omega)]
      have eo : zo_xleg x y σ = .inr 1 := by unfold zo_xleg; rw [if_neg (by omega), if_neg (by omega)]
      rw [ea, eo]
      refine ⟨_, _, ev_yleg x y σ rg.2.2.2.2.2.2.1, ?_, ?_⟩
      · unfold zm_yleg
        rw [if_neg h9, if_neg (by omega)]; exact J_thr h
      · unfold zm_yleg
        rw [if_neg h9, if_neg (by omega)]; exact Or.inr ⟨_, rfl, up_s _ _ _ _ _, by decide⟩
    · by_cases hfi : ¬ zo_canAdd 0 x y σ = 0
      · obtain ⟨c', g', f1, f2, f3, f4⟩ := leg_all (kp_keep h) (show σ 13 186 9 = 1 by omega) (by omega) (hca.mp hfi).1 (hca.mp hfi).2
        have e : zm_tellLeg 0 x y (zm_keep 0 σ) = wcm (zm_keep 0 σ) c' := by rw [← f1, wcm_id]
        have ea : zm_xleg x y σ = wcm (zm_keep 0 σ) c' := by
          unfold zm_xleg
          rw [if_neg (by omega), if_pos (by omega), if_pos hfi, e]
        have eo : zo_xleg x y σ = .inl (some (aI (9 - (σ 13 186 18 + 1)))) := by
          unfold zo_xleg
          rw [if_neg (by omega), if_pos (by omega), if_pos hfi, e, wk_4, f4, wr_eq (by omega) (by omega)]
        rw [ea, eo]
        have er := keep_row (c' := c') h
        have hm := mch_wg (c' := c') h
        have hrow := mch_row (c' := c') h
        have hrow18 : zm_mchanges (up (wcm (zm_keep 0 σ) c') 11 0 6 0) 13 186 18 = σ 13 186 18 := congrFun hrow 18
        have hf2 := fits_0 (x := x) (y := y) (F := wcm (zm_keep 0 σ) c') (by rw [er]; exact h.1.1.2.2.2.1)
        rw [er] at hf2
        have et := f2 (zm_mchanges (up (wcm (zm_keep 0 σ) c') 11 0 6 0))
        rw [← hm] at et
        obtain ⟨y1, y2⟩ := yleg_eq (x := x) (y := y) (F := wcm (zm_keep 0 σ) c') (by rw [er]; exact h9) (by rw [er]; exact h18) (hf2.1.mpr (hca.mp hfi).1) (hf2.2.mpr (hca.mp hfi).2)
        rw [et] at y1
        rw [hrow18, wr_eq (z := σ 13 186 18 + 1) (by omega) (by omega), wr_eq (by omega) (by omega)] at y2
        refine ⟨_, _, ev_yleg x y _ (pasts_keep h), ?_, ?_⟩
        · rw [y1]; exact J_chg h (Int.le_refl N) f3
        · rw [y1, y2]; exact Or.inl ⟨_, rfl, mch_6 h, rfl⟩
      · have ea : zm_xleg x y σ = σ := by unfold zm_xleg; rw [if_neg (by omega), if_pos (by omega), if_neg hfi]
        have eo : zo_xleg x y σ = .inr 0 := by unfold zo_xleg; rw [if_neg (by omega), if_pos (by omega), if_neg hfi]
        rw [ea, eo]
        have hz : zm_yleg x y σ = up σ 11 0 6 2 := by
          unfold zm_yleg
          rw [if_neg h9, if_pos h18]
          by_cases q : zo_mfits 0 x σ = 0
          · rw [if_pos q]
          · rw [if_neg q, if_pos]
            by_cases q2 : zo_mfits 1 y σ = 0
            · exact q2
            · exact absurd (hca.mpr ⟨hfit.1.mp q, hfit.2.mp q2⟩) hfi
        refine ⟨_, _, ev_yleg x y σ rg.2.2.2.2.2.2.1, ?_, ?_⟩
        · rw [hz]; exact J_thr h
        · rw [hz]; exact Or.inr ⟨_, rfl, up_s _ _ _ _ _, by decide⟩
end Leg
