/-! The bout in progress changes; its time is over. -/
theorem ev_ytime_n (σ : Mem) (hn : ¬ 0 ≤ σ 13 186 6) : Ev true 197 [aR 11 (0)] σ (.inl (some (aI (zo_ytime  σ)))) (zm_ytime  σ) := by
  show wp true 197 0 [some (aR 11 (0)), none, none] [] σ 0 0 _
  refine wp_seg 5 (P := some (0 ≤ (6) ∧ (6) < alen σ 13 (186))) (ls' := [some (aR 11 (0)), none, none]) (st' := [aI (σ 13 (186) (6)), aR 11 (0)]) (σ' := σ) rq_197 rfl ?_ (i' := 5) rfl ?_
  · show 0 ≤ (6) ∧ (6) < alen σ 13 (186)
    exact ⟨by decide, by rw [alen13]; decide⟩
  refine wp_if rq_197 rfl (fun (h1 : 0 ≤ (σ 13 (186) (6))) => absurd h1 hn) (fun (h1 : ¬ (0 ≤ (σ 13 (186) (6)))) => ?_)
  refine wp_seg 1 (P := none) (ls' := [some (aR 11 (0)), none, none]) (st' := [aI (1), aR 11 (0)]) (σ' := σ) rq_197 rfl True.intro (i' := 7) rfl ?_
  refine wp_goto rq_197 rfl ?_
  refine wp_seg 3 (P := none) (ls' := [some (aR 11 (0)), none, none]) (st' := [aI (1)]) (σ' := (up σ 11 (0) 6 (1))) rq_197 rfl True.intro (i' := 12) rfl ?_
  refine wp_if rq_197 rfl (fun (h6 : (1 : Int) ≤ (0 : Int)) => absurd h6 (show ¬ ((1 : Int) ≤ (0 : Int)) from by decide)) (fun _ => ?_)
  refine wp_seg 1 (P := none) (ls' := [some (aR 11 (0)), none, none]) (st' := [aI (0)]) (σ' := (up σ 11 (0) 6 (1))) rq_197 rfl True.intro (i' := 14) rfl ?_
  refine wp_iret rq_197 rfl rt_197 ⟨?_, ?_⟩
  · (rw [zo_ytime, if_neg h1]; try rfl)
  · (rw [zm_ytime, if_neg h1]; try rfl)
theorem mat_row {F : Mem} {b w : Int} : mat F b w = ga (F 13 186) b w := rfl
section Now
variable {N M b s : Int} {σ : Mem} {c c' : Cs} {g g' : Gs}
theorem KP_now (hk : KP N c g) (hN : N ≤ M) (h6 : g 6 = b) (h0 : 0 ≤ b) (eg : ∀ k, k ≠ 7 → ¬ k = 250 + 10 * b + 2 → ¬ k = 250 + 10 * b + 3 → ¬ k = 250 + 10 * b + 6 → ¬ k = 250 + 10 * b + 8 → ¬ k = 250 + 10 * b + 9 → g' k = g k) (h7 : 0 ≤ g' 7 ∧ g' 7 ≤ 2147483647) (hx : 0 ≤ ga g' b 2 ∧ ga g' b 2 < tgB g b) (hy : 0 ≤ ga g' b 3 ∧ ga g' b 3 < tgB g b) (hp : -1 ≤ ga g' b 6 ∧ ga g' b 6 ≤ 1) (ec : ∀ C k, ¬ (C = 2 ∧ k = 1) → ¬ C = 10 → ¬ (C = 20 ∧ (k = 2 * b ∨ k = 2 * b + 1)) → ¬ (C = 24 ∧ k = b) → c' C k = c C k) (h21 : c' 2 1 = g' 7) (hcx : c' 20 (2 * b) = ga g' b 2) (hcy : c' 20 (2 * b + 1) = ga g' b 3) (h24 : c' 24 b = ga g' b 6) (hR : R6 M c' g') : KP M c' g' := by
  obtain ⟨hi, hr, hX⟩ := KP_N hk hN
  have i1 := hi.1
  have hb : b < g 3 := by unfold I1 at i1; omega
  have ib := hi.2.1 b h0 hb
  have hbp := pB_le hi
  have h3 := hr.2.2.1 b h0 hb
  have hr1 := hr.1
  unfold R1 at hr1
  unfold R3b at h3
  have h4 : ga g b 4 = 1 := by unfold IB at ib; exact ib.2.2.2.2.2.2.2.2.1 h6
  have ek : ∀ k, k < 250 → k ≠ 6 → k ≠ 7 → g' k = g k := fun k k0 k1 k2 => eg k k2 (by omega) (by omega) (by omega) (by omega) (by omega)
  have e6 : g' 6 = g 6 := eg 6 (by decide) (by omega) (by omega) (by omega) (by omega) (by omega)
  have ho : ∀ b' w, 0 ≤ b' → 0 ≤ w → w < 10 → b' ≠ b → ga g' b' w = ga g b' w := fun b' w q0 q1 q2 q3 => eg _ (by omega) (by omega) (by omega) (by omega) (by omega) (by omega)
  have a0 : ga g' b 0 = ga g b 0 := eg _ (by omega) (by omega) (by omega) (by omega) (by omega) (by omega)
  have a1 : ga g' b 1 = ga g b 1 := eg _ (by omega) (by omega) (by omega) (by omega) (by omega) (by omega)
  have a4 : ga g' b 4 = ga g b 4 := eg _ (by omega) (by omega) (by omega) (by omega) (by omega) (by omega)
  have a5 : ga g' b 5 = ga g b 5 := eg _ (by omega) (by omega) (by omega) (by omega) (by omega) (by omega)
  have a7 : ga g' b 7 = ga g b 7 := eg _ (by omega) (by omega) (by omega) (by omega) (by omega) (by omega)
  have ep : pB g' = pB g := by unfold pB; rw [ek 3 (by decide) (by decide) (by decide), ek 4 (by decide) (by decide) (by decide), ek 5 (by decide) (by decide) (by decide)]
  have et : tgB g' b = tgB g b := by unfold tgB; rw [ep]
  have ht : tgB g b ≤ 15 := by unfold tgB; split <;> omega
  have TT : TQ g g' b := fun _ => by
    rw [a0, a1, a4, a5, a7]
    exact ⟨Iff.rfl, Iff.rfl, rfl, rfl, fun _ => rfl, rfl⟩
  have hIV : IV g' := by
    refine IV_b hi h0 hb ek ho h7 (Or.inl e6) ?_ TT
    unfold IB at ib ⊢
    obtain ⟨b1, b2, b3, b4, b5, b6, b7, b8, b9, ba, bb, bc, bd, be, bf, bg⟩ := ib
    rw [a0, a1, a4, a5, a7, e6, ep, et, ek 1 (by decide) (by decide) (by decide), ek 2 (by decide) (by decide) (by decide), ek 4 (by decide) (by decide) (by decide), ek 5 (by decide) (by decide) (by decide)]
    refine ⟨b1, b2, b3, b4, hp, ⟨hx.1, by omega⟩, ⟨hy.1, by omega⟩, fun q => ⟨h6, (b8 q).2.1, (b8 q).2.2.1, hx.2, hy.2⟩, b9, fun q => ?_, bb, bc, bd, be, bf, bg⟩
    rw [h4] at q
    exact absurd q (by decide)
  refine ⟨hIV, ?_, ?_⟩
  · refine RV_b hi hr h0 hb ek ho (fun C k q1 q2 q3 q4 => ec C k q1 q3 (by omega) (by omega)) h21 ?_ (fun b' q0 q1 => ?_) ?_ TT hR
    · rw [ec 2 2 (by decide) (by decide) (by omega) (by omega), e6]; exact hr1.2.2.1
    · refine ⟨ec _ _ (by omega) (by omega) (by omega) (by omega), ec _ _ (by omega) (by omega) (by omega) (by omega), ec _ _ (by omega) (by omega) (by omega) (by omega), ec _ _ (by omega) (by omega) (by omega) (by omega), ec _ _ (by omega) (by omega) (by omega) (by omega), ec _ _ (by omega) (by omega) (by omega) (by omega), ec _ _ (by omega) (by omega) (by omega) (by omega), ec _ _ (by omega) (by omega) (by omega) (by omega)⟩
    · unfold R3b
      have e5 : (if ga g' b 5 < 0 then (-1 : Int) else ga g' b (ga g' b 5)) = if ga g b 5 < 0 then -1 else ga g b (ga g b 5) := by
        rw [a5]
        by_cases q : ga g b 5 < 0
        · rw [if_pos q, if_pos q]
        · rw [if_neg q, if_neg q]
          have : ga g b 5 = 0 ∨ ga g b 5 = 1 := by unfold IB at ib; omega
          rcases this with q | q
          · rw [q]; exact a0
          · rw [q]; exact a1
      rw [e5, a0, a1, a4, a7]
      refine ⟨?_, ?_, hcx, hcy, ?_, ?_, ?_, h24⟩
      · rw [ec _ _ (by omega) (by omega) (by omega) (by omega)]; exact h3.1
      · rw [ec _ _ (by omega) (by omega) (by omega) (by omega)]; exact h3.2.1
      · rw [ec _ _ (by omega) (by omega) (by omega) (by omega)]; exact h3.2.2.2.2.1
      · rw [ec _ _ (by omega) (by omega) (by omega) (by omega)]; exact h3.2.2.2.2.2.1
      · rw [ec _ _ (by omega) (by omega) (by omega) (by omega)]; exact h3.2.2.2.2.2.2.1
  · have b5 : 0 < g 4 → pB g = g 5 ∧ 0 ≤ g 5 := fun q => by unfold pB; rw [if_neg (by omega)]; unfold I1 at i1; omega
    have b1 : 0 ≤ g 1 ∧ g 1 ≤ 24 := by unfold I1 at i1; omega
    have h01 : ∀ b' w, 0 ≤ b' → (w = 0 ∨ w = 1) → ga g' b' w = ga g b' w := fun b' w q0 q2 => by
      by_cases hbb : b' = b
      · rw [hbb]
        rcases q2 with rfl | rfl
        · exact a0
        · exact a1
      · exact ho b' w q0 (by omega) (by omega) hbb
    exact IX_fr hi hX (ek 1 (by decide) (by decide) (by decide)) (ek 4 (by decide) (by decide) (by decide)) (fun _ => ek 5 (by decide) (by decide) (by decide)) (ek 8 (by decide) (by decide) (by decide)) ep (fun k k0 k1 => ek k (by omega) (by omega) (by omega)) (fun f w q0 q1 q2 => ek _ (by omega) (by omega) (by omega)) (fun b' w q0 q1 q2 => h01 b' w q0 q2) (fun q p p0 p1 => h01 _ _ (by have := b5 q; omega) (by omega))
/-- the facts of the bout in progress -/
theorem now_f (hk : KP N c g) (h6 : 0 ≤ g 6) : g 6 < g 3 ∧ g 3 ≤ 307 ∧ ga g (g 6) 4 = 1 ∧ (0 ≤ ga g (g 6) 0 ∧ 0 ≤ ga g (g 6) 1) ∧ (0 ≤ ga g (g 6) 2 ∧ ga g (g 6) 2 < tgB g (g 6)) ∧ (0 ≤ ga g (g 6) 3 ∧ ga g (g 6) 3 < tgB g (g 6)) ∧ (-1 ≤ ga g (g 6) 6 ∧ ga g (g 6) 6 ≤ 1) ∧ c 2 2 = g 6 ∧ c 2 1 = g 7 ∧ (0 ≤ g 7 ∧ g 7 ≤ 2147483647) ∧ tgB g (g 6) ≤ 15 := by
  obtain ⟨hi, hr, hX⟩ := hk
  have i1 := hi.1
  have r1 := hr.1
  unfold R1 at r1
  have hb : g 6 < g 3 ∧ g 3 ≤ 307 ∧ (0 ≤ g 7 ∧ g 7 ≤ 2147483647) := by unfold I1 at i1; omega
  have ib := hi.2.1 (g 6) h6 hb.1
  unfold IB at ib
  obtain ⟨b1, b2, b3, b4, b5, b6, b7, b8, b9, -⟩ := ib
  have h4 := b9 rfl
  have h8 := b8 h4
  exact ⟨hb.1, hb.2.1, h4, ⟨h8.2.1, h8.2.2.1⟩, ⟨b6.1, h8.2.2.2.1⟩, ⟨b7.1, h8.2.2.2.2⟩, b5, r1.2.2.1, r1.2.1, hb.2.2, by unfold tgB; split <;> omega⟩
/-- the model's end of time -/
def ytail (Y : Mem) : Mem := if mat Y (Y 13 186 6) 6 < 0 then (if wr (mat Y (Y 13 186 6) 2 - mat Y (Y 13 186 6) 3) = 0 then mput (zm_mdraws Y) (Y 13 186 6) 6 (zo_mdraws Y) else if wr (mat Y (Y 13 186 6) 2 - mat Y (Y 13 186 6) 3) ≤ 0 then zm_mfinishes (Y 13 186 6) 1 Y else zm_mfinishes (Y 13 186 6) 0 Y) else zm_mfinishes (Y 13 186 6) (mat Y (Y 13 186 6) 6) Y
theorem runOut_all (hk : KP N c g) (h6 : 0 ≤ g 6) : ∃ c' g', (∀ K, zm_runOut 0 (wcm K c) = wcm K c') ∧ (∀ X, ytail (wg X g) = wg X g') ∧ KP N c' g' ∧ g' 3 = g 3 := by
  obtain ⟨n1, n2, n3, n4, n5, n6, n7, n8, n9, n10, n11⟩ := now_f hk h6
  have hb307 : 0 ≤ g 6 ∧ g 6 < 307 := by omega
  have h3 := hk.2.1.2.2.1 (g 6) h6 n1
  unfold R3b at h3
  have hT : ∀ K, zo_touchesOn 0 (g 6) 0 (wcm K c) = ga g (g 6) 2 ∧ zo_touchesOn 0 (g 6) 1 (wcm K c) = ga g (g 6) 3 := fun K => by
    rw [cz_to hb307 (by decide), cz_to hb307 (by decide), show 2 * g 6 + 0 = 2 * g 6 by omega]
    exact ⟨h3.2.2.1, h3.2.2.2.1⟩
  have h14 : ∀ K, rget (wcm K c) (18 * 0 + 14) (g 6) = ga g (g 6) 6 := fun K => by
    rw [z0, wr_14g hb307]; exact h3.2.2.2.2.2.2.2
  have hw : wr (ga g (g 6) 2 - ga g (g 6) 3) = ga g (g 6) 2 - ga g (g 6) 3 := wr_eq (by omega) (by omega)
  by_cases hp : ga g (g 6) 6 = -1
  · by_cases he : ga g (g 6) 2 = ga g (g 6) 3
    · have hsd : 0 ≤ (g 7 * 1103515245 + 12345) % 2147483648 ∧ (g 7 * 1103515245 + 12345) % 2147483648 < 2147483648 := by omega
      generalize hs : (g 7 * 1103515245 + 12345) % 2147483648 = sd at hsd
      refine ⟨cset (cset c 2 1 sd) 24 (g 6) (sd / 65536 % 2), gs (gs g 7 sd) (250 + 10 * g 6 + 6) (sd / 65536 % 2), fun K => ?_, fun X => ?_, ?_, ?_⟩
      · unfold zm_runOut
        rw [wk_2, n8, h14 K, if_pos hp, (hT K).1, (hT K).2, if_pos he]
        unfold zm_drawSide zo_drawSide
        rw [wk_2, n9, seedC n10.1 (by omega), hs, up_s, Int.tdiv_eq_ediv_of_nonneg hsd.1, wr_eq (by omega) (by omega), tm2 (by omega), wu_2, z0, ws_14 hb307]
      · unfold ytail
        simp only [wg_r, mat_wg]
        rw [if_pos (by omega), hw, if_pos (by omega)]
        unfold zm_mdraws zo_mdraws
        rw [wg_r, seedM, hs, ishr_16 hsd.1 hsd.2, tm2 (by omega), up_wg, mput_wg]
      · have hk2 := hk.2.1.2.2.2.2.2.1
        refine KP_now hk (Int.le_refl N) rfl h6 (fun k q1 q2 q3 q4 q5 q6 => ?_) ?_ ?_ ?_ ?_ (fun C k q1 q2 q3 q4 => ?_) ?_ ?_ ?_ ?_ ?_
        · rw [gs_o q4, gs_o q1]
        · rw [gs_o (by omega), gs_s rfl]; omega
        · show 0 ≤ gs (gs g 7 sd) (250 + 10 * g 6 + 6) (sd / 65536 % 2) (250 + 10 * g 6 + 2) ∧ gs (gs g 7 sd) (250 + 10 * g 6 + 6) (sd / 65536 % 2) (250 + 10 * g 6 + 2) < _
          rw [gs_o (by omega), gs_o (by omega)]; exact n5
        · show 0 ≤ gs (gs g 7 sd) (250 + 10 * g 6 + 6) (sd / 65536 % 2) (250 + 10 * g 6 + 3) ∧ gs (gs g 7 sd) (250 + 10 * g 6 + 6) (sd / 65536 % 2) (250 + 10 * g 6 + 3) < _
          rw [gs_o (by omega), gs_o (by omega)]; exact n6
        · unfold ga; rw [gs_s rfl]; omega
        · rw [cset_o q4, cset_o q1]
        · rw [cset_o (by omega), cset_s ⟨rfl, rfl⟩, gs_o (by omega), gs_s rfl]
        · rw [cset_o (by omega), cset_o (by omega), h3.2.2.1]; unfold ga; rw [gs_o (by omega), gs_o (by omega)]
        · rw [cset_o (by omega), cset_o (by omega), h3.2.2.2.1]; unfold ga; rw [gs_o (by omega), gs_o (by omega)]
        · rw [cset_s ⟨rfl, rfl⟩]; unfold ga; rw [gs_s rfl]
        · unfold R6 ga at hk2 ⊢
          rw [gs_o (k := 250 + 10 * g 6 + 6) (i := 6) (by omega), gs_o (k := 7) (i := 6) (by omega), gs_o (i := 250 + 10 * g 6 + 8) (by omega), gs_o (i := 250 + 10 * g 6 + 8) (by omega), gs_o (i := 250 + 10 * g 6 + 9) (by omega), gs_o (i := 250 + 10 * g 6 + 9) (by omega), cset_o (by omega), cset_o (by omega), cset_o (by omega), cset_o (by omega)]
          exact hk2
      · rw [gs_o (by omega), gs_o (by omega)]
    · have e1 : ∀ s', (s' = 0 ∨ s' = 1) → ∃ c' g', (∀ K, zm_win 0 (g 6) s' (wcm K c) = wcm K c') ∧ (∀ X, zm_mfinishes (g 6) s' (wg X g) = wg X g') ∧ KP N c' g' ∧ g' 3 = g 3 := fun s' hs' => by
        obtain ⟨c', g', f1, f2, f3, f4, -⟩ := fin_all hk h6 n1 (Or.inr n3) n4 hs' (Or.inl rfl) (fun k _ _ => rfl) (fun C k _ => rfl) h3.2.2.1 h3.2.2.2.1 (by omega) (by omega)
        exact ⟨c', g', f1, f2, f3, f4⟩
      by_cases hl : ga g (g 6) 2 ≤ ga g (g 6) 3
      · obtain ⟨c', g', f1, f2, f3, f4⟩ := e1 1 (Or.inr rfl)
        refine ⟨c', g', fun K => ?_, fun X => ?_, f3, f4⟩
        · unfold zm_runOut
          rw [wk_2, n8, h14 K, if_pos hp, (hT K).1, (hT K).2, if_neg he, if_pos hl]
          exact f1 K
        · unfold ytail
          simp only [wg_r, mat_wg]
          rw [if_pos (by omega), hw, if_neg (by omega), if_pos (by omega)]
          exact f2 X
      · obtain ⟨c', g', f1, f2, f3, f4⟩ := e1 0 (Or.inl rfl)
        refine ⟨c', g', fun K => ?_, fun X => ?_, f3, f4⟩
        · unfold zm_runOut
          rw [wk_2, n8, h14 K, if_pos hp, (hT K).1, (hT K).2, if_neg he, if_neg hl]
          exact f1 K
        · unfold ytail
          simp only [wg_r, mat_wg]
          rw [if_pos (by omega), hw, if_neg (by omega), if_neg (by omega)]
          exact f2 X
  · obtain ⟨c', g', f1, f2, f3, f4, -⟩ := fin_all hk h6 n1 (Or.inr n3) n4 (s := ga g (g 6) 6) (by omega) (Or.inl rfl) (fun k _ _ => rfl) (fun C k _ => rfl) h3.2.2.1 h3.2.2.2.1 (by omega) (by omega)
    refine ⟨c', g', fun K => ?_, fun X => ?_, f3, f4⟩
    · unfold zm_runOut
      rw [wk_2, n8, h14 K, if_neg hp]
      exact f1 K
    · unfold ytail
      simp only [wg_r, mat_wg]
      rw [if_neg (by omega)]
      exact f2 X
theorem ca_time (h : J N σ σ) : Cal N 197 [aR 11 0] (zo_xtime σ) (zm_xtime σ) (fun _ => 1) := by
  have r1 := J_R1 h
  have rg := J_rg h
  by_cases h6 : 0 ≤ σ 13 186 6
  · obtain ⟨c', g', f1, f2, f3, f4⟩ := runOut_all (kp_keep h) h6
    have e : zm_runOut 0 (zm_keep 0 σ) = wcm (zm_keep 0 σ) c' := (congrArg (zm_runOut 0) (wcm_id _).symm).trans (f1 _)
    have ea : zm_xtime σ = wcm (zm_keep 0 σ) c' := by unfold zm_xtime; rw [if_neg (by omega), e]
    have h307 : 0 ≤ σ 13 186 6 ∧ σ 13 186 6 < 307 := by omega
    have h4 : c' 21 (σ 13 186 6) = ga g' (σ 13 186 6) 4 := by
      have := f3.2.1.2.2.1 (σ 13 186 6) h6 (by omega)
      unfold R3b at this
      exact this.2.2.2.2.1
    have eo : zo_xtime σ = .inl (some (aI (ga g' (σ 13 186 6) 4))) := by
      unfold zo_xtime
      rw [if_neg (by omega), e, r1.2.2.1, wr_11g h307, h4]
    rw [ea, eo]
    have er := keep_row (c' := c') h
    have hh := fin_hyp h.1.1 h6 (by omega)
    have hm := mch_wg (c' := c') h
    have hrow := mch_row (c' := c') h
    have et := f2 (zm_mchanges (up (wcm (zm_keep 0 σ) c') 11 0 6 0))
    rw [← hm] at et
    have hrow6 : zm_mchanges (up (wcm (zm_keep 0 σ) c') 11 0 6 0) 13 186 6 = σ 13 186 6 := congrFun hrow 6
    have ez : zm_ytime (wcm (zm_keep 0 σ) c') = wg (zm_mchanges (up (wcm (zm_keep 0 σ) c') 11 0 6 0)) g' := by
      rw [← et]
      unfold zm_ytime
      rw [er, if_pos h6]
      rfl
    have eoz : zo_ytime (wcm (zm_keep 0 σ) c') = ga g' (σ 13 186 6) 4 := by
      have : zo_ytime (wcm (zm_keep 0 σ) c') = mat (ytail (zm_mchanges (up (wcm (zm_keep 0 σ) c') 11 0 6 0))) (zm_mchanges (up (wcm (zm_keep 0 σ) c') 11 0 6 0) 13 186 6) 4 := by
        unfold zo_ytime ytail
        rw [er, if_pos h6]
        repeat' split
        all_goals first | rfl | omega
      rw [this, et, mat_wg, hrow6]
    refine ⟨_, _, ev_ytime _ (pasts_keep h) (by rw [er]; omega) (by rw [er]; exact hh.1) ?_ ?_ ?_, ?_, ?_⟩
    · simp only [mat_row]
      rw [er]; exact hh.2.1
    · simp only [fo_row, mat_row]
      rw [er]; exact hh.2.2
    · simp only [mat_row]
      rw [er]
      have := (now_f h.1 h6).2.2.2.2.2.2.1
      omega
    · rw [ez]; exact J_chg h (Int.le_refl N) f3
    · rw [ez, eoz]; exact Or.inl ⟨_, rfl, mch_6 h, rfl⟩
  · have ea : zm_xtime σ = σ := by unfold zm_xtime; rw [if_pos (by omega)]
    have eo : zo_xtime σ = .inr 1 := by unfold zo_xtime; rw [if_pos (by omega)]
    rw [ea, eo]
    refine ⟨_, _, ev_ytime_n σ h6, ?_, ?_⟩
    · unfold zm_ytime
      rw [if_neg h6]; exact J_thr h
    · unfold zm_ytime
      rw [if_neg h6]; exact Or.inr ⟨_, rfl, up_s _ _ _ _ _, by decide⟩
end Now
