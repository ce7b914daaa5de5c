/-! A touch, on both sides. -/
theorem ev_ytouch_n (s : Int) (σ : Mem) (hn : ¬ ((0 ≤ s ∧ s ≤ 2) ∧ 0 ≤ σ 13 186 6)) : Ev true 196 [aR 11 (0), aI (s)] σ (.inl (some (aI (zo_ytouch s σ)))) (zm_ytouch s σ) := by
  show wp true 196 0 [some (aR 11 (0)), some (aI (s)), none, none] [] σ 0 0 _
  refine wp_seg 4 (P := none) (ls' := [some (aR 11 (0)), some (aI (s)), none, none]) (st' := [aI (2), aI (0), aI (s), aR 11 (0)]) (σ' := σ) rq_196 rfl True.intro (i' := 4) rfl ?_
  by_cases h1 : (0) ≤ (s) ∧ (s) ≤ (2)
  · refine wp_call (C := 0) (As := [aI (s), aI (0), aI (2)]) (rest := [aR 11 (0)]) rq_196 (ev_min_y (s) (0) (2) σ  h1) rfl rfl (show clOK 196 154 2 0 0 3 0 = true by decide +kernel) rfl (show 1 ≤ 4 by decide) (fun h => absurd rfl h) rfl (c' := 0) (s' := 0) rfl rfl ?_
    refine wp_if rq_196 rfl (fun (h2 : (1 : Int) = (0 : Int)) => absurd h2 (show ¬ ((1 : Int) = (0 : Int)) from by decide)) (fun _ => ?_)
    refine wp_seg 4 (P := some (0 ≤ (6) ∧ (6) < alen σ 13 (186))) (ls' := [some (aR 11 (0)), some (aI (s)), none, none]) (st' := [aI (σ 13 (186) (6)), aR 11 (0)]) (σ' := σ) rq_196 rfl ?_ (i' := 10) rfl ?_
    · show 0 ≤ (6) ∧ (6) < alen σ 13 (186)
      (first | decide | exact Or.inl rfl | exact Or.inr rfl | ((try simp (disch := omega) only [wr_eq, td2, tm2, mat_mput, mat_up, fo_mput, up_g_o, mput_g_o, mat_mch, mch_g, up6_g, al_g, al_k, al_p, al_c, al_r, al_t, al_o, rl_g, rl_k, rl_p, rl_c, rl_r, rl_t, rl_o, fo_mch, fo_up11, mat_up11, mat_upf, fo_upf, Int.zero_add, sc_7, sc_4, sc_fo] at *); (try simp (disch := omega) only [wr_eq, td2, tm2, mat_mput, mat_up, fo_mput, up_g_o, mput_g_o, mat_mch, mch_g, up6_g, al_g, al_k, al_p, al_c, al_r, al_t, al_o, rl_g, rl_k, rl_p, rl_c, rl_r, rl_t, rl_o, fo_mch, fo_up11, mat_up11, mat_upf, fo_upf, Int.zero_add, sc_7, sc_4, sc_fo]); (try simp (disch := omega) only [wr_eq, td2, tm2, mat_mput, mat_up, fo_mput, up_g_o, mput_g_o, mat_mch, mch_g, up6_g, al_g, al_k, al_p, al_c, al_r, al_t, al_o, rl_g, rl_k, rl_p, rl_c, rl_r, rl_t, rl_o, fo_mch, fo_up11, mat_up11, mat_upf, fo_upf, Int.zero_add, sc_7, sc_4, sc_fo] at *); (try simp (disch := omega) only [wr_eq, td2, tm2, mat_mput, mat_up, fo_mput, up_g_o, mput_g_o, mat_mch, mch_g, up6_g, al_g, al_k, al_p, al_c, al_r, al_t, al_o, rl_g, rl_k, rl_p, rl_c, rl_r, rl_t, rl_o, fo_mch, fo_up11, mat_up11, mat_upf, fo_upf, Int.zero_add, sc_7, sc_4, sc_fo]); (try simp (disch := omega) only [wr_eq, td2, tm2, mat_mput, mat_up, fo_mput, up_g_o, mput_g_o, mat_mch, mch_g, up6_g, al_g, al_k, al_p, al_c, al_r, al_t, al_o, rl_g, rl_k, rl_p, rl_c, rl_r, rl_t, rl_o, fo_mch, fo_up11, mat_up11, mat_upf, fo_upf, Int.zero_add, sc_7, sc_4, sc_fo]); omega))
    refine wp_if rq_196 rfl (fun (h3 : 0 ≤ (σ 13 (186) (6))) => ?_) (fun (h3 : ¬ (0 ≤ (σ 13 (186) (6)))) => ?_)
    · exact absurd ⟨h1, h3⟩ hn
    · refine wp_seg 1 (P := none) (ls' := [some (aR 11 (0)), some (aI (s)), none, none]) (st' := [aI (2), aR 11 (0)]) (σ' := σ) rq_196 rfl True.intro (i' := 12) rfl ?_
      refine wp_goto rq_196 rfl ?_
      refine wp_seg 3 (P := none) (ls' := [some (aR 11 (0)), some (aI (s)), none, none]) (st' := [aI (2)]) (σ' := (up σ 11 (0) 6 (2))) rq_196 rfl True.intro (i' := 19) rfl ?_
      refine wp_if rq_196 rfl (fun (h16 : (2 : Int) ≤ (0 : Int)) => absurd h16 (show ¬ ((2 : Int) ≤ (0 : Int)) from by decide)) (fun _ => ?_)
      refine wp_seg 1 (P := none) (ls' := [some (aR 11 (0)), some (aI (s)), none, none]) (st' := [aI (0)]) (σ' := (up σ 11 (0) 6 (2))) rq_196 rfl True.intro (i' := 21) rfl ?_
      refine wp_iret rq_196 rfl rt_196 ⟨?_, ?_⟩
      · (rw [zo_ytouch, if_pos h1, if_neg h3]; try rfl)
      · (rw [zm_ytouch, if_pos h1, if_neg h3]; try rfl)
  · refine wp_call (C := 0) (As := [aI (s), aI (0), aI (2)]) (rest := [aR 11 (0)]) rq_196 (ev_min_n (s) (0) (2) σ  h1) rfl rfl (show clOK 196 154 2 0 0 3 0 = true by decide +kernel) rfl (show 1 ≤ 4 by decide) (fun h => absurd rfl h) rfl (c' := 0) (s' := 0) rfl rfl ?_
    refine wp_if rq_196 rfl (fun _ => ?_) (fun (h17 : ¬ ((0 : Int) = (0 : Int))) => absurd (show (0 : Int) = (0 : Int) from by decide) h17)
    refine wp_seg 4 (P := none) (ls' := [some (aR 11 (0)), some (aI (s)), none, none]) (st' := [aI (1)]) (σ' := (up σ 11 (0) 6 (1))) rq_196 rfl True.intro (i' := 19) rfl ?_
    refine wp_if rq_196 rfl (fun (h18 : (1 : Int) ≤ (0 : Int)) => absurd h18 (show ¬ ((1 : Int) ≤ (0 : Int)) from by decide)) (fun _ => ?_)
    refine wp_seg 1 (P := none) (ls' := [some (aR 11 (0)), some (aI (s)), none, none]) (st' := [aI (0)]) (σ' := (up σ 11 (0) 6 (1))) rq_196 rfl True.intro (i' := 21) rfl ?_
    refine wp_iret rq_196 rfl rt_196 ⟨?_, ?_⟩
    · (rw [zo_ytouch, if_neg h1]; try rfl)
    · (rw [zm_ytouch, if_neg h1]; try rfl)

section Touch
variable {N M b s : Int} {σ : Mem} {c c' : Cs} {g g' : Gs}
theorem tg_m (hi : IV g) (h0 : 0 ≤ b) (hb : b < g 3) : (if 100 ≤ ga g b 7 then (15 : Int) else 5) = tgB g b := by
  unfold tgB
  by_cases hp : pB g ≤ b
  · obtain ⟨⟨t1, t2, t3, t4⟩, -⟩ := tab_of hi h0 hb hp
    have := rnd_p (g 4 - (b - g 5))
    rw [if_pos (by omega), if_neg (by omega)]
  · have ib := hi.2.1 b h0 hb
    have i1 := hi.1
    unfold IB at ib
    have h7 := ib.2.2.2.2.2.2.2.2.2.2.2.2.2.1 (by omega)
    clear ib
    unfold I1 at i1
    rw [if_neg (by omega), if_pos (by omega)]
theorem tg_c (hr : RV N c g) : (if c 0 1 ≤ b then (15 : Int) else 5) = tgB g b := by
  have := hr.1.2.2.2.2.2.2.1
  unfold tgB
  rw [this]
  by_cases hp : pB g ≤ b
  · rw [if_pos hp, if_neg (by omega)]
  · rw [if_neg hp, if_pos (by omega)]
/-- the model's score that ends nothing -/
theorem msc_stay (X : Mem) (h0 : 0 ≤ b) (hs : s = 0 ∨ s = 1) (ht : 0 ≤ ga g b (2 + s) ∧ ga g b (2 + s) + 1 < (if 100 ≤ ga g b 7 then (15 : Int) else 5)) (hp : ga g b 6 < 0) : zm_mscores b s (wg X g) = wg X (gs g (250 + 10 * b + (2 + s)) (ga g b (2 + s) + 1)) := by
  have ew : wr (2 + s) = 2 + s := wr_eq (by omega) (by omega)
  have hl : ga g b (2 + s) + 1 < 15 := by
    have := ht.2
    split at this <;> omega
  unfold zm_mscores zo_mtarget
  rw [ew, mat_wg, wr_eq (z := ga g b (2 + s) + 1) (by omega) (by omega), mput_wg]
  simp only [mat_wg]
  have e1 : ga (gs g (250 + 10 * b + (2 + s)) (ga g b (2 + s) + 1)) b (2 + s) = ga g b (2 + s) + 1 := gs_s rfl
  have e7 : ga (gs g (250 + 10 * b + (2 + s)) (ga g b (2 + s) + 1)) b 7 = ga g b 7 := gs_o (by omega)
  have e6 : ga (gs g (250 + 10 * b + (2 + s)) (ga g b (2 + s) + 1)) b 6 = ga g b 6 := gs_o (by omega)
  rw [e1, e7, e6, if_neg (by omega), if_pos hp]
theorem score_all (hk : KP N c g) (h6 : 0 ≤ g 6) (hs : s = 0 ∨ s = 1) : ∃ c' g', (∀ K, zm_score 0 s (wcm K c) = wcm K c') ∧ (∀ X, zm_mscores (g 6) s (wg X g) = wg X g') ∧ KP N c' g' ∧ g' 3 = g 3 := by
  obtain ⟨n1, n2, n3, n4, n5, n6, n7, n8, n9, n10, n11⟩ := now_f hk h6
  have hb307 : 0 ≤ g 6 ∧ g 6 < 307 := by omega
  have h3 := hk.2.1.2.2.1 (g 6) h6 n1
  unfold R3b at h3
  have tm := tg_m hk.1 h6 n1
  have tc := tg_c (b := g 6) hk.2.1
  have ht : c 20 (2 * g 6 + s) = ga g (g 6) (2 + s) ∧ 0 ≤ ga g (g 6) (2 + s) ∧ ga g (g 6) (2 + s) < tgB g (g 6) := by
    rcases hs with rfl | rfl
    · rw [show 2 * g 6 + 0 = 2 * g 6 by omega]; exact ⟨h3.2.2.1, n5⟩
    · exact ⟨h3.2.2.2.1, n6⟩
  have hcs : ∀ K, zm_score 0 s (wcm K c) = if ga g (g 6) (2 + s) + 1 < tgB g (g 6) then (if ga g (g 6) 6 = -1 then wcm K (cset c 20 (2 * g 6 + s) (ga g (g 6) (2 + s) + 1)) else zm_win 0 (g 6) s (wcm K (cset c 20 (2 * g 6 + s) (ga g (g 6) (2 + s) + 1)))) else zm_win 0 (g 6) s (wcm K (cset c 20 (2 * g 6 + s) (ga g (g 6) (2 + s) + 1))) := fun K => by
    unfold zm_score
    simp only [wk_2, n8, z0]
    rw [wr_eq (z := 2 * g 6) (by omega) (by omega), wr_eq (z := 2 * g 6 + s) (by omega) (by omega), wr_10g (by omega), ht.1, wr_eq (z := ga g (g 6) (2 + s) + 1) (by omega) (by omega), ws_10 (by omega)]
    simp only [wk_2]
    rw [cset_o (by omega), n8, cz_to hb307 (by omega), cset_s ⟨rfl, rfl⟩, cz_tg, cset_o (by omega), tc, wr_14g hb307, cset_o (by omega), h3.2.2.2.2.2.2.2]
  by_cases hst : ga g (g 6) (2 + s) + 1 < tgB g (g 6) ∧ ga g (g 6) 6 = -1
  · refine ⟨_, _, fun K => by rw [hcs, if_pos hst.1, if_pos hst.2], fun X => msc_stay X h6 hs (by rw [tm]; exact ⟨ht.2.1, hst.1⟩) (by omega), ?_, gs_o (by omega)⟩
    have hk2 := hk.2.1.2.2.2.2.2.1
    refine KP_now hk (Int.le_refl N) rfl h6 (fun k q1 q2 q3 q4 q5 q6 => gs_o (by omega)) ?_ ?_ ?_ ?_ (fun C k q1 q2 q3 q4 => cset_o (by omega)) ?_ ?_ ?_ ?_ ?_
    · rw [gs_o (by omega)]; exact n10
    · rcases hs with rfl | rfl
      · unfold ga; rw [gs_s (by omega)]; exact ⟨by have := ht.2.1; unfold ga at this; omega, hst.1⟩
      · unfold ga; rw [gs_o (by omega)]; exact n5
    · rcases hs with rfl | rfl
      · unfold ga; rw [gs_o (by omega)]; exact n6
      · unfold ga; rw [gs_s (by omega)]; exact ⟨by have := ht.2.1; unfold ga at this; omega, hst.1⟩
    · unfold ga; rw [gs_o (by omega)]; exact n7
    · rw [cset_o (by omega), gs_o (by omega)]; exact n9
    · rcases hs with rfl | rfl
      · rw [cset_s (by omega)]; unfold ga; rw [gs_s (by omega)]
      · rw [cset_o (by omega), h3.2.2.1]; unfold ga; rw [gs_o (by omega)]
    · rcases hs with rfl | rfl
      · rw [cset_o (by omega), h3.2.2.2.1]; unfold ga; rw [gs_o (by omega)]
      · rw [cset_s (by omega)]; unfold ga; rw [gs_s (by omega)]
    · rw [cset_o (by omega), h3.2.2.2.2.2.2.2]; unfold ga; rw [gs_o (by omega)]
    · unfold R6 ga at hk2 ⊢
      rw [gs_o (i := 6) (by omega), gs_o (i := 250 + 10 * g 6 + 8) (by omega), gs_o (i := 250 + 10 * g 6 + 9) (by omega), cset_o (by omega), cset_o (by omega)]
      exact hk2
  · have hg2 : ∀ w, w ≠ 2 + s → 0 ≤ w → w < 10 → ga (gs g (250 + 10 * g 6 + (2 + s)) (ga g (g 6) (2 + s) + 1)) (g 6) w = ga g (g 6) w := fun w q1 q2 q3 => gs_o (by omega)
    have hgs : ga (gs g (250 + 10 * g 6 + (2 + s)) (ga g (g 6) (2 + s) + 1)) (g 6) (2 + s) = ga g (g 6) (2 + s) + 1 := gs_s rfl
    obtain ⟨c', g', f1, f2, f3, f4, -⟩ := fin_all (c0 := cset c 20 (2 * g 6 + s) (ga g (g 6) (2 + s) + 1)) (g0 := gs g (250 + 10 * g 6 + (2 + s)) (ga g (g 6) (2 + s) + 1)) hk h6 n1 (Or.inr n3) n4 hs (Or.inl rfl) (fun k _ _ => gs_o (by omega)) (fun C k _ => cset_o (by omega))
      (by
        rcases hs with rfl | rfl
        · rw [cset_s (by omega)]; exact hgs.symm
        · rw [cset_o (by omega), hg2 2 (by decide) (by decide) (by decide)]; exact h3.2.2.1)
      (by
        rcases hs with rfl | rfl
        · rw [cset_o (by omega), hg2 3 (by decide) (by decide) (by decide)]; exact h3.2.2.2.1
        · rw [cset_s (by omega)]; exact hgs.symm)
      (by
        rcases hs with rfl | rfl
        · have e := hgs; have := ht.2; rw [show (2 : Int) + 0 = 2 from rfl] at *; rw [e]; omega
        · rw [hg2 2 (by decide) (by decide) (by decide)]; omega)
      (by
        rcases hs with rfl | rfl
        · rw [hg2 3 (by decide) (by decide) (by decide)]; omega
        · have e := hgs; have := ht.2; rw [show (2 : Int) + 1 = 3 from rfl] at *; rw [e]; omega)
    refine ⟨c', g', fun K => ?_, fun X => ?_, f3, f4⟩
    · rw [hcs]
      by_cases q : ga g (g 6) (2 + s) + 1 < tgB g (g 6)
      · rw [if_pos q, if_neg (fun q2 => hst ⟨q, q2⟩)]; exact f1 K
      · rw [if_neg q]; exact f1 K
    · have ew : wr (2 + s) = 2 + s := wr_eq (by omega) (by omega)
      unfold zm_mscores zo_mtarget
      rw [ew, mat_wg, wr_eq (z := ga g (g 6) (2 + s) + 1) (by omega) (by omega), mput_wg]
      simp only [mat_wg]
      rw [hgs, hg2 7 (by omega) (by decide) (by decide), hg2 6 (by omega) (by decide) (by decide), tm, f2 X]
      by_cases q : ga g (g 6) (2 + s) + 1 = tgB g (g 6)
      · rw [if_pos q]
      · rw [if_neg q, if_neg]
        intro q2
        exact hst ⟨by omega, by omega⟩
/-- the model's touch after what is kept -/
def ttail (s : Int) (Y : Mem) : Mem := if mat Y (Y 13 186 6) 2 = wr (zo_mtarget (Y 13 186 6) Y - 1) then (if 2 ≤ s then Y else zm_mscores (Y 13 186 6) s Y) else if mat Y (Y 13 186 6) 3 = wr (zo_mtarget (Y 13 186 6) Y - 1) then (if 2 ≤ s then Y else zm_mscores (Y 13 186 6) s Y) else if mat Y (Y 13 186 6) 6 < 0 then (if 2 ≤ s then zm_mscores (Y 13 186 6) 1 (zm_mscores (Y 13 186 6) 0 Y) else zm_mscores (Y 13 186 6) s Y) else if 2 ≤ s then Y else zm_mscores (Y 13 186 6) s Y
theorem touch_all (hk : KP N c g) (h6 : 0 ≤ g 6) (hs : 0 ≤ s ∧ s ≤ 2) : ∃ c' g', (∀ K, (if ¬ s = 2 then zm_score 0 s (wcm K c) else zm_scoreBoth 0 (wcm K c)) = wcm K c') ∧ (∀ X, ttail s (wg X g) = wg X g') ∧ KP N c' g' ∧ g' 3 = g 3 := by
  by_cases h2 : s = 2
  · subst h2
    obtain ⟨n1, n2, n3, n4, n5, n6, n7, n8, n9, n10, n11⟩ := now_f hk h6
    have hb307 : 0 ≤ g 6 ∧ g 6 < 307 := by omega
    have h3 := hk.2.1.2.2.1 (g 6) h6 n1
    unfold R3b at h3
    have tm := tg_m hk.1 h6 n1
    have tc := tg_c (b := g 6) hk.2.1
    have ht5 : 5 ≤ tgB g (g 6) := by unfold tgB; split <;> omega
    have hcs : ∀ K, zm_scoreBoth 0 (wcm K c) = if ¬ ga g (g 6) 6 = -1 then wcm K c else if tgB g (g 6) - 2 < ga g (g 6) 2 then wcm K c else if tgB g (g 6) - 2 < ga g (g 6) 3 then wcm K c else wcm K (cset (cset c 20 (2 * g 6) (ga g (g 6) 2 + 1)) 20 (2 * g 6 + 1) (ga g (g 6) 3 + 1)) := fun K => by
      unfold zm_scoreBoth
      simp only [wk_2, n8, z0]
      rw [wr_14g hb307, h3.2.2.2.2.2.2.2, cz_tg, tc, wr_eq (z := tgB g (g 6) - 2) (by omega) (by omega), cz_to hb307 (by decide), cz_to hb307 (by decide), wr_eq (z := 2 * g 6) (by omega) (by omega), wr_eq (z := 2 * g 6 + 0) (by omega) (by omega), show 2 * g 6 + 0 = 2 * g 6 by omega, h3.2.2.1, h3.2.2.2.1, wr_10g (by omega), h3.2.2.1, wr_eq (z := ga g (g 6) 2 + 1) (by omega) (by omega), ws_10 (by omega)]
      simp only [wk_2]
      rw [cset_o (C := 20) (C' := 2) (by omega), n8, wr_eq (z := 2 * g 6) (by omega) (by omega), wr_eq (z := 2 * g 6 + 1) (by omega) (by omega), wr_10g (by omega), cset_o (by omega), h3.2.2.2.1, wr_eq (z := ga g (g 6) 3 + 1) (by omega) (by omega), ws_10 (by omega)]
    have hct : ∀ X, ttail 2 (wg X g) = if ga g (g 6) 2 = tgB g (g 6) - 1 then wg X g else if ga g (g 6) 3 = tgB g (g 6) - 1 then wg X g else if ga g (g 6) 6 < 0 then zm_mscores (g 6) 1 (zm_mscores (g 6) 0 (wg X g)) else wg X g := fun X => by
      unfold ttail zo_mtarget
      simp only [wg_r, mat_wg]
      rw [tm, wr_eq (z := tgB g (g 6) - 1) (by omega) (by omega)]
      simp only [show (2 : Int) ≤ 2 from by decide, if_true]
    by_cases hgo : ga g (g 6) 6 = -1 ∧ ga g (g 6) 2 ≤ tgB g (g 6) - 2 ∧ ga g (g 6) 3 ≤ tgB g (g 6) - 2
    · have e2 : ga g (g 6) (2 + 0) = ga g (g 6) 2 := rfl
      have m1 : ∀ X, zm_mscores (g 6) 0 (wg X g) = wg X (gs g (250 + 10 * g 6 + (2 + 0)) (ga g (g 6) (2 + 0) + 1)) := fun X => msc_stay X h6 (Or.inl rfl) (by rw [tm]; exact ⟨n5.1, by omega⟩) (by omega)
      generalize hg1 : gs g (250 + 10 * g 6 + (2 + 0)) (ga g (g 6) (2 + 0) + 1) = g1 at m1
      have q3 : ga g1 (g 6) 3 = ga g (g 6) 3 := by rw [← hg1]; exact gs_o (by omega)
      have q7 : ga g1 (g 6) 7 = ga g (g 6) 7 := by rw [← hg1]; exact gs_o (by omega)
      have q6 : ga g1 (g 6) 6 = ga g (g 6) 6 := by rw [← hg1]; exact gs_o (by omega)
      have q2 : ga g1 (g 6) 2 = ga g (g 6) 2 + 1 := by rw [← hg1]; exact gs_s (by omega)
      have qo : ∀ k, ¬ k = 250 + 10 * g 6 + 2 → g1 k = g k := fun k q => by rw [← hg1]; exact gs_o (by omega)
      have m2 : ∀ X, zm_mscores (g 6) 1 (wg X g1) = wg X (gs g1 (250 + 10 * g 6 + (2 + 1)) (ga g1 (g 6) (2 + 1) + 1)) := fun X => msc_stay X h6 (Or.inr rfl) (by rw [q7, tm, show (2 : Int) + 1 = 3 from rfl, q3]; exact ⟨n6.1, by omega⟩) (by omega)
      refine ⟨cset (cset c 20 (2 * g 6) (ga g (g 6) 2 + 1)) 20 (2 * g 6 + 1) (ga g (g 6) 3 + 1), gs g1 (250 + 10 * g 6 + (2 + 1)) (ga g1 (g 6) (2 + 1) + 1), fun K => ?_, fun X => ?_, ?_, ?_⟩
      · rw [if_neg (by decide), hcs, if_neg (by omega), if_neg (by omega), if_neg (by omega)]
      · rw [hct, if_neg (by omega), if_neg (by omega), if_pos (by omega), m1, m2]
      · have hk2 := hk.2.1.2.2.2.2.2.1
        have e3 : ga g1 (g 6) (2 + 1) = ga g (g 6) 3 := q3
        rw [e3]
        refine KP_now hk (Int.le_refl N) rfl h6 (fun k q1 q2 q3 q4 q5 q6 => by rw [gs_o (by omega)]; exact qo k q2) ?_ ?_ ?_ ?_ (fun C k q1 q2 q3 q4 => by rw [cset_o (by omega), cset_o (by omega)]) ?_ ?_ ?_ ?_ ?_
        · rw [gs_o (by omega), qo 7 (by omega)]; exact n10
        · have : ga (gs g1 (250 + 10 * g 6 + (2 + 1)) (ga g (g 6) 3 + 1)) (g 6) 2 = ga g (g 6) 2 + 1 := (gs_o (by omega)).trans q2
          rw [this]; omega
        · have : ga (gs g1 (250 + 10 * g 6 + (2 + 1)) (ga g (g 6) 3 + 1)) (g 6) 3 = ga g (g 6) 3 + 1 := gs_s (by omega)
          rw [this]; omega
        · have : ga (gs g1 (250 + 10 * g 6 + (2 + 1)) (ga g (g 6) 3 + 1)) (g 6) 6 = ga g (g 6) 6 := (gs_o (by omega)).trans q6
          rw [this]; omega
        · rw [cset_o (by omega), cset_o (by omega), gs_o (by omega), qo 7 (by omega)]; exact n9
        · have : ga (gs g1 (250 + 10 * g 6 + (2 + 1)) (ga g (g 6) 3 + 1)) (g 6) 2 = ga g (g 6) 2 + 1 := (gs_o (by omega)).trans q2
          rw [this, cset_o (by omega), cset_s (by omega)]
        · have : ga (gs g1 (250 + 10 * g 6 + (2 + 1)) (ga g (g 6) 3 + 1)) (g 6) 3 = ga g (g 6) 3 + 1 := gs_s (by omega)
          rw [this, cset_s (by omega)]
        · have : ga (gs g1 (250 + 10 * g 6 + (2 + 1)) (ga g (g 6) 3 + 1)) (g 6) 6 = ga g (g 6) 6 := (gs_o (by omega)).trans q6
          rw [this, cset_o (by omega), cset_o (by omega), h3.2.2.2.2.2.2.2]
        · unfold R6 ga at hk2 ⊢
          rw [gs_o (i := 6) (by omega), qo 6 (by omega), gs_o (i := 250 + 10 * g 6 + 8) (by omega), gs_o (i := 250 + 10 * g 6 + 9) (by omega), qo (250 + 10 * g 6 + 8) (by omega), qo (250 + 10 * g 6 + 9) (by omega), cset_o (by omega), cset_o (by omega), cset_o (by omega), cset_o (by omega)]
          exact hk2
      · rw [gs_o (by omega)]; exact qo 3 (by omega)
    · refine ⟨c, g, fun K => ?_, fun X => ?_, hk, rfl⟩
      · rw [if_neg (by decide), hcs]
        by_cases q1 : ga g (g 6) 6 = -1
        · rw [if_neg (by omega)]
          by_cases q2 : tgB g (g 6) - 2 < ga g (g 6) 2
          · rw [if_pos q2]
          · rw [if_neg q2, if_pos (by omega)]
        · rw [if_pos q1]
      · rw [hct]
        by_cases q2 : ga g (g 6) 2 = tgB g (g 6) - 1
        · rw [if_pos q2]
        · rw [if_neg q2]
          by_cases q3 : ga g (g 6) 3 = tgB g (g 6) - 1
          · rw [if_pos q3]
          · rw [if_neg q3, if_neg (by omega)]
  · obtain ⟨c', g', f1, f2, f3, f4⟩ := score_all hk h6 (s := s) (by omega)
    refine ⟨c', g', fun K => by rw [if_pos h2]; exact f1 K, fun X => ?_, f3, f4⟩
    unfold ttail
    simp only [wg_r, if_neg (show ¬ 2 ≤ s by omega), f2 X]
    repeat' split
    all_goals rfl
theorem ca_touch (h : J N σ σ) : Cal N 196 [aR 11 0, aI s] (zo_xtouch s σ) (zm_xtouch s σ) (fun E => if E = 0 then 1 else 2) := by
  have r1 := J_R1 h
  have rg := J_rg h
  by_cases hs : 0 ≤ s ∧ s ≤ 2
  · by_cases h6 : 0 ≤ σ 13 186 6
    · obtain ⟨c', g', f1, f2, f3, f4⟩ := touch_all (s := s) (kp_keep h) h6 hs
      have e : (if ¬ s = 2 then zm_score 0 s (zm_keep 0 σ) else zm_scoreBoth 0 (zm_keep 0 σ)) = wcm (zm_keep 0 σ) c' := by
        rw [← f1, wcm_id]
      have ea : zm_xtouch s σ = wcm (zm_keep 0 σ) c' := by
        rw [← e]
        unfold zm_xtouch
        simp only [if_neg (show ¬ σ 2 0 2 = -1 by omega)]
        have : s = 0 ∨ s = 1 ∨ s = 2 := by omega
        rcases this with rfl | rfl | rfl <;> rfl
      have h307 : 0 ≤ σ 13 186 6 ∧ σ 13 186 6 < 307 := by omega
      have h4 : c' 21 (σ 13 186 6) = ga g' (σ 13 186 6) 4 := by
        have := f3.2.1.2.2.1 (σ 13 186 6) h6 (by omega)
        unfold R3b at this
        exact this.2.2.2.2.1
      have eo : zo_xtouch s σ = .inl (some (aI (ga g' (σ 13 186 6) 4))) := by
        have : zo_xtouch s σ = .inl (some (aI (rget (zm_xtouch s σ) 11 (σ 2 0 2)))) := by
          unfold zo_xtouch zm_xtouch
          simp only [if_neg (show ¬ σ 2 0 2 = -1 by omega)]
          have : s = 0 ∨ s = 1 ∨ s = 2 := by omega
          rcases this with rfl | rfl | rfl <;> rfl
        rw [this, ea, r1.2.2.1, wr_11g h307, h4]
      rw [ea, eo]
      have er := keep_row (c' := c') h
      have hh := fin_hyp h.1.1 h6 (by omega)
      have hm := mch_wg (c' := c') h
      have hrow := mch_row (c' := c') h
      have et := f2 (zm_mchanges (up (wcm (zm_keep 0 σ) c') 11 0 6 0))
      rw [← hm] at et
      have hrow6 : zm_mchanges (up (wcm (zm_keep 0 σ) c') 11 0 6 0) 13 186 6 = σ 13 186 6 := congrFun hrow 6
      have ez : zm_ytouch s (wcm (zm_keep 0 σ) c') = wg (zm_mchanges (up (wcm (zm_keep 0 σ) c') 11 0 6 0)) g' := by
        rw [← et]
        unfold zm_ytouch
        rw [er, if_pos hs, if_pos h6]
        rfl
      have eoz : zo_ytouch s (wcm (zm_keep 0 σ) c') = ga g' (σ 13 186 6) 4 := by
        have : zo_ytouch s (wcm (zm_keep 0 σ) c') = mat (ttail s (zm_mchanges (up (wcm (zm_keep 0 σ) c') 11 0 6 0))) (zm_mchanges (up (wcm (zm_keep 0 σ) c') 11 0 6 0) 13 186 6) 4 := by
          unfold zo_ytouch ttail
          rw [er, if_pos hs, if_pos h6]
          repeat' split
          all_goals first | rfl | omega
        rw [this, et, mat_wg, hrow6]
      refine ⟨_, _, ev_ytouch s _ (pasts_keep h) (by rw [er]; omega) (by rw [er]; exact hh.1) ?_ ?_, ?_, ?_⟩
      · simp only [mat_row]
        rw [er]; exact hh.2.1
      · simp only [fo_row, mat_row]
        rw [er]; exact hh.2.2
      · rw [ez]; exact J_chg h (Int.le_refl N) f3
      · rw [ez, eoz]; exact Or.inl ⟨_, rfl, mch_6 h, rfl⟩
    · have ea : zm_xtouch s σ = σ := by
        unfold zm_xtouch
        simp only [if_pos (show σ 2 0 2 = -1 by omega)]
        repeat' split
        all_goals rfl
      have eo : zo_xtouch s σ = .inr 1 := by
        unfold zo_xtouch
        simp only [if_pos (show σ 2 0 2 = -1 by omega)]
        have : s = 0 ∨ s = 1 ∨ s = 2 := by omega
        rcases this with rfl | rfl | rfl <;> rfl
      rw [ea, eo]
      refine ⟨_, _, ev_ytouch_n s σ (by omega), ?_, ?_⟩
      · unfold zm_ytouch
        rw [if_pos hs, if_neg h6]; exact J_thr h
      · unfold zm_ytouch
        rw [if_pos hs, if_neg h6]; exact Or.inr ⟨_, rfl, up_s _ _ _ _ _, by decide⟩
  · have ea : zm_xtouch s σ = σ := by
      unfold zm_xtouch
      rw [if_neg (by omega), if_neg (by omega), if_neg (by omega)]
    have eo : zo_xtouch s σ = .inr 0 := by
      unfold zo_xtouch
      rw [if_neg (by omega), if_neg (by omega), if_neg (by omega)]
    rw [ea, eo]
    refine ⟨_, _, ev_ytouch_n s σ (by omega), ?_, ?_⟩
    · unfold zm_ytouch
      rw [if_neg hs]; exact J_thr h
    · unfold zm_ytouch
      rw [if_neg hs]; exact Or.inr ⟨_, rfl, up_s _ _ _ _ _, by decide⟩
end Touch
