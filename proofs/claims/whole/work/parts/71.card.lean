/-! A card, on both sides. -/
theorem ev_ycard_n (s k : Int) (σ : Mem) (hn : ¬ ((0 ≤ s ∧ s ≤ 1) ∧ (0 ≤ k ∧ k ≤ 2) ∧ 0 ≤ σ 13 186 6)) : Ev true 199 [aR 11 (0), aI (s), aI (k)] σ (.inl (some (aI (zo_ycard s k σ)))) (zm_ycard s k σ) := by
  show wp true 199 0 [some (aR 11 (0)), some (aI (s)), some (aI (k)), none, none, none] [] σ 0 0 _
  refine wp_seg 4 (P := none) (ls' := [some (aR 11 (0)), some (aI (s)), some (aI (k)), none, none, none]) (st' := [aI (1), aI (0), aI (s), aR 11 (0)]) (σ' := σ) rq_199 rfl True.intro (i' := 4) rfl ?_
  by_cases h1 : (0) ≤ (s) ∧ (s) ≤ (1)
  · refine wp_call (C := 0) (As := [aI (s), aI (0), aI (1)]) (rest := [aR 11 (0)]) rq_199 (ev_min_y (s) (0) (1) σ  h1) rfl rfl (show clOK 199 154 2 0 0 3 0 = true by decide +kernel) rfl (show 1 ≤ 4 by decide) (fun h => absurd rfl h) rfl (c' := 0) (s' := 0) rfl rfl ?_
    refine wp_if rq_199 rfl (fun (h2 : (1 : Int) = (0 : Int)) => absurd h2 (show ¬ ((1 : Int) = (0 : Int)) from by decide)) (fun _ => ?_)
    refine wp_seg 3 (P := none) (ls' := [some (aR 11 (0)), some (aI (s)), some (aI (k)), none, none, none]) (st' := [aI (2), aI (0), aI (k), aR 11 (0)]) (σ' := σ) rq_199 rfl True.intro (i' := 9) rfl ?_
    by_cases h3 : (0) ≤ (k) ∧ (k) ≤ (2)
    · refine wp_call (C := 0) (As := [aI (k), aI (0), aI (2)]) (rest := [aR 11 (0)]) rq_199 (ev_min_y (k) (0) (2) σ  h3) rfl rfl (show clOK 199 154 2 0 0 3 0 = true by decide +kernel) rfl (show 1 ≤ 4 by decide) (fun h => absurd rfl h) rfl (c' := 0) (s' := 0) rfl rfl ?_
      refine wp_if rq_199 rfl (fun (h4 : (1 : Int) = (0 : Int)) => absurd h4 (show ¬ ((1 : Int) = (0 : Int)) from by decide)) (fun _ => ?_)
      refine wp_seg 4 (P := some (0 ≤ (6) ∧ (6) < alen σ 13 (186))) (ls' := [some (aR 11 (0)), some (aI (s)), some (aI (k)), none, none, none]) (st' := [aI (σ 13 (186) (6)), aR 11 (0)]) (σ' := σ) rq_199 rfl ?_ (i' := 15) rfl ?_
      · show 0 ≤ (6) ∧ (6) < alen σ 13 (186)
        (first | decide | exact Or.inl rfl | exact Or.inr rfl | ((try simp (disch := omega) only [wr_eq, td2, tm2, mat_mput, mat_up, fo_mput, up_g_o, mput_g_o, mat_mch, mch_g, up6_g, al_g, al_k, al_p, al_c, al_r, al_t, al_o, rl_g, rl_k, rl_p, rl_c, rl_r, rl_t, rl_o, fo_mch, fo_up11, mat_up11, mat_upf, fo_upf, Int.zero_add] at *); (try simp (disch := omega) only [wr_eq, td2, tm2, mat_mput, mat_up, fo_mput, up_g_o, mput_g_o, mat_mch, mch_g, up6_g, al_g, al_k, al_p, al_c, al_r, al_t, al_o, rl_g, rl_k, rl_p, rl_c, rl_r, rl_t, rl_o, fo_mch, fo_up11, mat_up11, mat_upf, fo_upf, Int.zero_add]); (try simp (disch := omega) only [wr_eq, td2, tm2, mat_mput, mat_up, fo_mput, up_g_o, mput_g_o, mat_mch, mch_g, up6_g, al_g, al_k, al_p, al_c, al_r, al_t, al_o, rl_g, rl_k, rl_p, rl_c, rl_r, rl_t, rl_o, fo_mch, fo_up11, mat_up11, mat_upf, fo_upf, Int.zero_add] at *); (try simp (disch := omega) only [wr_eq, td2, tm2, mat_mput, mat_up, fo_mput, up_g_o, mput_g_o, mat_mch, mch_g, up6_g, al_g, al_k, al_p, al_c, al_r, al_t, al_o, rl_g, rl_k, rl_p, rl_c, rl_r, rl_t, rl_o, fo_mch, fo_up11, mat_up11, mat_upf, fo_upf, Int.zero_add]); (try simp (disch := omega) only [wr_eq, td2, tm2, mat_mput, mat_up, fo_mput, up_g_o, mput_g_o, mat_mch, mch_g, up6_g, al_g, al_k, al_p, al_c, al_r, al_t, al_o, rl_g, rl_k, rl_p, rl_c, rl_r, rl_t, rl_o, fo_mch, fo_up11, mat_up11, mat_upf, fo_upf, Int.zero_add]); omega))
      refine wp_if rq_199 rfl (fun (h5 : 0 ≤ (σ 13 (186) (6))) => ?_) (fun (h5 : ¬ (0 ≤ (σ 13 (186) (6)))) => ?_)
      · exact absurd ⟨h1, h3, h5⟩ hn
      · refine wp_seg 1 (P := none) (ls' := [some (aR 11 (0)), some (aI (s)), some (aI (k)), none, none, none]) (st' := [aI (2), aR 11 (0)]) (σ' := σ) rq_199 rfl True.intro (i' := 17) rfl ?_
        refine wp_goto rq_199 rfl ?_
        refine wp_seg 3 (P := none) (ls' := [some (aR 11 (0)), some (aI (s)), some (aI (k)), none, none, none]) (st' := [aI (2)]) (σ' := (up σ 11 (0) 6 (2))) rq_199 rfl True.intro (i' := 24) rfl ?_
        refine wp_if rq_199 rfl (fun (h29 : (2 : Int) ≤ (0 : Int)) => absurd h29 (show ¬ ((2 : Int) ≤ (0 : Int)) from by decide)) (fun _ => ?_)
        refine wp_seg 1 (P := none) (ls' := [some (aR 11 (0)), some (aI (s)), some (aI (k)), none, none, none]) (st' := [aI (0)]) (σ' := (up σ 11 (0) 6 (2))) rq_199 rfl True.intro (i' := 26) rfl ?_
        refine wp_iret rq_199 rfl rt_199 ⟨?_, ?_⟩
        · (rw [zo_ycard, if_pos h1, if_pos h3, if_neg h5]; try rfl)
        · (rw [zm_ycard, if_pos h1, if_pos h3, if_neg h5]; try rfl)
    · refine wp_call (C := 0) (As := [aI (k), aI (0), aI (2)]) (rest := [aR 11 (0)]) rq_199 (ev_min_n (k) (0) (2) σ  h3) rfl rfl (show clOK 199 154 2 0 0 3 0 = true by decide +kernel) rfl (show 1 ≤ 4 by decide) (fun h => absurd rfl h) rfl (c' := 0) (s' := 0) rfl rfl ?_
      refine wp_if rq_199 rfl (fun _ => ?_) (fun (h30 : ¬ ((0 : Int) = (0 : Int))) => absurd (show (0 : Int) = (0 : Int) from by decide) h30)
      refine wp_seg 4 (P := none) (ls' := [some (aR 11 (0)), some (aI (s)), some (aI (k)), none, none, none]) (st' := [aI (1)]) (σ' := (up σ 11 (0) 6 (1))) rq_199 rfl True.intro (i' := 24) rfl ?_
      refine wp_if rq_199 rfl (fun (h31 : (1 : Int) ≤ (0 : Int)) => absurd h31 (show ¬ ((1 : Int) ≤ (0 : Int)) from by decide)) (fun _ => ?_)
      refine wp_seg 1 (P := none) (ls' := [some (aR 11 (0)), some (aI (s)), some (aI (k)), none, none, none]) (st' := [aI (0)]) (σ' := (up σ 11 (0) 6 (1))) rq_199 rfl True.intro (i' := 26) rfl ?_
      refine wp_iret rq_199 rfl rt_199 ⟨?_, ?_⟩
      · (rw [zo_ycard, if_pos h1, if_neg h3]; try rfl)
      · (rw [zm_ycard, if_pos h1, if_neg h3]; try rfl)
  · refine wp_call (C := 0) (As := [aI (s), aI (0), aI (1)]) (rest := [aR 11 (0)]) rq_199 (ev_min_n (s) (0) (1) σ  h1) rfl rfl (show clOK 199 154 2 0 0 3 0 = true by decide +kernel) rfl (show 1 ≤ 4 by decide) (fun h => absurd rfl h) rfl (c' := 0) (s' := 0) rfl rfl ?_
    refine wp_if rq_199 rfl (fun _ => ?_) (fun (h32 : ¬ ((0 : Int) = (0 : Int))) => absurd (show (0 : Int) = (0 : Int) from by decide) h32)
    refine wp_seg 4 (P := none) (ls' := [some (aR 11 (0)), some (aI (s)), some (aI (k)), none, none, none]) (st' := [aI (1)]) (σ' := (up σ 11 (0) 6 (1))) rq_199 rfl True.intro (i' := 24) rfl ?_
    refine wp_if rq_199 rfl (fun (h33 : (1 : Int) ≤ (0 : Int)) => absurd h33 (show ¬ ((1 : Int) ≤ (0 : Int)) from by decide)) (fun _ => ?_)
    refine wp_seg 1 (P := none) (ls' := [some (aR 11 (0)), some (aI (s)), some (aI (k)), none, none, none]) (st' := [aI (0)]) (σ' := (up σ 11 (0) 6 (1))) rq_199 rfl True.intro (i' := 26) rfl ?_
    refine wp_iret rq_199 rfl rt_199 ⟨?_, ?_⟩
    · (rw [zo_ycard, if_neg h1]; try rfl)
    · (rw [zm_ycard, if_neg h1]; try rfl)
section Card
variable {N M b s f kk : Int} {σ K X : Mem} {c c' : Cs} {g g' : Gs}
theorem tab_iff (hi : IV g) (h0 : 0 ≤ b) (hb : b < g 3) : 100 ≤ ga g b 7 ↔ pB g ≤ b := by
  have h := tg_m hi h0 hb
  unfold tgB at h
  by_cases q : 100 ≤ ga g b 7
  · rw [if_pos q] at h
    by_cases q2 : b < pB g
    · rw [if_pos q2] at h; omega
    · omega
  · rw [if_neg q] at h
    by_cases q2 : b < pB g
    · omega
    · rw [if_neg q2] at h; omega
theorem hit_s {i : Int} (h0 : 0 ≤ i) (b : Int) : hit g f (i + 1) b ↔ hit g f i b ∨ (b = i ∧ i < pB g ∧ (ga g i 0 = f ∨ ga g i 1 = f)) := by
  rw [hit_iff, hit_iff]
  constructor
  · rintro ⟨q0, q1, q2⟩
    by_cases q : b = i
    · subst q; exact Or.inr ⟨rfl, q1, q2⟩
    · exact Or.inl ⟨⟨q0.1, by omega⟩, q1, q2⟩
  · rintro (⟨q0, q1, q2⟩ | ⟨rfl, q1, q2⟩)
    · exact ⟨⟨q0.1, by omega⟩, q1, q2⟩
    · exact ⟨⟨h0, by omega⟩, q1, q2⟩
theorem cAn_n {i : Int} (h0 : 0 ≤ i) (hn : ¬ (i < pB g ∧ (ga g i 0 = f ∨ ga g i 1 = f))) : cAn c g f (i + 1) = cAn c g f i := by
  have e : ∀ b, hit g f (i + 1) b ↔ hit g f i b := fun b => by
    rw [hit_s h0]
    constructor
    · rintro (q | q)
      · exact q
      · exact absurd q.2 hn
    · exact Or.inl
  funext C k
  unfold cAn
  simp only [e]
theorem cAn_y {i : Int} (h0 : 0 ≤ i) (hy : i < pB g ∧ (ga g i 0 = f ∨ ga g i 1 = f)) : cAn c g f (i + 1) = cset (cset (cset (cset (cset (cAn c g f i) 20 (2 * i) 0) 20 (2 * i + 1) 0) 22 i (-1)) 24 i (-1)) 21 i 3 := by
  have e : ∀ b, hit g f (i + 1) b ↔ (hit g f i b ∨ b = i) := fun b => by
    rw [hit_s h0]
    constructor
    · rintro (q | q)
      · exact Or.inl q
      · exact Or.inr q.1
    · rintro (q | q)
      · exact Or.inl q
      · exact Or.inr ⟨q, hy⟩
  funext C k
  by_cases q0 : C = 20
  · subst q0
    rw [cAn_20, cset_o (by omega), cset_o (by omega), cset_o (by omega)]
    by_cases q1 : k = 2 * i + 1
    · rw [cset_s ⟨rfl, q1⟩, if_pos ((e _).mpr (Or.inr (by omega)))]
    · rw [cset_o (by omega)]
      by_cases q2 : k = 2 * i
      · rw [cset_s ⟨rfl, q2⟩, if_pos ((e _).mpr (Or.inr (by omega)))]
      · rw [cset_o (by omega), cAn_20]
        by_cases q3 : hit g f i (k / 2)
        · rw [if_pos q3, if_pos ((e _).mpr (Or.inl q3))]
        · rw [if_neg q3, if_neg (fun x => ((e _).mp x).elim q3 (fun y => by omega))]
  · by_cases q1 : C = 21
    · subst q1
      rw [cAn_21]
      by_cases q2 : k = i
      · rw [cset_s ⟨rfl, q2⟩, if_pos ((e _).mpr (Or.inr q2))]
      · rw [cset_o (by omega), cset_o (by omega), cset_o (by omega), cset_o (by omega), cset_o (by omega), cAn_21]
        by_cases q3 : hit g f i k
        · rw [if_pos q3, if_pos ((e _).mpr (Or.inl q3))]
        · rw [if_neg q3, if_neg (fun x => ((e _).mp x).elim q3 q2)]
    · by_cases q2 : C = 22
      · subst q2
        rw [cAn_22, cset_o (by omega), cset_o (by omega)]
        by_cases q2 : k = i
        · rw [cset_s ⟨rfl, q2⟩, if_pos ((e _).mpr (Or.inr q2))]
        · rw [cset_o (by omega), cset_o (by omega), cset_o (by omega), cAn_22]
          by_cases q3 : hit g f i k
          · rw [if_pos q3, if_pos ((e _).mpr (Or.inl q3))]
          · rw [if_neg q3, if_neg (fun x => ((e _).mp x).elim q3 q2)]
      · by_cases q3 : C = 24
        · subst q3
          rw [cAn_24, cset_o (by omega)]
          by_cases q2 : k = i
          · rw [cset_s ⟨rfl, q2⟩, if_pos ((e _).mpr (Or.inr q2))]
          · rw [cset_o (by omega), cset_o (by omega), cset_o (by omega), cset_o (by omega), cAn_24]
            by_cases q3 : hit g f i k
            · rw [if_pos q3, if_pos ((e _).mpr (Or.inl q3))]
            · rw [if_neg q3, if_neg (fun x => ((e _).mp x).elim q3 q2)]
        · rw [cset_o (by omega), cset_o (by omega), cset_o (by omega), cset_o (by omega), cset_o (by omega)]
          unfold cAn
          rw [if_neg (by omega), if_neg (by omega), if_neg (by omega), if_neg (by omega), if_neg (by omega), if_neg (by omega)]
theorem ann_c (hk : KP N c g) (n : Nat) : (n : Int) ≤ pB g → itM (fm_annulInPool 0 f) n (wcm K c) = wcm K (cAn c g f n) := by
  have hpB := pB_le hk.1
  have i1 := hk.1.1
  have b3 : g 3 ≤ 307 := by unfold I1 at i1; omega
  induction n with
  | zero =>
    intro _
    rw [show ((0 : Nat) : Int) = 0 from rfl, itM_0, cAn_0]
  | succ n ih =>
    intro hn
    have hn' : (n : Int) < pB g := by omega
    rw [show ((n + 1 : Nat) : Int) = (n : Int) + 1 from rfl, itM_s _ _ (by omega), ih (by omega)]
    generalize hi : (n : Int) = i at hn' ⊢
    have h0 : 0 ≤ i ∧ i < 307 := by omega
    have h3 := hk.2.1.2.2.1 i h0.1 (by omega)
    unfold R3b at h3
    have e19 : ∀ k, cAn c g f i 19 k = c 19 k := fun k => by
      unfold cAn
      rw [if_neg (by omega), if_neg (by omega), if_neg (by omega)]
    have hw : (zo_isWith 0 i f (wcm K (cAn c g f i)) = 0) ↔ ¬ (ga g i 0 = f ∨ ga g i 1 = f) := by
      unfold zo_isWith
      rw [cz_fe h0 (by decide), cz_fe h0 (by decide), e19, e19, show 2 * i + 0 = 2 * i by omega, h3.1, h3.2.1]
      by_cases q0 : ga g i 0 = f
      · rw [if_pos q0]; omega
      · rw [if_neg q0]
        by_cases q1 : ga g i 1 = f
        · rw [if_neg (by omega)]; omega
        · rw [if_pos q1]; omega
    unfold fm_annulInPool
    by_cases q : ga g i 0 = f ∨ ga g i 1 = f
    · rw [if_neg (fun x => (hw.mp x) q), cAn_y h0.1 ⟨hn', q⟩]
      unfold zm_wipe
      rw [wr_eq (z := 2 * i) (by omega) (by omega), wr_eq (z := 2 * i + 0) (by omega) (by omega), wr_eq (z := 2 * i + 1) (by omega) (by omega), show 2 * i + 0 = 2 * i by omega, z0, z0, z0, z0, ws_10 (by omega), ws_10 (by omega), ws_12 (by omega), ws_14 (by omega), ws_11 (by omega)]
    · rw [if_pos (hw.mpr q), cAn_n h0.1 (fun x => q x.2)]
theorem gAn_n {i : Int} (h0 : 0 ≤ i) (hn : ¬ (i < pB g ∧ (ga g i 0 = f ∨ ga g i 1 = f))) : gAn g f (i + 1) = gAn g f i := by
  have e : ∀ b, hit g f (i + 1) b ↔ hit g f i b := fun b => by
    rw [hit_s h0]
    constructor
    · rintro (q | q)
      · exact q
      · exact absurd q.2 hn
    · exact Or.inl
  funext k
  unfold gAn
  simp only [e]
theorem gAn_y {i : Int} (h0 : 0 ≤ i) (hy : i < pB g ∧ (ga g i 0 = f ∨ ga g i 1 = f)) : gAn g f (i + 1) = gs (gs (gs (gs (gs (gAn g f i) (250 + 10 * i + 4) 3) (250 + 10 * i + 2) 0) (250 + 10 * i + 3) 0) (250 + 10 * i + 5) (-1)) (250 + 10 * i + 6) (-1) := by
  have e : ∀ b, hit g f (i + 1) b ↔ (hit g f i b ∨ b = i) := fun b => by
    rw [hit_s h0]
    constructor
    · rintro (q | q)
      · exact Or.inl q
      · exact Or.inr q.1
    · rintro (q | q)
      · exact Or.inl q
      · exact Or.inr ⟨q, hy⟩
  funext k
  by_cases hk : 250 ≤ k ∧ (k - 250) / 10 = i
  · have hh : 250 ≤ k ∧ hit g f (i + 1) ((k - 250) / 10) := ⟨hk.1, (e _).mpr (Or.inr hk.2)⟩
    have hg : gAn g f i k = g k := by
      unfold gAn
      rw [if_neg]
      rintro ⟨-, q⟩
      have := hit_iff.mp q
      omega
    have hv : gAn g f (i + 1) k = if (k - 250) % 10 = 4 then 3 else if (k - 250) % 10 = 2 ∨ (k - 250) % 10 = 3 then 0 else if (k - 250) % 10 = 5 ∨ (k - 250) % 10 = 6 then -1 else g k := by
      unfold gAn
      rw [if_pos hh]
    rw [hv]
    by_cases q6 : k = 250 + 10 * i + 6
    · rw [gs_s q6, if_neg (by omega), if_neg (by omega), if_pos (by omega)]
    · rw [gs_o q6]
      by_cases q5 : k = 250 + 10 * i + 5
      · rw [gs_s q5, if_neg (by omega), if_neg (by omega), if_pos (by omega)]
      · rw [gs_o q5]
        by_cases q3 : k = 250 + 10 * i + 3
        · rw [gs_s q3, if_neg (by omega), if_pos (by omega)]
        · rw [gs_o q3]
          by_cases q2 : k = 250 + 10 * i + 2
          · rw [gs_s q2, if_neg (by omega), if_pos (by omega)]
          · rw [gs_o q2]
            by_cases q4 : k = 250 + 10 * i + 4
            · rw [gs_s q4, if_pos (by omega)]
            · rw [gs_o q4, if_neg (by omega), if_neg (by omega), if_neg (by omega), hg]
  · rw [gs_o (by omega), gs_o (by omega), gs_o (by omega), gs_o (by omega), gs_o (by omega)]
    unfold gAn
    by_cases q3 : 250 ≤ k ∧ hit g f i ((k - 250) / 10)
    · rw [if_pos q3, if_pos ⟨q3.1, (e _).mpr (Or.inl q3.2)⟩]
    · rw [if_neg q3, if_neg]
      rintro ⟨x, y⟩
      exact ((e _).mp y).elim (fun z => q3 ⟨x, z⟩) (fun z => hk ⟨x, z⟩)
theorem ann_m (hk : KP N c g) (n : Nat) : (n : Int) ≤ g 3 → itM (fm_mannuls f) n (wg X g) = wg X (gAn g f n) := by
  have hpB := pB_le hk.1
  have i1 := hk.1.1
  have b3 : g 3 ≤ 307 := by unfold I1 at i1; omega
  induction n with
  | zero =>
    intro _
    rw [show ((0 : Nat) : Int) = 0 from rfl, itM_0, gAn_0]
  | succ n ih =>
    intro hn
    have hn' : (n : Int) < g 3 := by omega
    rw [show ((n + 1 : Nat) : Int) = (n : Int) + 1 from rfl, itM_s _ _ (by omega), ih (by omega)]
    generalize hi : (n : Int) = i at hn' ⊢
    have h0 : 0 ≤ i ∧ i < 307 := by omega
    have hti := tab_iff hk.1 h0.1 hn'
    have hnh : ¬ hit g f i i := fun q => by have := hit_iff.mp q; omega
    have ei : ∀ w, 0 ≤ w ∧ w < 10 → ga (gAn g f i) i w = ga g i w := fun w hw => by rw [gAn_a hw h0.1, if_neg hnh]
    unfold fm_mannuls
    rw [mat_wg, mat_wg, mat_wg, ei 7 (by decide), ei 0 (by decide), ei 1 (by decide)]
    simp only [mput_wg]
    by_cases q : 100 ≤ ga g i 7
    · rw [if_pos q, gAn_n h0.1 (fun x => by have := hti.mp q; omega)]
    · rw [if_neg q]
      have hp : i < pB g := by
        by_cases q2 : i < pB g
        · exact q2
        · exact absurd (hti.mpr (by omega)) q
      by_cases q0 : ga g i 0 = f
      · rw [if_pos q0, gAn_y h0.1 ⟨hp, Or.inl q0⟩]
      · rw [if_neg q0]
        by_cases q1 : ga g i 1 = f
        · rw [if_neg (by omega), gAn_y h0.1 ⟨hp, Or.inr q1⟩]
        · rw [if_pos q1, gAn_n h0.1 (fun x => by omega)]
/-- the class's card of the counted kind kk -/
def cShow (s kk : Int) (K : Mem) : Mem :=
  if kk = 1 then zm_score 0 (wr (1 - s)) (rset (rset K (18 * 0) s (wr (rget K (18 * 0) s + 1))) (18 * 0 + 6) (wr (wr (3 * zo_fencerOn 0 (K 2 0 2) s K) + kk)) (wr (rget (rset K (18 * 0) s (wr (rget K (18 * 0) s + 1))) (18 * 0 + 6) (wr (wr (3 * zo_fencerOn 0 (K 2 0 2) s K) + kk)) + 1)))
  else if kk = 2 then zm_exclude 0 (zo_fencerOn 0 (K 2 0 2) s K) s (rset (rset K (18 * 0) s (wr (rget K (18 * 0) s + 1))) (18 * 0 + 6) (wr (wr (3 * zo_fencerOn 0 (K 2 0 2) s K) + kk)) (wr (rget (rset K (18 * 0) s (wr (rget K (18 * 0) s + 1))) (18 * 0 + 6) (wr (wr (3 * zo_fencerOn 0 (K 2 0 2) s K) + kk)) + 1)))
  else rset (rset K (18 * 0) s (wr (rget K (18 * 0) s + 1))) (18 * 0 + 6) (wr (wr (3 * zo_fencerOn 0 (K 2 0 2) s K) + kk)) (wr (rget (rset K (18 * 0) s (wr (rget K (18 * 0) s + 1))) (18 * 0 + 6) (wr (wr (3 * zo_fencerOn 0 (K 2 0 2) s K) + kk)) + 1))
/-- the model's -/
def mYC (s kk : Int) (Y : Mem) : Mem := up (mput Y (Y 13 186 6) (wr (8 + s)) 1) 13 186 (wr (wr (wr (30 + wr (8 * mat Y (Y 13 186 6) (wr (0 + s)))) + 3) + kk)) (wr ((mput Y (Y 13 186 6) (wr (8 + s)) 1) 13 186 (wr (wr (wr (30 + wr (8 * mat Y (Y 13 186 6) (wr (0 + s)))) + 3) + kk)) + 1))
def mShow (s kk : Int) (Y : Mem) : Mem :=
  if kk = 1 then zm_mscores (Y 13 186 6) (wr (1 - s)) (mYC s kk Y)
  else if kk = 2 then (if 100 ≤ mat (up (mYC s kk Y) 13 186 (wr (wr (30 + wr (8 * mat Y (Y 13 186 6) (wr (0 + s)))) + 2)) 1) (Y 13 186 6) 7 then zm_mfinishes (Y 13 186 6) (wr (1 - s)) (up (mYC s kk Y) 13 186 (wr (wr (30 + wr (8 * mat Y (Y 13 186 6) (wr (0 + s)))) + 2)) 1) else zm_mannuls (mat Y (Y 13 186 6) (wr (0 + s))) (up (mYC s kk Y) 13 186 (wr (wr (30 + wr (8 * mat Y (Y 13 186 6) (wr (0 + s)))) + 2)) 1))
  else mYC s kk Y
end Card
