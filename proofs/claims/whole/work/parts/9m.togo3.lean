/-! How many bouts are still to be won: the calls of both sides agree. -/
section TgC
variable {N f b n z t s u v x r i : Int} {σ K M X : Mem} {c : Cs} {g : Gs}
theorem ml_iff {M : Mem} (hM : M 13 186 = g) (hi : IV g) (h4 : 0 < g 4) (hf : 0 ≤ f) (hb : g 5 ≤ b ∧ b < g 3) : zo_mloser b M = f ↔ lstB g f b := by
  have z := tz hi h4
  unfold zo_mloser lstB
  simp only [mat_row2, hM]
  by_cases q : ga g b 4 = 2
  · have w := (tD_w hi h4 (t := b - g 5) (by omega) (by omega) (by unfold tD; rw [show g 5 + (b - g 5) = b by omega]; exact Or.inl q)).1
    unfold tW at w
    rw [show g 5 + (b - g 5) = b by omega] at w
    rw [if_neg (fun z => z q), wr_eq (by omega) (by omega)]
    exact ⟨fun h => ⟨hb.1, hb.2, q, h⟩, fun h => h.2.2.2⟩
  · rw [if_pos q]
    exact ⟨fun h => by omega, fun h => absurd h.2.2.1 q⟩
theorem rd_of (hi : IV g) (h4 : 0 < g 4) (hb : g 5 ≤ b ∧ b < g 3) : ga g b 7 = 100 + rnd (g 4 - (b - g 5)) := by
  have z := tz hi h4
  have ib := hi.2.1 b (by omega) hb.2
  unfold IB at ib
  exact ib.2.2.2.2.2.2.2.2.2.2.2.2.2.2.1 (by omega)
theorem ml_r {M : Mem} (hM : M 13 186 = g) (hi : IV g) (h4 : 0 < g 4) (hf : 0 ≤ f) (hr : r = 2 ∨ r = 4 ∨ r = 8 ∨ r = 16 ∨ r = 32) (hr2 : r ≤ g 4) : (zo_mlostIn r f M ≠ 0 ↔ ∃ b, lstB g f b ∧ ga g b 7 - 100 = r) ∧ Ev true 223 [aR 11 0, aI r, aI f] M (.inl (some (aI (zo_mlostIn r f M)))) M := by
  have z := tz hi h4
  have ef : zo_mfirstOf r M = g 5 + g 4 - r := by
    have e1 : zo_mfirstOf r M = gF g r := by unfold zo_mfirstOf gF; rw [hM]
    rw [e1]
    exact gF_r z.1 z.2.1.1 (by omega) hr2
  have el : lastOf r M = g 5 + g 4 - r + r / 2 := by
    unfold lastOf
    rw [ef, td2 (by omega), wr_eq (z := r / 2) (by omega) (by omega), wr_eq (by omega) (by omega)]
  have inR : ∀ b, (g 5 ≤ b ∧ b < g 3) → ((g 5 + g 4 - r ≤ b ∧ b < g 5 + g 4 - r + r / 2) ↔ ga g b 7 - 100 = r) := fun b hb => by
    rw [rd_of hi h4 hb]
    unfold rnd
    obtain ⟨zz, -⟩ := z
    have hz3 : g 3 = g 5 + g 4 - 1 := (tz hi h4).2.1.2
    repeat' split
    all_goals omega
  refine ⟨?_, ?_⟩
  · unfold zo_mlostIn
    rw [ef, el]
    have ff := fnd_facts (p := fp_mlostIn f M) (n := g 5 + g 4 - r + r / 2) _ (g 5 + g 4 - r) rfl
    rcases ff with ⟨f1, f2⟩ | ⟨f1, f2, f3, -⟩
    · rw [f1, if_pos rfl]
      constructor
      · intro h; exact absurd rfl h
      · rintro ⟨b, hb, h7⟩
        exfalso
        have hb2 : g 5 ≤ b ∧ b < g 3 := ⟨hb.1, hb.2.1⟩
        have h9 := (inR b hb2).mpr h7
        refine f2 b h9.1 h9.2 ?_
        unfold fp_mlostIn
        exact decide_eq_true ((ml_iff hM hi h4 hf hb2).mpr hb)
    · rw [if_neg (by omega)]
      constructor
      · intro _
        generalize fnd (fp_mlostIn f M) (g 5 + g 4 - r) (g 5 + g 4 - r + r / 2) = k at f1 f2 f3
        have hb2 : g 5 ≤ k ∧ k < g 3 := by omega
        unfold fp_mlostIn at f3
        exact ⟨k, (ml_iff hM hi h4 hf hb2).mp (of_decide_eq_true f3), (inR k hb2).mp ⟨f1, f2⟩⟩
      · intro _; decide
  · refine ev_mlostIn r f M (by omega) (by rw [hM]; omega) (by rw [ef]; omega) (by rw [el]; omega) (fun b b0 b1 h2 => ?_)
    rw [el] at b1
    simp only [mat_row2, hM] at h2 ⊢
    have ib := hi.2.1 b b0 (by omega)
    unfold IB at ib
    have := ib.2.2.2.1
    have := ib.2.2.2.2.2.2.2.2.2.2.2.1 h2
    omega
theorem p2r (q : Nat) (h1 : 1 ≤ q) (h2 : q < 6) : (2 : Int) ^ q = 2 ∨ (2 : Int) ^ q = 4 ∨ (2 : Int) ^ q = 8 ∨ (2 : Int) ^ q = 16 ∨ (2 : Int) ^ q = 32 := by
  have : q = 1 ∨ q = 2 ∨ q = 3 ∨ q = 4 ∨ q = 5 := by omega
  rcases this with rfl | rfl | rfl | rfl | rfl
  all_goals decide
theorem tg_all (h : J N σ σ) (hf : 0 ≤ f ∧ f < σ 13 186 1) (h4 : 0 < σ 13 186 4) : Ev true 224 [aR 11 0, aI f] σ (.inl (some (aI (if lsR f (up σ 11 0 6 0) (lg2 (σ 13 186 4)) 1 (if fnd (sdP f (up σ 11 0 6 0)) 0 (σ 13 186 8) = -1 then 0 else 1) = 0 then 0 else lg2 (σ 13 186 4) - cntP (wnG (σ 13 186) f) (σ 13 186 4 - 1))))) (if lsR f (up σ 11 0 6 0) (lg2 (σ 13 186 4)) 1 (if fnd (sdP f (up σ 11 0 6 0)) 0 (σ 13 186 8) = -1 then 0 else 1) = 0 then up (up σ 11 0 6 0) 11 0 6 3 else up σ 11 0 6 0) := by
  have rg := J_rg h
  have hi := h.1.1
  have z := tz hi h4
  show wp true 224 0 [some (aR 11 (0)), some (aI (f)), none, none, none] [] σ 0 0 _
  refine tg_0 f σ rg.2.1 hf (by omega) _ ?_
  have row : (up σ 11 0 6 0) 13 186 = σ 13 186 := rfl
  generalize up σ 11 0 6 0 = M at row ⊢
  refine tg_1 (n := σ 13 186 8) (congrFun row 8) (by omega) _ (σ 13 186 8).toNat 0 0 (Or.inl rfl) (by decide) (by omega) ?_
  rw [if_pos rfl]
  refine tg_4 _ ?_
  have h2 := tg_2 (M := M) (f := f) (K9 := lg2 (σ 13 186 4)) ((congrFun row 4).trans z.2.2.2.1) z.2.2.2.2.1 (fun q q1 q2 => (ml_r row hi h4 hf.1 (p2r q q1 (by omega)) (by
    rw [z.2.2.2.1]
    exact p2le q _ q2)).2) (fun o' σ2 => o' = .inl (some (aI (if lsR f M (lg2 (σ 13 186 4)) 1 (if fnd (sdP f M) 0 (σ 13 186 8) = -1 then 0 else 1) = 0 then 0 else lg2 (σ 13 186 4) - cntP (wnG (σ 13 186) f) (σ 13 186 4 - 1)))) ∧ σ2 = (if lsR f M (lg2 (σ 13 186 4)) 1 (if fnd (sdP f M) 0 (σ 13 186 8) = -1 then 0 else 1) = 0 then up M 11 0 6 3 else M)) (lg2 (σ 13 186 4)) 1 0 (if fnd (sdP f M) 0 (σ 13 186 8) = -1 then 0 else 1) (by omega) (by omega) (by omega)
  refine h2 ?_
  clear h2
  refine tg_5 (B := σ 13 186 5) (congrFun row 5) _ ?_
  have ew : cntP (wnP f M (σ 13 186 5)) (σ 13 186 4 - 1) = cntP (wnG (σ 13 186) f) (σ 13 186 4 - 1) := cntP_congr fun i i0 i1 => by
    unfold wnP wnG
    simp only [mat_row2, row]
  have h3 := tg_3 (f := f) (M := M) (B := σ 13 186 5) (z := σ 13 186 4) (lsR f M (lg2 (σ 13 186 4)) 1 (if fnd (sdP f M) 0 (σ 13 186 8) = -1 then 0 else 1)) (by rw [row]; omega) (by omega) (by omega) (fun i i0 i1 => by
    have ib := hi.2.1 (σ 13 186 5 + i) (by omega) (by omega)
    unfold IB at ib
    rw [mat_row2, row]
    exact ib.2.2.2.1.2) (0 + (lg2 (σ 13 186 4) : Int)) (by omega) (fun o' σ2 => o' = .inl (some (aI (if lsR f M (lg2 (σ 13 186 4)) 1 (if fnd (sdP f M) 0 (σ 13 186 8) = -1 then 0 else 1) = 0 then 0 else lg2 (σ 13 186 4) - cntP (wnG (σ 13 186) f) (σ 13 186 4 - 1)))) ∧ σ2 = (if lsR f M (lg2 (σ 13 186 4)) 1 (if fnd (sdP f M) 0 (σ 13 186 8) = -1 then 0 else 1) = 0 then up M 11 0 6 3 else M)) ?_ (σ 13 186 4 - 1).toNat 0 (0 + (lg2 (σ 13 186 4) : Int)) (by rw [cntP_0]; omega) (by decide) (by omega)
  · rw [Int.add_zero] at h3
    exact h3
  · rw [ew, Int.zero_add]
    exact tg_6
theorem fe_J (h : J N σ σ) (hb : 0 ≤ b ∧ b < σ 13 186 3) (hs : s = 0 ∨ s = 1) : zo_fencerOn 0 b s σ = ga (σ 13 186) b s := by
  have rg := J_rg h
  have h3 := h.1.2.1.2.2.1 b hb.1 hb.2
  unfold R3b at h3
  unfold zo_fencerOn
  rw [z0, wr_eq (z := 2 * b) (by omega) (by omega), wr_eq (by omega) (by omega), rg_9 (by omega)]
  rcases hs with rfl | rfl
  · rw [Int.add_zero]; exact h3.1
  · exact h3.2.1
theorem bw_iff (h : J N σ σ) (hb : 0 ≤ b ∧ b < σ 13 186 3) : bwP f σ b = true ↔ ((ga (σ 13 186) b 0 = f ∨ ga (σ 13 186) b 1 = f) ∧ (ga (σ 13 186) b 4 = 0 ∨ ga (σ 13 186) b 4 = 1)) := by
  have rg := J_rg h
  have h4 := (h.1.2.1.2.2.1 b hb.1 hb.2).2.2.2.2.1
  have eW : zo_isWith 0 b f σ = if ga (σ 13 186) b 0 = f ∨ ga (σ 13 186) b 1 = f then 1 else 0 := by
    unfold zo_isWith
    rw [fe_J h hb (Or.inl rfl), fe_J h hb (Or.inr rfl)]
    repeat' split
    all_goals omega
  have eO : zo_isOpen 0 b σ = if ga (σ 13 186) b 4 = 0 ∨ ga (σ 13 186) b 4 = 1 then 1 else 0 := by
    unfold zo_isOpen
    rw [z0, rg_11 (by omega), h4]
    repeat' split
    all_goals omega
  unfold bwP
  rw [eW, eO]
  by_cases q1 : ga (σ 13 186) b 0 = f ∨ ga (σ 13 186) b 1 = f
  · by_cases q2 : ga (σ 13 186) b 4 = 0 ∨ ga (σ 13 186) b 4 = 1
    · rw [if_pos q1, if_pos q2, if_neg (by decide), if_neg (by decide)]
      exact ⟨fun _ => ⟨q1, q2⟩, fun _ => rfl⟩
    · rw [if_pos q1, if_neg q2, if_neg (by decide), if_pos rfl]
      exact ⟨fun z => (by cases z), fun z => absurd z.2 q2⟩
  · rw [if_neg q1, if_pos rfl]
    exact ⟨fun z => (by cases z), fun z => absurd z.1 q1⟩
theorem lg_lgr (hz : g 4 = 2 ∨ g 4 = 4 ∨ g 4 = 8 ∨ g 4 = 16 ∨ g 4 = 32) : (lg2 (g 4) : Int) = lgr (g 4) := by
  rcases hz with q | q | q | q | q
  all_goals rw [q]; rfl
theorem rN_lgr (r : Int) (h : r = 2 ∨ r = 4 ∨ r = 8 ∨ r = 16 ∨ r = 32) : rN r = lgr r := by
  rcases h with rfl | rfl | rfl | rfl | rfl
  all_goals rfl
/-- what the class and the model say of one who is still in -/
theorem tg_eq (h : J N σ σ) (h4 : 0 < σ 13 186 4) (hf : 0 ≤ f) (i0 : 0 ≤ i) (i1 : i < σ 13 186 8) (e : σ 13 186 (222 + i) = f) (hl : ∀ b, ¬ lstB (σ 13 186) f b) : zo_boutsToWin f σ = lg2 (σ 13 186 4) - cntP (wnG (σ 13 186) f) (σ 13 186 4 - 1) := by
  have rg := J_rg h
  have r1 := J_R1 h
  have hi := h.1.1
  have hx := h.1.2.2
  have z := tz hi h4
  have k01 : σ 0 0 1 = σ 13 186 5 := r1.2.2.2.2.2.2.1.trans z.2.2.2.2.2.1
  have k00 : σ 0 0 0 = σ 13 186 3 := r1.2.2.2.2.2.1
  obtain ⟨t, s, t01, hs, hts, hv, hc⟩ := tLast hi hx h4 hf i0 i1 e
  rw [lg_lgr z.1]
  have lc := lev_cnt hi hx h4 hf (t.toNat + 1) t s t01.1 t01.2 (by omega) hs hts
  have dop : ∀ v, 0 ≤ v → v < σ 13 186 4 - 1 → tD (σ 13 186) v → ¬ bwP f σ (σ 13 186 5 + v) = true := fun v v0 v1 d hb => by
    have := ((bw_iff h (b := σ 13 186 5 + v) (by omega)).mp hb).2
    unfold tD at d
    omega
  have bef : ∀ v, 0 ≤ v → v < t → ¬ bwP f σ (σ 13 186 5 + v) = true := fun v v0 v1 hb => by
    have h1 := ((bw_iff h (b := σ 13 186 5 + v) (by omega)).mp hb).1
    obtain ⟨s2, hs2, e2⟩ := tIn_s (g := σ 13 186) (f := f) (t := v) h1
    have := (tBef hi hx h4 v0 v1 t01.2 hs2 hs (by rw [e2]; exact hf) (by rw [e2, hts])).1
    exact dop v v0 (by omega) this hb
  have aft : ∀ v, t < v → v < σ 13 186 4 - 1 → ¬ bwP f σ (σ 13 186 5 + v) = true := fun v v0 v1 hb => by
    exact hv v v0 v1 ((bw_iff h (b := σ 13 186 5 + v) (by omega)).mp hb).1
  rcases hc with ⟨d, w, te⟩ | ⟨d, w⟩ | d
  · -- the final is won
    have hp : wnG (σ 13 186) f t = true := (wnG_iff hi h4 t01.1 t01.2).mpr ⟨d, by rw [w]; exact hts⟩
    have es := cntP_s (P := wnG (σ 13 186) f) t01.1
    rw [if_pos hp, show t + 1 = σ 13 186 4 - 1 by omega] at es
    have el : lev (σ 13 186) t = lgr (σ 13 186 4) - 1 := by
      unfold lev
      rw [te, show σ 13 186 4 - (σ 13 186 4 - 2) = 2 by omega]
      rfl
    have ff := fnd_facts (p := bwP f σ) (n := σ 13 186 3) _ (σ 13 186 5) rfl
    unfold zo_boutsToWin
    rw [k01, k00]
    rcases ff with ⟨f1, -⟩ | ⟨f1, f2, f3, -⟩
    · rw [f1, if_pos rfl, es, lc, el]; omega
    · exfalso
      generalize fnd (bwP f σ) (σ 13 186 5) (σ 13 186 3) = k at f1 f2 f3
      rw [show k = σ 13 186 5 + (k - σ 13 186 5) by omega] at f3
      by_cases q : k - σ 13 186 5 < t
      · exact bef _ (by omega) q f3
      · exact dop _ (by omega) (by omega) (by rw [show k - σ 13 186 5 = t by omega]; exact d) f3
  · exfalso
    refine hl (σ 13 186 5 + t) ⟨by omega, by omega, d, ?_⟩
    unfold tW at w
    unfold tS2 at hts
    rw [w, show 1 - (1 - s) = s by omega]
    exact hts
  · -- the bout is open
    have e2 : cntP (wnG (σ 13 186) f) (σ 13 186 4 - 1) = cntP (wnG (σ 13 186) f) t := by
      have e3 := sumTo_stop (p := fun i => if wnG (σ 13 186) f i = true then 1 else 0) (a := t) t01.1 (σ 13 186 4 - 1 - t).toNat (fun v v0 v1 => if_neg (fun hw => by
        obtain ⟨d2, hw2⟩ := (wnG_iff hi h4 (t := v) (by omega) (by omega)).mp hw
        by_cases q : v = t
        · rw [q] at d2; exact d d2
        · have w2 := (tD_w hi h4 (t := v) (by omega) (by omega) d2).1
          refine hv v (by omega) (by omega) ?_
          rcases w2 with w2 | w2
          · rw [w2] at hw2; exact Or.inl hw2
          · rw [w2] at hw2; exact Or.inr hw2))
      rw [show t + ((σ 13 186 4 - 1 - t).toNat : Int) = σ 13 186 4 - 1 by omega] at e3
      exact e3
    rw [e2, lc]
    have hbt : bwP f σ (σ 13 186 5 + t) = true := by
      refine (bw_iff h (b := σ 13 186 5 + t) (by omega)).mpr ⟨?_, ?_⟩
      · unfold tS2 at hts
        rcases hs with rfl | rfl
        · exact Or.inl hts
        · exact Or.inr hts
      · have ib := hi.2.1 (σ 13 186 5 + t) (by omega) (by omega)
        unfold IB at ib
        have a1 := ib.1
        have a3 := ib.2.2.2.2.2.2.2.2.2.2.2.2.2.2.2
        unfold tD at d
        clear ib
        by_cases q3 : ga (σ 13 186) (σ 13 186 5 + t) 4 = 3
        · have := a3 q3; omega
        · omega
    have ef : fnd (bwP f σ) (σ 13 186 5) (σ 13 186 3) = σ 13 186 5 + t := fnd_is (by omega) hbt _ _ rfl (by omega) (fun k k0 k1 z => by
      rw [show k = σ 13 186 5 + (k - σ 13 186 5) by omega] at z
      exact bef _ (by omega) (by omega) z)
    have hrd : zo_round 0 (σ 13 186 5 + t) σ = rnd (σ 13 186 4 - t) := by
      have h7 := (h.1.2.1.2.2.1 (σ 13 186 5 + t) (by omega) (by omega)).2.2.2.2.2.2.1
      have e7 := rd_of hi h4 (b := σ 13 186 5 + t) (by omega)
      have rb := rnd_p (σ 13 186 4 - (σ 13 186 5 + t - σ 13 186 5))
      unfold zo_round
      rw [z0, rg_13 (by omega), h7, e7, wr_eq (by omega) (by omega), show σ 13 186 5 + t - σ 13 186 5 = t by omega]
      omega
    unfold zo_boutsToWin
    rw [k01, k00, ef, if_neg (by omega), hrd, rN_lgr _ (rnd_p _)]
    unfold lev
    omega
theorem ca_toGo (h : J N σ σ) : Cal N 224 [aR 11 0, aI f] (zo_xtoGo f σ) σ (fun E => if E = 2 then 1 else if E = 1 then 2 else 3) := by
  have rg := J_rg h
  have r1 := J_R1 h
  have hi := h.1.1
  have hx := h.1.2.2
  have k90 : σ 9 0 0 = σ 13 186 4 := r1.2.2.2.2.2.2.2.1
  have k91 : σ 9 0 1 = σ 13 186 8 := r1.2.2.2.2.2.2.2.2
  by_cases hf : 0 ≤ f ∧ f < σ 13 186 1
  · by_cases h4 : σ 13 186 4 = 0
    · have eo : zo_xtoGo f σ = .inr 1 := by unfold zo_xtoGo; rw [if_neg (by omega), if_pos (by omega)]
      rw [eo]
      refine ⟨_, _, tg_n f σ rg.2.1 (fun z => z.2 h4), J_thr h, Or.inr ⟨_, rfl, ?_, by decide⟩⟩
      rw [up_s, if_neg (fun z => z hf), if_pos h4]
      rfl
    · have h4p : 0 < σ 13 186 4 := by have := rg.2.2.2.2.2.2.2; omega
      have z := tz hi h4p
      have eo : zo_xtoGo f σ = if ¬ zo_isStillIn f σ = 0 then .inl (some (aI (zo_boutsToWin f σ))) else .inr 3 := by unfold zo_xtoGo; rw [if_neg (by omega), if_neg (by omega)]
      have hev := tg_all h hf h4p
      have sd : ∀ i, 0 ≤ i → i < σ 13 186 8 → (isP f σ i = true ↔ σ 13 186 (222 + i) = f) := fun i i0 i1 => by
        have e : zo_fencerWith 0 (i + 1) σ = σ 13 186 (222 + i) := by
          unfold zo_fencerWith
          rw [if_neg (by omega), if_neg (by omega), z0, wr_eq (by omega) (by omega), rg_15 (by omega), show i + 1 - 1 = i by omega]
          exact h.1.2.1.2.2.2.2.1.1 i i0 i1
        unfold isP
        rw [e]
        exact decide_eq_true_iff
      have sdM : ∀ i, sdP f (up σ 11 0 6 0) i = true ↔ σ 13 186 (222 + i) = f := fun i => by
        unfold sdP
        exact decide_eq_true_iff
      have ffC := fnd_facts (p := isP f σ) (n := σ 13 186 8) _ 0 rfl
      have ffM := fnd_facts (p := sdP f (up σ 11 0 6 0)) (n := σ 13 186 8) _ 0 rfl
      have k26 : rget σ 16 f = cv σ 0 26 f := rg_16 (by omega)
      have r5 := h.1.2.1.2.2.2.2.1.2 h4p f hf.1 (by omega)
      by_cases hs : ∃ i, (0 ≤ i ∧ i < σ 13 186 8) ∧ σ 13 186 (222 + i) = f
      · obtain ⟨i, i01, ei⟩ := hs
        have nC : ¬ fnd (isP f σ) 0 (σ 9 0 1) = -1 := by
          rw [k91]
          rcases ffC with ⟨-, f2⟩ | ⟨f1, -⟩
          · exact absurd ((sd i i01.1 i01.2).mpr ei) (f2 i i01.1 i01.2)
          · omega
        have nM : ¬ fnd (sdP f (up σ 11 0 6 0)) 0 (σ 13 186 8) = -1 := by
          rcases ffM with ⟨-, f2⟩ | ⟨f1, -⟩
          · exact absurd ((sdM i).mpr ei) (f2 i i01.1 i01.2)
          · omega
        rw [if_neg nM] at hev
        by_cases q26 : cv σ 0 26 f = 1
        · have hl : ∀ b, ¬ lstB (σ 13 186) f b := by
            rcases r5 with ⟨-, r5⟩ | ⟨b, hb, r5⟩
            · exact r5
            · exfalso
              have rb := rnd_p (σ 13 186 4 - (b - σ 13 186 5))
              have := rd_of hi h4p ⟨hb.1, hb.2.1⟩
              omega
          have eS : zo_isStillIn f σ = 1 := by
            unfold zo_isStillIn
            rw [if_neg nC, if_pos (by rw [k26]; exact q26)]
          have eL : lsR f (up σ 11 0 6 0) (lg2 (σ 13 186 4)) 1 1 = 1 := lsR_1 _ _ (fun j hj => by
            have m := (ml_r (M := up σ 11 0 6 0) (g := σ 13 186) rfl hi h4p hf.1 (p2r (1 + j) (by omega) (by omega)) (by rw [z.2.2.2.1]; exact p2le _ _ (by omega))).1
            by_cases q : zo_mlostIn ((2 : Int) ^ (1 + j)) f (up σ 11 0 6 0) = 0
            · exact q
            · obtain ⟨b, hb, -⟩ := m.mp q
              exact absurd hb (hl b))
          rw [eL, if_neg (by decide), if_neg (by decide)] at hev
          rw [eo, eS, if_pos (by decide)]
          refine ⟨_, _, hev, J_thr h, Or.inl ⟨_, rfl, up_s _ _ _ _ _, ?_⟩⟩
          exact (tg_eq h h4p hf.1 i01.1 i01.2 ei hl).symm
        · have eS : zo_isStillIn f σ = 0 := by
            unfold zo_isStillIn
            rw [if_neg nC, if_neg (by rw [k26]; exact q26)]
          rcases r5 with ⟨r5, -⟩ | ⟨b, hb, r5⟩
          · exact absurd r5 q26
          · have rb := rnd_p (σ 13 186 4 - (b - σ 13 186 5))
            have rd := rd_of hi h4p ⟨hb.1, hb.2.1⟩
            have eL : lsR f (up σ 11 0 6 0) (lg2 (σ 13 186 4)) 1 1 = 0 := by
              have key : ∀ j : Nat, j < lg2 (σ 13 186 4) → (2 : Int) ^ (1 + j) = rnd (σ 13 186 4 - (b - σ 13 186 5)) → lsR f (up σ 11 0 6 0) (lg2 (σ 13 186 4)) 1 1 = 0 := fun j hj e => by
                refine lsR_n _ _ ⟨j, hj, ?_⟩
                have m := (ml_r (M := up σ 11 0 6 0) (g := σ 13 186) rfl hi h4p hf.1 (p2r (1 + j) (by omega) (by omega)) (by rw [z.2.2.2.1]; exact p2le _ _ (by omega))).1
                exact m.mpr ⟨b, hb, by omega⟩
              have hle : rnd (σ 13 186 4 - (b - σ 13 186 5)) ≤ σ 13 186 4 := by
                have := hb.1
                have := z.1
                unfold rnd
                repeat' split
                all_goals omega
              have hlg : (lg2 (σ 13 186 4) : Int) = lgr (σ 13 186 4) := lg_lgr z.1
              have hz := z.1
              have l5 : ∀ r : Int, r ≤ σ 13 186 4 → (r = 2 ∨ r = 4 ∨ r = 8 ∨ r = 16 ∨ r = 32) → lgr r ≤ lgr (σ 13 186 4) := fun r q1 q2 => by
                rcases hz with q | q | q | q | q
                all_goals
                  rw [q] at q1 ⊢
                  rcases q2 with rfl | rfl | rfl | rfl | rfl
                  all_goals first | decide | omega
              have l6 := l5 _ hle rb
              rcases rb with q | q | q | q | q
              · rw [q] at l6; exact key 0 (by have : lgr 2 = 1 := rfl; omega) (by rw [q]; rfl)
              · rw [q] at l6; exact key 1 (by have : lgr 4 = 2 := rfl; omega) (by rw [q]; rfl)
              · rw [q] at l6; exact key 2 (by have : lgr 8 = 3 := rfl; omega) (by rw [q]; rfl)
              · rw [q] at l6; exact key 3 (by have : lgr 16 = 4 := rfl; omega) (by rw [q]; rfl)
              · rw [q] at l6; exact key 4 (by have : lgr 32 = 5 := rfl; omega) (by rw [q]; rfl)
            rw [eL, if_pos rfl, if_pos rfl] at hev
            rw [eo, eS, if_neg (by decide)]
            refine ⟨_, _, hev, J_cells h (fun C r k z => ?_), Or.inr ⟨_, rfl, ?_, by decide⟩⟩
            · rw [up_o (by unfold clsP modP at z; omega), up_o (by unfold clsP modP at z; omega)]
            · rw [up_s]; rfl
      · have nC : fnd (isP f σ) 0 (σ 9 0 1) = -1 := by
          rw [k91]
          rcases ffC with ⟨f1, -⟩ | ⟨f1, f2, f3, -⟩
          · exact f1
          · exact absurd ⟨_, ⟨f1, f2⟩, (sd _ f1 f2).mp f3⟩ hs
        have nM : fnd (sdP f (up σ 11 0 6 0)) 0 (σ 13 186 8) = -1 := by
          rcases ffM with ⟨f1, -⟩ | ⟨f1, f2, f3, -⟩
          · exact f1
          · exact absurd ⟨_, ⟨f1, f2⟩, (sdM _).mp f3⟩ hs
        have eS : zo_isStillIn f σ = 0 := by
          unfold zo_isStillIn
          rw [if_pos nC]
        rw [if_pos nM, lsR_0, if_pos rfl, if_pos rfl] at hev
        rw [eo, eS, if_neg (by decide)]
        refine ⟨_, _, hev, J_cells h (fun C r k z => ?_), Or.inr ⟨_, rfl, ?_, by decide⟩⟩
        · rw [up_o (by unfold clsP modP at z; omega), up_o (by unfold clsP modP at z; omega)]
        · rw [up_s]; rfl
  · have eo : zo_xtoGo f σ = .inr 2 := by unfold zo_xtoGo; rw [if_pos (by omega)]
    rw [eo]
    refine ⟨_, _, tg_n f σ rg.2.1 (fun z => hf z.1), J_thr h, Or.inr ⟨_, rfl, ?_, by decide⟩⟩
    rw [up_s, if_pos hf]
    rfl
end TgC
