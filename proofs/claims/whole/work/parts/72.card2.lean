/-! A card, on both sides: the change. -/
section Card2
variable {N M b s f kk k : Int} {σ K X : Mem} {c c' : Cs} {g g' : Gs}
theorem card_all (hk : KP N c g) (hN : 0 ≤ N ∧ N < 2147483647) (h6 : 0 ≤ g 6) (hs : s = 0 ∨ s = 1) (hkk : 0 ≤ kk ∧ kk ≤ 2) : ∃ c' g', (∀ K, cShow s kk (wcm K c) = wcm K c') ∧ (∀ X, mShow s kk (wg X g) = wg X g') ∧ KP (N + 1) c' g' := by
  obtain ⟨n1, n2, n3, n4, n5, n6, n7, n8, n9, n10, n11⟩ := now_f hk h6
  have hb307 : 0 ≤ g 6 ∧ g 6 < 307 := by omega
  have h3 := hk.2.1.2.2.1 (g 6) h6 n1
  have ib := hk.1.2.1 (g 6) h6 n1
  have i1 := hk.1.1
  have b24 : g 1 ≤ 24 := by unfold I1 at i1; omega
  unfold R3b at h3
  generalize hf : ga g (g 6) s = f
  have hfr : 0 ≤ f ∧ f < g 1 := by
    rw [← hf]
    unfold IB at ib
    rcases hs with rfl | rfl
    · exact ⟨n4.1, ib.2.1.2⟩
    · exact ⟨n4.2, ib.2.2.1.2⟩
  have hr2 := hk.2.1.2.1 f hfr.1 hfr.2
  have hr6 := hk.2.1.2.2.2.2.2.1 h6
  have hff := hk.1.2.2.1 f hfr.1 hfr.2
  have c19 : c 19 (2 * g 6 + s) = f := by
    rw [← hf]
    rcases hs with rfl | rfl
    · rw [show 2 * g 6 + 0 = 2 * g 6 by omega]; exact h3.1
    · exact h3.2.1
  have hsr : 0 ≤ c 10 s ∧ c 10 s ≤ N := by
    rcases hs with rfl | rfl
    · exact hr6.1
    · exact hr6.2.1
  -- the card is shown
  generalize hcA : cset c 10 s (c 10 s + 1) = cA
  generalize hgA : gs g (250 + 10 * g 6 + (8 + s)) 1 = gA
  have kA : KP (N + 1) cA gA := by
    rw [← hcA, ← hgA]
    refine KP_now hk (by omega) rfl h6 (fun k q1 q2 q3 q4 q5 q6 => gs_o (by omega)) ?_ ?_ ?_ ?_ (fun C k q1 q2 q3 q4 => cset_o (by omega)) ?_ ?_ ?_ ?_ ?_
    · rw [gs_o (by omega)]; exact n10
    · unfold ga; rw [gs_o (by omega)]; exact n5
    · unfold ga; rw [gs_o (by omega)]; exact n6
    · unfold ga; rw [gs_o (by omega)]; exact n7
    · rw [cset_o (by omega), gs_o (by omega)]; exact n9
    · rw [cset_o (by omega)]; unfold ga; rw [gs_o (by omega)]; exact h3.2.2.1
    · rw [cset_o (by omega)]; unfold ga; rw [gs_o (by omega)]; exact h3.2.2.2.1
    · rw [cset_o (by omega)]; unfold ga; rw [gs_o (by omega)]; exact h3.2.2.2.2.2.2.2
    · intro _
      obtain ⟨r60, r61, r62, r63⟩ := hr6
      rw [gs_o (i := 6) (by omega)]
      unfold ga at r62 r63 ⊢
      rcases hs with rfl | rfl
      · rw [cset_s ⟨rfl, rfl⟩, cset_o (C' := 10) (i := 1) (by omega), gs_s (by omega), gs_o (i := 250 + 10 * g 6 + 9) (by omega)]
        exact ⟨by omega, by omega, by omega, r63⟩
      · rw [cset_s ⟨rfl, rfl⟩, cset_o (C' := 10) (i := 0) (by omega), gs_o (i := 250 + 10 * g 6 + 8) (by omega), gs_s (by omega)]
        exact ⟨by omega, by omega, r62, by omega⟩
  have eA : ∀ w, 0 ≤ w → w < 8 → gf gA f w = gf g f w := fun w q0 q1 => by rw [← hgA]; exact gs_o (by omega)
  have eAc : ∀ C k, ¬ C = 10 → cA C k = c C k := fun C k q => by rw [← hcA]; exact cset_o (by omega)
  have gA1 : gA 1 = g 1 := by rw [← hgA]; exact gs_o (by omega)
  have gA6 : gA 6 = g 6 := by rw [← hgA]; exact gs_o (by omega)
  have gA3 : gA 3 = g 3 := by rw [← hgA]; exact gs_o (by omega)
  have eAa : ∀ w, 0 ≤ w → w < 8 → ga gA (g 6) w = ga g (g 6) w := fun w q0 q1 => by rw [← hgA]; exact gs_o (by omega)
  -- and kept with the fencer
  have hcv : cA 16 (3 * f + kk) = gA (30 + 8 * f + (3 + kk)) := by
    rw [eAc 16 _ (by decide)]
    have hk3 : kk = 0 ∨ kk = 1 ∨ kk = 2 := by omega
    rcases hk3 with rfl | rfl | rfl
    · rw [show 3 * f + 0 = 3 * f by omega]; exact hr2.2.2.2.2.2.1.trans (eA 3 (by decide) (by decide)).symm
    · exact hr2.2.2.2.2.2.2.1.trans (eA 4 (by decide) (by decide)).symm
    · exact hr2.2.2.2.2.2.2.2.trans (eA 5 (by decide) (by decide)).symm
  generalize hv : wr (gA (30 + 8 * f + (3 + kk)) + 1) = v
  generalize hc1 : cset cA 16 (3 * f + kk) v = c1
  generalize hg1 : gs gA (30 + 8 * f + (3 + kk)) v = g1
  have k1 : KP (N + 1) c1 g1 := by
    rw [← hc1, ← hg1]
    refine KP_fc (f := f) kA (by rw [gA6]; exact h6) (by rw [gA1]; exact hfr) (fun k q => gs_o (by omega)) ?_ (fun C k q1 q2 => cset_o (by omega)) ?_ ?_ ?_ ?_
    · have : gf (gs gA (30 + 8 * f + (3 + kk)) v) f 2 = gf g f 2 := (gs_o (by omega)).trans (eA 2 (by decide) (by decide))
      rw [this]; exact hff.2.2.1
    · have : gf (gs gA (30 + 8 * f + (3 + kk)) v) f 2 = gf g f 2 := (gs_o (by omega)).trans (eA 2 (by decide) (by decide))
      rw [this, cset_o (by omega), eAc _ _ (by decide)]; exact hr2.2.2.2.2.1
    · by_cases q : kk = 0
      · subst q; rw [cset_s ⟨rfl, by omega⟩]; exact (gs_s (by omega)).symm
      · have : gf (gs gA (30 + 8 * f + (3 + kk)) v) f 3 = gf g f 3 := (gs_o (by omega)).trans (eA 3 (by decide) (by decide))
        rw [this, cset_o (by omega), eAc _ _ (by decide)]; exact hr2.2.2.2.2.2.1
    · by_cases q : kk = 1
      · subst q; rw [cset_s ⟨rfl, by omega⟩]; exact (gs_s (by omega)).symm
      · have : gf (gs gA (30 + 8 * f + (3 + kk)) v) f 4 = gf g f 4 := (gs_o (by omega)).trans (eA 4 (by decide) (by decide))
        rw [this, cset_o (by omega), eAc _ _ (by decide)]; exact hr2.2.2.2.2.2.2.1
    · by_cases q : kk = 2
      · subst q; rw [cset_s ⟨rfl, by omega⟩]; exact (gs_s (by omega)).symm
      · have : gf (gs gA (30 + 8 * f + (3 + kk)) v) f 5 = gf g f 5 := (gs_o (by omega)).trans (eA 5 (by decide) (by decide))
        rw [this, cset_o (by omega), eAc _ _ (by decide)]; exact hr2.2.2.2.2.2.2.2
  have g16 : g1 6 = g 6 := by rw [← hg1, gs_o (by omega)]; exact gA6
  have g13 : g1 3 = g 3 := by rw [← hg1, gs_o (by omega)]; exact gA3
  have g11 : g1 1 = g 1 := by rw [← hg1, gs_o (by omega)]; exact gA1
  have e1a : ∀ w, 0 ≤ w → w < 8 → ga g1 (g 6) w = ga g (g 6) w := fun w q0 q1 => by rw [← hg1]; exact (gs_o (by omega)).trans (eAa w q0 q1)
  have w1 : wr (1 - s) = 1 - s := wr_eq (by omega) (by omega)
  have hs' : 1 - s = 0 ∨ 1 - s = 1 := by omega
  -- the class's two rows
  have hC : ∀ K, rset (rset (wcm K c) (18 * 0) s (wr (rget (wcm K c) (18 * 0) s + 1))) (18 * 0 + 6) (wr (wr (3 * zo_fencerOn 0 ((wcm K c) 2 0 2) s (wcm K c)) + kk)) (wr (rget (rset (wcm K c) (18 * 0) s (wr (rget (wcm K c) (18 * 0) s + 1))) (18 * 0 + 6) (wr (wr (3 * zo_fencerOn 0 ((wcm K c) 2 0 2) s (wcm K c)) + kk)) + 1)) = wcm K c1 := fun K => by
    rw [wk_2, n8, cz_fe hb307 (by omega), c19, z0, z00, wr_0g (by omega), wr_eq (z := c 10 s + 1) (by omega) (by omega), ws_0 (by omega), hcA, wr_eq (z := 3 * f) (by omega) (by omega), wr_eq (z := 3 * f + kk) (by omega) (by omega), wr_6g (by omega), hcv, hv, ws_6 (by omega), hc1]
  have hF : ∀ K, zo_fencerOn 0 ((wcm K c) 2 0 2) s (wcm K c) = f := fun K => by
    rw [wk_2, n8, cz_fe hb307 (by omega), c19]
  -- the model's
  have hM : ∀ X, mYC s kk (wg X g) = wg X g1 := fun X => by
    unfold mYC
    simp only [wg_r, mat_wg, mput_wg]
    rw [wr_eq (z := 8 + s) (by omega) (by omega), wr_eq (z := 0 + s) (by omega) (by omega), show 0 + s = s by omega, hf, wr_eq (z := 8 * f) (by omega) (by omega), wr_eq (z := 30 + 8 * f) (by omega) (by omega), wr_eq (z := 30 + 8 * f + 3) (by omega) (by omega), wr_eq (z := 30 + 8 * f + 3 + kk) (by omega) (by omega), hgA, show 30 + 8 * f + 3 + kk = 30 + 8 * f + (3 + kk) by omega, hv, up_wg, hg1]
  have hMF : ∀ X, mat (wg X g) ((wg X g) 13 186 6) (wr (0 + s)) = f := fun X => by
    rw [wg_r, mat_wg, wr_eq (z := 0 + s) (by omega) (by omega), show 0 + s = s by omega, hf]
  by_cases q1 : kk = 1
  · obtain ⟨c', g', f1, f2, f3, f4⟩ := score_all (s := 1 - s) k1 (by rw [g16]; exact h6) hs'
    refine ⟨c', g', fun K => ?_, fun X => ?_, f3⟩
    · unfold cShow
      rw [if_pos q1, hC, w1]; exact f1 K
    · unfold mShow
      rw [if_pos q1, hM, w1, wg_r]
      have := f2 X
      rw [g16] at this
      exact this
  · by_cases q2 : kk = 2
    · -- the fencer is out
      generalize hc2 : cset c1 15 f 1 = c2
      generalize hg2 : gs g1 (30 + 8 * f + 2) 1 = g2
      have hr1 := k1.2.1.2.1 f hfr.1 (by rw [g11]; exact hfr.2)
      have k2 : KP (N + 1) c2 g2 := by
        rw [← hc2, ← hg2]
        refine KP_fc (f := f) k1 (by rw [g16]; exact h6) (by rw [g11]; exact hfr) (fun k q => gs_o (by omega)) ?_ (fun C k q1 q2 => cset_o (by omega)) ?_ ?_ ?_ ?_
        · right; exact gs_s rfl
        · rw [cset_s ⟨rfl, rfl⟩]; exact (gs_s rfl).symm
        · rw [cset_o (by omega)]; exact hr1.2.2.2.2.2.1.trans (show gf (gs g1 (30 + 8 * f + 2) 1) f 3 = gf g1 f 3 from gs_o (by omega)).symm
        · rw [cset_o (by omega)]; exact hr1.2.2.2.2.2.2.1.trans (show gf (gs g1 (30 + 8 * f + 2) 1) f 4 = gf g1 f 4 from gs_o (by omega)).symm
        · rw [cset_o (by omega)]; exact hr1.2.2.2.2.2.2.2.trans (show gf (gs g1 (30 + 8 * f + 2) 1) f 5 = gf g1 f 5 from gs_o (by omega)).symm
      have g26 : g2 6 = g 6 := by rw [← hg2, gs_o (by omega)]; exact g16
      have g23 : g2 3 = g 3 := by rw [← hg2, gs_o (by omega)]; exact g13
      have e2a : ∀ w, 0 ≤ w → w < 8 → ga g2 (g 6) w = ga g (g 6) w := fun w q0 q1 => by rw [← hg2]; exact (gs_o (by omega)).trans (e1a w q0 q1)
      have hti := tab_iff (b := g 6) k2.1 h6 (by rw [g23]; exact n1)
      have hE : ∀ K, zm_exclude 0 f s (wcm K c1) = if pB g2 ≤ g 6 then zm_win 0 (g 6) (1 - s) (wcm K c2) else up (zm_annulInPool 0 f (wcm K c2)) 2 0 2 (-1) := fun K => by
        have c22 : c2 2 2 = g 6 := by rw [← g26]; exact k2.2.1.1.2.2.1
        have c01 : c2 0 1 = pB g2 := k2.2.1.1.2.2.2.2.2.2.1
        unfold zm_exclude
        rw [z0, ws_5 (by omega), hc2, wk_2, c22, cz_op, c01, w1]
        by_cases q : pB g2 ≤ g 6
        · rw [if_pos q, if_pos rfl, if_pos q]
        · rw [if_neg q, if_neg (by decide), if_neg q]
      have hZ : ∀ X, up (wg X g1) 13 186 (wr (wr (30 + wr (8 * f)) + 2)) 1 = wg X g2 := fun X => by
        rw [wr_eq (z := 8 * f) (by omega) (by omega), wr_eq (z := 30 + 8 * f) (by omega) (by omega), wr_eq (z := 30 + 8 * f + 2) (by omega) (by omega), up_wg, hg2]
      by_cases hp : pB g2 ≤ g 6
      · obtain ⟨c', g', f1, f2, f3, f4, -⟩ := fin_all (b := g 6) (s := 1 - s) (c0 := c2) (g0 := g2) k2 h6 (by rw [g23]; exact n1) (by rw [e2a 4 (by decide) (by decide)]; exact Or.inr n3) (by rw [e2a 0 (by decide) (by decide), e2a 1 (by decide) (by decide)]; exact n4) hs' (by rw [g26]; exact Or.inl rfl) (fun k _ _ => rfl) (fun C k _ => rfl) (by have := k2.2.1.2.2.1 (g 6) h6 (by rw [g23]; exact n1); unfold R3b at this; exact this.2.2.1) (by have := k2.2.1.2.2.1 (g 6) h6 (by rw [g23]; exact n1); unfold R3b at this; exact this.2.2.2.1) (by rw [e2a 2 (by decide) (by decide)]; omega) (by rw [e2a 3 (by decide) (by decide)]; omega)
        refine ⟨c', g', fun K => ?_, fun X => ?_, f3⟩
        · unfold cShow
          rw [if_neg q1, if_pos q2, hC, hF, hE, if_pos hp]; exact f1 K
        · unfold mShow
          rw [if_neg q1, if_pos q2, hM, hMF, hZ, wg_r, mat_wg, if_pos (hti.mpr hp), w1]; exact f2 X
      · have hf2 : ga g2 (g2 6) 0 = f ∨ ga g2 (g2 6) 1 = f := by
          rw [g26, e2a 0 (by decide) (by decide), e2a 1 (by decide) (by decide), ← hf]
          rcases hs with rfl | rfl
          · exact Or.inl rfl
          · exact Or.inr rfl
        have k3 := KP_ann (f := f) k2 (by rw [g26]; exact h6) (by rw [g26]; omega) hf2
        have hpB := pB_le k2.1
        have c01 : c2 0 1 = pB g2 := k2.2.1.1.2.2.2.2.2.2.1
        refine ⟨_, _, fun K => ?_, fun X => ?_, k3⟩
        · unfold cShow
          rw [if_neg q1, if_pos q2, hC, hF, hE, if_neg hp]
          unfold zm_annulInPool
          rw [wk_0, c01]
          have e := ann_c (K := K) (f := f) k2 (pB g2).toNat (by omega)
          rw [show (((pB g2).toNat : Nat) : Int) = pB g2 by omega] at e
          rw [e, wu_2]
        · unfold mShow
          rw [if_neg q1, if_pos q2, hM, hMF, hZ, wg_r, mat_wg, if_neg (fun x => hp (hti.mp x))]
          unfold zm_mannuls
          rw [wg_r]
          have e := ann_m (X := X) (f := f) k2 (g2 3).toNat (by omega)
          rw [show (((g2 3).toNat : Nat) : Int) = g2 3 by omega] at e
          rw [e, up_wg]
    · refine ⟨c1, g1, fun K => ?_, fun X => ?_, k1⟩
      · unfold cShow
        rw [if_neg q1, if_neg q2, hC]
      · unfold mShow
        rw [if_neg q1, if_neg q2, hM]
theorem mshow_eq (hk : k = 0 ∨ k = 1 ∨ k = 2) : zm_mshow 0 s k K = cShow s (zo_mshow 0 s k K) K ∧ (zo_mshow 0 s k K = 0 ∨ zo_mshow 0 s k K = 1 ∨ zo_mshow 0 s k K = 2) := by
  unfold zo_mshow zm_mshow cShow
  rcases hk with rfl | rfl | rfl
  · rw [if_neg (show ¬ ¬ (0 : Int) = 0 by decide), if_neg (show ¬ ¬ (0 : Int) = 0 by decide)]
    by_cases q : rget K (18 * 0) s ≤ 0
    · rw [if_pos q, if_pos q]
      exact ⟨rfl, Or.inl rfl⟩
    · rw [if_neg q, if_neg q]
      exact ⟨rfl, Or.inr (Or.inl rfl)⟩
  · exact ⟨rfl, Or.inr (Or.inl rfl)⟩
  · exact ⟨rfl, Or.inr (Or.inr rfl)⟩
/-- the kind that the model counts -/
def mKind (s k : Int) (Y : Mem) : Int := if k = 0 then (if mat Y (Y 13 186 6) (wr (8 + s)) ≤ 0 then 0 else 1) else k
theorem ycard_eq {F : Mem} (hs : 0 ≤ s ∧ s ≤ 1) (hk : k = 0 ∨ k = 1 ∨ k = 2) (h6 : 0 ≤ F 13 186 6) : zm_ycard s k F = mShow s (mKind s k (zm_mchanges (up F 11 0 6 0))) (zm_mchanges (up F 11 0 6 0)) ∧ zo_ycard s k F = mKind s k (zm_mchanges (up F 11 0 6 0)) := by
  unfold zm_ycard zo_ycard mKind
  rw [if_pos hs, if_pos hs, if_pos (show 0 ≤ k ∧ k ≤ 2 by omega), if_pos (show 0 ≤ k ∧ k ≤ 2 by omega), if_pos h6, if_pos h6]
  generalize zm_mchanges (up F 11 0 6 0) = Y
  rcases hk with rfl | rfl | rfl
  · rw [if_neg (show ¬ ¬ (0 : Int) = 0 by decide), if_neg (show ¬ ¬ (0 : Int) = 0 by decide), if_pos (show (0 : Int) = 0 from rfl)]
    by_cases q : mat Y (Y 13 186 6) (wr (8 + s)) ≤ 0
    · rw [if_pos q, if_pos q, if_pos q]
      exact ⟨rfl, rfl⟩
    · rw [if_neg q, if_neg q, if_neg q]
      exact ⟨rfl, rfl⟩
  · exact ⟨rfl, rfl⟩
  · refine ⟨rfl, ?_⟩
    simp
theorem ca_card (h : J N σ σ) (hN : 0 ≤ N ∧ N < 2147483647) : Cal (N + 1) 199 [aR 11 0, aI s, aI k] (zo_xcard s k σ) (zm_xcard s k σ) (fun E => if E = 0 then 1 else 2) := by
  have r1 := J_R1 h
  have rg := J_rg h
  have h' : J (N + 1) σ σ := J_N h (by omega)
  by_cases hs : 0 ≤ s ∧ s ≤ 1
  · by_cases hk : 0 ≤ k ∧ k ≤ 2
    · by_cases h6 : 0 ≤ σ 13 186 6
      · have hkk : k = 0 ∨ k = 1 ∨ k = 2 := by omega
        have hss : s = 0 ∨ s = 1 := by omega
        obtain ⟨m1, m2⟩ := mshow_eq (s := s) (K := zm_keep 0 σ) hkk
        have kp := kp_keep h
        have eK : zm_keep 0 σ = wcm (zm_keep 0 σ) (cv (zm_keep 0 σ) 0) := (wcm_id _).symm
        obtain ⟨c', g', f1, f2, f3⟩ := card_all (kk := zo_mshow 0 s k (zm_keep 0 σ)) kp hN h6 hss (by omega)
        have e : zm_mshow 0 s k (zm_keep 0 σ) = wcm (zm_keep 0 σ) c' := by
          rw [m1, ← f1, wcm_id]
        have ea : zm_xcard s k σ = wcm (zm_keep 0 σ) c' := by
          rw [← e]
          unfold zm_xcard
          simp only [if_neg (show ¬ σ 2 0 2 = -1 by omega), if_neg (show ¬ k < 0 by omega), if_pos hk.2]
          rcases hss with rfl | rfl <;> rfl
        have eo : zo_xcard s k σ = .inl (some (aI (zo_mshow 0 s k (zm_keep 0 σ)))) := by
          unfold zo_xcard
          simp only [if_neg (show ¬ σ 2 0 2 = -1 by omega), if_neg (show ¬ k < 0 by omega), if_pos hk.2]
          rcases hss with rfl | rfl <;> rfl
        rw [ea, eo]
        have er := keep_row (c' := c') h
        have hh := fin_hyp h.1.1 h6 (by omega)
        have hm := mch_wg (c' := c') h
        have hrow := mch_row (c' := c') h
        have hkind : mKind s k (zm_mchanges (up (wcm (zm_keep 0 σ) c') 11 0 6 0)) = zo_mshow 0 s k (zm_keep 0 σ) := by
          have hr6 := kp.2.1.2.2.2.2.2.1 h6
          have hg : ∀ i, i = 0 ∨ i = 1 → rget (zm_keep 0 σ) (18 * 0) i = cv (zm_keep 0 σ) 0 10 i := fun i hi => by
            have := wr_0g (σ := zm_keep 0 σ) (c := cv (zm_keep 0 σ) 0) (i := i) (by omega)
            rw [wcm_id] at this
            rw [z00]; exact this
          unfold mKind zo_mshow
          rw [mat_row, hrow, wr_eq (z := 8 + s) (by omega) (by omega), hg s hss]
          rcases hkk with rfl | rfl | rfl
          · rw [if_pos (show (0 : Int) = 0 from rfl), if_neg (show ¬ ¬ (0 : Int) = 0 by decide)]
            have hz : (ga (σ 13 186) (σ 13 186 6) (8 + s) ≤ 0) ↔ (cv (zm_keep 0 σ) 0 10 s ≤ 0) := by
              rcases hss with rfl | rfl
              · have := hr6.2.2.1; rw [show (8 : Int) + 0 = 8 from rfl]; omega
              · have := hr6.2.2.2; rw [show (8 : Int) + 1 = 9 from rfl]; omega
            by_cases q : cv (zm_keep 0 σ) 0 10 s ≤ 0
            · rw [if_pos (hz.mpr q), if_pos q]; rfl
            · rw [if_neg (fun x => q (hz.mp x)), if_neg q]
          · rfl
          · rfl
        obtain ⟨y1, y2⟩ := ycard_eq (F := wcm (zm_keep 0 σ) c') hs hkk (by rw [er]; exact h6)
        have et := f2 (zm_mchanges (up (wcm (zm_keep 0 σ) c') 11 0 6 0))
        rw [← hm] at et
        rw [hkind, et] at y1
        rw [hkind] at y2
        refine ⟨_, _, ev_ycard s k _ (pasts_keep h) (by rw [er]; exact rg.2.2.2.1) (by rw [er]; omega) (by rw [er]; exact hh.1) ?_ ?_ ?_, ?_, ?_⟩
        · simp only [mat_row]
          rw [er]; exact hh.2.1
        · simp only [fo_row, mat_row]
          rw [er]; exact hh.2.2
        · intro _
          simp only [mat_row]
          rw [er]
          have ib := h.1.1.2.1 (σ 13 186 6) h6 (by omega)
          have nf := (now_f h.1 h6).2.2.2.1
          unfold IB at ib
          rcases hss with rfl | rfl
          · exact ⟨nf.1, by omega⟩
          · exact ⟨nf.2, by omega⟩
        · rw [y1]; exact J_chg h (by omega) f3
        · rw [y1, y2]; exact Or.inl ⟨_, rfl, mch_6 h, rfl⟩
      · have ea : zm_xcard s k σ = σ := by
          unfold zm_xcard
          simp only [if_pos (show σ 2 0 2 = -1 by omega)]
          repeat' split
          all_goals rfl
        have eo : zo_xcard s k σ = .inr 1 := by
          unfold zo_xcard
          simp only [if_pos (show σ 2 0 2 = -1 by omega), if_neg (show ¬ k < 0 by omega), if_pos hk.2]
          have : s = 0 ∨ s = 1 := by omega
          rcases this with rfl | rfl <;> rfl
        rw [ea, eo]
        refine ⟨_, _, ev_ycard_n s k σ (by omega), ?_, ?_⟩
        · unfold zm_ycard
          rw [if_pos hs, if_pos hk, if_neg h6]; exact J_thr h'
        · unfold zm_ycard
          rw [if_pos hs, if_pos hk, if_neg h6]; exact Or.inr ⟨_, rfl, up_s _ _ _ _ _, by decide⟩
    · have ea : zm_xcard s k σ = σ := by
        unfold zm_xcard
        by_cases q : k < 0
        · simp only [if_pos q]
          repeat' split
          all_goals rfl
        · simp only [if_neg q, if_neg (show ¬ k ≤ 2 by omega)]
          repeat' split
          all_goals rfl
      have eo : zo_xcard s k σ = .inr 0 := by
        unfold zo_xcard
        by_cases q : k < 0
        · simp only [if_pos q]
          repeat' split
          all_goals rfl
        · simp only [if_neg q, if_neg (show ¬ k ≤ 2 by omega)]
          repeat' split
          all_goals rfl
      rw [ea, eo]
      refine ⟨_, _, ev_ycard_n s k σ (by omega), ?_, ?_⟩
      · unfold zm_ycard
        rw [if_pos hs, if_neg hk]; exact J_thr h'
      · unfold zm_ycard
        rw [if_pos hs, if_neg hk]; exact Or.inr ⟨_, rfl, up_s _ _ _ _ _, by decide⟩
  · have ea : zm_xcard s k σ = σ := by
      unfold zm_xcard
      rw [if_neg (by omega), if_pos (by omega)]
    have eo : zo_xcard s k σ = .inr 0 := by
      unfold zo_xcard
      rw [if_neg (by omega), if_pos (by omega)]
    rw [ea, eo]
    refine ⟨_, _, ev_ycard_n s k σ (by omega), ?_, ?_⟩
    · unfold zm_ycard
      rw [if_neg hs]; exact J_thr h'
    · unfold zm_ycard
      rw [if_neg hs]; exact Or.inr ⟨_, rfl, up_s _ _ _ _ _, by decide⟩
end Card2
