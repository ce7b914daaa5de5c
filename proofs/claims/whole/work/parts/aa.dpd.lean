/-! The pools are drawn: the calls of both sides agree. -/
section DPd
variable {N P t : Int} {C : Nat} {σ K : Mem} {c : Cs} {g : Gs}
theorem popen_w (hP : 0 ≤ P) : zm_popen 0 P (wcm K c) = wcm K (cOp c P) := by
  unfold zm_popen
  rw [wu_3, z0]
  funext C r k
  unfold rfill rfillTo wcm cOp cset
  have e : rowLen 7 = 6 := rfl
  rw [e]
  by_cases q : C = 13 ∧ r = 7 ∧ 0 ≤ k ∧ k < 6
  · obtain ⟨rfl, rfl, q0, q1⟩ := q
    rw [if_pos ⟨rfl, rfl, q0, q1⟩, if_neg (by omega), if_pos (by omega)]
    show (0 : Int) = if (17 : Nat) = 3 ∧ k = 0 then P else if (17 : Nat) = 17 ∧ 0 ≤ k ∧ k < 6 then 0 else c 17 k
    rw [if_neg (by omega), if_pos ⟨rfl, q0, q1⟩]
  · rw [if_neg q]
    by_cases q1 : (C = 0 ∨ C = 2 ∨ C = 3 ∨ C = 4 ∨ C = 6 ∨ C = 9) ∧ r = 0
    · rw [if_pos q1, if_pos q1]
      by_cases q2 : C = 3 ∧ k = 0
      · rw [if_pos q2, if_pos q2]
      · rw [if_neg q2, if_neg q2, if_neg (by omega)]
    · rw [if_neg q1, if_neg q1]
      by_cases q2 : C = 13 ∧ 0 ≤ r ∧ r < 18
      · rw [if_pos q2, if_pos q2, if_neg (by omega), if_neg (by omega), if_neg (by omega)]
      · rw [if_neg q2, if_neg q2]
theorem all_in (h : J N σ σ) (h0 : σ 13 186 0 = 0) : nS σ = σ 13 186 1 ∧ ∀ f, 0 ≤ f → f < σ 13 186 1 → ∃ i, (0 ≤ i ∧ i < σ 13 186 1) ∧ oS σ i = f := by
  have rg := J_rg h
  have ho : ∀ f, 0 ≤ f → f < σ 13 186 1 → gf (σ 13 186) f 2 = 0 := fun f f0 f1 => ((h.1.1.2.2.1 f f0 f1).2.2.2.1 h0).2.2
  have en : nS σ = σ 13 186 1 := by
    have e := rank_n (kp_keep h) (Y := σ) rfl
    have e2 : sumTo (fun f => if gf (σ 13 186) f 2 = 0 then (1 : Int) else 0) (σ 13 186 1) = σ 13 186 1 := (sumTo_congr fun f f0 f1 => if_pos (ho f f0 f1)).trans (sumTo_one rg.2.1.1)
    unfold nS
    omega
  refine ⟨en, fun f f0 f1 => ?_⟩
  obtain ⟨i, ib, ie⟩ := (srt_kp (kp_keep h) (Y := σ) rfl).2.2.1 f f0 f1 (by rw [in_kp (kp_keep h) ⟨f0, f1⟩]; exact decide_eq_true (ho f f0 f1))
  refine ⟨i, ⟨ib.1, ?_⟩, ie⟩
  have e3 : (((rkO (zm_keep 0 σ) σ (σ 13 186 1)).2 : Nat) : Int) = nS σ := rfl
  omega
/-- all that both sides do -/
theorem dp_all (h : J N σ σ) (h0 : σ 13 186 0 = 0) (hP : 1 ≤ P ∧ P ≤ 6) : ∃ c1 g1 t L R H, 0 ≤ t ∧ Ev true 25 [aR 2 0, aI P, aR 7 184] (rkS0 σ) (.inl none) (wcm (rkS0 σ) (cPo c1 t L R H)) ∧ (∀ X, wp true 174 34 [some (aR 11 (0)), some (aI (P)), some (aI (0)), none, none, none] [] (wg X (σ 13 186)) 0 0 (fun o' s' => o' = .inl (some (aI t)) ∧ s' = wg X (gPo g1 P t L R H))) ∧ KP N (cPo c1 t L R H) (gPo g1 P t L R H) ∧ cPo c1 t L R H 0 0 = t := by
  have rg := J_rg h
  have i1 := J_I1 h
  have z3 : σ 13 186 3 = 0 ∧ σ 13 186 4 = 0 := by unfold I1 at i1; omega
  clear i1
  obtain ⟨en, hsur⟩ := all_in h h0
  have hk : KP N (cv (rkS0 σ) 0) (σ 13 186) := KP_c (kp_keep h) (fun C k q => cv_rkS0 q)
  have r1 := hk.2.1.1
  have r2 := hk.2.1.2.1
  have pB0 : pB (σ 13 186) = 0 := by unfold pB; rw [if_pos z3.2]; exact z3.1
  unfold R1 at r1
  rw [pB0, z3.1] at r1
  have ho : ∀ i, 0 ≤ i → i < σ 13 186 1 → 0 ≤ oS σ i ∧ oS σ i < σ 13 186 1 := fun i i0 i1 => (oS_at h i0 (by omega)).1
  have hinj : ∀ i j, 0 ≤ i → i < σ 13 186 1 → 0 ≤ j → j < σ 13 186 1 → i ≠ j → oS σ i ≠ oS σ j := fun i j i0 i1 j0 j1 ne z => ne (rank_inj (kp_keep h) (Y := σ) rfl i0 (by have e3 : (((rkO (zm_keep 0 σ) σ (σ 13 186 1)).2 : Nat) : Int) = nS σ := rfl; omega) j0 (by have e3 : (((rkO (zm_keep 0 σ) σ (σ 13 186 1)).2 : Nat) : Int) = nS σ := rfl; omega) z)
  have h6 : ∀ f, 0 ≤ f → f < σ 13 186 1 → gf (σ 13 186) f 6 = -1 := fun f f0 f1 => ((h.1.1.2.2.1 f f0 f1).2.2.2.1 h0).1
  generalize hc00 : cv (rkS0 σ) 0 = c00 at hk r1 r2
  have co : ∀ C k, ¬ (C = 3 ∧ k = 0) → C ≠ 17 → cOp c00 P C k = c00 C k := fun C k q1 q2 => by
    unfold cOp
    rw [if_neg q1, if_neg (by omega)]
  have hst : ∀ (g : Gs) (X : Mem) j, FG (σ 13 186) g → 0 ≤ j → j < σ 13 186 1 → Ev true 167 [aR 11 0, aI j] (wg X g) (.inl (some (aI (oS σ j)))) (wg X g) := fun g X j hg j0 j1 => by
    have w1 : (wg X g) 13 186 1 = σ 13 186 1 := wg_r.trans (hg 1 (by omega))
    have e := ev_mstrongest j (wg X g) (by rw [w1]; exact rg.2.1)
    rw [str_find (kp_keep h) (Y := σ) rfl h0 z3.1 w1 (fun x x0 x1 => wg_r.trans (FG_f hg (w := 1) (by decide))) j, if_pos ⟨j0, by have e3 : (((rkO (zm_keep 0 σ) σ (σ 13 186 1)).2 : Nat) : Int) = nS σ := rfl; omega⟩] at e
    exact e
  have hR0 : PRl (σ 13 186 1) P 0 (oS σ) (cOp c00 P) (σ 13 186) := PS_0 hP h6 ho (fun p p0 p1 => by
    show cOp c00 P 17 p = 0
    unfold cOp
    rw [if_neg (by omega), if_pos (by omega)])
  obtain ⟨c1, g1, hR, h13, fC, fG, wc, wm⟩ := fill_all (K := rkS0 σ) (c0 := cOp c00 P) (g0 := σ 13 186) (o := oS σ) rg.2.1 hP (by unfold cOp; rw [if_pos ⟨rfl, rfl⟩]) (by rw [co 6 0 (by omega) (by decide)]; exact r1.2.2.2.1) rfl (fun x x0 x1 => by rw [co 11 x (by omega) (by decide)]; exact (r2 x x0 x1).1) (fun i _ _ => congrFun oS_row i) ho hinj hR0 (fun x x0 x1 => by
    rw [co 13 x (by omega) (by decide), co 14 x (by omega) (by decide)]
    exact ⟨(r2 x x0 x1).2.2.1, (r2 x x0 x1).2.2.2.1⟩) hst (σ 13 186 1).toNat (by omega)
  have eu : (((σ 13 186 1).toNat : Nat) : Int) = σ 13 186 1 := by omega
  rw [eu] at hR wc wm
  have k1 : g1 1 = σ 13 186 1 := fG 1 (by omega)
  have k3 : g1 3 = 0 := (fG 3 (by omega)).trans z3.1
  have c60 : c1 6 0 = σ 13 186 1 := by rw [fC 6 0 (by decide) (by decide) (by decide) (by decide), co 6 0 (by omega) (by decide)]; exact r1.2.2.2.1
  obtain ⟨t, L, R, H, t0, B, S, wc2, wm2⟩ := pools_all (c := c1) (g := g1) rg.2.1 hP k1 hR hsur (by rw [fC 0 0 (by decide) (by decide) (by decide) (by decide), co 0 0 (by omega) (by decide)]; exact r1.2.2.2.2.2.1) (by rw [fC 0 1 (by decide) (by decide) (by decide) (by decide), co 0 1 (by omega) (by decide)]; exact r1.2.2.2.2.2.2.1) k3 P.toNat (by omega)
  have ep : ((P.toNat : Nat) : Int) = P := by omega
  rw [ep] at S wc2 wm2
  have hKP := KP_pool hk h0 rfl hP hR hsur h13 fC fG t0 B S
  have d00 : cPo c1 t L R H 0 0 = t := by unfold cPo; rw [cset_o (by omega), cAdds_n]; omega
  refine ⟨c1, g1, t, L, R, H, t0, ?_, fun X => ?_, hKP, d00⟩
  · refine pl_i _ ?_
    have er : zm_popen 0 P (rkS0 σ) = wcm (rkS0 σ) (cOp c00 P) := by
      conv => lhs; rw [← wcm_id (rkS0 σ), hc00]
      exact popen_w (by omega)
    rw [er]
    refine wc _ (fp_end (by rw [wk_6, c60]; exact Int.le_refl _) _ (pl_0 _ (wc2 (rkS0 σ) _ ?_)))
    have e := pl_e (P := P) (p := P) (M := wcm (rkS0 σ) (cAdds (cset c1 0 1 t) 0 t L R H)) (Int.le_refl _)
    rw [wu_2] at e
    exact e
  · refine wm X _ (mp_end (by rw [wg_r, k1]; exact Int.le_refl _) _ (mq_0 _ (wm2 X _ ?_)))
    have e := mq_e (P := P) (p := P) (M := wg X (gAdds g1 0 t L R H)) (Int.le_refl _)
    have e3 : (gs (gs (gAdds g1 0 t L R H) 2 P) 0 1) 3 = t := by rw [gs_o (by decide), gs_o (by decide), gAdds_n (by decide)]; omega
    rw [up_wg, up_wg, wg_r, e3] at e
    exact e
end DPd
