/-! A fencer is added, on both sides. -/
section Add
variable {N M cl st : Int} {σ K X : Mem} {c c' : Cs} {g g' : Gs}
theorem sumTo_00 {h : Int → Int} {n : Int} (hn : 0 ≤ n) (e : ∀ i, 0 ≤ i → i < n → h i = 0) : sumTo h n = 0 := by
  have := sumTo_bd (f := h) (n := n) (c := 0) (by decide) hn (fun i i0 i1 => by rw [e i i0 i1]; decide)
  omega
theorem KP_add (hk : KP N c g) (h0 : g 0 = 0) (h1 : g 1 < 24) (hcl : 0 ≤ cl ∧ cl ≤ 7) (hst : 1 ≤ st ∧ st ≤ 999) (e1 : g' 1 = g 1 + 1) (eg : ∀ k, k ≠ 1 → ¬ (30 + 8 * g 1 ≤ k ∧ k ≤ 30 + 8 * g 1 + 7) → g' k = g k) (n0 : gf g' (g 1) 0 = cl) (n1 : gf g' (g 1) 1 = st) (n2 : gf g' (g 1) 2 = 0) (n3 : gf g' (g 1) 3 = 0) (n4 : gf g' (g 1) 4 = 0) (n5 : gf g' (g 1) 5 = 0) (n6 : gf g' (g 1) 6 = -1) (n7 : gf g' (g 1) 7 = -1)
    (ec : ∀ C k, ¬ (C = 6 ∧ k = 0) → ¬ ((11 ≤ C ∧ C ≤ 15) ∧ k = g 1) → ¬ (C = 16 ∧ 3 * g 1 ≤ k ∧ k ≤ 3 * g 1 + 2) → c' C k = c C k) (m6 : c' 6 0 = g 1 + 1) (m11 : c' 11 (g 1) = cl) (m12 : c' 12 (g 1) = st) (m13 : c' 13 (g 1) = -1) (m14 : c' 14 (g 1) = -1) (m15 : c' 15 (g 1) = 0) (m16 : c' 16 (3 * g 1) = 0) (m17 : c' 16 (3 * g 1 + 1) = 0) (m18 : c' 16 (3 * g 1 + 2) = 0) : KP N c' g' := by
  obtain ⟨⟨i1, iB, iF, iR, iT⟩, ⟨r1, r2, r3, r4, r5, r6, r7⟩, ⟨x1, x2, x3, x4, x5⟩⟩ := hk
  have z : g 3 = 0 ∧ g 2 = 0 ∧ g 4 = 0 ∧ g 6 < 0 ∧ 0 ≤ g 1 ∧ (0 ≤ g 8 ∧ g 8 ≤ 24) := by unfold I1 at i1; omega
  have ek : ∀ k, k ≠ 1 → k < 30 ∨ 222 ≤ k → g' k = g k := fun k q0 q => eg k q0 (by omega)
  have ef : ∀ f w, 0 ≤ f → f < g 1 → 0 ≤ w → w < 8 → gf g' f w = gf g f w := fun f w q0 q1 q2 q3 => eg _ (by omega) (by omega)
  have p0 : pB g' = 0 := by unfold pB; rw [ek 4 (by decide) (by decide), ek 3 (by decide) (by decide), if_pos z.2.2.1]; exact z.1
  have p0' : pB g = 0 := by unfold pB; rw [if_pos z.2.2.1]; exact z.1
  have h6 : ∀ f, 0 ≤ f → f < g 1 + 1 → gf g' f 6 = -1 := fun f q0 q1 => by
    by_cases q : f = g 1
    · rw [q]; exact n6
    · rw [ef f 6 q0 (by omega) (by decide) (by decide)]
      exact ((iF f q0 (by omega)).2.2.2.1 h0).1
  refine ⟨⟨?_, fun b q0 q1 => ?_, fun f q0 q1 => ?_, IRl_cg iR (fun k k0 k1 => ek k (by omega) (by omega)), fun h4 => ?_⟩, ⟨?_, fun f q0 q1 => ?_, fun b q0 q1 => ?_, ⟨fun p p0 p1 => ?_, fun p i p0 p1 => ?_, fun q => ?_⟩, ⟨fun i i0 i1 => ?_, fun q => ?_⟩, fun q => ?_, R7_cg r7 (fun k k0 k1 => ek k (by omega) (by omega)) (fun C k q => ec C k (by omega) (by omega) (by omega))⟩, ⟨fun i i0 i1 => ?_, fun i j i0 ij j1 => ?_, fun q => ?_, fun x y a0 a1 a2 a3 a4 a5 => ?_, ?_, fun b q0 q1 => ?_⟩⟩
  · unfold I1 at i1 ⊢
    rw [e1, ek 0 (by decide) (by decide), ek 2 (by decide) (by decide), ek 3 (by decide) (by decide), ek 4 (by decide) (by decide), ek 5 (by decide) (by decide), ek 6 (by decide) (by decide), ek 7 (by decide) (by decide), ek 8 (by decide) (by decide)]
    omega
  · rw [ek 3 (by decide) (by decide)] at q1; omega
  · rw [e1] at q1
    unfold IF
    rw [ek 0 (by decide) (by decide), ek 2 (by decide) (by decide)]
    by_cases q : f = g 1
    · rw [q, n0, n1, n2, n6, n7]
      exact ⟨hcl, hst, Or.inl rfl, fun _ => ⟨rfl, rfl, rfl⟩, fun q => by omega⟩
    · have hf := iF f q0 (by omega)
      unfold IF at hf
      rw [ef f 0 q0 (by omega) (by decide) (by decide), ef f 1 q0 (by omega) (by decide) (by decide), ef f 2 q0 (by omega) (by decide) (by decide), ef f 6 q0 (by omega) (by decide) (by decide), ef f 7 q0 (by omega) (by decide) (by decide)]
      exact hf
  · rw [ek 4 (by decide) (by decide)] at h4; omega
  · unfold R1 at r1 ⊢
    rw [p0, e1, m6, ec 2 0 (by omega) (by omega) (by omega), ec 2 1 (by omega) (by omega) (by omega), ec 2 2 (by omega) (by omega) (by omega), ec 3 0 (by omega) (by omega) (by omega), ec 0 0 (by omega) (by omega) (by omega), ec 0 1 (by omega) (by omega) (by omega), ec 9 0 (by omega) (by omega) (by omega), ec 9 1 (by omega) (by omega) (by omega), ek 0 (by decide) (by decide), ek 7 (by decide) (by decide), ek 6 (by decide) (by decide), ek 2 (by decide) (by decide), ek 3 (by decide) (by decide), ek 4 (by decide) (by decide), ek 8 (by decide) (by decide)]
    rw [p0'] at r1
    exact ⟨r1.1, r1.2.1, r1.2.2.1, rfl, r1.2.2.2.2⟩
  · rw [e1] at q1
    by_cases q : f = g 1
    · subst q
      exact ⟨m11.trans n0.symm, m12.trans n1.symm, m13.trans n6.symm, m14.trans n7.symm, m15.trans n2.symm, m16.trans n3.symm, m17.trans n4.symm, m18.trans n5.symm⟩
    · have hf := r2 f q0 (by omega)
      rw [ef f 0 q0 (by omega) (by decide) (by decide), ef f 1 q0 (by omega) (by decide) (by decide), ef f 2 q0 (by omega) (by decide) (by decide), ef f 3 q0 (by omega) (by decide) (by decide), ef f 4 q0 (by omega) (by decide) (by decide), ef f 5 q0 (by omega) (by decide) (by decide), ef f 6 q0 (by omega) (by decide) (by decide), ef f 7 q0 (by omega) (by decide) (by decide), ec 11 f (by omega) (by omega) (by omega), ec 12 f (by omega) (by omega) (by omega), ec 13 f (by omega) (by omega) (by omega), ec 14 f (by omega) (by omega) (by omega), ec 15 f (by omega) (by omega) (by omega), ec 16 _ (by omega) (by omega) (by omega), ec 16 _ (by omega) (by omega) (by omega), ec 16 _ (by omega) (by omega) (by omega)]
      exact hf
  · rw [ek 3 (by decide) (by decide)] at q1; omega
  · rw [ek 2 (by decide) (by decide)] at p1; omega
  · rw [ek 2 (by decide) (by decide)] at p1; omega
  · rw [ek 0 (by decide) (by decide)] at q; omega
  · rw [ek 8 (by decide) (by decide)] at i1
    rw [ec 25 i (by omega) (by omega) (by omega), ek _ (by omega) (by omega)]
    exact r5.1 i i0 i1
  · rw [ek 4 (by decide) (by decide)] at q; omega
  · rw [ek 6 (by decide) (by decide)] at q; omega
  · rw [ek 8 (by decide) (by decide)] at i1
    rw [ek _ (by omega) (by omega), e1]
    have := x1 i i0 i1
    omega
  · rw [ek 8 (by decide) (by decide)] at j1
    rw [ek _ (by omega) (by omega), ek _ (by omega) (by omega)]
    exact x2 i j i0 ij j1
  · rw [ek 4 (by decide) (by decide)] at q; omega
  · rw [e1] at a1
    rw [h6 x a0 a1] at a5
    omega
  · rw [p0, sumTo_neg _ (by decide), e1]
    refine (sumTo_00 (by omega) (fun x q0 q1 => sumTo_00 q0 (fun y q2 q3 => ?_))).symm
    rw [if_neg]
    rintro ⟨q, -⟩
    rw [h6 x q0 q1] at q
    omega
  · rw [p0] at q1; omega
/-- the model's addition after what is kept -/
def aTail (cl st : Int) (Y : Mem) (a : Int) : Mem := up (up (up (up (up (up (up (up (up (up (up (up Y 13 186 (wr (a + 0)) 0) 13 186 (wr (a + 1)) 0) 13 186 (wr (a + 2)) 0) 13 186 (wr (a + 3)) 0) 13 186 (wr (a + 4)) 0) 13 186 (wr (a + 5)) 0) 13 186 (wr (a + 6)) 0) 13 186 (wr (a + 7)) 0) 13 186 a cl) 13 186 (wr (a + 1)) st) 13 186 (wr (a + 6)) (-1)) 13 186 (wr (a + 7)) (-1)
theorem yadd_eq {F : Mem} (hcl : 0 ≤ cl ∧ cl ≤ 7) (hst : 1 ≤ st ∧ st ≤ 999) (h0 : F 13 186 0 = 0) (h1 : ¬ F 13 186 1 = 24) : zm_yaddFencer cl st F = up (aTail cl st (zm_mchanges (up F 11 0 6 0)) (wr (30 + wr (8 * zm_mchanges (up F 11 0 6 0) 13 186 1)))) 13 186 1 (wr (aTail cl st (zm_mchanges (up F 11 0 6 0)) (wr (30 + wr (8 * zm_mchanges (up F 11 0 6 0) 13 186 1))) 13 186 1 + 1)) ∧ zo_yaddFencer cl st F = zm_mchanges (up F 11 0 6 0) 13 186 1 := by
  unfold zm_yaddFencer zo_yaddFencer
  rw [if_pos hcl, if_pos hcl, if_pos hst, if_pos hst, if_neg (show ¬ ¬ F 13 186 0 = 0 from fun q => q h0), if_neg (show ¬ ¬ F 13 186 0 = 0 from fun q => q h0), if_pos h1, if_pos h1]
  exact ⟨rfl, rfl⟩
theorem add_all (hk : KP N c g) (h0 : g 0 = 0) (h1 : g 1 < 24) (hcl : 0 ≤ cl ∧ cl ≤ 7) (hst : 1 ≤ st ∧ st ≤ 999) : ∃ c' g', (∀ K, zm_fadd 0 cl st (wcm K c) = wcm K c') ∧ (∀ X, up (aTail cl st (wg X g) (wr (30 + wr (8 * g 1)))) 13 186 1 (wr (aTail cl st (wg X g) (wr (30 + wr (8 * g 1))) 13 186 1 + 1)) = wg X g') ∧ KP N c' g' := by
  have b1 : 0 ≤ g 1 := by have := hk.1.1; unfold I1 at this; omega
  have r60 : c 6 0 = g 1 := hk.2.1.1.2.2.2.1
  have wf : wr (30 + wr (8 * g 1)) = 30 + 8 * g 1 := by rw [wr_eq (z := 8 * g 1) (by omega) (by omega), wr_eq (by omega) (by omega)]
  generalize hg1 : gs (gs (gs (gs (gs (gs (gs (gs (gs (gs (gs (gs g (30 + 8 * g 1 + 0) 0) (30 + 8 * g 1 + 1) 0) (30 + 8 * g 1 + 2) 0) (30 + 8 * g 1 + 3) 0) (30 + 8 * g 1 + 4) 0) (30 + 8 * g 1 + 5) 0) (30 + 8 * g 1 + 6) 0) (30 + 8 * g 1 + 7) 0) (30 + 8 * g 1) cl) (30 + 8 * g 1 + 1) st) (30 + 8 * g 1 + 6) (-1)) (30 + 8 * g 1 + 7) (-1) = g1
  have eo : ∀ k, ¬ (30 + 8 * g 1 ≤ k ∧ k ≤ 30 + 8 * g 1 + 7) → g1 k = g k := fun k q => by
    rw [← hg1, gs_o (by omega), gs_o (by omega), gs_o (by omega), gs_o (by omega), gs_o (by omega), gs_o (by omega), gs_o (by omega), gs_o (by omega), gs_o (by omega), gs_o (by omega), gs_o (by omega), gs_o (by omega)]
  have hm : ∀ X, aTail cl st (wg X g) (wr (30 + wr (8 * g 1))) = wg X g1 := fun X => by
    unfold aTail
    rw [wf, wr_eq (z := 30 + 8 * g 1 + 0) (by omega) (by omega), wr_eq (z := 30 + 8 * g 1 + 1) (by omega) (by omega), wr_eq (z := 30 + 8 * g 1 + 2) (by omega) (by omega), wr_eq (z := 30 + 8 * g 1 + 3) (by omega) (by omega), wr_eq (z := 30 + 8 * g 1 + 4) (by omega) (by omega), wr_eq (z := 30 + 8 * g 1 + 5) (by omega) (by omega), wr_eq (z := 30 + 8 * g 1 + 6) (by omega) (by omega), wr_eq (z := 30 + 8 * g 1 + 7) (by omega) (by omega)]
    simp only [up_wg]
    rw [hg1]
  have v0 : g1 (30 + 8 * g 1 + 0) = cl := by rw [← hg1, gs_o (by omega), gs_o (by omega), gs_o (by omega), gs_s (by omega)]
  have v1 : g1 (30 + 8 * g 1 + 1) = st := by rw [← hg1, gs_o (by omega), gs_o (by omega), gs_s (by omega)]
  have v6 : g1 (30 + 8 * g 1 + 6) = -1 := by rw [← hg1, gs_o (by omega), gs_s (by omega)]
  have v7 : g1 (30 + 8 * g 1 + 7) = -1 := by rw [← hg1, gs_s (by omega)]
  have v2 : g1 (30 + 8 * g 1 + 2) = 0 := by rw [← hg1, gs_o (by omega), gs_o (by omega), gs_o (by omega), gs_o (by omega), gs_o (by omega), gs_o (by omega), gs_o (by omega), gs_o (by omega), gs_o (by omega), gs_s (by omega)]
  have v3 : g1 (30 + 8 * g 1 + 3) = 0 := by rw [← hg1, gs_o (by omega), gs_o (by omega), gs_o (by omega), gs_o (by omega), gs_o (by omega), gs_o (by omega), gs_o (by omega), gs_o (by omega), gs_s (by omega)]
  have v4 : g1 (30 + 8 * g 1 + 4) = 0 := by rw [← hg1, gs_o (by omega), gs_o (by omega), gs_o (by omega), gs_o (by omega), gs_o (by omega), gs_o (by omega), gs_o (by omega), gs_s (by omega)]
  have v5 : g1 (30 + 8 * g 1 + 5) = 0 := by rw [← hg1, gs_o (by omega), gs_o (by omega), gs_o (by omega), gs_o (by omega), gs_o (by omega), gs_o (by omega), gs_s (by omega)]
  clear hg1
  have w0 : wr (wr (3 * g 1) + 0) = 3 * g 1 := by rw [wr_eq (z := 3 * g 1) (by omega) (by omega), wr_eq (by omega) (by omega)]; omega
  have w1 : wr (wr (3 * g 1) + 1) = 3 * g 1 + 1 := by rw [wr_eq (z := 3 * g 1) (by omega) (by omega), wr_eq (by omega) (by omega)]
  have w2 : wr (wr (3 * g 1) + 2) = 3 * g 1 + 2 := by rw [wr_eq (z := 3 * g 1) (by omega) (by omega), wr_eq (by omega) (by omega)]
  refine ⟨cset (cset (cset (cset (cset (cset (cset (cset (cset c 11 (g 1) cl) 12 (g 1) st) 13 (g 1) (-1)) 14 (g 1) (-1)) 15 (g 1) 0) 16 (3 * g 1) 0) 16 (3 * g 1 + 1) 0) 16 (3 * g 1 + 2) 0) 6 0 (g 1 + 1), gs g1 1 (g 1 + 1), fun K => ?_, fun X => ?_, ?_⟩
  · unfold zm_fadd
    simp only [wk_6, r60, z0, w0, w1, w2]
    rw [ws_1 (by omega), ws_2 (by omega), ws_3 (by omega), ws_4 (by omega), ws_5 (by omega), ws_6 (by omega), ws_6 (by omega), ws_6 (by omega), wk_6, cset_o (by omega), cset_o (by omega), cset_o (by omega), cset_o (by omega), cset_o (by omega), cset_o (by omega), cset_o (by omega), cset_o (by omega), r60, wr_eq (by omega) (by omega), wu_6]
  · rw [hm, wg_r, eo 1 (by omega), wr_eq (by omega) (by omega), up_wg]
  · refine KP_add (cl := cl) (st := st) hk h0 h1 hcl hst (gs_s rfl) (fun k q q1 => by rw [gs_o q]; exact eo k q1) ?_ ?_ ?_ ?_ ?_ ?_ ?_ ?_ (fun C k q0 q1 q2 => ?_) ?_ ?_ ?_ ?_ ?_ ?_ ?_ ?_ ?_
    · unfold gf; rw [gs_o (by omega)]; exact v0
    · unfold gf; rw [gs_o (by omega)]; exact v1
    · unfold gf; rw [gs_o (by omega)]; exact v2
    · unfold gf; rw [gs_o (by omega)]; exact v3
    · unfold gf; rw [gs_o (by omega)]; exact v4
    · unfold gf; rw [gs_o (by omega)]; exact v5
    · unfold gf; rw [gs_o (by omega)]; exact v6
    · unfold gf; rw [gs_o (by omega)]; exact v7
    · rw [cset_o (by omega), cset_o (by omega), cset_o (by omega), cset_o (by omega), cset_o (by omega), cset_o (by omega), cset_o (by omega), cset_o (by omega), cset_o (by omega)]
    · exact cset_s ⟨rfl, rfl⟩
    · rw [cset_o (by omega), cset_o (by omega), cset_o (by omega), cset_o (by omega), cset_o (by omega), cset_o (by omega), cset_o (by omega), cset_o (by omega), cset_s ⟨rfl, rfl⟩]
    · rw [cset_o (by omega), cset_o (by omega), cset_o (by omega), cset_o (by omega), cset_o (by omega), cset_o (by omega), cset_o (by omega), cset_s ⟨rfl, rfl⟩]
    · rw [cset_o (by omega), cset_o (by omega), cset_o (by omega), cset_o (by omega), cset_o (by omega), cset_o (by omega), cset_s ⟨rfl, rfl⟩]
    · rw [cset_o (by omega), cset_o (by omega), cset_o (by omega), cset_o (by omega), cset_o (by omega), cset_s ⟨rfl, rfl⟩]
    · rw [cset_o (by omega), cset_o (by omega), cset_o (by omega), cset_o (by omega), cset_s ⟨rfl, rfl⟩]
    · rw [cset_o (by omega), cset_o (by omega), cset_o (by omega), cset_s ⟨rfl, rfl⟩]
    · rw [cset_o (by omega), cset_o (by omega), cset_s ⟨rfl, rfl⟩]
    · rw [cset_o (by omega), cset_s ⟨rfl, rfl⟩]
theorem ca_addFencer (h : J N σ σ) : Cal N 166 [aR 11 0, aI cl, aI st] (zo_xaddFencer cl st σ) (zm_xaddFencer cl st σ) (fun E => if E = 0 then 1 else 2) := by
  have r1 := J_R1 h
  have rg := J_rg h
  have hcl : (zo_isClub cl σ = 0) ↔ ¬ (0 ≤ cl ∧ cl ≤ 7) := by
    unfold zo_isClub
    by_cases q : cl < 0
    · rw [if_pos q]; omega
    · rw [if_neg q]
      by_cases q2 : 8 ≤ cl
      · rw [if_pos q2]; omega
      · rw [if_neg q2]; omega
  by_cases hok : (0 ≤ cl ∧ cl ≤ 7) ∧ (1 ≤ st ∧ st ≤ 999) ∧ σ 13 186 0 = 0 ∧ σ 13 186 1 < 24
  · obtain ⟨h1, h2, h3, h4⟩ := hok
    obtain ⟨c', g', f1, f2, f3⟩ := add_all (kp_keep h) h3 h4 h1 h2
    have e : zm_fadd 0 cl st (zm_keep 0 σ) = wcm (zm_keep 0 σ) c' := by rw [← f1, wcm_id]
    have e6 : zm_keep 0 σ 6 0 0 = σ 13 186 1 := by
      have := (kp_keep h).2.1.1.2.2.2.1
      exact this
    have ea : zm_xaddFencer cl st σ = wcm (zm_keep 0 σ) c' := by
      unfold zm_xaddFencer
      rw [if_neg (by rw [hcl]; omega), if_neg (by omega), if_pos h2.2, if_neg (by omega), if_pos (by omega), e]
    have eo : zo_xaddFencer cl st σ = .inl (some (aI (σ 13 186 1))) := by
      unfold zo_xaddFencer
      rw [if_neg (by rw [hcl]; omega), if_neg (by omega), if_pos h2.2, if_neg (by omega), if_pos (by omega), e6]
    rw [ea, eo]
    have er := keep_row (c' := c') h
    have hm := mch_wg (c' := c') h
    have hrow1 : zm_mchanges (up (wcm (zm_keep 0 σ) c') 11 0 6 0) 13 186 1 = σ 13 186 1 := congrFun (mch_row (c' := c') h) 1
    have et := f2 (zm_mchanges (up (wcm (zm_keep 0 σ) c') 11 0 6 0))
    rw [← hm] at et
    obtain ⟨y1, y2⟩ := yadd_eq (cl := cl) (st := st) (F := wcm (zm_keep 0 σ) c') h1 h2 (by rw [er]; exact h3) (by rw [er]; omega)
    rw [hrow1] at y2
    rw [hrow1, et] at y1
    refine ⟨_, _, ev_yaddFencer cl st _ (pasts_keep h) (by rw [er]; exact rg.2.1), ?_, ?_⟩
    · rw [y1]; exact J_chg h (Int.le_refl N) f3
    · rw [y1, y2]; exact Or.inl ⟨_, rfl, mch_6 h, rfl⟩
  · have ea : zm_xaddFencer cl st σ = σ := by
      unfold zm_xaddFencer
      by_cases q1 : zo_isClub cl σ = 0
      · rw [if_pos q1]
      · rw [if_neg q1]
        rw [hcl] at q1
        by_cases q2 : st < 1
        · rw [if_pos q2]
        · rw [if_neg q2]
          by_cases q3 : st ≤ 999
          · rw [if_pos q3]
            by_cases q4 : ¬ σ 2 0 0 = 0
            · rw [if_pos q4]
            · rw [if_neg q4, if_neg (by omega)]
          · rw [if_neg q3]
    rw [ea]
    refine ⟨_, _, ev_yaddFencer cl st σ rg.2.2.2.2.2.2.1 rg.2.1, ?_, ?_⟩
    · unfold zm_yaddFencer
      by_cases q1 : 0 ≤ cl ∧ cl ≤ 7
      · rw [if_pos q1]
        by_cases q2 : 1 ≤ st ∧ st ≤ 999
        · rw [if_pos q2]
          by_cases q3 : ¬ σ 13 186 0 = 0
          · rw [if_pos q3]; exact J_thr h
          · rw [if_neg q3, if_neg (by omega)]; exact J_thr h
        · rw [if_neg q2]; exact J_thr h
      · rw [if_neg q1]; exact J_thr h
    · refine Or.inr ?_
      unfold zm_yaddFencer zo_xaddFencer
      by_cases q1 : 0 ≤ cl ∧ cl ≤ 7
      · rw [if_neg (by rw [hcl]; omega), if_pos q1]
        by_cases q2 : 1 ≤ st ∧ st ≤ 999
        · rw [if_neg (by omega), if_pos q2.2, if_pos q2]
          by_cases q3 : ¬ σ 13 186 0 = 0
          · rw [if_pos (show ¬ σ 2 0 0 = 0 by omega), if_pos q3]; exact ⟨_, rfl, up_s _ _ _ _ _, by decide⟩
          · rw [if_neg (show ¬ ¬ σ 2 0 0 = 0 by omega), if_neg (show ¬ σ 6 0 0 < 24 by omega), if_neg q3, if_neg (by omega)]; exact ⟨_, rfl, up_s _ _ _ _ _, by decide⟩
        · rw [if_neg q2]
          by_cases q3 : st < 1
          · rw [if_pos q3]; exact ⟨_, rfl, up_s _ _ _ _ _, by decide⟩
          · rw [if_neg q3, if_neg (by omega)]; exact ⟨_, rfl, up_s _ _ _ _ _, by decide⟩
      · rw [if_pos (by rw [hcl]; omega), if_neg q1]; exact ⟨_, rfl, up_s _ _ _ _ _, by decide⟩
end Add
