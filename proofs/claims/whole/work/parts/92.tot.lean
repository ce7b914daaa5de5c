/-! The ranking orders strictly, and the model finds the same fencer at each place. -/
section Rat
variable {a b c d e f : Int}
theorem rat_le (b0 : 0 < b) (d0 : 0 < d) (f0 : 0 < f) (h1 : c * b ≤ a * d) (h2 : e * d ≤ c * f) : e * b ≤ a * f := by
  have t1 : c * b * f ≤ a * d * f := Int.mul_le_mul_of_nonneg_right h1 (Int.le_of_lt f0)
  have t2 : e * d * b ≤ c * f * b := Int.mul_le_mul_of_nonneg_right h2 (Int.le_of_lt b0)
  have e1 : c * b * f = c * f * b := Int.mul_right_comm c b f
  have e2 : e * d * b = d * (e * b) := by rw [Int.mul_comm e d, Int.mul_assoc]
  have e3 : a * d * f = d * (a * f) := by rw [Int.mul_comm a d, Int.mul_assoc]
  refine Int.le_of_mul_le_mul_left ?_ d0
  rw [← e2, ← e3]
  omega
theorem rat_lt1 (b0 : 0 < b) (d0 : 0 < d) (f0 : 0 < f) (h1 : c * b < a * d) (h2 : e * d ≤ c * f) : e * b < a * f := by
  have t1 : c * b * f < a * d * f := Int.mul_lt_mul_of_pos_right h1 f0
  have t2 : e * d * b ≤ c * f * b := Int.mul_le_mul_of_nonneg_right h2 (Int.le_of_lt b0)
  have e1 : c * b * f = c * f * b := Int.mul_right_comm c b f
  have e2 : e * d * b = d * (e * b) := by rw [Int.mul_comm e d, Int.mul_assoc]
  have e3 : a * d * f = d * (a * f) := by rw [Int.mul_comm a d, Int.mul_assoc]
  refine Int.lt_of_mul_lt_mul_left (a := d) ?_ (Int.le_of_lt d0)
  rw [← e2, ← e3]
  omega
theorem rat_lt2 (b0 : 0 < b) (d0 : 0 < d) (f0 : 0 < f) (h1 : c * b ≤ a * d) (h2 : e * d < c * f) : e * b < a * f := by
  have t1 : c * b * f ≤ a * d * f := Int.mul_le_mul_of_nonneg_right h1 (Int.le_of_lt f0)
  have t2 : e * d * b < c * f * b := Int.mul_lt_mul_of_pos_right h2 b0
  have e1 : c * b * f = c * f * b := Int.mul_right_comm c b f
  have e2 : e * d * b = d * (e * b) := by rw [Int.mul_comm e d, Int.mul_assoc]
  have e3 : a * d * f = d * (a * f) := by rw [Int.mul_comm a d, Int.mul_assoc]
  refine Int.lt_of_mul_lt_mul_left (a := d) ?_ (Int.le_of_lt d0)
  rw [← e2, ← e3]
  omega
theorem cmpV_pos {A B I J x y st : Int} : 0 < cmpV A B I J x y st ↔ (B < A ∨ (A = B ∧ (J < I ∨ (I = J ∧ (y < x ∨ (x = y ∧ ¬ st = 0)))))) := by
  unfold cmpV
  by_cases q1 : A = B
  · rw [if_pos q1]
    by_cases q2 : I = J
    · rw [if_pos q2]
      by_cases q3 : x = y
      · rw [if_pos q3]
        by_cases q4 : st = 0
        · rw [if_pos q4]; omega
        · rw [if_neg q4]; omega
      · rw [if_neg q3]
        by_cases q4 : x ≤ y
        · rw [if_pos q4]; omega
        · rw [if_neg q4]; omega
    · rw [if_neg q2]
      by_cases q4 : I ≤ J
      · rw [if_pos q4]; omega
      · rw [if_neg q4]; omega
  · rw [if_neg q1]
    by_cases q4 : A ≤ B
    · rw [if_pos q4]; omega
    · rw [if_neg q4]; omega
end Rat
section Totl
variable {N F x y : Int} {K L X Y : Mem} {c : Cs} {g : Gs} {V O S R T : Int → Int}
/-- what ranks before what, by the counts -/
def bfo (V O S R T : Int → Int) (x y : Int) : Prop := V y * (if O x = 0 then 1 else O x) < V x * (if O y = 0 then 1 else O y) ∨ (V x * (if O y = 0 then 1 else O y) = V y * (if O x = 0 then 1 else O x) ∧ (S y - R y < S x - R x ∨ (S x - R x = S y - R y ∧ (S y < S x ∨ (S x = S y ∧ (T x < T y ∨ (T x = T y ∧ x < y)))))))
theorem bfo_tot (bO : ∀ i, 0 ≤ O i) : (x = y → ¬ bfo V O S R T x y) ∧ (¬ x = y → (bfo V O S R T x y ↔ ¬ bfo V O S R T y x)) ∧ ∀ z, bfo V O S R T x y → bfo V O S R T y z → bfo V O S R T x z := by
  have o1 : ∀ i, 0 < (if O i = 0 then 1 else O i) := fun i => by have := bO i; split <;> omega
  unfold bfo
  refine ⟨fun e => ?_, fun e => ?_, fun z h1 h2 => ?_⟩
  · subst e; omega
  · omega
  · have ox := o1 x
    have oy := o1 y
    have oz := o1 z
    generalize (if O x = 0 then (1 : Int) else O x) = ax at *
    generalize (if O y = 0 then (1 : Int) else O y) = ay at *
    generalize (if O z = 0 then (1 : Int) else O z) = az at *
    have p1 : V y * ax ≤ V x * ay := by omega
    have p2 : V z * ay ≤ V y * az := by omega
    have r1 := rat_le ox oy oz p1 p2
    by_cases q1 : V y * ax < V x * ay
    · exact Or.inl (rat_lt1 ox oy oz q1 p2)
    · by_cases q2 : V z * ay < V y * az
      · exact Or.inl (rat_lt2 ox oy oz p1 q2)
      · have r2 : V x * az ≤ V z * ax := rat_le (a := V z) (c := V y) (e := V x) oz oy ox (by omega) (by omega)
        generalize V x * az = P1 at *
        generalize V z * ax = P2 at *
        generalize V y * ax = P3 at *
        generalize V x * ay = P4 at *
        generalize V z * ay = P5 at *
        generalize V y * az = P6 at *
        omega
theorem cmB_bfo (hx : 0 ≤ x ∧ x < 24) (hy : 0 ≤ y ∧ y < 24) (hV : ∀ i, 0 ≤ i → i < 24 → rget K 180 i = V i) (hO : ∀ i, 0 ≤ i → i < 24 → rget K 181 i = O i) (hS : ∀ i, 0 ≤ i → i < 24 → rget K 182 i = S i) (hR : ∀ i, 0 ≤ i → i < 24 → rget K 183 i = R i) (bV : ∀ i, 0 ≤ V i ∧ V i ≤ 9210) (bO : ∀ i, 0 ≤ O i ∧ O i ≤ 9210) (bS : ∀ i, 0 ≤ S i ∧ S i ≤ 9210) (bR : ∀ i, 0 ≤ R i ∧ R i ≤ 9210) : cmB K x y = true ↔ bfo V O S R (rget K 2) x y := by
  unfold cmB bfo
  rw [cmp_c hx hy hV hO hS hR bV bO bS bR, decide_eq_true_iff, cmpV_pos]
  have e : (¬ zo_isStronger 0 x y K = 0) ↔ (rget K 2 x < rget K 2 y ∨ (rget K 2 x = rget K 2 y ∧ x < y)) := by
    unfold zo_isStronger
    rw [show (18 * (0 : Int) + 2) = 2 from rfl]
    repeat' split
    all_goals omega
  rw [e]
theorem tot_cmB (hV : ∀ i, 0 ≤ i → i < 24 → rget K 180 i = V i) (hO : ∀ i, 0 ≤ i → i < 24 → rget K 181 i = O i) (hS : ∀ i, 0 ≤ i → i < 24 → rget K 182 i = S i) (hR : ∀ i, 0 ≤ i → i < 24 → rget K 183 i = R i) (bV : ∀ i, 0 ≤ V i ∧ V i ≤ 9210) (bO : ∀ i, 0 ≤ O i ∧ O i ≤ 9210) (bS : ∀ i, 0 ≤ S i ∧ S i ≤ 9210) (bR : ∀ i, 0 ≤ R i ∧ R i ≤ 9210) (hF : F ≤ 24) : Tot (cmB K) F := by
  have key : ∀ x y, 0 ≤ x → x < F → 0 ≤ y → y < F → (cmB K x y = true ↔ bfo V O S R (rget K 2) x y) := fun x y x0 x1 y0 y1 => cmB_bfo (by omega) (by omega) hV hO hS hR bV bO bS bR
  have kf : ∀ x y, 0 ≤ x → x < F → 0 ≤ y → y < F → (cmB K x y = false ↔ ¬ bfo V O S R (rget K 2) x y) := fun x y x0 x1 y0 y1 => by
    rw [← key x y x0 x1 y0 y1]
    cases cmB K x y
    · exact ⟨fun _ q => (by cases q), fun _ => rfl⟩
    · exact ⟨fun q => (by cases q), fun q => absurd rfl q⟩
  intro x y x0 x1 y0 y1
  obtain ⟨t1, t2, t3⟩ := bfo_tot (V := V) (O := O) (S := S) (R := R) (T := rget K 2) (x := x) (y := y) (fun i => (bO i).1)
  refine ⟨fun e => (kf x y x0 x1 y0 y1).mpr (t1 e), fun e => ?_, fun z z0 z1 h1 h2 => ?_⟩
  · rw [key x y x0 x1 y0 y1, kf y x y0 y1 x0 x1]; exact t2 e
  · exact (key x z x0 x1 z0 z1).mpr (t3 z ((key x y x0 x1 y0 y1).mp h1) ((key y z y0 y1 z0 z1).mp h2))
end Totl
section RankK
variable {N x y : Int} {K X Y : Mem} {g : Gs}
theorem tally_kp (hk : KP N (cv K 0) g) (hY : Y 13 186 = g) : zm_tally 0 K = wst K (cntG Y) := by
  have hpB := pB_le hk.1
  unfold zm_tally
  rw [fill_wst, wst_o (by omega)]
  have e01 : K 0 0 1 = pB g := hk.2.1.1.2.2.2.2.2.2.1
  rw [e01]
  have e := tal_n (K := K) (Y := Y) hk hY (pB g).toNat (by omega)
  rw [wcm_id, show (((pB g).toNat : Nat) : Int) = pB g by omega] at e
  rw [e]
  refine wst_congr fun w k w0 w1 k0 k1 => ?_
  unfold cntG
  rw [cnt_pB hk hY, hY]
theorem cntG_bk (hk : KP N (cv K 0) g) (hY : Y 13 186 = g) (w k : Int) : 0 ≤ cntG Y w k ∧ cntG Y w k ≤ 9210 := by
  have := cnt_b hk hY (4 * k + w)
  unfold cntG
  rw [hY, wr_eq (by omega) (by omega)]
  exact this
theorem tot_kp (hk : KP N (cv K 0) g) (hY : Y 13 186 = g) : Tot (cmB (wst K (cntG Y))) (g 1) := by
  have bb := cntG_bk hk hY
  have i1 := hk.1.1
  have b1 : g 1 ≤ 24 := by unfold I1 at i1; omega
  have gt : ∀ w k, 0 ≤ w → w < 4 → 0 ≤ k → k < 24 → rget (wst K (cntG Y)) (180 + w) k = cntG Y w k := fun w k w0 w1 k0 k1 => by
    rw [wst_get (by omega) ⟨k0, k1⟩, show 180 + w - 180 = w by omega]
  exact tot_cmB (V := cntG Y 0) (O := cntG Y 1) (S := cntG Y 2) (R := cntG Y 3) (fun i i0 i1 => gt 0 i (by decide) (by decide) i0 i1) (fun i i0 i1 => gt 1 i (by decide) (by decide) i0 i1) (fun i i0 i1 => gt 2 i (by decide) (by decide) i0 i1) (fun i i0 i1 => gt 3 i (by decide) (by decide) i0 i1) (bb 0) (bb 1) (bb 2) (bb 3) b1
theorem ex_kp (hk : KP N (cv K 0) g) (hx : 0 ≤ x ∧ x < g 1) : (zo_isExcluded 0 x K = 0) ↔ gf g x 2 = 0 := by
  have i1 := hk.1.1
  have b1 : g 1 ≤ 24 := by unfold I1 at i1; omega
  have hr := (hk.2.1.2.1 x hx.1 hx.2).2.2.2.2.1
  unfold zo_isExcluded
  rw [z0, rg_5 (by omega), hr]
  by_cases q : gf g x 2 = 0
  · rw [if_pos q]; omega
  · rw [if_neg q]; omega
theorem in_kp (hk : KP N (cv K 0) g) (hx : 0 ≤ x ∧ x < g 1) : inB (wst K (cntG Y)) x = decide (gf g x 2 = 0) := by
  have e : zo_isExcluded 0 x (wst K (cntG Y)) = zo_isExcluded 0 x K := by
    unfold zo_isExcluded
    rw [z0, wst_row (by omega)]
  unfold inB
  rw [e]
  exact decide_eq_decide.mpr (ex_kp hk hx)
/-- the model's fencers are those of g -/
def agF (X : Mem) (g : Gs) : Prop := ∀ k, k = 1 ∨ (30 ≤ k ∧ k < 222) → X 13 186 k = g k
theorem ag_of (h : X 13 186 = g) : agF X g := fun k _ => congrFun h k
theorem ag_f (h : agF X g) {f w : Int} (f0 : 0 ≤ f) (f1 : f < 24) (w0 : 0 ≤ w) (w1 : w < 8) : mof X f w = gf g f w := h _ (Or.inr (by omega))
theorem cmp_kp (hk : KP N (cv K 0) g) (hY : Y 13 186 = g) (hX : agF X g) (hc : ∀ w k, 0 ≤ w → w < 4 → 0 ≤ k → k < 24 → X 13 189 (4 * k + w) = cntG Y w k) (hx : 0 ≤ x ∧ x < g 1) (hy : 0 ≤ y ∧ y < g 1) : zo_compare 0 x y (wst K (cntG Y)) = zo_morder x y X := by
  have i1 := hk.1.1
  have b1 : g 1 ≤ 24 := by unfold I1 at i1; omega
  have h24 : (0 ≤ x ∧ x < 24) ∧ (0 ≤ y ∧ y < 24) := by omega
  have bb := cntG_bk hk hY
  have gt : ∀ w k, 0 ≤ w → w < 4 → 0 ≤ k → k < 24 → rget (wst K (cntG Y)) (180 + w) k = cntG Y w k := fun w k w0 w1 k0 k1 => by
    rw [wst_get (by omega) ⟨k0, k1⟩, show 180 + w - 180 = w by omega]
  rw [cmp_c (V := cntG Y 0) (O := cntG Y 1) (S := cntG Y 2) (R := cntG Y 3) h24.1 h24.2 (fun i i0 i1 => gt 0 i (by decide) (by decide) i0 i1) (fun i i0 i1 => gt 1 i (by decide) (by decide) i0 i1) (fun i i0 i1 => gt 2 i (by decide) (by decide) i0 i1) (fun i i0 i1 => gt 3 i (by decide) (by decide) i0 i1) (bb 0) (bb 1) (bb 2) (bb 3)]
  rw [cmp_m (V := cntG Y 0) (O := cntG Y 1) (S := cntG Y 2) (R := cntG Y 3) h24.1 h24.2 (fun i i0 i1 => by have := hc 0 i (by decide) (by decide) i0 i1; rw [Int.add_zero] at this; exact this) (fun i i0 i1 => hc 1 i (by decide) (by decide) i0 i1) (fun i i0 i1 => hc 2 i (by decide) (by decide) i0 i1) (fun i i0 i1 => hc 3 i (by decide) (by decide) i0 i1) (bb 0) (bb 1) (bb 2) (bb 3)]
  have e : zo_isStronger 0 x y (wst K (cntG Y)) = zo_misStronger x y X := by
    have hs : ∀ i, 0 ≤ i → i < g 1 → rget (wst K (cntG Y)) 2 i = gf g i 1 := fun i i0 i1 => by
      rw [wst_row (by omega), rg_2 (by omega)]
      exact (hk.2.1.2.1 i i0 i1).2.1
    unfold zo_isStronger zo_misStronger
    simp only [z0]
    rw [hs x hx.1 hx.2, hs y hy.1 hy.2, ag_f hX h24.1.1 h24.1.2 (by decide) (by decide), ag_f hX h24.2.1 h24.2.2 (by decide) (by decide)]
  rw [e]
/-- the order of all that are in -/
def rkO (K Y : Mem) (F : Int) : (Int → Int) × Nat := ordO (wst K (cntG Y)) F.toNat
theorem srt_kp (hk : KP N (cv K 0) g) (hY : Y 13 186 = g) : Srt (cmB (wst K (cntG Y))) (inB (wst K (cntG Y))) (g 1) (rkO K Y (g 1)).1 (rkO K Y (g 1)).2 := by
  have i1 := hk.1.1
  have b1 : 0 ≤ g 1 ∧ g 1 ≤ 24 := by unfold I1 at i1; omega
  have h := Srt_rk (p := inB (wst K (cntG Y))) (o := wst K (cntG Y) 13 184) (tot_kp hk hY) (g 1).toNat (by omega)
  rw [show (((g 1).toNat : Nat) : Int) = g 1 by omega] at h
  exact h
theorem rank_n (hk : KP N (cv K 0) g) (hY : Y 13 186 = g) : ((rkO K Y (g 1)).2 : Int) = sumTo (fun f => if gf g f 2 = 0 then 1 else 0) (g 1) := by
  rw [← Srt_n (srt_kp hk hY)]
  refine sumTo_congr fun f f0 f1 => ?_
  rw [in_kp hk ⟨f0, f1⟩]
  by_cases q : gf g f 2 = 0
  · rw [if_pos q, if_pos (decide_eq_true q)]
  · rw [if_neg q, if_neg (by intro z; exact q (of_decide_eq_true z))]
theorem rank_b (hk : KP N (cv K 0) g) (hY : Y 13 186 = g) : (0 : Int) ≤ (rkO K Y (g 1)).2 ∧ ((rkO K Y (g 1)).2 : Int) ≤ g 1 := (srt_kp hk hY).1
theorem rank_at (hk : KP N (cv K 0) g) (hY : Y 13 186 = g) {i : Int} (i0 : 0 ≤ i) (i1 : i < (rkO K Y (g 1)).2) : (0 ≤ (rkO K Y (g 1)).1 i ∧ (rkO K Y (g 1)).1 i < g 1) ∧ gf g ((rkO K Y (g 1)).1 i) 2 = 0 := by
  have h := (srt_kp hk hY).2.1 i i0 i1
  refine ⟨h.1, ?_⟩
  have h2 := h.2
  rw [in_kp hk h.1] at h2
  exact of_decide_eq_true h2
theorem rank_inj (hk : KP N (cv K 0) g) (hY : Y 13 186 = g) {i j : Int} (i0 : 0 ≤ i) (i1 : i < (rkO K Y (g 1)).2) (j0 : 0 ≤ j) (j1 : j < (rkO K Y (g 1)).2) (e : (rkO K Y (g 1)).1 i = (rkO K Y (g 1)).1 j) : i = j := Srt_inj (tot_kp hk hY) (Int.le_refl _) (srt_kp hk hY) i0 i1 j0 j1 e
/-- a sum over all that are in is one over the order -/
theorem rank_sum (hk : KP N (cv K 0) g) (hY : Y 13 186 = g) (h : Int → Int) : sumTo (fun f => if gf g f 2 = 0 then h f else 0) (g 1) = sumTo (fun i => h ((rkO K Y (g 1)).1 i)) (rkO K Y (g 1)).2 := by
  rw [← (srt_kp hk hY).2.2.2.2 h]
  refine sumTo_congr fun f f0 f1 => ?_
  rw [in_kp hk ⟨f0, f1⟩]
  by_cases q : gf g f 2 = 0
  · rw [if_pos q, if_pos (decide_eq_true q)]
  · rw [if_neg q, if_neg (by intro z; exact q (of_decide_eq_true z))]
/-- the model's search for a place -/
theorem rank_find (hk : KP N (cv K 0) g) (hY : Y 13 186 = g) (hX : agF X g) (hc : ∀ w k, 0 ≤ w → w < 4 → 0 ≤ k → k < 24 → X 13 189 (4 * k + w) = cntG Y w k) (x : Int) : fnd (fp_mrankedAt x X) 0 (g 1) = if 0 ≤ x ∧ x < (rkO K Y (g 1)).2 then (rkO K Y (g 1)).1 x else -1 := by
  have i1 := hk.1.1
  have b1 : 0 ≤ g 1 ∧ g 1 ≤ 24 := by unfold I1 at i1; omega
  rw [← Srt_find (tot_kp hk hY) (Int.le_refl _) (srt_kp hk hY) x]
  refine fnd_congr fun f f0 f1 => ?_
  have x1 : X 13 186 1 = g 1 := hX 1 (Or.inl rfl)
  unfold fp_mrankedAt
  rw [in_kp hk ⟨f0, f1⟩, ag_f hX f0 (by omega) (by decide) (by decide), x1]
  by_cases q : gf g f 2 = 0
  · rw [if_neg (by omega), if_pos (decide_eq_true q)]
    have e : sumTo (fo_mplaceOf f X) (g 1) = sumTo (fun e => if inB (wst K (cntG Y)) e = true then (if cmB (wst K (cntG Y)) e f = true then 1 else 0) else 0) (g 1) := sumTo_congr fun e e0 e1 => by
      unfold fo_mplaceOf
      rw [in_kp hk ⟨e0, e1⟩, ag_f hX e0 (by omega) (by decide) (by decide)]
      by_cases q2 : gf g e 2 = 0
      · rw [if_neg (show ¬ ¬ gf g e 2 = 0 by omega), if_pos (decide_eq_true q2), ← cmp_kp hk hY hX hc ⟨e0, e1⟩ ⟨f0, f1⟩]
        by_cases q3 : e = f
        · subst q3
          rw [if_pos rfl, if_neg]
          intro z
          rw [(tot_kp hk hY e e e0 e1 e0 e1).1 rfl] at z
          cases z
        · rw [if_neg q3]
          by_cases q4 : zo_compare 0 e f (wst K (cntG Y)) ≤ 0
          · rw [if_pos q4, if_neg (by unfold cmB; intro z; have := of_decide_eq_true z; omega)]
          · rw [if_neg q4, if_pos (by unfold cmB; exact decide_eq_true (by omega))]
      · rw [if_neg (show ¬ decide (gf g e 2 = 0) = true by intro z; exact q2 (of_decide_eq_true z))]
        by_cases q3 : e = f
        · rw [if_pos q3]
        · rw [if_neg q3, if_pos q2]
    have hb := sumTo_bd (f := fun e => if inB (wst K (cntG Y)) e = true then (if cmB (wst K (cntG Y)) e f = true then 1 else 0) else 0) (n := g 1) (c := 1) (by decide) b1.1 (fun e _ _ => by (split; split; all_goals omega))
    rw [e, wr_eq (by omega) (by omega)]
    by_cases q5 : sumTo (fun e => if inB (wst K (cntG Y)) e = true then (if cmB (wst K (cntG Y)) e f = true then 1 else 0) else 0) (g 1) = x
    · rw [if_neg (by omega), decide_eq_true q5]
    · rw [if_pos q5, decide_eq_false q5]
  · rw [if_pos q, if_neg (by intro z; exact q (of_decide_eq_true z))]
theorem stay_kp (hk : KP N (cv K 0) g) (hY : Y 13 186 = g) (hX : agF X g) : wr (sumTo (fo_mstaying X) (g 1)) = (rkO K Y (g 1)).2 := by
  have i1 := hk.1.1
  have b1 : 0 ≤ g 1 ∧ g 1 ≤ 24 := by unfold I1 at i1; omega
  have rb := rank_b hk hY
  have e : sumTo (fo_mstaying X) (g 1) = (rkO K Y (g 1)).2 := by
    rw [rank_n hk hY]
    refine sumTo_congr fun f f0 f1 => ?_
    have hf := (hk.1.2.2.1 f f0 f1).2.2.1
    unfold fo_mstaying
    rw [ag_f hX f0 (by omega) (by decide) (by decide)]
    rcases hf with q | q
    · rw [q]; rfl
    · rw [q]; rfl
  rw [e, wr_eq (by omega) (by omega)]
theorem cin_kp (hk : KP N (cv K 0) g) (hY : Y 13 186 = g) : wr (sumTo (fo_fcountIn 0 K) (g 1)) = (rkO K Y (g 1)).2 := by
  have i1 := hk.1.1
  have b1 : 0 ≤ g 1 ∧ g 1 ≤ 24 := by unfold I1 at i1; omega
  have rb := rank_b hk hY
  have e : sumTo (fo_fcountIn 0 K) (g 1) = (rkO K Y (g 1)).2 := by
    rw [rank_n hk hY]
    refine sumTo_congr fun f f0 f1 => ?_
    have hx := ex_kp hk ⟨f0, f1⟩
    unfold fo_fcountIn
    by_cases q : gf g f 2 = 0
    · rw [if_pos q, if_neg (fun z => z (hx.mpr q))]
    · rw [if_neg q, if_pos (fun z => q (hx.mp z))]
  rw [e, wr_eq (by omega) (by omega)]
theorem rkA_kp (hk : KP N (cv K 0) g) (hY : Y 13 186 = g) : zm_rankAll K = wor (wst K (cntG Y)) (rkO K Y (g 1)).1 (rkO K Y (g 1)).2 := by
  have e6 : wst K (cntG Y) 6 0 0 = g 1 := (wst_o (by omega)).trans hk.2.1.1.2.2.2.1
  unfold zm_rankAll rkO
  rw [tally_kp hk hY, e6]
theorem evA_kp (hk : KP N (cv K 0) g) (hY : Y 13 186 = g) : Ev true 91 [aR 8 (0), aR 2 (0)] K (.inl none) (wor (wst K (cntG Y)) (rkO K Y (g 1)).1 (rkO K Y (g 1)).2) := by
  have i1 := hk.1.1
  have b1 : 0 ≤ g 1 ∧ g 1 ≤ 24 := by unfold I1 at i1; omega
  have e6 : wst K (cntG Y) 6 0 0 = g 1 := (wst_o (by omega)).trans hk.2.1.1.2.2.2.1
  rw [← rkA_kp hk hY]
  refine ev_rankAll K ?_
  rw [tally_kp hk hY, e6]
  exact b1
end RankK
