/-! Who ranks before whom: the class and the model compare alike. -/
section Cmp
variable {N x y : Int} {σ K L X Y : Mem} {c : Cs} {g : Gs} {V O S R T : Int → Int}
theorem mul_b {a b : Int} (ha : 0 ≤ a ∧ a ≤ 9210) (hb : 0 ≤ b ∧ b ≤ 9210) : 0 ≤ a * b ∧ a * b ≤ 84824100 := by
  refine ⟨Int.mul_nonneg ha.1 hb.1, ?_⟩
  have := Int.mul_le_mul ha.2 hb.2 hb.1 (by decide : (0 : Int) ≤ 9210)
  omega
/-- the comparison, by the counts -/
def cmpV (A B I J Sx Sy st : Int) : Int := if A = B then (if I = J then (if Sx = Sy then (if st = 0 then -4 else 4) else if Sx ≤ Sy then -3 else 3) else if I ≤ J then -2 else 2) else if A ≤ B then -1 else 1
theorem rmax_1 {o : Int} (h : 0 ≤ o) : rmax 1 o = if o = 0 then 1 else o := by
  unfold rmax
  repeat' split
  all_goals omega
theorem cmp_c (hx : 0 ≤ x ∧ x < 24) (hy : 0 ≤ y ∧ y < 24) (hV : ∀ i, 0 ≤ i → i < 24 → rget K 180 i = V i) (hO : ∀ i, 0 ≤ i → i < 24 → rget K 181 i = O i) (hS : ∀ i, 0 ≤ i → i < 24 → rget K 182 i = S i) (hR : ∀ i, 0 ≤ i → i < 24 → rget K 183 i = R i) (bV : ∀ i, 0 ≤ V i ∧ V i ≤ 9210) (bO : ∀ i, 0 ≤ O i ∧ O i ≤ 9210) (bS : ∀ i, 0 ≤ S i ∧ S i ≤ 9210) (bR : ∀ i, 0 ≤ R i ∧ R i ≤ 9210) : zo_compare 0 x y K = cmpV (V x * (if O y = 0 then 1 else O y)) (V y * (if O x = 0 then 1 else O x)) (S x - R x) (S y - R y) (S x) (S y) (zo_isStronger 0 x y K) := by
  have m1 : 0 ≤ (if O y = 0 then 1 else O y) ∧ (if O y = 0 then 1 else O y) ≤ 9210 := by have := bO y; split <;> omega
  have m2 : 0 ≤ (if O x = 0 then 1 else O x) ∧ (if O x = 0 then 1 else O x) ≤ 9210 := by have := bO x; split <;> omega
  have p1 := mul_b (bV x) m1
  have p2 := mul_b (bV y) m2
  have sx := bS x
  have sy := bS y
  have rx := bR x
  have ry := bR y
  unfold zo_compare zo_compareRatios zo_icompare zo_indicator cmpV
  rw [hV x hx.1 hx.2, hV y hy.1 hy.2, hO x hx.1 hx.2, hO y hy.1 hy.2, hS x hx.1 hx.2, hS y hy.1 hy.2, hR x hx.1 hx.2, hR y hy.1 hy.2, rmax_1 (bO x).1, rmax_1 (bO y).1]
  generalize hA : V x * (if O y = 0 then 1 else O y) = A at p1 ⊢
  generalize hB : V y * (if O x = 0 then 1 else O x) = B at p2 ⊢
  rw [wr_eq (z := A) (by omega) (by omega), wr_eq (z := B) (by omega) (by omega), wr_eq (z := S x - R x) (by omega) (by omega), wr_eq (z := S y - R y) (by omega) (by omega)]
  generalize S x - R x = I
  generalize S y - R y = J
  generalize S x = a
  generalize S y = b
  generalize zo_isStronger 0 x y K = st
  clear hA hB m1 m2 p1 p2 sx sy rx ry hV hO hS hR bV bO bS bR
  by_cases q1 : A = B
  · rw [if_neg (show ¬ ¬ A = B by omega), if_pos (show (0 : Int) = 0 from rfl), if_pos q1]
    by_cases q2 : I = J
    · rw [if_pos (show J ≤ I by omega), if_neg (show ¬ ¬ I = J by omega), if_pos (show (0 : Int) = 0 from rfl), if_pos q2]
      by_cases q3 : a = b
      · rw [if_pos (show b ≤ a by omega), if_neg (show ¬ ¬ a = b by omega), if_pos (show (0 : Int) = 0 from rfl), if_pos q3]
      · rw [if_neg q3]
        by_cases q4 : b ≤ a
        · rw [if_pos q4, if_pos q3, if_neg (show ¬ (1 : Int) = 0 by decide), if_neg (show ¬ (1 : Int) ≤ 0 by decide), if_neg (show ¬ a ≤ b by omega)]
        · rw [if_neg q4, if_neg (show ¬ (-1 : Int) = 0 by decide), if_pos (show (-1 : Int) ≤ 0 by decide), if_pos (show a ≤ b by omega)]
    · rw [if_neg q2]
      by_cases q4 : J ≤ I
      · rw [if_pos q4, if_pos q2, if_neg (show ¬ (1 : Int) = 0 by decide), if_neg (show ¬ (1 : Int) ≤ 0 by decide), if_neg (show ¬ I ≤ J by omega)]
      · rw [if_neg q4, if_neg (show ¬ (-1 : Int) = 0 by decide), if_pos (show (-1 : Int) ≤ 0 by decide), if_pos (show I ≤ J by omega)]
  · rw [if_pos q1, if_neg q1]
    by_cases q4 : A ≤ B
    · rw [if_pos q4, if_neg (show ¬ (-1 : Int) = 0 by decide)]
    · rw [if_neg q4, if_neg (show ¬ (1 : Int) = 0 by decide)]
theorem cmp_m (hx : 0 ≤ x ∧ x < 24) (hy : 0 ≤ y ∧ y < 24) (hV : ∀ i, 0 ≤ i → i < 24 → L 13 189 (4 * i) = V i) (hO : ∀ i, 0 ≤ i → i < 24 → L 13 189 (4 * i + 1) = O i) (hS : ∀ i, 0 ≤ i → i < 24 → L 13 189 (4 * i + 2) = S i) (hR : ∀ i, 0 ≤ i → i < 24 → L 13 189 (4 * i + 3) = R i) (bV : ∀ i, 0 ≤ V i ∧ V i ≤ 9210) (bO : ∀ i, 0 ≤ O i ∧ O i ≤ 9210) (bS : ∀ i, 0 ≤ S i ∧ S i ≤ 9210) (bR : ∀ i, 0 ≤ R i ∧ R i ≤ 9210) : zo_morder x y L = cmpV (V x * (if O y = 0 then 1 else O y)) (V y * (if O x = 0 then 1 else O x)) (S x - R x) (S y - R y) (S x) (S y) (zo_misStronger x y L) := by
  have m1 : 0 ≤ (if O y = 0 then 1 else O y) ∧ (if O y = 0 then 1 else O y) ≤ 9210 := by have := bO y; split <;> omega
  have m2 : 0 ≤ (if O x = 0 then 1 else O x) ∧ (if O x = 0 then 1 else O x) ≤ 9210 := by have := bO x; split <;> omega
  have p1 := mul_b (bV x) m1
  have p2 := mul_b (bV y) m2
  have sx := bS x
  have sy := bS y
  have rx := bR x
  have ry := bR y
  have ix : zo_mindicator x L = S x - R x := by
    unfold zo_mindicator
    rw [wr_eq (z := 4 * x) (by omega) (by omega), wr_eq (z := 4 * x + 2) (by omega) (by omega), wr_eq (z := 4 * x + 3) (by omega) (by omega), hS x hx.1 hx.2, hR x hx.1 hx.2, wr_eq (by omega) (by omega)]
  have iy : zo_mindicator y L = S y - R y := by
    unfold zo_mindicator
    rw [wr_eq (z := 4 * y) (by omega) (by omega), wr_eq (z := 4 * y + 2) (by omega) (by omega), wr_eq (z := 4 * y + 3) (by omega) (by omega), hS y hy.1 hy.2, hR y hy.1 hy.2, wr_eq (by omega) (by omega)]
  have key : ∀ A B : Int, (0 ≤ A ∧ A ≤ 84824100) → (0 ≤ B ∧ B ≤ 84824100) → (if wr (wr A - wr B) = 0 then (if S x - R x = S y - R y then (if S x = S y then (if zo_misStronger x y L = 0 then (-4 : Int) else 4) else if S x ≤ S y then -3 else 3) else if S x - R x ≤ S y - R y then -2 else 2) else if wr (wr A - wr B) ≤ 0 then -1 else 1) = cmpV A B (S x - R x) (S y - R y) (S x) (S y) (zo_misStronger x y L) := fun A B a b => by
    unfold cmpV
    rw [wr_eq (z := A) (by omega) (by omega), wr_eq (z := B) (by omega) (by omega), wr_eq (z := A - B) (by omega) (by omega)]
    by_cases q1 : A = B
    · rw [if_pos (show A - B = 0 by omega), if_pos q1]
    · rw [if_neg (show ¬ A - B = 0 by omega), if_neg q1]
      by_cases q2 : A ≤ B
      · rw [if_pos (show A - B ≤ 0 by omega), if_pos q2]
      · rw [if_neg (show ¬ A - B ≤ 0 by omega), if_neg q2]
  rw [← key _ _ p1 p2]
  unfold zo_morder
  rw [ix, iy, wr_eq (z := 4 * x) (by omega) (by omega), wr_eq (z := 4 * x + 1) (by omega) (by omega), wr_eq (z := 4 * x + 2) (by omega) (by omega), wr_eq (z := 4 * y) (by omega) (by omega), wr_eq (z := 4 * y + 1) (by omega) (by omega), wr_eq (z := 4 * y + 2) (by omega) (by omega), hV x hx.1 hx.2, hV y hy.1 hy.2, hO x hx.1 hx.2, hO y hy.1 hy.2, hS x hx.1 hx.2, hS y hy.1 hy.2]
  by_cases q1 : O x = 0
  · rw [if_neg (show ¬ ¬ O x = 0 by omega), if_pos q1]
    by_cases q2 : O y = 0
    · rw [if_neg (show ¬ ¬ O y = 0 by omega), if_pos q2]
    · rw [if_pos q2, if_neg q2]
  · rw [if_pos q1, if_neg q1]
    by_cases q2 : O y = 0
    · rw [if_neg (show ¬ ¬ O y = 0 by omega), if_pos q2]
    · rw [if_pos q2, if_neg q2]
theorem ctk_row (e : X 13 186 = Y 13 186) (k b : Int) : ctk X k b = ctk Y k b := by
  unfold ctk cs
  simp only [mat_row2, e]
theorem cntG_row (e : X 13 186 = Y 13 186) (w k : Int) : cntG X w k = cntG Y w k := by
  unfold cntG
  rw [e]
  exact congrArg wr (sumTo_congr fun b _ _ => ctk_row e _ b)
theorem cnt_b (hk : KP N c g) (hY : Y 13 186 = g) (k : Int) : 0 ≤ sumTo (ctk Y k) (g 3) ∧ sumTo (ctk Y k) (g 3) ≤ 9210 := by
  have i1 := hk.1.1
  have b3 : 0 ≤ g 3 ∧ g 3 ≤ 307 := by unfold I1 at i1; omega
  have := sumTo_bd (f := ctk Y k) (n := g 3) (c := 30) (by decide) b3.1 (fun b q0 q1 => by
    have ib := hk.1.2.1 b q0 q1
    unfold IB at ib
    have t2 := ib.2.2.2.2.2.1
    have t3 := ib.2.2.2.2.2.2.1
    clear ib
    have h2 : mat Y b 2 = ga g b 2 := by rw [mat_row, hY]
    have h3 : mat Y b 3 = ga g b 3 := by rw [mat_row, hY]
    have hc : ∀ s j, (s = 0 ∨ s = 1) → 0 ≤ cs Y b s j ∧ cs Y b s j ≤ 15 := fun s j hs => by
      unfold cs
      rcases hs with rfl | rfl
      · rw [show (2 : Int) + 0 = 2 from rfl, show (3 : Int) - 0 = 3 from rfl, h2, h3]
        repeat' split
        all_goals omega
      · rw [show (2 : Int) + 1 = 3 from rfl, show (3 : Int) - 1 = 2 from rfl, h2, h3]
        repeat' split
        all_goals omega
    have c0 := hc 0 (k % 4) (Or.inl rfl)
    have c1 := hc 1 (k % 4) (Or.inr rfl)
    unfold ctk
    repeat' split
    all_goals omega)
  omega
theorem cntG_b (h : J N σ σ) (w k : Int) : 0 ≤ cntG σ w k ∧ cntG σ w k ≤ 9210 := by
  have := cnt_b h.1 (Y := σ) rfl (4 * k + w)
  unfold cntG
  rw [wr_eq (by omega) (by omega)]
  exact this
/-- the model's counts -/
theorem laid_c {w k : Int} (hw : 0 ≤ w ∧ w < 4) (hk : 0 ≤ k ∧ k < 24) : laid X 13 189 (4 * k + w) = cntG X w k := by
  unfold laid
  rw [wcn_r (by omega)]
  rfl
theorem laid_o {C : Nat} {r k : Int} (h : C ≠ 13 ∨ r ≠ 189) : laid X C r k = X C r k := wcn_o h
theorem lay_ok (h : J N σ σ) (e : X 13 186 = σ 13 186) : LayOK X := by
  have rg := J_rg h
  unfold LayOK
  rw [e]
  refine ⟨rg.2.2.2.1, fun b q0 q1 h7 h4 => ?_⟩
  have ib := h.1.1.2.1 b q0 q1
  have hti := tab_iff h.1.1 q0 q1
  simp only [mat_row2, e] at h7 h4 ⊢
  have hp : b < pB (σ 13 186) := by
    by_cases q : b < pB (σ 13 186)
    · exact q
    · exact absurd (hti.mpr (by omega)) h7
  unfold IB at ib
  have hlr := ib.2.2.2.2.2.2.2.2.2.2.2.2.2.1 hp
  have l0 := ib.2.1.2
  have l1 := ib.2.2.1.2
  clear ib
  omega
end Cmp
