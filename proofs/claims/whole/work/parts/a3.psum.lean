/-! Sums over the bouts of the pools. -/
section Dbl
variable {n m x y P : Int} {F G : Int → Int → Int} {f h : Int → Int}
theorem sumTo_a (f h : Int → Int) : ∀ m : Nat, sumTo (fun i => f i + h i) m = sumTo f m + sumTo h m := by
  intro m
  induction m with
  | zero => rfl
  | succ m ih =>
    rw [show ((m + 1 : Nat) : Int) = (m : Int) + 1 by omega, sumTo_s _ (by omega), sumTo_s f (by omega), sumTo_s h (by omega), ih]
    omega
theorem sumTo_add2 (f h : Int → Int) (n : Int) : sumTo (fun i => f i + h i) n = sumTo f n + sumTo h n := by
  by_cases q : 0 ≤ n
  · have := sumTo_a f h n.toNat
    rw [show (n.toNat : Int) = n by omega] at this
    exact this
  · rw [sumTo_neg _ (by omega), sumTo_neg _ (by omega), sumTo_neg _ (by omega)]
    rfl
theorem sumTo_z (n : Int) : sumTo (fun _ => (0 : Int)) n = 0 := by
  by_cases q : 0 ≤ n
  · have := sumTo_bd (f := fun _ => (0 : Int)) (n := n) (c := 0) (by decide) q (fun _ _ _ => by decide)
    omega
  · exact sumTo_neg _ (by omega)
theorem fub (F : Int → Int → Int) (m : Int) : ∀ k : Nat, sumTo (fun x => sumTo (fun y => F x y) m) k = sumTo (fun y => sumTo (fun x => F x y) k) m := by
  intro k
  induction k with
  | zero =>
    show (0 : Int) = _
    exact (sumTo_z m).symm
  | succ k ih =>
    rw [show ((k + 1 : Nat) : Int) = (k : Int) + 1 by omega, sumTo_s _ (by omega), ih, ← sumTo_add2]
    exact sumTo_congr fun y _ _ => (sumTo_s (fun x => F x y) (i := (k : Int)) (by omega)).symm
theorem fubi (F : Int → Int → Int) (m n : Int) (hn : 0 ≤ n) : sumTo (fun x => sumTo (fun y => F x y) m) n = sumTo (fun y => sumTo (fun x => F x y) n) m := by
  have := fub F m n.toNat
  rw [show (n.toNat : Int) = n by omega] at this
  exact this
theorem sumTo_sg (x0 : 0 ≤ x) (xn : x < n) (f : Int → Int) : sumTo (fun y => if x = y then f y else 0) n = f x := by
  have := sumTo_upd1 (F := fun _ => 0) (G := fun y => if x = y then f y else 0) (f := x) (d := f x) x0 xn (fun y _ z => if_neg (fun w => z w.symm)) (by show (if x = x then f x else 0) = 0 + f x; rw [if_pos rfl]; omega)
  rw [this, sumTo_z]
  omega
theorem sumTo_cut (x0 : 0 ≤ x) (xn : x ≤ n) (f : Int → Int) : sumTo (fun y => if y < x then f y else 0) n = sumTo f x := by
  have e := sumTo_stop (p := fun y => if y < x then f y else 0) x0 (n - x).toNat (fun y q0 q1 => if_neg (by omega))
  rw [show x + ((n - x).toNat : Int) = n by omega] at e
  rw [e]
  exact sumTo_congr fun y _ y1 => if_pos y1
/-- a symmetric double sum: twice the half and the diagonal -/
theorem sym2 (hn : 0 ≤ n) (hF : ∀ x y, 0 ≤ x → x < n → 0 ≤ y → y < n → F x y = F y x) : sumTo (fun x => sumTo (fun y => F x y) n) n = 2 * sumTo (fun x => sumTo (fun y => if x < y then F x y else 0) n) n + sumTo (fun x => F x x) n := by
  have e1 : sumTo (fun x => sumTo (fun y => F x y) n) n = sumTo (fun x => sumTo (fun y => if x < y then F x y else 0) n + (sumTo (fun y => if y < x then F x y else 0) n + F x x)) n := sumTo_congr fun x x0 x1 => by
    show sumTo (fun y => F x y) n = _
    rw [← sumTo_sg x0 x1 (fun y => F x y), ← sumTo_add2, ← sumTo_add2]
    refine sumTo_congr fun y _ _ => ?_
    show F x y = (if x < y then F x y else 0) + ((if y < x then F x y else 0) + (if x = y then F x y else 0))
    by_cases q : x < y
    · rw [if_pos q, if_neg (by omega), if_neg (by omega)]; omega
    · by_cases q2 : x = y
      · rw [if_neg q, if_neg (by omega), if_pos q2]; omega
      · rw [if_neg q, if_pos (by omega), if_neg q2]; omega
  have e2 : sumTo (fun x => sumTo (fun y => if y < x then F x y else 0) n) n = sumTo (fun x => sumTo (fun y => if x < y then F x y else 0) n) n := by
    rw [fubi _ _ _ hn]
    refine sumTo_congr fun y y0 y1 => sumTo_congr fun x x0 x1 => ?_
    show (if y < x then F x y else 0) = if y < x then F y x else 0
    rw [hF x y x0 x1 y0 y1]
  rw [e1, sumTo_add2, sumTo_add2, e2]
  omega
theorem halfS (hn : 0 ≤ n) (hF : ∀ x y, 0 ≤ x → x < n → 0 ≤ y → y < n → F x y = F y x) : sumTo (fun x => sumTo (fun y => if x < y then F x y else 0) n) n = sumTo (fun x => sumTo (fun y => F x y) x) n := by
  rw [fubi _ _ _ hn]
  refine sumTo_congr fun y y0 y1 => ?_
  rw [← sumTo_cut (n := n) y0 (by omega) (fun x => F y x)]
  refine sumTo_congr fun x x0 x1 => ?_
  show (if x < y then F x y else 0) = if x < y then F y x else 0
  rw [hF x y x0 x1 y0 y1]
end Dbl
/-- a pool's row of bouts, and its bouts -/
def rowS (h : Int → Int → Int) (sz sl : Int → Int) (p x : Int) : Int := sumTo (fun y => if x < y then h (sl (24 * p + x)) (sl (24 * p + y)) else 0) (sz p)
def poolS (h : Int → Int → Int) (sz sl : Int → Int) (p : Int) : Int := sumTo (rowS h sz sl p) (sz p)
section PoolSum
variable {n P : Int} {s6 sz sl : Int → Int} {h : Int → Int → Int}
theorem pool_sum (hn : 0 ≤ n) (hP : 0 ≤ P) (hz : ∀ p, 0 ≤ p → p < P → 0 ≤ sz p) (him : ∀ p, 0 ≤ p → p < P → ∀ h : Int → Int, sumTo (fun f => if s6 f = p then h f else 0) n = sumTo (fun i => h (sl (24 * p + i))) (sz p)) (h6 : ∀ f, 0 ≤ f → f < n → 0 ≤ s6 f ∧ s6 f < P) (hs : ∀ x y, h x y = h y x) : sumTo (poolS h sz sl) P = sumTo (fun x => sumTo (fun y => if s6 x = s6 y then h x y else 0) x) n := by
  have sH : ∀ x y, 0 ≤ x → x < n → 0 ≤ y → y < n → (if s6 x = s6 y then h x y else 0) = if s6 y = s6 x then h y x else 0 := fun x y _ _ _ _ => by
    rw [hs x y]
    by_cases q : s6 x = s6 y
    · rw [if_pos q, if_pos q.symm]
    · rw [if_neg q, if_neg (fun z => q z.symm)]
  rw [← halfS (F := fun x y => if s6 x = s6 y then h x y else 0) hn sH]
  have a1 := sym2 (F := fun x y => if s6 x = s6 y then h x y else 0) hn sH
  have a2 : sumTo (fun x => (if s6 x = s6 x then h x x else 0)) n = sumTo (fun x => h x x) n := sumTo_congr fun x _ _ => if_pos rfl
  have b1 : sumTo (fun p => sumTo (fun x => sumTo (fun y => h (sl (24 * p + x)) (sl (24 * p + y))) (sz p)) (sz p)) P = sumTo (fun p => poolS h sz sl p + (poolS h sz sl p + sumTo (fun x => h (sl (24 * p + x)) (sl (24 * p + x))) (sz p))) P := sumTo_congr fun p p0 p1 => by
    have := sym2 (F := fun x y => h (sl (24 * p + x)) (sl (24 * p + y))) (hz p p0 p1) (fun x y _ _ _ _ => hs _ _)
    show sumTo (fun x => sumTo (fun y => h (sl (24 * p + x)) (sl (24 * p + y))) (sz p)) (sz p) = _
    rw [this]
    unfold poolS rowS
    omega
  rw [sumTo_add2, sumTo_add2] at b1
  have c1 : sumTo (fun p => sumTo (fun x => sumTo (fun y => h (sl (24 * p + x)) (sl (24 * p + y))) (sz p)) (sz p)) P = sumTo (fun x => sumTo (fun y => if s6 x = s6 y then h x y else 0) n) n := by
    have e : sumTo (fun p => sumTo (fun x => sumTo (fun y => h (sl (24 * p + x)) (sl (24 * p + y))) (sz p)) (sz p)) P = sumTo (fun p => sumTo (fun f => if s6 f = p then sumTo (fun g => if s6 g = p then h f g else 0) n else 0) n) P := sumTo_congr fun p p0 p1 => by
      show sumTo (fun x => sumTo (fun y => h (sl (24 * p + x)) (sl (24 * p + y))) (sz p)) (sz p) = _
      rw [him p p0 p1 (fun f => sumTo (fun g => if s6 g = p then h f g else 0) n)]
      exact sumTo_congr fun x _ _ => (him p p0 p1 (fun g => h (sl (24 * p + x)) g)).symm
    rw [e, fubi _ _ _ hP]
    refine sumTo_congr fun x x0 x1 => ?_
    rw [sumTo_sg (x := s6 x) (h6 x x0 x1).1 (h6 x x0 x1).2 (fun p => sumTo (fun g => if s6 g = p then h x g else 0) n)]
    refine sumTo_congr fun y _ _ => ?_
    show (if s6 y = s6 x then h x y else 0) = if s6 x = s6 y then h x y else 0
    by_cases q : s6 x = s6 y
    · rw [if_pos q, if_pos q.symm]
    · rw [if_neg q, if_neg (fun z => q z.symm)]
  have d1 : sumTo (fun p => sumTo (fun x => h (sl (24 * p + x)) (sl (24 * p + x))) (sz p)) P = sumTo (fun x => h x x) n := by
    have e : sumTo (fun p => sumTo (fun x => h (sl (24 * p + x)) (sl (24 * p + x))) (sz p)) P = sumTo (fun p => sumTo (fun f => if s6 f = p then h f f else 0) n) P := sumTo_congr fun p p0 p1 => (him p p0 p1 (fun f => h f f)).symm
    rw [e, fubi _ _ _ hP]
    exact sumTo_congr fun x x0 x1 => sumTo_sg (x := s6 x) (h6 x x0 x1).1 (h6 x x0 x1).2 (fun _ => h x x)
  have e9 : sumTo (fun x => poolS h sz sl x) P = sumTo (poolS h sz sl) P := rfl
  omega
end PoolSum
