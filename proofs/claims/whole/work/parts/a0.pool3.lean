/-! Who is placed in a pool: what holds after each placing. -/
section Sums
variable {n m i x y : Int} {F G : Int → Int}
theorem sumTo_upd {f d : Int} (f0 : 0 ≤ f) (h : ∀ x, 0 ≤ x → x ≠ f → G x = F x) (e : G f = F f + d) : ∀ m : Nat, sumTo G m = sumTo F m + if f < m then d else 0 := by
  intro m
  induction m with
  | zero => rw [if_neg (by omega)]; rfl
  | succ m ih =>
    rw [show ((m + 1 : Nat) : Int) = (m : Int) + 1 by omega, sumTo_s G (by omega), sumTo_s F (by omega), ih]
    by_cases q : f = m
    · rw [if_neg (by omega), if_pos (by omega), ← q, e]
      omega
    · rw [h m (by omega) (fun z => q z.symm)]
      by_cases q2 : f < m
      · rw [if_pos q2, if_pos (by omega)]; omega
      · rw [if_neg q2, if_neg (by omega)]; omega
theorem sumTo_upd1 {f d : Int} (f0 : 0 ≤ f) (fn : f < n) (h : ∀ x, 0 ≤ x → x ≠ f → G x = F x) (e : G f = F f + d) : sumTo G n = sumTo F n + d := by
  have := sumTo_upd f0 h e n.toNat
  rw [show (n.toNat : Int) = n by omega, if_pos fn] at this
  exact this
theorem sumTo_p {P : Int} (h : 1 ≤ P ∧ P ≤ 6) (f : Int → Int) : (P = 1 ∧ sumTo f P = f 0) ∨ (P = 2 ∧ sumTo f P = f 0 + f 1) ∨ (P = 3 ∧ sumTo f P = f 0 + f 1 + f 2) ∨ (P = 4 ∧ sumTo f P = f 0 + f 1 + f 2 + f 3) ∨ (P = 5 ∧ sumTo f P = f 0 + f 1 + f 2 + f 3 + f 4) ∨ (P = 6 ∧ sumTo f P = f 0 + f 1 + f 2 + f 3 + f 4 + f 5) := by
  have e1 : sumTo f 1 = f 0 := by
    have this : sumTo f 1 = sumTo f 0 + f 0 := sumTo_s f (i := 0) (by decide)
    rw [sumTo_0] at this
    omega
  have e2 : sumTo f 2 = f 0 + f 1 := by
    have := sumTo_s f (i := 1) (by decide)
    rw [e1] at this
    exact this
  have e3 : sumTo f 3 = f 0 + f 1 + f 2 := by
    have := sumTo_s f (i := 2) (by decide)
    rw [e2] at this
    exact this
  have e4 : sumTo f 4 = f 0 + f 1 + f 2 + f 3 := by
    have := sumTo_s f (i := 3) (by decide)
    rw [e3] at this
    exact this
  have e5 : sumTo f 5 = f 0 + f 1 + f 2 + f 3 + f 4 := by
    have := sumTo_s f (i := 4) (by decide)
    rw [e4] at this
    exact this
  have e6 : sumTo f 6 = f 0 + f 1 + f 2 + f 3 + f 4 + f 5 := by
    have := sumTo_s f (i := 5) (by decide)
    rw [e5] at this
    exact this
  have : P = 1 ∨ P = 2 ∨ P = 3 ∨ P = 4 ∨ P = 5 ∨ P = 6 := by omega
  rcases this with rfl | rfl | rfl | rfl | rfl | rfl
  · exact Or.inl ⟨rfl, e1⟩
  · exact Or.inr (Or.inl ⟨rfl, e2⟩)
  · exact Or.inr (Or.inr (Or.inl ⟨rfl, e3⟩))
  · exact Or.inr (Or.inr (Or.inr (Or.inl ⟨rfl, e4⟩)))
  · exact Or.inr (Or.inr (Or.inr (Or.inr (Or.inl ⟨rfl, e5⟩))))
  · exact Or.inr (Or.inr (Or.inr (Or.inr (Or.inr ⟨rfl, e6⟩))))
end Sums
/-- after j placings: s6, s7 pool and number of each, sz the pools' sizes, sl their slots -/
def PS (n P j : Int) (o s6 s7 sz sl : Int → Int) : Prop :=
  (∀ p, 0 ≤ p → p < P → (j / P ≤ sz p ∧ sz p ≤ j / P + 1) ∧ (∀ h : Int → Int, sumTo (fun f => if s6 f = p then h f else 0) n = sumTo (fun i => h (sl (24 * p + i))) (sz p)) ∧ (∀ i, 0 ≤ i → i < sz p → (0 ≤ sl (24 * p + i) ∧ sl (24 * p + i) < n) ∧ s6 (sl (24 * p + i)) = p ∧ s7 (sl (24 * p + i)) = i)) ∧
  (∀ f, 0 ≤ f → f < n → s6 f = -1 ∨ ((0 ≤ s6 f ∧ s6 f < P) ∧ (0 ≤ s7 f ∧ s7 f < sz (s6 f)) ∧ sl (24 * s6 f + s7 f) = f)) ∧
  ((∀ i, j ≤ i → i < n → s6 (o i) = -1) ∧ (∀ i, 0 ≤ i → i < j → 0 ≤ s6 (o i))) ∧ sumTo sz P = j
section Place
variable {n P j b : Int} {o s6 s7 sz sl : Int → Int}
theorem PS_0 (hP : 1 ≤ P ∧ P ≤ 6) (h6 : ∀ f, 0 ≤ f → f < n → s6 f = -1) (ho : ∀ i, 0 ≤ i → i < n → 0 ≤ o i ∧ o i < n) (hz : ∀ p, 0 ≤ p → p < P → sz p = 0) : PS n P 0 o s6 s7 sz sl := by
  have e0 : (0 : Int) / P = 0 := Int.zero_ediv P
  refine ⟨fun p p0 p1 => ⟨by rw [hz p p0 p1, e0]; omega, fun h => ?_, fun i i0 i1 => by rw [hz p p0 p1] at i1; omega⟩, fun f f0 f1 => Or.inl (h6 f f0 f1), ⟨fun i i0 i1 => h6 _ (ho i i0 i1).1 (ho i i0 i1).2, fun i i0 i1 => by omega⟩, ?_⟩
  · rw [hz p p0 p1, sumTo_0]
    by_cases q : 0 ≤ n
    · have := sumTo_bd (f := fun f => if s6 f = p then h f else 0) (n := n) (c := 0) (by decide) q (fun f f0 f1 => by rw [if_neg (by rw [h6 f f0 f1]; omega)]; omega)
      omega
    · exact sumTo_neg _ (by omega)
  · rcases sumTo_p hP sz with ⟨e, h⟩ | ⟨e, h⟩ | ⟨e, h⟩ | ⟨e, h⟩ | ⟨e, h⟩ | ⟨e, h⟩
    · have := hz 0 (by decide) (by omega)
      omega
    · have := hz 0 (by decide) (by omega); have := hz 1 (by decide) (by omega)
      omega
    · have := hz 0 (by decide) (by omega); have := hz 1 (by decide) (by omega); have := hz 2 (by decide) (by omega)
      omega
    · have := hz 0 (by decide) (by omega); have := hz 1 (by decide) (by omega); have := hz 2 (by decide) (by omega); have := hz 3 (by decide) (by omega)
      omega
    · have := hz 0 (by decide) (by omega); have := hz 1 (by decide) (by omega); have := hz 2 (by decide) (by omega); have := hz 3 (by decide) (by omega); have := hz 4 (by decide) (by omega)
      omega
    · have := hz 0 (by decide) (by omega); have := hz 1 (by decide) (by omega); have := hz 2 (by decide) (by omega); have := hz 3 (by decide) (by omega); have := hz 4 (by decide) (by omega); have := hz 5 (by decide) (by omega)
      omega
/-- some pool has room in this row -/
theorem room {q : Int} (hP : 1 ≤ P ∧ P ≤ 6) (hs : sumTo sz P < P * (q + 1)) (h : ∀ p, 0 ≤ p → p < P → q ≤ sz p ∧ sz p ≤ q + 1) : ∃ p, (0 ≤ p ∧ p < P) ∧ sz p = q := by
  by_cases z : ∃ p, (0 ≤ p ∧ p < P) ∧ sz p = q
  · exact z
  · exfalso
    have k : ∀ p, 0 ≤ p → p < P → q + 1 ≤ sz p := fun p p0 p1 => by
      have := h p p0 p1
      by_cases e : sz p = q
      · exact absurd ⟨p, ⟨p0, p1⟩, e⟩ z
      · omega
    clear z h
    rcases sumTo_p hP sz with ⟨rfl, h⟩ | ⟨rfl, h⟩ | ⟨rfl, h⟩ | ⟨rfl, h⟩ | ⟨rfl, h⟩ | ⟨rfl, h⟩
    · have := k 0 (by decide) (by decide)
      omega
    · have := k 0 (by decide) (by decide); have := k 1 (by decide) (by decide)
      omega
    · have := k 0 (by decide) (by decide); have := k 1 (by decide) (by decide); have := k 2 (by decide) (by decide)
      omega
    · have := k 0 (by decide) (by decide); have := k 1 (by decide) (by decide); have := k 2 (by decide) (by decide); have := k 3 (by decide) (by decide)
      omega
    · have := k 0 (by decide) (by decide); have := k 1 (by decide) (by decide); have := k 2 (by decide) (by decide); have := k 3 (by decide) (by decide); have := k 4 (by decide) (by decide)
      omega
    · have := k 0 (by decide) (by decide); have := k 1 (by decide) (by decide); have := k 2 (by decide) (by decide); have := k 3 (by decide) (by decide); have := k 4 (by decide) (by decide); have := k 5 (by decide) (by decide)
      omega
/-- all pools are full to the row -/
theorem full {q : Int} (hP : 1 ≤ P ∧ P ≤ 6) (hs : sumTo sz P = P * q) (h : ∀ p, 0 ≤ p → p < P → sz p ≤ q) : ∀ p, 0 ≤ p → p < P → sz p = q := by
  intro p p0 p1
  rcases sumTo_p hP sz with ⟨rfl, e⟩ | ⟨rfl, e⟩ | ⟨rfl, e⟩ | ⟨rfl, e⟩ | ⟨rfl, e⟩ | ⟨rfl, e⟩
  · have := h 0 (by decide) (by decide)
    obtain rfl : p = 0 := by omega
    omega
  · have := h 0 (by decide) (by decide); have := h 1 (by decide) (by decide)
    have hp : p = 0 ∨ p = 1 := by omega
    rcases hp with rfl | rfl <;> omega
  · have := h 0 (by decide) (by decide); have := h 1 (by decide) (by decide); have := h 2 (by decide) (by decide)
    have hp : p = 0 ∨ p = 1 ∨ p = 2 := by omega
    rcases hp with rfl | rfl | rfl <;> omega
  · have := h 0 (by decide) (by decide); have := h 1 (by decide) (by decide); have := h 2 (by decide) (by decide); have := h 3 (by decide) (by decide)
    have hp : p = 0 ∨ p = 1 ∨ p = 2 ∨ p = 3 := by omega
    rcases hp with rfl | rfl | rfl | rfl <;> omega
  · have := h 0 (by decide) (by decide); have := h 1 (by decide) (by decide); have := h 2 (by decide) (by decide); have := h 3 (by decide) (by decide); have := h 4 (by decide) (by decide)
    have hp : p = 0 ∨ p = 1 ∨ p = 2 ∨ p = 3 ∨ p = 4 := by omega
    rcases hp with rfl | rfl | rfl | rfl | rfl <;> omega
  · have := h 0 (by decide) (by decide); have := h 1 (by decide) (by decide); have := h 2 (by decide) (by decide); have := h 3 (by decide) (by decide); have := h 4 (by decide) (by decide); have := h 5 (by decide) (by decide)
    have hp : p = 0 ∨ p = 1 ∨ p = 2 ∨ p = 3 ∨ p = 4 ∨ p = 5 := by omega
    rcases hp with rfl | rfl | rfl | rfl | rfl | rfl <;> omega
theorem row_b (hP : 1 ≤ P ∧ P ≤ 6) (hj : 0 ≤ j ∧ j < 24) : 0 ≤ j / P ∧ j / P ≤ 23 ∧ P * (j / P) ≤ j ∧ j < P * (j / P + 1) ∧ ((j + 1) / P = j / P ∨ ((j + 1) / P = j / P + 1 ∧ j + 1 = P * (j / P + 1))) := by
  have : P = 1 ∨ P = 2 ∨ P = 3 ∨ P = 4 ∨ P = 5 ∨ P = 6 := by omega
  rcases this with rfl | rfl | rfl | rfl | rfl | rfl <;> omega
theorem PS_room (hP : 1 ≤ P ∧ P ≤ 6) (hj : 0 ≤ j ∧ j < 24) (h : PS n P j o s6 s7 sz sl) : ∃ p, (0 ≤ p ∧ p < P) ∧ sz p = j / P := by
  obtain ⟨hA, -, -, hD⟩ := h
  have := row_b hP hj
  exact room hP (by rw [hD]; omega) (fun p p0 p1 => (hA p p0 p1).1)
theorem PS_s (hn : 0 ≤ n ∧ n ≤ 24) (hP : 1 ≤ P ∧ P ≤ 6) (hj : 0 ≤ j ∧ j < n) (ho : ∀ i, 0 ≤ i → i < n → 0 ≤ o i ∧ o i < n) (hi : ∀ i, 0 ≤ i → i < n → i ≠ j → o i ≠ o j) (h : PS n P j o s6 s7 sz sl) (hb : 0 ≤ b ∧ b < P) (hr : sz b = j / P) {s6' s7' sz' sl' : Int → Int} (e6 : ∀ x, s6' x = if x = o j then b else s6 x) (e7 : ∀ x, s7' x = if x = o j then j / P else s7 x) (ez : ∀ p, sz' p = if p = b then j / P + 1 else sz p) (el : ∀ k, sl' k = if k = 24 * b + j / P then o j else sl k) : PS n P (j + 1) o s6' s7' sz' sl' := by
  obtain ⟨hA, hB, ⟨hC1, hC2⟩, hD⟩ := h
  have rb := row_b hP (j := j) (by omega)
  have hf := ho j hj.1 hj.2
  have hfj := hC1 j (Int.le_refl j) hj.2
  generalize hq : j / P = q at *
  have hsum : sumTo sz' P = j + 1 := by
    rw [sumTo_upd1 (F := sz) (G := sz') (f := b) (d := 1) hb.1 hb.2 (fun x _ z => by rw [ez, if_neg z]) (by rw [ez, if_pos rfl]; omega), hD]
  have hle : ∀ p, 0 ≤ p → p < P → q ≤ sz' p ∧ sz' p ≤ q + 1 := fun p p0 p1 => by
    rw [ez]
    split
    · omega
    · exact (hA p p0 p1).1
  have hrow : ∀ p, 0 ≤ p → p < P → (j + 1) / P ≤ sz' p ∧ sz' p ≤ (j + 1) / P + 1 := fun p p0 p1 => by
    rcases rb.2.2.2.2 with e | ⟨e, e2⟩
    · rw [e]; exact hle p p0 p1
    · have := full (sz := sz') (q := q + 1) hP (by rw [hsum, e2]) (fun p p0 p1 => (hle p p0 p1).2) p p0 p1
      omega
  have sl_o : ∀ p i, 0 ≤ p → p < P → 0 ≤ i → i < sz p → sl' (24 * p + i) = sl (24 * p + i) := fun p i p0 p1 i0 i1 => by
    have := (hA p p0 p1).1
    rw [el, if_neg (fun z => ?_)]
    have e : p = b := by omega
    have : i = q := by rw [e] at z; omega
    rw [e, hr] at i1
    omega
  have old : ∀ p i, 0 ≤ p → p < P → 0 ≤ i → i < sz p → sl (24 * p + i) ≠ o j := fun p i p0 p1 i0 i1 z => by
    have h2 := ((hA p p0 p1).2.2 i i0 i1).2.1
    rw [z, hfj] at h2
    omega
  refine ⟨fun p p0 p1 => ⟨hrow p p0 p1, fun h => ?_, fun i i0 i1 => ?_⟩, fun f f0 f1 => ?_, ⟨fun i i0 i1 => ?_, fun i i0 i1 => ?_⟩, hsum⟩
  · have hI := (hA p p0 p1).2.1 h
    have e0 : sumTo (fun i => h (sl' (24 * p + i))) (sz p) = sumTo (fun i => h (sl (24 * p + i))) (sz p) := sumTo_congr fun i i0 i1 => by
      show h (sl' (24 * p + i)) = h (sl (24 * p + i))
      rw [sl_o p i p0 p1 i0 i1]
    by_cases z : p = b
    · have e1 : sumTo (fun f => if s6' f = p then h f else 0) n = sumTo (fun f => if s6 f = p then h f else 0) n + h (o j) := sumTo_upd1 hf.1 hf.2 (fun x _ zx => by rw [e6, if_neg zx]) (by rw [e6, if_pos rfl, if_pos z.symm, hfj, if_neg (by omega)]; omega)
      rw [e1, hI, ez, if_pos z, ← hr, ← z, sumTo_s _ (by rw [z, hr]; omega), e0]
      have e2 : sl' (24 * p + sz p) = o j := by rw [el, if_pos (by rw [z, hr])]
      rw [e2]
    · have e1 : sumTo (fun f => if s6' f = p then h f else 0) n = sumTo (fun f => if s6 f = p then h f else 0) n := sumTo_congr fun x _ _ => by
        show (if s6' x = p then h x else 0) = if s6 x = p then h x else 0
        rw [e6]
        by_cases zx : x = o j
        · rw [if_pos zx, if_neg (fun w => z w.symm), zx, hfj, if_neg (by omega)]
        · rw [if_neg zx]
      rw [e1, hI, ez, if_neg z, e0]
  · by_cases z : 24 * p + i = 24 * b + q
    · have zz := (hle p p0 p1).2
      have e : p = b := by omega
      have e2 : i = q := by omega
      rw [el, if_pos z, e6, e7, if_pos rfl, if_pos rfl]
      exact ⟨hf, e.symm, e2.symm⟩
    · have i1' : i < sz p := by
        rw [ez] at i1
        by_cases e : p = b
        · rw [if_pos e] at i1
          rw [e, hr]
          rw [e] at z
          omega
        · rw [if_neg e] at i1
          exact i1
      obtain ⟨a1, a2, a3⟩ := (hA p p0 p1).2.2 i i0 i1'
      have ne := old p i p0 p1 i0 i1'
      rw [el, if_neg z, e6, e7, if_neg ne, if_neg ne]
      exact ⟨a1, a2, a3⟩
  · by_cases z : f = o j
    · right
      rw [e6, e7, if_pos z, if_pos z, ez, if_pos rfl, el, if_pos rfl]
      exact ⟨hb, by omega, z.symm⟩
    · rw [e6, e7, if_neg z, if_neg z]
      rcases hB f f0 f1 with e | ⟨a1, a2, a3⟩
      · exact Or.inl e
      · right
        refine ⟨a1, ?_, ?_⟩
        · rw [ez]
          by_cases e : s6 f = b
          · rw [if_pos e]
            rw [e, hr] at a2
            omega
          · rw [if_neg e]; exact a2
        · rw [sl_o _ _ a1.1 a1.2 a2.1 a2.2]; exact a3
  · rw [e6, if_neg (hi i (by omega) i1 (by omega))]
    exact hC1 i (by omega) i1
  · rw [e6]
    by_cases z : o i = o j
    · rw [if_pos z]; exact hb.1
    · rw [if_neg z]
      have : i ≠ j := fun w => z (by rw [w])
      exact hC2 i i0 (by omega)
end Place
