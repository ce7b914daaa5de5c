/-! The ways through the table. -/
def sdC (m : Nat) : Bool := ((List.range (2 ^ m)).all fun p => (List.range (2 ^ m)).all fun q => decide (sdN m (p : Int) = sdN m (q : Int) → p = q)) && ((List.range (2 ^ m)).all fun x => (List.range (2 ^ m)).any fun p => decide (sdN m (p : Int) = (x : Int) + 1))
theorem sdC_all : ((List.range 6).all sdC) = true := by decide +kernel
theorem p2n (m : Nat) : ((2 ^ m : Nat) : Int) = (2 : Int) ^ m := by rw [Int.natCast_pow]; rfl
theorem sdN_inj {m : Nat} (hm : m < 6) {p q : Int} (p0 : 0 ≤ p) (p1 : p < 2 ^ m) (q0 : 0 ≤ q) (q1 : q < 2 ^ m) (e : sdN m p = sdN m q) : p = q := by
  have h := List.all_eq_true.mp sdC_all m (List.mem_range.mpr hm)
  unfold sdC at h
  rw [Bool.and_eq_true] at h
  have e2 := p2n m
  have h1 := List.all_eq_true.mp h.1 p.toNat (List.mem_range.mpr (by omega))
  have h2 := of_decide_eq_true (List.all_eq_true.mp h1 q.toNat (List.mem_range.mpr (by omega)))
  have := h2 (by rw [show ((p.toNat : Nat) : Int) = p by omega, show ((q.toNat : Nat) : Int) = q by omega]; exact e)
  omega
theorem sdN_sur {m : Nat} (hm : m < 6) {x : Int} (x0 : 1 ≤ x) (x1 : x ≤ 2 ^ m) : ∃ p, (0 ≤ p ∧ p < 2 ^ m) ∧ sdN m p = x := by
  have h := List.all_eq_true.mp sdC_all m (List.mem_range.mpr hm)
  unfold sdC at h
  rw [Bool.and_eq_true] at h
  have e2 := p2n m
  have h1 := List.all_eq_true.mp h.2 (x - 1).toNat (List.mem_range.mpr (by omega))
  obtain ⟨p, hp, h2⟩ := List.any_eq_true.mp h1
  have h3 := of_decide_eq_true h2
  have h4 := List.mem_range.mp hp
  exact ⟨p, by omega, by omega⟩
section Path
variable {g : Gs} {t s f u v t' s' x p : Int}
def tS2 (g : Gs) (t s : Int) : Int := ga g (g 5 + t) s
def tD (g : Gs) (t : Int) : Prop := ga g (g 5 + t) 4 = 2 ∨ ga g (g 5 + t) 4 = 4
def tW (g : Gs) (t : Int) : Int := ga g (g 5 + t) 5
theorem tz (hi : IV g) (h4 : 0 < g 4) : (g 4 = 2 ∨ g 4 = 4 ∨ g 4 = 8 ∨ g 4 = 16 ∨ g 4 = 32) ∧ ((0 ≤ g 5 ∧ g 5 ≤ 276) ∧ g 3 = g 5 + g 4 - 1) ∧ (2 ≤ g 8 ∧ g 8 ≤ g 4 ∧ g 8 ≤ 24) ∧ g 4 = 2 ^ lg2 (g 4) ∧ lg2 (g 4) < 6 ∧ pB g = g 5 ∧ (0 ≤ g 1 ∧ g 1 ≤ 24) := by
  have i1 := hi.1
  unfold I1 at i1
  have hz : g 4 = 2 ∨ g 4 = 4 ∨ g 4 = 8 ∨ g 4 = 16 ∨ g 4 = 32 := by omega
  have hp : pB g = g 5 := by unfold pB; rw [if_neg (by omega)]
  refine ⟨hz, by omega, by omega, ?_, ?_, hp, by omega⟩
  · clear i1 hp
    rcases hz with q | q | q | q | q
    all_goals rw [q]; decide
  · clear i1 hp
    rcases hz with q | q | q | q | q
    all_goals rw [q]; decide
theorem tD_w (hi : IV g) (h4 : 0 < g 4) (t0 : 0 ≤ t) (t1 : t < g 4 - 1) (d : tD g t) : (tW g t = 0 ∨ tW g t = 1) ∧ (ga g (g 5 + t) 4 = 4 → tW g t = 0 ∧ tS2 g t 1 = -1) ∧ (ga g (g 5 + t) 4 = 2 → 0 ≤ tS2 g t 0 ∧ 0 ≤ tS2 g t 1) := by
  have z := tz hi h4
  have ib := hi.2.1 (g 5 + t) (by omega) (by omega)
  unfold IB at ib
  obtain ⟨u1, u2, u3, u4, u5, u6, u7, u8, u9, u10, u11, u12, u13, u14, u15, u16⟩ := ib
  unfold tW tS2
  unfold tD at d
  refine ⟨?_, fun q => ?_, fun q => ?_⟩
  · rcases d with d | d
    · have := u12 d; omega
    · have := u13 d; omega
  · have := u13 q; omega
  · have := u12 q; omega
theorem tS_b (hi : IV g) (h4 : 0 < g 4) (t0 : 0 ≤ t) (t1 : t < g 4 - 1) (hs : s = 0 ∨ s = 1) : -1 ≤ tS2 g t s ∧ tS2 g t s < g 1 := by
  have z := tz hi h4
  have ib := hi.2.1 (g 5 + t) (by omega) (by omega)
  unfold IB at ib
  unfold tS2
  rcases hs with rfl | rfl
  · exact ib.2.1
  · exact ib.2.2.1
theorem tCh (hi : IV g) (h4 : 0 < g 4) (ht : g 4 ≤ 2 * t) (t1 : t < g 4 - 1) (hs : s = 0 ∨ s = 1) (f0 : 0 ≤ tS2 g t s) : tD g (2 * t - g 4 + s) ∧ tS2 g (2 * t - g 4 + s) (tW g (2 * t - g 4 + s)) = tS2 g t s := by
  have e := (hi.2.2.2.2 h4).1 t s ht t1 hs
  unfold tS2 tW tD at *
  by_cases q : ga g (g 5 + (2 * t - g 4 + s)) 4 = 2 ∨ ga g (g 5 + (2 * t - g 4 + s)) 4 = 4
  · rw [if_pos q] at e
    exact ⟨q, e.symm⟩
  · rw [if_neg q] at e
    omega
/-- who won goes on -/
theorem tUp (hi : IV g) (h4 : 0 < g 4) (t0 : 0 ≤ t) (t1 : t < g 4 - 2) (d : tD g t) : tS2 g ((t + g 4) / 2) ((t + g 4) % 2) = tS2 g t (tW g t) := by
  have z := (tz hi h4).1
  have e := (hi.2.2.2.2 h4).1 ((t + g 4) / 2) ((t + g 4) % 2) (by omega) (by omega) (by omega)
  have et : 2 * ((t + g 4) / 2) - g 4 + (t + g 4) % 2 = t := by omega
  rw [et] at e
  unfold tS2 tW
  unfold tD at d
  rw [if_pos d] at e
  exact e
theorem tLf (hi : IV g) (hx : IX g) (h4 : 0 < g 4) (t0 : 0 ≤ t) (ht : 2 * t < g 4) (hs : s = 0 ∨ s = 1) (f0 : 0 ≤ tS2 g t s) : sdN (lg2 (g 4)) (2 * t + s) ≤ g 8 ∧ tS2 g t s = g (221 + sdN (lg2 (g 4)) (2 * t + s)) := by
  have z := (tz hi h4).1
  have e := hx.2.2.1 h4 (2 * t + s) (by omega) (by omega)
  rw [show (2 * t + s) / 2 = t by omega, show (2 * t + s) % 2 = s by omega] at e
  unfold tS2 at *
  by_cases q : sdN (lg2 (g 4)) (2 * t + s) ≤ g 8
  · rw [if_pos q] at e
    exact ⟨q, e⟩
  · rw [if_neg q] at e
    omega
theorem seed_inj (hi : IV g) (hx : IX g) (h4 : 0 < g 4) {a b : Int} (a0 : 1 ≤ a) (a1 : a ≤ g 8) (b0 : 1 ≤ b) (b1 : b ≤ g 8) (e : g (221 + a) = g (221 + b)) : a = b := by
  have key : ∀ a b, 1 ≤ a → a < b → b ≤ g 8 → g (221 + a) ≠ g (221 + b) := fun a b q0 q1 q2 => by
    have := hx.2.1 (a - 1) (b - 1) (by omega) (by omega) (by omega)
    rw [show 222 + (a - 1) = 221 + a by omega, show 222 + (b - 1) = 221 + b by omega] at this
    exact this
  by_cases q : a = b
  · exact q
  · exfalso
    by_cases q2 : a < b
    · exact key a b a0 q2 b1 e
    · exact key b a b0 (by omega) a1 e.symm
theorem tLf_inj (hi : IV g) (hx : IX g) (h4 : 0 < g 4) (t0 : 0 ≤ t) (ht : 2 * t < g 4) (hs : s = 0 ∨ s = 1) (t0' : 0 ≤ t') (ht' : 2 * t' < g 4) (hs' : s' = 0 ∨ s' = 1) (f0 : 0 ≤ tS2 g t s) (e : tS2 g t s = tS2 g t' s') : t = t' ∧ s = s' := by
  obtain ⟨z1, z2, z3, z4, z5, -⟩ := tz hi h4
  obtain ⟨l1, l2⟩ := tLf hi hx h4 t0 ht hs f0
  obtain ⟨l3, l4⟩ := tLf hi hx h4 t0' ht' hs' (by rw [← e]; exact f0)
  have b1 := sdN_b (lg2 (g 4)) (2 * t + s)
  have b2 := sdN_b (lg2 (g 4)) (2 * t' + s')
  have e2 := seed_inj hi hx h4 b1.1 l1 b2.1 l3 (by rw [← l2, ← l4]; exact e)
  have e3 := sdN_inj z5 (by omega) (by omega) (by omega) (by omega) e2
  omega
/-- of two bouts of one fencer the earlier one was won, and the way from it doesn't pass the later one -/
theorem tCl (hi : IV g) (hx : IX g) (h4 : 0 < g 4) : ∀ (k : Nat) (t' : Int), 0 ≤ t' → t' < g 4 - 1 → t'.toNat < k → (∀ s s', (s = 0 ∨ s = 1) → (s' = 0 ∨ s' = 1) → 0 ≤ tS2 g t' s → tS2 g t' s = tS2 g t' s' → s = s') ∧ (∀ t s s', 0 ≤ t → t < t' → (s = 0 ∨ s = 1) → (s' = 0 ∨ s' = 1) → 0 ≤ tS2 g t s → tS2 g t s = tS2 g t' s' → tD g t ∧ tW g t = s ∧ (t + g 4) / 2 ≤ t') := by
  obtain ⟨z1, -⟩ := tz hi h4
  intro k
  induction k with
  | zero => intro t' t0 t1 hk; omega
  | succ k ih =>
    intro t' t0 t1 hk
    refine ⟨fun s s' hs hs' f0 e => ?_, fun t s s' q0 q1 hs hs' f0 e => ?_⟩
    · by_cases hl : 2 * t' < g 4
      · exact (tLf_inj hi hx h4 t0 hl hs t0 hl hs' f0 e).2
      · obtain ⟨d1, c1⟩ := tCh hi h4 (by omega) t1 hs f0
        obtain ⟨d2, c2⟩ := tCh hi h4 (by omega) t1 hs' (by rw [← e]; exact f0)
        by_cases q : s = s'
        · exact q
        · exfalso
          have w1 := (tD_w hi h4 (t := 2 * t' - g 4 + s) (by omega) (by omega) d1).1
          have w2 := (tD_w hi h4 (t := 2 * t' - g 4 + s') (by omega) (by omega) d2).1
          rcases hs with rfl | rfl
          · have hs1 : s' = 1 := by omega
            subst hs1
            have h := (ih (2 * t' - g 4 + 1) (by omega) (by omega) (by omega)).2 (2 * t' - g 4 + 0) _ _ (by omega) (by omega) w1 w2 (by rw [c1]; exact f0) (by rw [c1, c2]; exact e)
            omega
          · have hs1 : s' = 0 := by omega
            subst hs1
            have h := (ih (2 * t' - g 4 + 1) (by omega) (by omega) (by omega)).2 (2 * t' - g 4 + 0) _ _ (by omega) (by omega) w2 w1 (by rw [c2, ← e]; exact f0) (by rw [c1, c2]; exact e.symm)
            omega
    · by_cases hl : 2 * t' < g 4
      · have := (tLf_inj hi hx h4 q0 (by omega) hs t0 hl hs' f0 e).1
        omega
      · obtain ⟨d2, c2⟩ := tCh hi h4 (by omega) t1 hs' (by rw [← e]; exact f0)
        have w2 := (tD_w hi h4 (t := 2 * t' - g 4 + s') (by omega) (by omega) d2).1
        generalize hu : 2 * t' - g 4 + s' = u at d2 c2 w2
        by_cases c : t = u
        · rw [c] at f0 e ⊢
          have := (ih u (by omega) (by omega) (by omega)).1 s (tW g u) hs w2 f0 (by rw [c2]; exact e)
          exact ⟨d2, this.symm, by omega⟩
        · by_cases c3 : t < u
          · have h := (ih u (by omega) (by omega) (by omega)).2 t s (tW g u) q0 c3 hs w2 f0 (by rw [c2]; exact e)
            exact ⟨h.1, h.2.1, by omega⟩
          · have h := (ih t q0 (by omega) (by omega)).2 u (tW g u) s (by omega) (by omega) w2 hs (by rw [c2, ← e]; exact f0) (by rw [c2]; exact e.symm)
            omega
theorem tSame (hi : IV g) (hx : IX g) (h4 : 0 < g 4) (t0 : 0 ≤ t) (t1 : t < g 4 - 1) (hs : s = 0 ∨ s = 1) (hs' : s' = 0 ∨ s' = 1) (f0 : 0 ≤ tS2 g t s) (e : tS2 g t s = tS2 g t s') : s = s' := (tCl hi hx h4 (t.toNat + 1) t t0 t1 (by omega)).1 s s' hs hs' f0 e
theorem tBef (hi : IV g) (hx : IX g) (h4 : 0 < g 4) (t0 : 0 ≤ t) (tt : t < t') (t1 : t' < g 4 - 1) (hs : s = 0 ∨ s = 1) (hs' : s' = 0 ∨ s' = 1) (f0 : 0 ≤ tS2 g t s) (e : tS2 g t s = tS2 g t' s') : tD g t ∧ tW g t = s ∧ (t + g 4) / 2 ≤ t' := (tCl hi hx h4 (t'.toNat + 1) t' (by omega) t1 (by omega)).2 t s s' t0 tt hs hs' f0 e
/-- who stands in the table has a seed -/
theorem tSeed (hi : IV g) (hx : IX g) (h4 : 0 < g 4) : ∀ (k : Nat) (t s : Int), 0 ≤ t → t < g 4 - 1 → t.toNat < k → (s = 0 ∨ s = 1) → 0 ≤ tS2 g t s → ∃ i, (0 ≤ i ∧ i < g 8) ∧ g (222 + i) = tS2 g t s := by
  obtain ⟨z1, -⟩ := tz hi h4
  intro k
  induction k with
  | zero => intro t s t0 t1 hk; omega
  | succ k ih =>
    intro t s t0 t1 hk hs f0
    by_cases hl : 2 * t < g 4
    · obtain ⟨l1, l2⟩ := tLf hi hx h4 t0 hl hs f0
      have b1 := sdN_b (lg2 (g 4)) (2 * t + s)
      exact ⟨sdN (lg2 (g 4)) (2 * t + s) - 1, by omega, by rw [l2, show 222 + (sdN (lg2 (g 4)) (2 * t + s) - 1) = 221 + sdN (lg2 (g 4)) (2 * t + s) by omega]⟩
    · obtain ⟨d1, c1⟩ := tCh hi h4 (by omega) t1 hs f0
      have w1 := (tD_w hi h4 (t := 2 * t - g 4 + s) (by omega) (by omega) d1).1
      obtain ⟨i, i0, e⟩ := ih (2 * t - g 4 + s) _ (by omega) (by omega) (by omega) w1 (by rw [c1]; exact f0)
      exact ⟨i, i0, e.trans c1⟩
/-- who has a seed stands in the first round -/
theorem tFirst (hi : IV g) (hx : IX g) (h4 : 0 < g 4) {i : Int} (i0 : 0 ≤ i) (i1 : i < g 8) : ∃ t s, (0 ≤ t ∧ 2 * t < g 4) ∧ (s = 0 ∨ s = 1) ∧ tS2 g t s = g (222 + i) := by
  obtain ⟨z1, z2, z3, z4, z5, -⟩ := tz hi h4
  obtain ⟨p, p0, e⟩ := sdN_sur z5 (x := i + 1) (by omega) (by omega)
  have h := hx.2.2.1 h4 p p0.1 (by omega)
  rw [e, if_pos (by omega)] at h
  exact ⟨p / 2, p % 2, by omega, by omega, by unfold tS2; rw [h, show 221 + (i + 1) = 222 + i by omega]⟩
def tIn (g : Gs) (f t : Int) : Prop := tS2 g t 0 = f ∨ tS2 g t 1 = f
theorem maxOf {Q : Int → Prop} : ∀ m : Nat, (∃ t : Int, 0 ≤ t ∧ t < (m : Int) ∧ Q t) → ∃ t : Int, 0 ≤ t ∧ t < (m : Int) ∧ Q t ∧ ∀ v, t < v → v < (m : Int) → ¬ Q v := by
  intro m
  induction m with
  | zero => rintro ⟨t, t0, t1, -⟩; omega
  | succ m ih =>
    rintro ⟨t, t0, t1, ht⟩
    by_cases q : Q (m : Int)
    · exact ⟨m, by omega, by omega, q, fun v v0 v1 => by omega⟩
    · have hne : ¬ t = (m : Int) := fun e => q (e ▸ ht)
      obtain ⟨u, u0, u1, hu, hv⟩ := ih ⟨t, t0, by omega, ht⟩
      refine ⟨u, u0, by omega, hu, fun v v0 v1 => ?_⟩
      by_cases e : v = (m : Int)
      · rw [e]; exact q
      · exact hv v v0 (by omega)
theorem tIn_s (h : tIn g f t) : ∃ s, (s = 0 ∨ s = 1) ∧ tS2 g t s = f := by
  rcases h with h | h
  · exact ⟨0, Or.inl rfl, h⟩
  · exact ⟨1, Or.inr rfl, h⟩
/-- the last bout of a fencer with a seed -/
theorem tLast (hi : IV g) (hx : IX g) (h4 : 0 < g 4) (hf : 0 ≤ f) {i : Int} (i0 : 0 ≤ i) (i1 : i < g 8) (e : g (222 + i) = f) : ∃ t s, (0 ≤ t ∧ t < g 4 - 1) ∧ (s = 0 ∨ s = 1) ∧ tS2 g t s = f ∧ (∀ v, t < v → v < g 4 - 1 → ¬ tIn g f v) ∧ ((tD g t ∧ tW g t = s ∧ t = g 4 - 2) ∨ (ga g (g 5 + t) 4 = 2 ∧ tW g t = 1 - s) ∨ ¬ tD g t) := by
  obtain ⟨z1, -⟩ := tz hi h4
  obtain ⟨t, s, t0, hs, ht⟩ := tFirst hi hx h4 i0 i1
  have h := maxOf (Q := tIn g f) (g 4 - 1).toNat ⟨t, t0.1, by omega, by rcases hs with rfl | rfl; exact Or.inl (ht.trans e); exact Or.inr (ht.trans e)⟩
  rw [show (((g 4 - 1).toNat : Nat) : Int) = g 4 - 1 by omega] at h
  obtain ⟨u, u0, u1, hu, hv⟩ := h
  obtain ⟨s2, hs2, hsu⟩ := tIn_s hu
  refine ⟨u, s2, ⟨u0, u1⟩, hs2, hsu, hv, ?_⟩
  by_cases d : tD g u
  · obtain ⟨w1, w2, w3⟩ := tD_w hi h4 u0 u1 d
    by_cases w : tW g u = s2
    · left
      refine ⟨d, w, ?_⟩
      by_cases q : u = g 4 - 2
      · exact q
      · exfalso
        have up := tUp hi h4 u0 (by omega) d
        rw [w, hsu] at up
        refine hv ((u + g 4) / 2) (by omega) (by omega) ?_
        have h2 : (u + g 4) % 2 = 0 ∨ (u + g 4) % 2 = 1 := by omega
        rcases h2 with h2 | h2
        · rw [h2] at up; exact Or.inl up
        · rw [h2] at up; exact Or.inr up
    · right; left
      rcases d with d | d
      · exact ⟨d, by omega⟩
      · exfalso
        have w4 := w2 d
        have s1 : s2 = 1 := by omega
        rw [s1, w4.2] at hsu
        omega
  · exact Or.inr (Or.inr d)
theorem lst_t (hi : IV g) (h4 : 0 < g 4) (h : lstB g f x) : (0 ≤ x - g 5 ∧ x - g 5 < g 4 - 1) ∧ ga g (g 5 + (x - g 5)) 4 = 2 ∧ tS2 g (x - g 5) (1 - tW g (x - g 5)) = f ∧ (tW g (x - g 5) = 0 ∨ tW g (x - g 5) = 1) := by
  obtain ⟨q1, q2, q3, q4⟩ := h
  have z := (tz hi h4).2.1
  have ex : g 5 + (x - g 5) = x := by omega
  have w := (tD_w hi h4 (t := x - g 5) (by omega) (by omega) (by unfold tD; rw [ex]; exact Or.inl q3)).1
  refine ⟨by omega, by rw [ex]; exact q3, ?_, w⟩
  unfold tS2 tW
  rw [ex]
  exact q4
/-- a fencer loses once -/
theorem lst_1 (hi : IV g) (hx : IX g) (h4 : 0 < g 4) (hf : 0 ≤ f) {y : Int} (h : lstB g f x) (h' : lstB g f y) : x = y := by
  obtain ⟨a1, a2, a3, a4⟩ := lst_t hi h4 h
  obtain ⟨b1, b2, b3, b4⟩ := lst_t hi h4 h'
  have key : ∀ t t', (0 ≤ t ∧ t < g 4 - 1) → (0 ≤ t' ∧ t' < g 4 - 1) → tS2 g t (1 - tW g t) = f → tS2 g t' (1 - tW g t') = f → (tW g t = 0 ∨ tW g t = 1) → (tW g t' = 0 ∨ tW g t' = 1) → t < t' → False := fun t t' q1 q2 q3 q4 q5 q6 q7 => by
    have := (tBef hi hx h4 q1.1 q7 q2.2 (s := 1 - tW g t) (s' := 1 - tW g t') (by omega) (by omega) (by rw [q3]; exact hf) (by rw [q3, q4])).2.1
    omega
  by_cases q : x = y
  · exact q
  · exfalso
    by_cases q2 : x < y
    · exact key _ _ a1 b1 a3 b3 a4 b4 (by omega)
    · exact key _ _ b1 a1 b3 a3 b4 a4 (by omega)
end Path
