/-! Insertion into an ordered row; sums over it. -/
section Ord
variable {B : Int → Int → Bool} {p : Int → Bool} {o : Int → Int} {k n K f j : Int}
def insO (f : Int) (o : Int → Int) (j n : Int) : Int → Int := fun i => if i = j then f else if j < i ∧ i ≤ n then o (i - 1) else o i
/-- B orders the numbers below K strictly -/
def Tot (B : Int → Int → Bool) (K : Int) : Prop := ∀ x y, 0 ≤ x → x < K → 0 ≤ y → y < K → (x = y → B x y = false) ∧ (¬ x = y → (B x y = true ↔ B y x = false)) ∧ ∀ z, 0 ≤ z → z < K → B x y = true → B y z = true → B x z = true
def Srt (B : Int → Int → Bool) (p : Int → Bool) (k : Int) (o : Int → Int) (n : Int) : Prop := (0 ≤ n ∧ n ≤ k) ∧ (∀ i, 0 ≤ i → i < n → (0 ≤ o i ∧ o i < k) ∧ p (o i) = true) ∧ (∀ f, 0 ≤ f → f < k → p f = true → ∃ i, (0 ≤ i ∧ i < n) ∧ o i = f) ∧ (∀ i j, 0 ≤ i → i < j → j < n → B (o i) (o j) = true) ∧ (∀ h : Int → Int, sumTo (fun f => if p f = true then h f else 0) k = sumTo (fun i => h (o i)) n)
theorem Srt_0 : Srt B p 0 o 0 := ⟨by omega, fun i q0 q1 => by omega, fun f q0 q1 => by omega, fun i j q0 q1 q2 => by omega, fun h => rfl⟩
theorem Srt_skip (h : Srt B p k o n) (k0 : 0 ≤ k) (hp : p k = false) : Srt B p (k + 1) o n := by
  obtain ⟨a1, a2, a3, a4, a5⟩ := h
  refine ⟨by omega, fun i q0 q1 => ?_, fun f q0 q1 hf => ?_, a4, fun h => ?_⟩
  · have := a2 i q0 q1
    exact ⟨by omega, this.2⟩
  · by_cases e : f = k
    · subst e; rw [hp] at hf; cases hf
    · exact a3 f q0 (by omega) hf
  · have e2 : sumTo (fun f => if p f = true then h f else 0) (k + 1) = sumTo (fun f => if p f = true then h f else 0) k + (if p k = true then h k else 0) := sumTo_s _ k0
    rw [e2, if_neg (by rw [hp]; decide), a5, Int.add_zero]
theorem ins_lt {i : Int} (h : i < j) : insO f o j n i = o i := by unfold insO; rw [if_neg (by omega), if_neg (by omega)]
theorem ins_eq : insO f o j n j = f := by unfold insO; rw [if_pos rfl]
theorem ins_gt {i : Int} (h : j < i) (h2 : i ≤ n) : insO f o j n i = o (i - 1) := by unfold insO; rw [if_neg (by omega), if_pos ⟨h, h2⟩]
theorem sum_ins (h : Int → Int) (j0 : 0 ≤ j) (f : Int) (m : Nat) : j + m ≤ n → sumTo (fun i => h (insO f o j n i)) (j + m + 1) = sumTo (fun i => h (o i)) (j + m) + h f := by
  induction m with
  | zero =>
    intro hm
    have e1 : sumTo (fun i => h (insO f o j n i)) (j + 1) = sumTo (fun i => h (insO f o j n i)) j + h (insO f o j n j) := sumTo_s (fun i => h (insO f o j n i)) j0
    have e2 : sumTo (fun i => h (insO f o j n i)) j = sumTo (fun i => h (o i)) j := sumTo_congr fun i i0 i1 => by rw [ins_lt i1]
    rw [show j + ((0 : Nat) : Int) = j by omega, e1, e2, ins_eq]
  | succ m ih =>
    intro hm
    have e1 : insO f o j n (j + m + 1) = o (j + m) := by rw [ins_gt (by omega) (by omega), show j + (m : Int) + 1 - 1 = j + m by omega]
    have e2 : sumTo (fun i => h (insO f o j n i)) (j + m + 1 + 1) = sumTo (fun i => h (insO f o j n i)) (j + m + 1) + h (insO f o j n (j + m + 1)) := sumTo_s (fun i => h (insO f o j n i)) (by omega)
    have e3 : sumTo (fun i => h (o i)) (j + m + 1) = sumTo (fun i => h (o i)) (j + m) + h (o (j + m)) := sumTo_s (fun i => h (o i)) (by omega)
    rw [show j + ((m + 1 : Nat) : Int) = j + m + 1 by omega, e2, ih (by omega), e1, e3]
    omega
theorem Srt_ins (hT : Tot B K) (h : Srt B p k o n) (k0 : 0 ≤ k) (kK : k < K) (hp : p k = true) (hj : 0 ≤ j ∧ j ≤ n) (h1 : ∀ i, j ≤ i → i < n → B k (o i) = true) (h2 : 0 < j → B k (o (j - 1)) = false) : Srt B p (k + 1) (insO k o j n) (n + 1) := by
  obtain ⟨a1, a2, a3, a4, a5⟩ := h
  have hne : ∀ i, 0 ≤ i → i < n → ¬ o i = k := fun i q0 q1 => by have := (a2 i q0 q1).1; omega
  have hlt : ∀ i, 0 ≤ i → i < j → B (o i) k = true := fun i q0 q1 => by
    have r1 := (a2 (j - 1) (by omega) (by omega)).1
    have l1 : B (o (j - 1)) k = true := ((hT (o (j - 1)) k r1.1 (by omega) k0 kK).2.1 (hne (j - 1) (by omega) (by omega))).mpr (h2 (by omega))
    by_cases e : i = j - 1
    · rw [e]; exact l1
    · have r2 := (a2 i q0 (by omega)).1
      exact (hT (o i) (o (j - 1)) r2.1 (by omega) r1.1 (by omega)).2.2 k k0 kK (a4 i (j - 1) q0 (by omega) (by omega)) l1
  refine ⟨by omega, fun i q0 q1 => ?_, fun f q0 q1 hf => ?_, fun i i' q0 q1 q2 => ?_, fun h => ?_⟩
  · by_cases e1 : i = j
    · rw [e1, ins_eq]; exact ⟨by omega, hp⟩
    · by_cases e2 : i < j
      · rw [ins_lt e2]
        have := a2 i q0 (by omega)
        exact ⟨by omega, this.2⟩
      · rw [ins_gt (by omega) (by omega)]
        have := a2 (i - 1) (by omega) (by omega)
        exact ⟨by omega, this.2⟩
  · by_cases e : f = k
    · exact ⟨j, by omega, by rw [ins_eq]; exact e.symm⟩
    · obtain ⟨i, i0, hi⟩ := a3 f q0 (by omega) hf
      by_cases e2 : i < j
      · exact ⟨i, by omega, by rw [ins_lt e2]; exact hi⟩
      · exact ⟨i + 1, by omega, by rw [ins_gt (by omega) (by omega), show i + 1 - 1 = i by omega]; exact hi⟩
  · by_cases e1 : i' = j
    · rw [e1, ins_eq, ins_lt (by omega)]; exact hlt i q0 (by omega)
    · by_cases e2 : i' < j
      · rw [ins_lt e2, ins_lt (by omega)]; exact a4 i i' q0 q1 (by omega)
      · rw [ins_gt (i := i') (by omega) (by omega)]
        by_cases e3 : i = j
        · rw [e3, ins_eq]; exact h1 (i' - 1) (by omega) (by omega)
        · by_cases e4 : i < j
          · rw [ins_lt e4]; exact a4 i (i' - 1) q0 (by omega) (by omega)
          · rw [ins_gt (by omega) (by omega)]; exact a4 (i - 1) (i' - 1) (by omega) (by omega) (by omega)
  · have e := sum_ins (o := o) (n := n) h hj.1 k (n - j).toNat (by omega)
    have e2 : sumTo (fun f => if p f = true then h f else 0) (k + 1) = sumTo (fun f => if p f = true then h f else 0) k + (if p k = true then h k else 0) := sumTo_s _ k0
    rw [show j + ((n - j).toNat : Int) = n by omega] at e
    rw [e, ← a5, e2, if_pos hp]
theorem sumTo_one (h : 0 ≤ n) : sumTo (fun _ => (1 : Int)) n = n := by
  have : ∀ m : Nat, sumTo (fun _ => (1 : Int)) m = m := by
    intro m
    induction m with
    | zero => rfl
    | succ m ih =>
      have e : sumTo (fun _ => (1 : Int)) ((m : Int) + 1) = sumTo (fun _ => (1 : Int)) m + 1 := sumTo_s _ (by omega)
      rw [show ((m + 1 : Nat) : Int) = (m : Int) + 1 from rfl, e, ih]
  have e := this n.toNat
  rw [show (n.toNat : Int) = n by omega] at e
  exact e
theorem sumTo_lt {i : Int} (i0 : 0 ≤ i) (h : i ≤ n) : sumTo (fun j => if j < i then (1 : Int) else 0) n = i := by
  have e := sumTo_stop (p := fun j => if j < i then (1 : Int) else 0) i0 (n - i).toNat (fun x q0 q1 => if_neg (by omega))
  rw [show i + ((n - i).toNat : Int) = n by omega] at e
  rw [e]
  refine (sumTo_congr fun x q0 q1 => ?_).trans (sumTo_one i0)
  exact if_pos q1
theorem Srt_n (h : Srt B p k o n) : sumTo (fun f => if p f = true then 1 else 0) k = n := by
  rw [h.2.2.2.2 (fun _ => 1)]
  exact sumTo_one h.1.1
theorem Srt_inj (hT : Tot B K) (hK : k ≤ K) (h : Srt B p k o n) {i : Int} (i0 : 0 ≤ i) (i1 : i < n) (j0 : 0 ≤ j) (j1 : j < n) (e : o i = o j) : i = j := by
  have key : ∀ a b, 0 ≤ a → a < b → b < n → o a = o b → False := fun a b a0 ab b1 e => by
    have r := (h.2.1 b (by omega) b1).1
    have t := h.2.2.2.1 a b a0 ab b1
    rw [e, (hT (o b) (o b) r.1 (by omega) r.1 (by omega)).1 rfl] at t
    cases t
  by_cases q : i = j
  · exact q
  · exfalso
    by_cases q2 : i < j
    · exact key i j i0 q2 j1 e
    · exact key j i j0 (by omega) i1 e.symm
/-- so many come before -/
theorem Srt_place (hT : Tot B K) (hK : k ≤ K) (h : Srt B p k o n) {i : Int} (i0 : 0 ≤ i) (i1 : i < n) : sumTo (fun e => if p e = true then (if B e (o i) = true then 1 else 0) else 0) k = i := by
  rw [h.2.2.2.2 (fun e => if B e (o i) = true then 1 else 0)]
  refine (sumTo_congr fun j j0 j1 => ?_).trans (sumTo_lt i0 (Int.le_of_lt i1))
  have ri := (h.2.1 i i0 i1).1
  have rj := (h.2.1 j j0 j1).1
  have t := hT (o j) (o i) rj.1 (by omega) ri.1 (by omega)
  by_cases q : j < i
  · rw [if_pos q, if_pos (h.2.2.2.1 j i j0 q i1)]
  · rw [if_neg q, if_neg]
    intro z
    by_cases q2 : j = i
    · subst q2
      rw [t.1 rfl] at z
      cases z
    · have s := h.2.2.2.1 i j i0 (by omega) j1
      have ne : ¬ o j = o i := fun e => q2 (Srt_inj hT hK h j0 j1 i0 i1 e)
      rw [(t.2.1 ne).mp z] at s
      cases s
/-- the place by the number of those before -/
theorem Srt_find (hT : Tot B K) (hK : k ≤ K) (h : Srt B p k o n) (i : Int) : fnd (fun f => if p f = true then decide (sumTo (fun e => if p e = true then (if B e f = true then 1 else 0) else 0) k = i) else false) 0 k = if 0 ≤ i ∧ i < n then o i else -1 := by
  have ff := fnd_facts (p := fun f => if p f = true then decide (sumTo (fun e => if p e = true then (if B e f = true then 1 else 0) else 0) k = i) else false) (n := k) _ 0 rfl
  by_cases q : 0 ≤ i ∧ i < n
  · rw [if_pos q]
    rcases ff with ⟨-, f2⟩ | ⟨f1, f2, f3, -⟩
    · exfalso
      have r := h.2.1 i q.1 q.2
      refine f2 (o i) r.1.1 r.1.2 ?_
      show (if p (o i) = true then _ else _) = true
      rw [if_pos r.2]
      exact decide_eq_true (Srt_place hT hK h q.1 q.2)
    · generalize fnd (fun f => if p f = true then decide (sumTo (fun e => if p e = true then (if B e f = true then 1 else 0) else 0) k = i) else false) 0 k = x at f1 f2 f3 ⊢
      have f3' : (if p x = true then decide (sumTo (fun e => if p e = true then (if B e x = true then 1 else 0) else 0) k = i) else false) = true := f3
      by_cases px : p x = true
      · rw [if_pos px] at f3'
        have f4 := of_decide_eq_true f3'
        obtain ⟨j, j0, hj⟩ := h.2.2.1 x f1 f2 px
        subst hj
        rw [Srt_place hT hK h j0.1 j0.2] at f4
        rw [f4]
      · rw [if_neg px] at f3'; cases f3'
  · rw [if_neg q]
    rcases ff with ⟨f1, -⟩ | ⟨f1, f2, f3, -⟩
    · exact f1
    · exfalso
      generalize fnd (fun f => if p f = true then decide (sumTo (fun e => if p e = true then (if B e f = true then 1 else 0) else 0) k = i) else false) 0 k = x at f1 f2 f3
      have f3' : (if p x = true then decide (sumTo (fun e => if p e = true then (if B e x = true then 1 else 0) else 0) k = i) else false) = true := f3
      by_cases px : p x = true
      · rw [if_pos px] at f3'
        have f4 := of_decide_eq_true f3'
        obtain ⟨j, j0, hj⟩ := h.2.2.1 x f1 f2 px
        subst hj
        rw [Srt_place hT hK h j0.1 j0.2] at f4
        omega
      · rw [if_neg px] at f3'; cases f3'
theorem fnd_congr {p q : Int → Bool} {n : Int} (h : ∀ i, 0 ≤ i → i < n → p i = q i) : fnd p 0 n = fnd q 0 n := by
  have key : ∀ (m : Nat) (i : Int), 0 ≤ i → (n - i).toNat = m → fnd p i n = fnd q i n := by
    intro m
    induction m with
    | zero => intro i i0 e; rw [fnd_end (by omega), fnd_end (by omega)]
    | succ m ih =>
      intro i i0 e
      have hi := h i i0 (by omega)
      by_cases c : p i = true
      · rw [fnd_y (by omega) c, fnd_y (by omega) (by rw [← hi]; exact c)]
      · rw [fnd_n (p := p) (by omega) c, fnd_n (p := q) (by omega) (by rw [← hi]; exact c)]
        exact ih (i + 1) (by omega) (by omega)
  exact key _ 0 (by omega) rfl
/-- where the row takes the next one -/
def idxN (B : Int → Int → Bool) (f : Int) (o : Int → Int) : Nat → Nat
  | 0 => 0
  | n + 1 => if B f (o (n : Int)) = true then idxN B f o n else n + 1
theorem idxN_f (B : Int → Int → Bool) (f : Int) (o : Int → Int) : ∀ n : Nat, idxN B f o n ≤ n ∧ (∀ i : Int, (idxN B f o n : Int) ≤ i → i < (n : Int) → B f (o i) = true) ∧ (0 < idxN B f o n → B f (o ((idxN B f o n : Int) - 1)) = false) := by
  intro n
  induction n with
  | zero =>
    refine ⟨Nat.le_refl 0, fun i q0 q1 => ?_, fun q => ?_⟩
    · have : ((idxN B f o 0 : Nat) : Int) = 0 := rfl
      omega
    · exact absurd q (Nat.lt_irrefl 0)
  | succ n ih =>
    show (if B f (o (n : Int)) = true then idxN B f o n else n + 1) ≤ n + 1 ∧ (∀ i : Int, ((if B f (o (n : Int)) = true then idxN B f o n else n + 1 : Nat) : Int) ≤ i → i < ((n + 1 : Nat) : Int) → B f (o i) = true) ∧ (0 < (if B f (o (n : Int)) = true then idxN B f o n else n + 1) → B f (o (((if B f (o (n : Int)) = true then idxN B f o n else n + 1 : Nat) : Int) - 1)) = false)
    by_cases q : B f (o (n : Int)) = true
    · simp only [if_pos q]
      refine ⟨by omega, fun i q0 q1 => ?_, ih.2.2⟩
      by_cases e : i = n
      · rw [e]; exact q
      · exact ih.2.1 i q0 (by omega)
    · simp only [if_neg q]
      refine ⟨by omega, fun i q0 q1 => by omega, fun _ => ?_⟩
      rw [show ((n + 1 : Nat) : Int) - 1 = n by omega]
      cases hq : B f (o (n : Int))
      · rfl
      · exact absurd hq q
/-- all that are in, inserted one after the other -/
def rkS (B : Int → Int → Bool) (p : Int → Bool) (o : Int → Int) : Nat → (Int → Int) × Nat
  | 0 => (o, 0)
  | k + 1 => if p (k : Int) = true then (insO k (rkS B p o k).1 (idxN B k (rkS B p o k).1 (rkS B p o k).2) (rkS B p o k).2, (rkS B p o k).2 + 1) else rkS B p o k
theorem rkS_s (B : Int → Int → Bool) (p : Int → Bool) (o : Int → Int) (k : Nat) : rkS B p o (k + 1) = if p (k : Int) = true then (insO k (rkS B p o k).1 (idxN B k (rkS B p o k).1 (rkS B p o k).2) (rkS B p o k).2, (rkS B p o k).2 + 1) else rkS B p o k := rfl
theorem Srt_rk (hT : Tot B K) : ∀ k : Nat, (k : Int) ≤ K → Srt B p k (rkS B p o k).1 (rkS B p o k).2 := by
  intro k
  induction k with
  | zero => intro _; exact Srt_0
  | succ k ih =>
    intro hk
    have h := ih (by omega)
    rw [rkS_s]
    by_cases q : p (k : Int) = true
    · rw [if_pos q]
      obtain ⟨i1, i2, i3⟩ := idxN_f B k (rkS B p o k).1 (rkS B p o k).2
      exact Srt_ins hT h (by omega) (by omega) q (by omega) i2 (fun z => i3 (by omega))
    · rw [if_neg q]
      refine Srt_skip h (by omega) ?_
      cases hq : p (k : Int)
      · rfl
      · exact absurd hq q
theorem rkS_le (B : Int → Int → Bool) (p : Int → Bool) (o : Int → Int) : ∀ k : Nat, (rkS B p o k).2 ≤ k := by
  intro k
  induction k with
  | zero => exact Nat.le_refl 0
  | succ k ih =>
    rw [rkS_s]
    by_cases q : p (k : Int) = true
    · rw [if_pos q]
      show (rkS B p o k).2 + 1 ≤ k + 1
      omega
    · rw [if_neg q]; omega
theorem rkS_congr {B B' : Int → Int → Bool} {p p' : Int → Bool} {o : Int → Int} (K : Nat) (eB : ∀ x y : Int, 0 ≤ x → x < K → 0 ≤ y → y < K → B x y = B' x y) (ep : ∀ x : Int, 0 ≤ x → x < K → p x = p' x) (hT : Tot B K) : ∀ k : Nat, k ≤ K → rkS B p o k = rkS B' p' o k := by
  have ei : ∀ (f : Int) (a : Int → Int), 0 ≤ f → f < K → ∀ n : Nat, (∀ i : Int, 0 ≤ i → i < n → 0 ≤ a i ∧ a i < K) → idxN B f a n = idxN B' f a n := by
    intro f a f0 f1 n
    induction n with
    | zero => intro _; rfl
    | succ n ih =>
      intro ha
      have e := ih (fun i i0 i1 => ha i i0 (by omega))
      have b := ha n (by omega) (by omega)
      show (if B f (a (n : Int)) = true then idxN B f a n else n + 1) = (if B' f (a (n : Int)) = true then idxN B' f a n else n + 1)
      rw [eB f _ f0 f1 b.1 b.2, e]
  intro k
  induction k with
  | zero => intro _; rfl
  | succ k ih =>
    intro hk
    have e := ih (by omega)
    have hs := Srt_rk (p := p) (o := o) hT k (by omega)
    rw [rkS_s, rkS_s, ← e, ep k (by omega) (by omega), ei k _ (by omega) (by omega) _ (fun i i0 i1 => by have := (hs.2.1 i i0 i1).1; omega)]
end Ord
