/-! Sums, repeated changes, first places. -/
def sumN (f : Int → Int) : Nat → Int
  | 0 => 0
  | n + 1 => sumN f n + f n
def sumTo (f : Int → Int) (n : Int) : Int := sumN f n.toNat
theorem sumTo_0 (f : Int → Int) : sumTo f 0 = 0 := rfl
theorem sumTo_neg (f : Int → Int) {n : Int} (h : n ≤ 0) : sumTo f n = 0 := by unfold sumTo; rw [show n.toNat = 0 by omega]; rfl
theorem sumTo_s (f : Int → Int) {i : Int} (h : 0 ≤ i) : sumTo f (i + 1) = sumTo f i + f i := by
  unfold sumTo
  rw [show (i + 1).toNat = i.toNat + 1 by omega]
  show sumN f i.toNat + f (i.toNat : Int) = _
  rw [show (i.toNat : Int) = i by omega]
theorem sumTo_end (f : Int → Int) {i n : Int} (h1 : n ≤ i) (h2 : i ≤ n ∨ i = 0) : sumTo f i = sumTo f n := by
  unfold sumTo
  rw [show i.toNat = n.toNat by omega]
theorem sumTo_congr {f h : Int → Int} {n : Int} (e : ∀ i, 0 ≤ i → i < n → f i = h i) : sumTo f n = sumTo h n := by
  unfold sumTo
  have : ∀ k : Nat, k ≤ n.toNat → sumN f k = sumN h k := by
    intro k
    induction k with
    | zero => intros; rfl
    | succ k ih => intro hk; show sumN f k + f k = sumN h k + h k; rw [ih (by omega), e k (by omega) (by omega)]
  exact this _ (Nat.le_refl _)
theorem sumTo_bd {f : Int → Int} {n c : Int} (hc : 0 ≤ c) (hn : 0 ≤ n) (e : ∀ i, 0 ≤ i → i < n → 0 ≤ f i ∧ f i ≤ c) : 0 ≤ sumTo f n ∧ sumTo f n ≤ c * n := by
  unfold sumTo
  have : ∀ k : Nat, k ≤ n.toNat → 0 ≤ sumN f k ∧ sumN f k ≤ c * k := by
    intro k
    induction k with
    | zero => intro _; exact ⟨Int.le_refl _, by show (0 : Int) ≤ c * 0; omega⟩
    | succ k ih =>
      intro hk
      have h1 := ih (by omega)
      have h2 := e k (by omega) (by omega)
      show 0 ≤ sumN f k + f k ∧ sumN f k + f k ≤ c * ((k + 1 : Nat) : Int)
      rw [show ((k + 1 : Nat) : Int) = (k : Int) + 1 by omega, Int.mul_add, Int.mul_one]
      omega
  have h := this _ (Nat.le_refl _)
  rw [show (n.toNat : Int) = n by omega] at h
  exact h
theorem wr_wl (x y : Int) : wr (wr x + y) = wr (x + y) := by unfold wr; simp
theorem wr_0 : wr 0 = 0 := by decide
theorem wr_le (x : Int) : wr x ≤ 2147483647 := by
  unfold wr
  have := @Int.bmod_lt x 4294967296 (by decide)
  omega
def itN (F : Int → Mem → Mem) : Nat → Mem → Mem
  | 0, σ => σ
  | n + 1, σ => F n (itN F n σ)
def itM (F : Int → Mem → Mem) (n : Int) (σ : Mem) : Mem := itN F n.toNat σ
theorem itM_0 (F : Int → Mem → Mem) (σ : Mem) : itM F 0 σ = σ := rfl
theorem itM_s (F : Int → Mem → Mem) {i : Int} (σ : Mem) (h : 0 ≤ i) : itM F (i + 1) σ = F i (itM F i σ) := by
  unfold itM
  rw [show (i + 1).toNat = i.toNat + 1 by omega]
  show F (i.toNat : Int) _ = _
  rw [show (i.toNat : Int) = i by omega]
theorem itM_end (F : Int → Mem → Mem) {i n : Int} (σ : Mem) (h1 : n ≤ i) (h2 : i ≤ n ∨ i = 0) : itM F i σ = itM F n σ := by
  unfold itM
  rw [show i.toNat = n.toNat by omega]
theorem itM_inv {α : Type} {F : Int → Mem → Mem} (p : Mem → α) (σ : Mem) (n : Int) (h : ∀ i s, 0 ≤ i → i < n → p (F i s) = p s) : p (itM F n σ) = p σ := by
  unfold itM
  have : ∀ k : Nat, k ≤ n.toNat → p (itN F k σ) = p σ := by
    intro k
    induction k with
    | zero => intros; rfl
    | succ k ih => intro hk; exact (h k _ (by omega) (by omega)).trans (ih (by omega))
  exact this _ (Nat.le_refl _)
theorem wf_le {ph : Bool} {σ : Mem} (hw : Wf ph σ) (C : Nat) (r k : Int) (h : (decide (C ≤ 18) && decide (C ≠ 15) && decide (C ≠ 16)) = true) : -2147483648 ≤ σ C r k ∧ σ C r k ≤ 2147483647 := by
  simp only [Bool.and_eq_true, decide_eq_true_eq] at h
  have := hw.1 C r k h.1.1 h.1.2 h.2
  exact ⟨this.1, by have := this.2; omega⟩
theorem wf_rg {ph : Bool} {σ : Mem} (hw : Wf ph σ) (r k : Int) : -2147483648 ≤ rget σ r k ∧ rget σ r k ≤ 2147483647 := by
  unfold rget
  split
  · exact wf_le hw 13 r k (by decide)
  · omega
/-- the first place from i on, of n, where p holds; -1: none -/
def fndN (p : Int → Bool) : Nat → Int → Int
  | 0, _ => -1
  | n + 1, i => if p i = true then i else fndN p n (i + 1)
def fnd (p : Int → Bool) (i n : Int) : Int := fndN p (n - i).toNat i
theorem fnd_end {p : Int → Bool} {i n : Int} (h : n ≤ i) : fnd p i n = -1 := by unfold fnd; rw [show (n - i).toNat = 0 by omega]; rfl
theorem fnd_y {p : Int → Bool} {i n : Int} (h : i < n) (hp : p i = true) : fnd p i n = i := by
  unfold fnd
  rw [show (n - i).toNat = (n - i - 1).toNat + 1 by omega]
  show (if p i = true then i else _) = i
  rw [if_pos hp]
theorem fnd_n {p : Int → Bool} {i n : Int} (h : i < n) (hp : ¬ p i = true) : fnd p i n = fnd p (i + 1) n := by
  unfold fnd
  rw [show (n - i).toNat = (n - (i + 1)).toNat + 1 by omega]
  show (if p i = true then i else _) = _
  rw [if_neg hp]
theorem up_o {σ : Mem} {C C' : Nat} {r k v r' k' : Int} (h : C' ≠ C ∨ r' ≠ r ∨ k' ≠ k) : up σ C r k v C' r' k' = σ C' r' k' := by
  unfold up
  rw [if_neg]
  rintro ⟨a, b, c⟩
  rcases h with h | h | h
  · exact h a
  · exact h b
  · exact h c
theorem up_s (σ : Mem) (C : Nat) (r k v : Int) : up σ C r k v C r k = v := by unfold up; exact if_pos ⟨rfl, rfl, rfl⟩
theorem rset_o {σ : Mem} {r i v r' k : Int} {C : Nat} (h : C ≠ 13 ∨ r' ≠ r) : rset σ r i v C r' k = σ C r' k := by
  unfold rset
  split
  · exact up_o (by rcases h with h | h; exact Or.inl h; exact Or.inr (Or.inl h))
  · rfl
theorem rset_p {σ : Mem} {r i v r' k : Int} {C : Nat} (h : k ≠ i) : rset σ r i v C r' k = σ C r' k := by
  unfold rset
  split
  · exact up_o (Or.inr (Or.inr h))
  · rfl
theorem rset_s {σ : Mem} {r i v : Int} (h : 0 ≤ i ∧ i < rowLen r) : rset σ r i v 13 r i = v := by
  unfold rset
  rw [if_pos h]
  exact up_s _ _ _ _ _
theorem rfill_o {σ : Mem} {r v r' k : Int} {C : Nat} (h : C ≠ 13 ∨ r' ≠ r) : rfill σ r v C r' k = σ C r' k := by
  unfold rfill rfillTo
  rw [if_neg]
  rintro ⟨a, b, -⟩
  rcases h with h | h
  · exact h a
  · exact h b
theorem rfill_s {σ : Mem} {r v k : Int} (h : 0 ≤ k ∧ k < rowLen r) : rfill σ r v 13 r k = v := by
  unfold rfill rfillTo
  exact if_pos ⟨rfl, rfl, h.1, h.2⟩
theorem rcpy_o {σ : Mem} {r q n r' k : Int} {C : Nat} (h : C ≠ 13 ∨ r' ≠ r) : rcpy σ r q n C r' k = σ C r' k := by
  unfold rcpy
  split
  · unfold cpM
    rw [if_neg]
    rintro ⟨a, b, -⟩
    rcases h with h | h
    · exact h a
    · exact h b
  · rfl
theorem rcpy_s {σ : Mem} {r q n k : Int} (h : 0 ≤ k ∧ k < n) (h1 : n ≤ rowLen r) (h2 : n ≤ rowLen q) : rcpy σ r q n 13 r k = σ 13 q k := by
  have e : rcl r q n = n := by
    unfold rcl rmin
    repeat' split
    all_goals omega
  unfold rcpy
  rw [e, if_pos (by omega)]
  unfold cpM
  rw [if_pos ⟨rfl, rfl, h.1, by omega⟩, show (0 : Int) + (k - 0) = k by omega]
theorem rget_e {σ : Mem} {r i : Int} (h : 0 ≤ i ∧ i < rowLen r) : rget σ r i = σ 13 r i := by unfold rget; exact if_pos h
