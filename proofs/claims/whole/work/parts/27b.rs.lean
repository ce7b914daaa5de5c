/-! Loops as steps that are done again. -/
def rs {α β : Type} (f : α → α ⊕ β) : Nat → α → Option β
  | 0, _ => none
  | n + 1, a => match f a with | .inl a' => rs f n a' | .inr b => some b
theorem rs_s {α β : Type} (f : α → α ⊕ β) (n : Nat) (a : α) : rs f (n + 1) a = (match f a with | .inl a' => rs f n a' | .inr b => some b) := rfl
theorem rs_mono {α β : Type} {f : α → α ⊕ β} {b : β} : ∀ {n : Nat} {a : α} (m : Nat), n ≤ m → rs f n a = some b → rs f m a = some b
  | 0, a, m, _, h => by cases h
  | n + 1, a, 0, hm, h => by omega
  | n + 1, a, m + 1, hm, h => by
    rw [rs_s] at h ⊢
    split at h
    · rename_i a' e
      exact rs_mono m (by omega) h
    · exact h
theorem lessL_0 : lessL [] [] := ⟨rfl, fun i a h => h⟩
theorem lessL_c {x : Option AV} {l l' : Vls} (h : lessL l l') : lessL (x :: l) (x :: l') := by
  refine ⟨by rw [List.length_cons, List.length_cons, h.1], fun i a hi => ?_⟩
  cases i with
  | zero => exact hi
  | succ i => exact h.2 i a hi
theorem lessL_n {y : Option AV} {l l' : Vls} (h : lessL l l') : lessL (none :: l) (y :: l') := by
  refine ⟨by rw [List.length_cons, List.length_cons, h.1], fun i a hi => ?_⟩
  cases i with
  | zero => cases hi
  | succ i => exact h.2 i a hi
theorem rs_tot {α β : Type} {f : α → α ⊕ β} {P : α → Prop} {μ : α → Nat} {R : β → Prop} (hs : ∀ a, P a → (∃ a', f a = .inl a' ∧ P a' ∧ μ a' < μ a) ∨ (∃ b, f a = .inr b ∧ R b)) : ∀ (k : Nat) (a : α), μ a ≤ k → P a → ∃ n b, rs f n a = some b ∧ R b
  | 0, a, hk, ha => by
    rcases hs a ha with ⟨a', _, _, h⟩ | ⟨b, e, r⟩
    · omega
    · exact ⟨1, b, by rw [rs_s, e], r⟩
  | k + 1, a, hk, ha => by
    rcases hs a ha with ⟨a', e, p, h⟩ | ⟨b, e, r⟩
    · obtain ⟨n, b, e2, r⟩ := rs_tot hs k a' (by omega) p
      exact ⟨n + 1, b, by rw [rs_s, e]; exact e2, r⟩
    · exact ⟨1, b, by rw [rs_s, e], r⟩
theorem rs_cnt0 {α β : Type} {f : α → α ⊕ β} {S : Int → α} {L : Int} {b : β} (h : ∀ i, 0 ≤ i → i < L → f (S i) = .inl (S (i + 1))) (he : f (S L) = .inr b) : ∀ (k : Nat) (i : Int), 0 ≤ i → i + k = L → rs f (k + 1) (S i) = some b
  | 0, i, h0, hk => by
    rw [rs_s, show i = L by omega, he]
  | k + 1, i, h0, hk => by
    rw [rs_s, h i h0 (by omega)]
    exact rs_cnt0 h he k (i + 1) (by omega) (by omega)
theorem rs_cnt {α β : Type} {f : α → α ⊕ β} (S : Int → α) {L : Int} {b : β} (hL : 0 ≤ L) (h : ∀ i, 0 ≤ i → i < L → f (S i) = .inl (S (i + 1))) (he : f (S L) = .inr b) : rs f (L.toNat + 1) (S 0) = some b := rs_cnt0 h he L.toNat 0 (by omega) (by omega)
