/-! Loops as steps that are done again. -/
def rs {α β : Type} (f : α → α ⊕ β) : Nat → α → Option β
  | 0, _ => none
  | n + 1, a => match f a with | .inl a' => rs f n a' | .inr b => some b
theorem rs_s {α β : Type} (f : α → α ⊕ β) (n : Nat) (a : α) : rs f (n + 1) a = (match f a with | .inl a' => rs f n a' | .inr b => some b) := rfl
theorem rs_mono {α β : Type} {f : α → α ⊕ β} {b : β} : ∀ {n : Nat} {a : α} (m : Nat), n ≤ m → rs f n a = some b → rs f m a = some b
  | 0, a, m, _, h => by cases h
  | n + 1, a, 0, hm, h => by omega
  | n + 1, a, m + 1, hm, h => by
    rw [rs_s] at h ⊢
    split at h
    · rename_i a' e
      exact rs_mono m (by omega) h
    · exact h
theorem lessL_0 : lessL [] [] := ⟨rfl, fun i a h => h⟩
theorem lessL_c {x : Option AV} {l l' : Vls} (h : lessL l l') : lessL (x :: l) (x :: l') := by
  refine ⟨by rw [List.length_cons, List.length_cons, h.1], fun i a hi => ?_⟩
  cases i with
  | zero => exact hi
  | succ i => exact h.2 i a hi
theorem lessL_n {y : Option AV} {l l' : Vls} (h : lessL l l') : lessL (none :: l) (y :: l') := by
  refine ⟨by rw [List.length_cons, List.length_cons, h.1], fun i a hi => ?_⟩
  cases i with
  | zero => cases hi
  | succ i => exact h.2 i a hi
