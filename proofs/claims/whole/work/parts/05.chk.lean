def ckM (m : MI) : Bool := dcOK m.1.2.2 m.2.2.1 && lnOK m.1.1 m.2.2.1 && mdM m
theorem mi_mem (k : Nat) : mi k ∈ mtab := by
  unfold mi
  cases h : mtab[k]? with
  | none => exact List.mem_of_getElem? (i := 0) rfl
  | some m => exact List.mem_of_getElem? h
theorem ckAll : ∀ m ∈ mtab, ckM m = true := by sorry
theorem wdK (k : Nat) (hk : k < 278) : wdM (mi k) = true := by sorry
theorem ckK (k : Nat) : ckM (mi k) = true := ckAll _ (mi_mem k)
