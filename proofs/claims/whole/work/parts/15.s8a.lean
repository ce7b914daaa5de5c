section ThrA
def exNs : List String := ["java/lang/RuntimeException", "java/lang/Exception"]
def sOK (hh : List (Nat × Nat × Nat × Nat)) (lc : Nat) (ow : String) (E j ic : Nat) : Bool := decide (ow = RX10) && decide (hh = []) && decide (100 ≤ lc) && decide (E < 6) && decide (j ∈ thSt) && decide ((E, ic) ∈ thIc)
def thS (hh : List (Nat × Nat × Nat × Nat)) (lc : Nat) (ow : String) (r : Rw) (rs : List Rw) : Bool := match r.2.1, r.2.2.2 with
  | .new _, [1, E, _] => (match rs with
      | (_, .dup, _, _) :: (_, .ldc j, _, _) :: (_, .invokespecial ic, _, _) :: (_, .athrow, _, _) :: _ => sOK hh lc ow E j ic
      | (_, .dup, _, _) :: (_, .ldc_w j, _, _) :: (_, .invokespecial ic, _, _) :: (_, .athrow, _, _) :: _ => sOK hh lc ow E j ic
      | _ => false)
  | _, _ => true
def thL (hh : List (Nat × Nat × Nat × Nat)) (lc : Nat) (ow : String) : List Rw → Bool
  | [] => true
  | r :: rs => thS hh lc ow r rs && thL hh lc ow rs
set_option maxRecDepth 100000 in
theorem thAll : ∀ m ∈ mtab, thL m.2.1.2.2 m.2.2.2.1.2.1 m.1.1 m.2.2.1 = true := List.all_eq_true.mp (by decide +kernel)
theorem thL_at {hh : List (Nat × Nat × Nat × Nat)} {lc : Nat} {ow : String} : ∀ {rs : List Rw} {i : Nat} {r : Rw}, thL hh lc ow rs = true → rs[i]? = some r → thS hh lc ow r (rs.drop (i + 1)) = true
  | [], i, r, _, h => by simp at h
  | a :: rs, 0, r, h1, h => by
    simp only [thL, Bool.and_eq_true] at h1
    simp at h
    subst h
    exact h1.1
  | a :: rs, i + 1, r, h1, h => by
    simp only [thL, Bool.and_eq_true] at h1
    exact thL_at (rs := rs) (i := i) h1.2 (by simpa using h)
def thW (q : Nat × Nat) : Bool := (vx_atS RX10 q.2 (exN q.1) exNs).all (fun w => decide (w ∈ lw_tbl) && w.onTables && w.keepsFace && vx_ot w) && decide (Cond.initialized (exN q.1) ∈ lw_tbl) && Bundle.fit (exN q.1) && exNs.all Bundle.fit
set_option maxRecDepth 100000 in
theorem thWAll : (thIc.filter (fun q => q.1 != 3)).all thW = true := by decide +kernel
end ThrA
