def cnR (raw : Instr) : Bool := match raw with
  | .iconst n => decide (-2147483648 ≤ n ∧ n < 2147483648)
  | .bipush n => decide (-128 ≤ n ∧ n < 128)
  | .sipush n => decide (-32768 ≤ n ∧ n < 32768)
  | _ => true
set_option maxRecDepth 100000 in
theorem cnAll : ∀ m ∈ mtab, (m.2.2.1.all (fun r => cnR r.2.1)) = true := List.all_eq_true.mp (by decide +kernel)
def nvR (fr lc : Nat) (r : Rw) : Bool := match r.2.1, r.2.2.2 with
  | .invokestatic _, [n, _, _] => if n = 6 ∨ n = 7 ∨ n = 8 then decide (1 ≤ fr) && decide (100 ≤ lc) else true
  | _, _ => true
set_option maxRecDepth 100000 in
theorem nvAll : ∀ m ∈ mtab, (m.2.2.1.all (nvR m.2.2.2.1.1 m.2.2.2.1.2.1)) = true := List.all_eq_true.mp (by decide +kernel)
theorem w_max : Cond.static Lib.Math.max.name ∈ lw_tbl ∧ Cond.initialized "java/lang/Math" ∈ lw_tbl ∧ Cond.code Lib.Math.max.name Lib.Math.max.code 2 (some .int) ∈ lw_tbl := by decide +kernel
theorem w_min : Cond.static Lib.Math.min.name ∈ lw_tbl ∧ Cond.code Lib.Math.min.name Lib.Math.min.code 2 (some .int) ∈ lw_tbl := by decide +kernel
theorem w_cpy : Cond.native arraycopyName ∈ lw_tbl ∧ Cond.static arraycopyName ∈ lw_tbl ∧ Cond.initialized "java/lang/System" ∈ lw_tbl := by decide +kernel
def thSt : List Nat := [54, 73, 84, 86, 106, 159, 181, 186, 196, 205, 219, 228, 233, 244, 250, 259, 267, 269, 282, 287, 292, 297, 302, 307, 309, 314, 337, 343, 348, 367, 378, 388, 396, 398, 402, 405, 407, 412, 414]
def thIc : List (Nat × Nat) := [(0, 56), (1, 75), (2, 404), (3, 161), (4, 198), (5, 246)]
def hcat (k : Nat) : List (Nat × Nat) := if k < hc0 then [] else (hcT[k - hc0]?).getD []
def pcA (k i : Nat) : Nat := pcL (rows k) i
def ncP : List (Nat × Nat) := [(0, 1), (0, 2), (0, 3), (1, 0), (1, 2), (3, 1), (3, 2), (4, 2), (5, 2)]
def exNs : List String := ["java/lang/RuntimeException", "java/lang/Exception"]
def sOK (hh : List (Nat × Nat × Nat × Nat)) (lc : Nat) (ow : String) (E j ic : Nat) : Bool := decide (ow = RX10) && decide (hh = []) && decide (100 ≤ lc) && decide (E < 6) && decide (j ∈ thSt) && decide ((E, ic) ∈ thIc)
def thS (hh : List (Nat × Nat × Nat × Nat)) (lc : Nat) (ow : String) (r : Rw) (rs : List Rw) : Bool := match r.2.1, r.2.2.2 with
  | .new _, [1, E, _] => (match rs with
      | (_, .dup, _, _) :: (_, .ldc j, _, _) :: (_, .invokespecial ic, _, _) :: (_, .athrow, _, _) :: _ => sOK hh lc ow E j ic
      | (_, .dup, _, _) :: (_, .ldc_w j, _, _) :: (_, .invokespecial ic, _, _) :: (_, .athrow, _, _) :: _ => sOK hh lc ow E j ic
      | _ => false)
  | _, _ => true
def thL (hh : List (Nat × Nat × Nat × Nat)) (lc : Nat) (ow : String) : List Rw → Bool
  | [] => true
  | r :: rs => thS hh lc ow r rs && thL hh lc ow rs
set_option maxRecDepth 100000 in
theorem thAll : ∀ m ∈ mtab, thL m.2.1.2.2 m.2.2.2.1.2.1 m.1.1 m.2.2.1 = true := List.all_eq_true.mp (by decide +kernel)
theorem thL_at {hh : List (Nat × Nat × Nat × Nat)} {lc : Nat} {ow : String} : ∀ {rs : List Rw} {i : Nat} {r : Rw}, thL hh lc ow rs = true → rs[i]? = some r → thS hh lc ow r (rs.drop (i + 1)) = true
  | [], i, r, _, h => by simp at h
  | a :: rs, 0, r, h1, h => by
    simp only [thL, Bool.and_eq_true] at h1
    simp at h
    subst h
    exact h1.1
  | a :: rs, i + 1, r, h1, h => by
    simp only [thL, Bool.and_eq_true] at h1
    exact thL_at (rs := rs) (i := i) h1.2 (by simpa using h)
def thW (q : Nat × Nat) : Bool := (vx_atS RX10 q.2 (exN q.1) exNs).all (fun w => decide (w ∈ lw_tbl) && w.onTables && w.keepsFace && vx_ot w) && decide (Cond.initialized (exN q.1) ∈ lw_tbl) && Bundle.fit (exN q.1) && exNs.all Bundle.fit
set_option maxRecDepth 100000 in
theorem thWAll : (thIc.filter (fun q => q.1 != 3)).all thW = true := by decide +kernel
def caOK (k : Nat) : Bool := decide ((hhd k).length = (hcat k).length) && ((hhd k).zip (hcat k)).all (fun q => decide (q.2.1 < 6) && decide (q.1.2.2.2 ≠ 0) && decide (Cond.classLink (own k) q.1.2.2.2 (exN q.2.1) ∈ lw_tbl) && decide (pcA k q.2.2 = q.1.2.2.1) && decide (Cond.castable (exN q.2.1) (exN q.2.1) ∈ lw_tbl)) && (List.range (hcat k).length).all (fun n => (List.range n).all (fun j => decide ((((hcat k)[n]?.getD (0, 0)).1, ((hcat k)[j]?.getD (0, 0)).1) ∈ ncP)))
set_option maxRecDepth 100000 in
theorem caAll0 : (List.range 244).all (fun k => decide (hhd k = []) && decide (hcat k = [])) = true := by decide +kernel
set_option maxRecDepth 100000 in
theorem caAll1 : (List.range 35).all (fun k => caOK (244 + k)) = true := by decide +kernel
