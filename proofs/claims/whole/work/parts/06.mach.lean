/-! A small picture of the machine for this claim: values, one memory of numbers, and what each instruction does to them. -/
abbrev AV : Type := Int ⊕ Int ⊕ UInt64 ⊕ Option (Nat × Int)
abbrev Mem : Type := Nat → Int → Int → Int
abbrev Vls : Type := List (Option AV)
abbrev Out : Type := Option AV ⊕ Nat
abbrev aI (x : Int) : AV := .inl x
abbrev aL (x : Int) : AV := .inr (.inl x)
abbrev aD (x : UInt64) : AV := .inr (.inr (.inl x))
abbrev aR (C : Nat) (r : Int) : AV := .inr (.inr (.inr (some (C, r))))
abbrev aN : AV := .inr (.inr (.inr none))
def wr (z : Int) : Int := z.bmod 4294967296
def wl (z : Int) : Int := z.bmod 18446744073709551616
def up (σ : Mem) (C : Nat) (r k v : Int) : Mem := fun C' r' k' => if C' = C ∧ r' = r ∧ k' = k then v else σ C' r' k'
def cpM (σ : Mem) (s d sp dp n : Int) : Mem := fun C r k => if C = 13 ∧ r = d ∧ dp ≤ k ∧ k < dp + n then σ 13 s (sp + (k - dp)) else σ C r k
def zap (σ : Mem) (C : Nat) (r : Int) : Mem := fun C' r' k' => if C' = C ∧ r' = r then 0 else σ C' r' k'
def lay (a b r : Int) : Int := if a = 1 then (if b = 0 then r else r + b) else (if b = 0 then a * r else a * r + b)
def rl18 (j : Int) : Int := if j = 0 then 2 else if j ≤ 5 then 24 else if j = 6 then 72 else if j = 7 then 6 else if j = 8 then 144 else if j ≤ 10 then 614 else if j ≤ 14 then 307 else if j ≤ 16 then 24 else 6
def rowLen (r : Int) : Int := if r < 180 then rl18 (r % 18) else if r < 185 then 24 else if r = 185 then 44 else if r = 186 then 3330 else if r = 187 then 3330 else if r = 188 then 26640 else if r = 189 then 96 else if r = 190 then 32 else 60
def alen (σ : Mem) (C : Nat) (r : Int) : Int := if C = 13 then rowLen r else if C = 12 then 60 else if C = 14 then 8 else if C = 15 then 1 else if C = 16 then 1 else if C = 18 then 9 else σ 17 0 (-1)
def isC2 (o : Option AV) : Bool := match o with | some (.inr (.inl _)) => true | some (.inr (.inr (.inl _))) => true | _ => false
/-- the kind of a value: 0 int, 1 long, 2 double, 3 reference or null -/
def kdOf (a : AV) : Nat := match a with | .inl _ => 0 | .inr (.inl _) => 1 | .inr (.inr (.inl _)) => 2 | .inr (.inr (.inr _)) => 3
def stL (ls : Vls) (i : Nat) (v : AV) : Option Vls :=
  if i < ls.length ∧ (i = 0 ∨ isC2 (ls.getD (i - 1) none) = false) then
    (if isC2 (some v) then (if i + 1 < ls.length then some ((ls.set i (some v)).set (i + 1) none) else none) else some (ls.set i (some v)))
  else none
abbrev PR : Type := Option (Option Prop × Vls × List AV × Mem)
def bin (f : Int → Int → Int) (ls : Vls) (σ : Mem) (st : List AV) : PR := match st with | .inl y :: .inl x :: st => some (none, ls, aI (f x y) :: st, σ) | _ => none
def binP (f : Int → Int → Int) (ls : Vls) (σ : Mem) (st : List AV) : PR := match st with | .inl y :: .inl x :: st => some (some (y ≠ 0), ls, aI (f x y) :: st, σ) | _ => none
def binL (f : Int → Int → Int) (ls : Vls) (σ : Mem) (st : List AV) : PR := match st with | .inr (.inl y) :: .inr (.inl x) :: st => some (none, ls, aL (f x y) :: st, σ) | _ => none
def ldp (kd : Nat) (ls : Vls) (i : Nat) (st : List AV) (σ : Mem) : PR := match ls.getD i none with | some a => if kdOf a = kd then some (none, ls, a :: st, σ) else none | none => none
def stp (kd : Nat) (ls : Vls) (i : Nat) (st : List AV) (σ : Mem) : PR := match st with | a :: st => if kdOf a = kd then (match stL ls i a with | some ls' => some (none, ls', st, σ) | none => none) else none | [] => none
def iandI (x y : Int) : Int := (Int32.ofInt x &&& Int32.ofInt y).toInt
def ishrI (x y : Int) : Int := (Int32.ofInt x >>> (Int32.ofInt y &&& 31)).toInt
def lcmpI (x y : Int) : Int := if y < x then 1 else if x = y then 0 else -1
def dcmpI (x y : UInt64) (op : CmpOp) : Int := (Op.cmpValue (FP.dcmp x y) op).toInt
def plain (ph : Bool) (raw : Instr) (x : List Nat) (ls : Vls) (st : List AV) (σ : Mem) : PR :=
  match raw with
  | .iconst n => some (none, ls, aI n :: st, σ)
  | .bipush n => some (none, ls, aI n :: st, σ)
  | .sipush n => some (none, ls, aI n :: st, σ)
  | .aconst_null => some (none, ls, aN :: st, σ)
  | .dconst d => if d.val = 0 then some (none, ls, aD FP.dconst0 :: st, σ) else none
  | .ldc _ => (match x with | [v, _] => some (none, ls, aI v :: st, σ) | _ => none)
  | .ldc_w _ => (match x with | [v, _] => some (none, ls, aI v :: st, σ) | _ => none)
  | .ldc2_w _ => (match x with | [v, _] => some (none, ls, aL v :: st, σ) | _ => none)
  | .iload i => ldp 0 ls i st σ
  | .iload_n i => ldp 0 ls i.val st σ
  | .aload i => ldp 3 ls i st σ
  | .aload_n i => ldp 3 ls i.val st σ
  | .dload i => ldp 2 ls i st σ
  | .istore i => stp 0 ls i st σ
  | .istore_n i => stp 0 ls i.val st σ
  | .astore i => stp 3 ls i st σ
  | .astore_n i => stp 3 ls i.val st σ
  | .dstore i => stp 2 ls i st σ
  | .iinc i n => (match ls.getD i none with | some (.inl v) => some (none, ls.set i (some (aI (wr (v + n)))), st, σ) | _ => none)
  | .iadd => bin (fun a b => wr (a + b)) ls σ st
  | .isub => bin (fun a b => wr (a - b)) ls σ st
  | .imul => bin (fun a b => wr (a * b)) ls σ st
  | .idiv => binP (fun a b => wr (a.tdiv b)) ls σ st
  | .irem => binP (fun a b => a.tmod b) ls σ st
  | .iand => bin iandI ls σ st
  | .ishr => bin ishrI ls σ st
  | .i2l => (match st with | .inl v :: st => some (none, ls, aL v :: st, σ) | _ => none)
  | .i2c => (match st with | .inl v :: st => some (none, ls, aI (v % 65536) :: st, σ) | _ => none)
  | .i2d => (match st with | .inl v :: st => some (none, ls, aD (FP.i2d (Int32.ofInt v)) :: st, σ) | _ => none)
  | .l2i => (match st with | .inr (.inl v) :: st => some (none, ls, aI (wr v) :: st, σ) | _ => none)
  | .ladd => binL (fun a b => wl (a + b)) ls σ st
  | .lmul => binL (fun a b => wl (a * b)) ls σ st
  | .lrem => (match st with | .inr (.inl y) :: .inr (.inl v) :: st => some (some (y ≠ 0), ls, aL (v.tmod y) :: st, σ) | _ => none)
  | .lcmp => (match st with | .inr (.inl y) :: .inr (.inl v) :: st => some (none, ls, aI (lcmpI v y) :: st, σ) | _ => none)
  | .ddiv => (match st with | .inr (.inr (.inl y)) :: .inr (.inr (.inl v)) :: st => some (some (vf_n64 (FP.ddiv v y)), ls, aD (FP.ddiv v y) :: st, σ) | _ => none)
  | .dcmp op => (match st with | .inr (.inr (.inl y)) :: .inr (.inr (.inl v)) :: st => some (none, ls, aI (dcmpI v y op) :: st, σ) | _ => none)
  | .dup => (match st with | a :: st => if isC2 (some a) then none else some (none, ls, a :: a :: st, σ) | _ => none)
  | .dup2 => (match st with | a :: b :: st => if isC2 (some a) || isC2 (some b) then none else some (none, ls, a :: b :: a :: b :: st, σ) | _ => none)
  | .pop => (match st with | a :: st => if isC2 (some a) then none else some (none, ls, st, σ) | _ => none)
  | .getfield _ => (match x, st with
      | [C, f, _, _], .inr (.inr (.inr (some (C', r)))) :: st => if C' = C then (match (fsp C)[f]? with
          | some (kd, a, b, t) => if kd = 2 then some (if ph then none else some (σ C r f = 1), ls, aR t (lay a b r) :: st, σ) else some (none, ls, aI (σ C r f) :: st, σ)
          | none => none) else none
      | _, _ => none)
  | .putfield _ => (match x, st with
      | [C, f, _, _], .inl v :: .inr (.inr (.inr (some (C', r)))) :: st => if C' = C ∧ (fF C f).2.2.2 = false then (match (fsp C)[f]? with
          | some (kd, _, _, _) => if kd = 0 then some (none, ls, st, up σ C r f v) else if kd = 1 then some (some (v = 0 ∨ v = 1), ls, st, up σ C r f v) else none
          | none => none) else none
      | _, _ => none)
  | .getstatic _ => (match x with | [a, _, _] => if a ≤ 1 then some (none, ls, aR 18 a :: st, σ) else none | _ => none)
  | .iaload => (match st with | .inl i :: .inr (.inr (.inr (some (C, r)))) :: st => if C = 13 ∨ C = 17 ∨ C = 18 then some (some (0 ≤ i ∧ i < alen σ C r), ls, aI (σ C r i) :: st, σ) else none | _ => none)
  | .iastore => (match st with | .inl v :: .inl i :: .inr (.inr (.inr (some (C, r)))) :: st => if C = 13 then some (some (0 ≤ i ∧ i < rowLen r), ls, st, up σ 13 r i v) else none | _ => none)
  | .caload => (match st with | .inl i :: .inr (.inr (.inr (some (C, r)))) :: st => if C = 12 then some (some (0 ≤ i ∧ i < 60), ls, aI (σ 12 r i) :: st, σ) else none | _ => none)
  | .castore => (match st with | .inl v :: .inl i :: .inr (.inr (.inr (some (C, r)))) :: st => if C = 12 then some (some (0 ≤ i ∧ i < 60), ls, st, up σ 12 r i (v % 65536)) else none | _ => none)
  | .laload => (match st with | .inl i :: .inr (.inr (.inr (some (C, r)))) :: st => if C = 15 then some (some (i = 0), ls, aL (σ 15 r i) :: st, σ) else none | _ => none)
  | .lastore => (match st with | .inr (.inl v) :: .inl i :: .inr (.inr (.inr (some (C, r)))) :: st => if C = 15 then some (some (i = 0), ls, st, up σ 15 r i v) else none | _ => none)
  | .daload => (match st with | .inl i :: .inr (.inr (.inr (some (C, r)))) :: st => if C = 16 then some (some (i = 0), ls, aD (UInt64.ofNat (σ 16 r i).toNat) :: st, σ) else none | _ => none)
  | .dastore => (match st with | .inr (.inr (.inl v)) :: .inl i :: .inr (.inr (.inr (some (C, r)))) :: st => if C = 16 then some (some (i = 0), ls, st, up σ 16 r i (v.toNat : Int)) else none | _ => none)
  | .aaload => (match st with | .inl i :: .inr (.inr (.inr (some (C, r)))) :: st => if C = 14 ∧ ph = true then some (some (0 ≤ i ∧ i < 8), ls, aR 2 (i + 2) :: st, σ) else none | _ => none)
  | .arraylength => (match st with | .inr (.inr (.inr (some (C, r)))) :: st => if C = 13 ∨ C = 12 ∨ C = 14 ∨ C = 17 ∨ C = 18 then some (none, ls, aI (alen σ C r) :: st, σ) else none | _ => none)
  | .invokestatic _ => (match x with
      | [n, _, _] => if n = 6 ∧ st.length ≤ 6 then bin (fun a b => if a < b then b else a) ls σ st else if n = 7 ∧ st.length ≤ 6 then bin (fun a b => if b < a then b else a) ls σ st else if n = 8 ∧ st.length ≤ 9 then
          (match st with | .inl n :: .inl dp :: .inr (.inr (.inr (some (C, d)))) :: .inl sp :: .inr (.inr (.inr (some (C', s)))) :: st => if C = 13 ∧ C' = 13 then some (some (0 ≤ sp ∧ 0 ≤ dp ∧ 0 ≤ n ∧ sp + n ≤ rowLen s ∧ dp + n ≤ rowLen d), ls, st, cpM σ s d sp dp n) else none | _ => none)
        else none
      | _ => none)
  | _ => none
def hold (P : Option Prop) : Prop := match P with | none => True | some p => p
def cnd (cd : ClassFile.Cond) (x y : Int) : Prop := match cd with | .eq => x = y | .ne => ¬ x = y | .lt => x < y | .ge => y ≤ x | .gt => y < x | .le => x ≤ y
def swT (lo : Int) (ts : List Nat) (v : Int) : Nat := match ts with | d :: ts => if lo ≤ v then ts.getD (v - lo).toNat d else d | [] => 0
def inR (x : Int) : Prop := -2147483648 ≤ x ∧ x < 2147483648
def inL (x : Int) : Prop := -9223372036854775808 ≤ x ∧ x < 9223372036854775808
def vld (σ : Mem) (C : Nat) (r : Int) : Prop := if C < 17 then 0 ≤ r ∧ r < σ 20 C 0 else if C = 17 then r = 0 else if C = 18 then (r = 0 ∨ r = 1) else C = 19
/-- the memory is of numbers in their ranges, and what its references name is there -/
def Wf (ph : Bool) (σ : Mem) : Prop :=
  (∀ (C : Nat) (r k : Int), C ≤ 18 → C ≠ 15 → C ≠ 16 → inR (σ C r k)) ∧ (∀ r k : Int, inL (σ 15 r k)) ∧ (∀ r k : Int, 0 ≤ σ 16 r k ∧ σ 16 r k < 18446744073709551616) ∧ (∀ r k : Int, 0 ≤ σ 12 r k ∧ σ 12 r k < 65536) ∧
  (∀ (C : Nat) (r : Int) (k : Nat) (f : Nat × Int × Int × Nat), (fsp C)[k]? = some f → f.1 = 1 → σ C r k = 0 ∨ σ C r k = 1) ∧
  (∀ (C : Nat) (r : Int) (k : Nat) (f : Nat × Int × Int × Nat), C < 12 → vld σ C r → (fsp C)[k]? = some f → f.1 = 2 → (ph = true ∨ σ C r k = 1) → vld σ f.2.2.2 (lay f.2.1 f.2.2.1 r)) ∧
  (∀ (r j : Int), vld σ 14 r → 0 ≤ j → j < 8 → (ph = true ∨ σ 14 r j = 1) → vld σ 2 (j + 2))
/-- which call: how many values it takes from the stack -/
def argc (k nkd : Nat) : Nat := if nkd = 2 then nAr k else nAr k + 1
def lessL (ls' ls : Vls) : Prop := ls'.length = ls.length ∧ ∀ (i : Nat) (a : AV), ls'[i]? = some (some a) → ls[i]? = some (some a)
def no19 (ls : Vls) : Prop := ∀ (i : Nat) (r : Int), ls[i]? ≠ some (some (aR 19 r))
abbrev RR : Type := Nat → Nat → Vls → List AV → Mem → Nat → Nat → (Out → Mem → Prop) → Prop
def c_weak (R : RR) : Prop := ∀ k i ls ls' st σ c s Q, lessL ls' ls → R k i ls' st σ c s Q → R k i ls st σ c s Q
def c_plain (ph : Bool) (R : RR) : Prop := ∀ k i ls st σ c s Q pc raw len x P ls' st' σ', (rows k)[i]? = some (pc, raw, len, x) → plain ph raw x ls st σ = some (P, ls', st', σ') → hold P → R k (i + 1) ls' st' σ' c s Q → R k i ls st σ c s Q
def c_goto (R : RR) : Prop := ∀ k i ls st σ c s Q pc off len t, (rows k)[i]? = some (pc, .goto off, len, [t]) → R k t ls st σ c s Q → R k i ls st σ c s Q
def c_if (R : RR) : Prop := ∀ k i ls st σ c s Q pc cd off len t v, (rows k)[i]? = some (pc, .ifCond cd off, len, [t]) → (cnd cd v 0 → R k t ls st σ c s Q) → (¬ cnd cd v 0 → R k (i + 1) ls st σ c s Q) → R k i ls (aI v :: st) σ c s Q
def c_icmp (R : RR) : Prop := ∀ k i ls st σ c s Q pc cd off len t v w, (rows k)[i]? = some (pc, .if_icmp cd off, len, [t]) → (cnd cd v w → R k t ls st σ c s Q) → (¬ cnd cd v w → R k (i + 1) ls st σ c s Q) → R k i ls (aI w :: aI v :: st) σ c s Q
def c_nullN (R : RR) : Prop := ∀ k i ls st σ c s Q pc off len t, (rows k)[i]? = some (pc, .ifnull off, len, [t]) → R k t ls st σ c s Q → R k i ls (aN :: st) σ c s Q
def c_nullR (R : RR) : Prop := ∀ k i ls st σ c s Q pc off len t C r, (rows k)[i]? = some (pc, .ifnull off, len, [t]) → R k (i + 1) ls st σ c s Q → R k i ls (aR C r :: st) σ c s Q
def c_switch (R : RR) : Prop := ∀ k i ls st σ c s Q pc dflt lo hi offs len ts v, (rows k)[i]? = some (pc, .tableswitch dflt lo hi offs, len, ts) → R k (swT lo ts v) ls st σ c s Q → R k i ls (aI v :: st) σ c s Q
def isInv (raw : Instr) (n : Nat) : Bool := match raw with | .invokevirtual _ => decide (n = 0) | .invokestatic _ => decide (n = 2) | .invokespecial _ => decide (n = 3) || decide (n = 4) | _ => false
/-- where a thrown exception of kind E comes to in a method that catches it: rows (E, place of the handler) -/
def inTry (k i : Nat) : Bool := (hhd k).all (fun q => decide (q.1 ≤ pcA k i) && decide (pcA k i < q.2.1))
def tagO (s : String) : Nat := if s = RX0 then 0 else if s = RX1 then 1 else if s = RX2 then 2 else if s = RX3 then 3 else if s = RX4 then 4 else if s = RX5 then 5 else if s = RX6 then 6 else if s = RX7 then 7 else if s = RX8 then 8 else if s = RX9 then 9 else if s = RX10 then 10 else 11
/-- the words of a call that speak of the callee alone -/
def cfOK (k n : Nat) : Bool := decide (k < 278) && (match n with | 0 => isW (wKind k) (.instanceMethod (yy k)) && isW (wSel k) (.selects (own k) (yy k) (yy k)) && decide (((MC[tagO (own k)]?).map (fun q => q.1)) = some (own k)) && decide (hhd k = []) | 2 => isW (wKind k) (.static (yy k)) | _ => isW (wKind k) (.instanceMethod (yy k)) && decide ((yy k).name = "<init>") && decide (rett k = none) && decide (hhd k = []))
def xGo (R : RR) (k i : Nat) (ls : Vls) (E : Nat) (σ : Mem) (c s : Nat) (Q : Out → Mem → Prop) : Prop := match hcat k with
  | [] => Q (.inr E) σ
  | _ => no19 ls ∧ inTry k i = true ∧ ∃ h, (E, h) ∈ hcat k ∧ R k h ls [aR 19 0] σ c s Q
def c_call (R : RR) : Prop := ∀ (k i : Nat) (ls : Vls) (σ : Mem) (c s : Nat) (Q : Out → Mem → Prop) (pc : Nat) (raw : Instr) (len n k' w : Nat) (As rest : List AV) (Q' : Out → Mem → Prop), (rows k)[i]? = some (pc, raw, len, [n, k', w]) → isInv raw n = true → cfOK k' n = true → As.length = argc k' n → As.length ≤ mxl k' → (∀ a ∈ As, isC2 (some a) = false) → rest.length ≤ 4 → (n ≠ 2 → ∃ r, As[0]? = some (aR (tagO (own k')) r)) → frm k' + 1 ≤ frm k → 8 + (mxl k' + 11) + lcl k' ≤ lcl k → c + mcs k' ≤ mcs k → s + mss k' ≤ mss k →
  R k' 0 (As.map some ++ List.replicate (mxl k' - As.length) none) [] σ 0 0 Q' →
  (∀ v σ', Q' (.inl v) σ' → R k (i + 1) ls (v.toList ++ rest) σ' (c + mcs k') (s + mss k') Q) →
  (∀ E σ', Q' (.inr E) σ' → xGo R k i ls E σ' (c + mcs k') (s + mss k') Q) → R k i ls (As.reverse ++ rest) σ c s Q
def c_iret (R : RR) : Prop := ∀ k i ls σ c s Q pc len x v, (rows k)[i]? = some (pc, .ireturn, len, x) → (rett k = some .int ∨ (rett k = some .boolean ∧ (v = 0 ∨ v = 1))) → Q (.inl (some (aI v))) σ → R k i ls [aI v] σ c s Q
def c_dret (R : RR) : Prop := ∀ k i ls σ c s Q pc len x v, (rows k)[i]? = some (pc, .dreturn, len, x) → rett k = some .double → Q (.inl (some (aD v))) σ → R k i ls [aD v] σ c s Q
def c_aret (R : RR) : Prop := ∀ k i ls σ c s Q pc len x v, (rows k)[i]? = some (pc, .areturn, len, x) → rett k = some (.object RX2) → (v = none ∨ ∃ r, v = some (2, r)) → Q (.inl (some (.inr (.inr (.inr v))))) σ → R k i ls [.inr (.inr (.inr v))] σ c s Q
def c_vret (R : RR) : Prop := ∀ k i ls σ c s Q pc len x, (rows k)[i]? = some (pc, .return_, len, x) → rett k = none → Q (.inl none) σ → R k i ls [] σ c s Q
def c_throw (R : RR) : Prop := ∀ k i ls st σ c s Q pc j len E w, (rows k)[i]? = some (pc, .new j, len, [1, E, w]) → hcat k = [] → st.length ≤ 4 → 6 ≤ frm k → c + 1 ≤ mcs k → s + 6 ≤ mss k → Q (.inr E) σ → R k i ls st σ c s Q
/-- what the soundness knows of every state may be used -/
def c_wf (ph : Bool) (R : RR) : Prop := ∀ k i ls st σ c s Q, (Wf ph σ → (∀ (j : Nat) (v : Int), ls[j]? = some (some (aI v)) → inR v) → R k i ls st σ c s Q) → R k i ls st σ c s Q
def c_more (ph : Bool) (R : RR) : Prop := c_wf ph R
def closedR (ph : Bool) (R : RR) : Prop := c_weak R ∧ c_plain ph R ∧ c_goto R ∧ c_if R ∧ c_icmp R ∧ c_nullN R ∧ c_nullR R ∧ c_switch R ∧ c_call R ∧ c_iret R ∧ c_dret R ∧ c_aret R ∧ c_vret R ∧ c_throw R ∧ c_more ph R
/-- the least relation that the rules give -/
def wp (ph : Bool) : RR := fun k i ls st σ c s Q => ∀ R : RR, closedR ph R → R k i ls st σ c s Q
theorem rowLen_bd (r : Int) : 0 ≤ rowLen r ∧ rowLen r ≤ 26640 := by
  unfold rowLen rl18
  repeat' split
  all_goals omega
theorem dropAt {rs : List Rw} {i : Nat} {a : Rw} {t : List Rw} (h : rs.drop i = a :: t) : rs[i]? = some a ∧ rs.drop (i + 1) = t := by
  have h1 : (rs.drop i)[0]? = some a := by rw [h]; rfl
  rw [List.getElem?_drop] at h1
  refine ⟨h1, ?_⟩
  have h2 : (rs.drop i).drop 1 = t := by rw [h]; rfl
  rw [List.drop_drop] at h2
  exact h2
