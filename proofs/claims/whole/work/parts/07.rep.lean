/-! What a heap is to hold: the picture's memory, at addresses that 'ad' tells. -/
abbrev CS : Type := ClassId × ClassId × ClassId × ClassId × ClassId
abbrev AD : Type := Nat → Int → Nat
def val (ad : AD) (a : AV) : Value := match a with
  | .inl x => .int (Int32.ofInt x)
  | .inr (.inl x) => .long (Int64.ofInt x)
  | .inr (.inr (.inl x)) => .double x
  | .inr (.inr (.inr none)) => .null
  | .inr (.inr (.inr (some q))) => .ref (ad q.1 q.2)
def aok (σ : Mem) (a : AV) : Prop := match a with
  | .inl x => inR x
  | .inr (.inl x) => inL x
  | .inr (.inr (.inl _)) => True
  | .inr (.inr (.inr none)) => True
  | .inr (.inr (.inr (some q))) => vld σ q.1 q.2
def fval (ph : Bool) (ad : AD) (σ : Mem) (C : Nat) (r : Int) (k : Nat) (f : Nat × Int × Int × Nat) : Value :=
  if f.1 = 2 then (if ph = true ∨ σ C r k = 1 then .ref (ad f.2.2.2 (lay f.2.1 f.2.2.1 r)) else .null) else .int (Int32.ofInt (σ C r k))
def flds (ph : Bool) (ad : AD) (σ : Mem) (C : Nat) (r : Int) : List Value := (fsp C).mapIdx (fun k f => fval ph ad σ C r k f)
def ent (ph : Bool) (ad : AD) (σ : Mem) (cs : CS) (C : Nat) (r : Int) : va_E :=
  if C < 12 then .inr (C, flds ph ad σ C r)
  else if C = 12 then .inl (cs.1, 60, .inl (fun j => Int32.ofInt (σ 12 r j)))
  else if C = 13 then .inl (cs.2.1, (rowLen r).toNat, .inl (fun j => Int32.ofInt (σ 13 r j)))
  else if C = 14 then .inl (cs.2.2.1, 8, .inr (.inr (.inr (.inr (fun j => if ph = true ∨ σ 14 r j = 1 then some (ad 2 (j + 2)) else none)))))
  else if C = 15 then .inl (cs.2.2.2.1, 1, .inr (.inl (fun j => Int64.ofInt (σ 15 r j))))
  else .inl (cs.2.2.2.2, 1, .inr (.inr (.inr (.inl (fun j => UInt64.ofNat (σ C r j).toNat)))))
def wld (ph : Bool) (ad : AD) (σ : Mem) (cs : CS) (os : List (Nat × Int)) : va_W := os.map (fun o => (ad o.1 o.2, ent ph ad σ cs o.1 o.2))
def TY (cs : CS) : List (ClassId × FieldType) := [(cs.1, .char), (cs.2.1, .int), (cs.2.2.1, .object RX2), (cs.2.2.2.1, .long), (cs.2.2.2.2, .double)]
def Rep (ph : Bool) (D : va_G) (cs : CS) (z : Nat) (ad : AD) (σ : Mem) (H : Heap) : Prop :=
  ∃ os : List (Nat × Int), os.Nodup ∧ (∀ (C : Nat) (r : Int), (C, r) ∈ os ↔ (C < 17 ∧ vld σ C r)) ∧ va_P D MC (wld ph ad σ cs os) H ∧ va_D (fun q => z ≤ q) (wld ph ad σ cs os)
/-- the locals -/
def LsR (ad : AD) (lsR : Array Slot) (n : Nat) (ls : Vls) : Prop := lsR.size = n ∧ ls.length = n ∧ lv_wf lsR ∧ ∀ (i : Nat) (a : AV), ls[i]? = some (some a) → lsR[i]? = some (.val (val ad a))
/-- what is given once for all: the start, its words, the script, the constants -/
abbrev WK : Type := Launch × State × Nat × va_G × CS × Mem × AD
def G0 (K : WK) : Prop := match K with
  | (l, s0, z, D, cs, σs, ads) => l.stackTraces = false ∧ z = s0.heap.size ∧ (∃ args : Array Value, ∀ w ∈ lw_tbl, w.before args s0 = true) ∧ va_K D MC (TY cs) s0 ∧
    (∃ (L : Nat) (xs : Nat → Int32), va_X (ads 17 0) L xs s0 s0.heap ∧ ads 17 0 < z ∧ L < 2147483648 ∧ σs 17 0 (-1) = L ∧ ∀ j : Nat, j < L → σs 17 0 j = (xs j).toInt) ∧
    (∀ a : Nat, a ≤ 1 → va_Z "FencingMeet" (sNm a) "[I" (.ref (ads 18 a)) (fun q => z ≤ q) s0 s0.heap ∧ va_T .int (ads 18 a) 9 (fun j => .int (Int32.ofInt (σs 18 a j))) (fun q => z ≤ q) s0 s0.heap) ∧
    vx_Zq Bundle.tN "UNASSIGNED_STACK" Bundle.steD (fun q => z ≤ q) s0 s0.heap ∧ vx_Zq Bundle.tN "SUPPRESSED_SENTINEL" Bundle.listD (fun q => z ≤ q) s0 s0.heap ∧
    (∀ j ∈ thSt, ∃ (tx : String) (sa : Nat), vk_R RX10 j tx sa s0) ∧ (∀ q ∈ ncP, va_Nc (exN q.1) (exN q.2) s0)
def Rd (K : WK) (ad : AD) (σ : Mem) : Prop := match K with
  | (_, _, _, _, _, σs, ads) => (∀ r k : Int, σ 17 r k = σs 17 r k ∧ σ 18 r k = σs 18 r k) ∧ ad 17 0 = ads 17 0 ∧ ad 18 0 = ads 18 0 ∧ ad 18 1 = ads 18 1
def Ext (σ0 : Mem) (ad0 : AD) (σ : Mem) (ad : AD) : Prop := ∀ (C : Nat) (r : Int), C < 17 → vld σ0 C r → (vld σ C r ∧ ad C r = ad0 C r)
/-- a state of the world -/
def Sw (ph : Bool) (K : WK) (ad : AD) (σ : Mem) (H : Heap) : Prop := match K with
  | (_, _, z, D, cs, _, _) => Rep ph D cs z ad σ H ∧ Wf ph σ ∧ Rd K ad σ
/-- a state that an activation begins with, or ends with -/
def Bg (K : WK) (U : State) : Prop := match K with
  | (_, s0, z, _, _, _, _) => s0.WarmedH U.vm ∧ z ≤ U.heap.size ∧ ∀ q : Nat, q < z → U.heap[q]? = s0.heap[q]?
def rm (k : Nat) : Room := { frames := frm k, cells := mcs k, slots := mss k, locals := lcl k }
def Zp (K : WK) : Nat → Prop := match K with | (_, _, z, _, _, _, _) => fun q => z ≤ q
def Cx (K : WK) (k : Nat) (p : Program) (sx : State) (m : MethodId) (meth : Method) (cd : Code) : Prop :=
  p.tables.exec = Jvm.exec ∧ cd.code = byt k ∧ meth.sig.returnType = rett k ∧ cd.maxLocals = mxl k ∧ sx.vm.findClass (own k) = some m.cls ∧ meth.locks = false ∧ meth.name = (yy k).name ∧ cd.exceptionTable.toList = tableOf (hhd k) ∧ Bg K sx
def QcO (ph : Bool) (K : WK) (σ0 : Mem) (ad0 : AD) (Q : Out → Mem → Prop) : Array Value → State → Outcome → State → Prop := fun _ st o t =>
  ∃ (ad' : AD) (σ' : Mem) (v : Option AV), o = .returned (v.map (val ad')) ∧ Q (.inl v) σ' ∧ (∀ a, v = some a → aok σ' a) ∧ Ext σ0 ad0 σ' ad' ∧ (∀ r : Int, ad' 19 r = ad0 19 r) ∧ Sw ph K ad' σ' t.heap ∧ va_F (Zp K) st t
def XcO (ph : Bool) (K : WK) (σ0 : Mem) (ad0 : AD) (Q : Out → Mem → Prop) : String → State → State → Prop := fun E st t =>
  ∃ (ad' : AD) (σ' : Mem) (e : Nat), E = exN e ∧ e < 6 ∧ Q (.inr e) σ' ∧ Ext σ0 ad0 σ' ad' ∧ (∀ r : Int, ad' 19 r = ad0 19 r) ∧ Sw ph K ad' σ' t.heap ∧ va_F (Zp K) st t
def Wst (ph : Bool) (K : WK) : RR := fun k i ls st σ c s Q => ∀ (p : Program) (e : Env) (sx : State) (m : MethodId) (args : Array Value) (below : List Frame) (meth : Method) (cd : Code) (σ0 : Mem) (ad0 ad : AD) (H : Heap) (locs : List Loc) (lsR : Array Slot),
  Cx K k p sx m meth cd → va_S (Zp K) sx.heap H locs → Ext σ0 ad0 σ ad → Sw ph K ad σ H → (∀ a ∈ st, aok σ a) → (∀ (j : Nat) (a : AV), ls[j]? = some (some a) → aok σ a) → LsR ad lsR (mxl k) ls → c ≤ mcs k → s ≤ mss k →
  W p K.1 e (rm k) sx m args below meth cd H locs c s (vx_MQ below (QcO ph K σ0 ad0 Q) (XcO ph K σ0 ad0 Q) args sx (mcs k) (mss k) (Zp K)) (F0 m (pcA k i) lsR (st.map (val ad)))
