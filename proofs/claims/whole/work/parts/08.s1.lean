theorem ofI_wr (x : Int) : Int32.ofInt (wr x) = Int32.ofInt x := by
  rw [← Int32.toInt_inj]; simp only [Int32.toInt_ofInt, wr]; exact Int.bmod_bmod
theorem ofL_wl (x : Int) : Int64.ofInt (wl x) = Int64.ofInt x := by
  rw [← Int64.toInt_inj]; simp only [Int64.toInt_ofInt, wl]; exact Int.bmod_bmod
theorem wr_in (x : Int) : inR (wr x) := by
  have h1 := Int.le_bmod (x := x) (m := 4294967296) (by decide)
  have h2 := Int.bmod_lt (x := x) (m := 4294967296) (by decide)
  simp only [wr, inR]; omega
theorem wl_in (x : Int) : inL (wl x) := by
  have h1 := Int.le_bmod (x := x) (m := 18446744073709551616) (by decide)
  have h2 := Int.bmod_lt (x := x) (m := 18446744073709551616) (by decide)
  simp only [wl, inL]; omega
theorem toI_of {x : Int} (h : inR x) : (Int32.ofInt x).toInt = x := Int32.toInt_ofInt_of_le h.1 h.2
theorem toL_of {x : Int} (h : inL x) : (Int64.ofInt x).toInt = x := Int64.toInt_ofInt_of_le h.1 h.2
theorem inR_toI (x : Int32) : inR x.toInt := ⟨Int32.le_toInt x, Int32.toInt_lt x⟩
theorem of_toI (x : Int32) : Int32.ofInt x.toInt = x := Int32.ofInt_toInt x
theorem inRL {x : Int} (h : inR x) : inL x := by simp only [inR, inL] at *; omega
theorem tmod_abs (x y : Int) : -(x.natAbs : Int) ≤ x.tmod y ∧ x.tmod y ≤ (x.natAbs : Int) := by
  have h : (x.tmod y).natAbs ≤ x.natAbs := by rw [Int.natAbs_tmod]; exact Nat.mod_le _ _
  omega
theorem tmod_in {x y : Int} (h : inR x) : inR (x.tmod y) := by
  have h1 := tmod_abs x y
  have h2 : x.tmod y ≤ 2147483647 ∨ x = -2147483648 := by
    simp only [inR] at h; omega
  rcases h2 with h2 | h2
  · simp only [inR] at *; omega
  · have h3 : x.tmod y ≤ 0 := by
      have := Int.tmod_nonneg (a := -x) (-y) (by omega)
      rw [Int.neg_tmod, Int.tmod_neg] at this
      omega
    simp only [inR] at *; omega
theorem tmodL_in {x y : Int} (h : inL x) : inL (x.tmod y) := by
  have h1 := tmod_abs x y
  have h2 : x.tmod y ≤ 9223372036854775807 ∨ x = -9223372036854775808 := by
    simp only [inL] at h; omega
  rcases h2 with h2 | h2
  · simp only [inL] at *; omega
  · have h3 : x.tmod y ≤ 0 := by
      have := Int.tmod_nonneg (a := -x) (-y) (by omega)
      rw [Int.neg_tmod, Int.tmod_neg] at this
      omega
    simp only [inL] at *; omega
theorem ofL_ofI {x : Int} (h : inR x) : Int64.ofInt x = (Int32.ofInt x).toInt64 := by
  rw [← Int64.toInt_inj, Int32.toInt_toInt64, toI_of h, toL_of (inRL h)]
theorem l2i_eq {x : Int} (h : inL x) : (Int64.ofInt x).toInt32 = Int32.ofInt (wr x) := by
  rw [← Int32.toInt_inj, Int64.toInt_toInt32, toL_of h, toI_of (wr_in _)]; rfl
theorem i2c_in (x : Int) : inR (x % 65536) := by simp only [inR]; omega
theorem i2c_eq {x : Int} (h : inR x) : ((Int32.ofInt x).toUInt32 % 65536).toInt32 = Int32.ofInt (x % 65536) := by
  rw [pk_char, ← Int32.toInt_inj, toI_of (i2c_in _), nI_toInt (by have := Nat.mod_lt (Int32.ofInt x).toBitVec.toNat (show 0 < 65536 by decide); omega)]
  have e : (Int32.ofInt x).toInt = x := toI_of h
  have e2 : (Int32.ofInt x).toInt = (Int32.ofInt x).toBitVec.toInt := rfl
  rw [e2, BitVec.toInt_eq_toNat_cond] at e
  have h3 := (Int32.ofInt x).toBitVec.isLt
  split at e <;> omega
theorem lcmp_in (x y : Int) : inR (lcmpI x y) := by
  simp only [lcmpI, inR]
  split
  · omega
  · split <;> omega
theorem lcmp_eq {x y : Int} (hx : inL x) (hy : inL y) : lg_cmp (Int64.ofInt x) (Int64.ofInt y) = Int32.ofInt (lcmpI x y) := by
  unfold lg_cmp lcmpI
  simp only [gt_iff_lt, Int64.lt_iff_toInt_lt, ← Int64.toInt_inj, toL_of hx, toL_of hy]
  split
  · rfl
  · split <;> rfl
theorem i8_eq {n : Int} (h : -128 ≤ n ∧ n < 128) : (Int8.ofInt n).toInt32 = Int32.ofInt n := by
  rw [← Int32.toInt_inj, Int8.toInt_toInt32, Int8.toInt_ofInt_of_le h.1 h.2, toI_of ⟨by omega, by omega⟩]
theorem i16_eq {n : Int} (h : -32768 ≤ n ∧ n < 32768) : (Int16.ofInt n).toInt32 = Int32.ofInt n := by
  rw [← Int32.toInt_inj, Int16.toInt_toInt32, Int16.toInt_ofInt_of_le h.1 h.2, toI_of ⟨by omega, by omega⟩]
theorem i8_in {n : Int} (h : -128 ≤ n ∧ n < 128) : inR n := ⟨by omega, by omega⟩
theorem i16_in {n : Int} (h : -32768 ≤ n ∧ n < 32768) : inR n := ⟨by omega, by omega⟩
theorem nR {n : Nat} (h : n < 2147483648) : inR (n : Int) := ⟨by omega, by omega⟩
theorem nL {n : Nat} (h : n < 2147483649) : inL (n : Int) := ⟨by omega, by omega⟩
theorem cat1 {ad : AD} {a : AV} (h : ¬ isC2 (some a) = true) : (val ad a).category = 1 := by
  rcases a with x | x | x | (_ | q)
  · rfl
  · exact absurd rfl h
  · exact absurd rfl h
  · rfl
  · rfl
theorem kd0 {a : AV} (h : kdOf a = 0) : ∃ u, a = aI u := by
  rcases a with x | x | x | x
  · exact ⟨x, rfl⟩
  all_goals simp [kdOf] at h
theorem kd2 {a : AV} (h : kdOf a = 2) : ∃ u, a = aD u := by
  rcases a with x | x | x | x
  · simp [kdOf] at h
  · simp [kdOf] at h
  · exact ⟨x, rfl⟩
  · simp [kdOf] at h
theorem kd3 {a : AV} (h : kdOf a = 3) : ∃ u : Option (Nat × Int), a = .inr (.inr (.inr u)) := by
  rcases a with x | x | x | x
  · simp [kdOf] at h
  · simp [kdOf] at h
  · simp [kdOf] at h
  · exact ⟨x, rfl⟩
/-- what a row says of the machine -/
theorem pcL_next : ∀ (rs : List Rw) (pc i : Nat) (r : Rw), pcsOK pc rs = true → rs[i]? = some r → pcL rs i = r.1 ∧ pcL rs (i + 1) = r.1 + r.2.2.1
  | [], _, i, r, _, h => by simp at h
  | a :: [], pc, i, r, hp, h => by
    cases i with
    | zero => simp at h; subst h; exact ⟨rfl, rfl⟩
    | succ i => simp at h
  | a :: a' :: rs, pc, i, r, hp, h => by
    have hp' := hp
    simp only [pcsOK, Bool.and_eq_true, decide_eq_true_eq] at hp'
    obtain ⟨h1, h2, h3⟩ := hp'
    cases i with
    | zero =>
      simp at h; subst h
      refine ⟨rfl, ?_⟩
      show a'.1 = _
      rw [h2, ← h1]
    | succ i =>
      have hq : pcsOK (pc + a.2.2.1) (a' :: rs) = true := by simp only [pcsOK, Bool.and_eq_true, decide_eq_true_eq]; exact ⟨h2, h3⟩
      have := pcL_next (a' :: rs) (pc + a.2.2.1) i r hq (by simpa using h)
      exact this
theorem ck_parts (k : Nat) : dcOK (byt k) (rows k) = true ∧ lnOK (own k) (rows k) = true ∧ shOK (rows k) = true ∧ nmM (mi k) = true := by
  have h := ckK k
  unfold ckM mdM at h
  rw [Bool.and_eq_true, Bool.and_eq_true, Bool.and_eq_true] at h
  exact ⟨h.1.1, h.1.2, h.2.1, h.2.2⟩
theorem dc_at {b : ByteArray} {rs : List Rw} (h : dcOK b rs = true) {r : Rw} (hr : r ∈ rs) : decode b r.1 = .ok (r.2.1, r.2.2.1) := of_decide_eq_true (List.all_eq_true.mp h r hr)
theorem ln_at {o : String} {rs : List Rw} (h : lnOK o rs = true) {r : Rw} (hr : r ∈ rs) : lkOK o r.2.1 r.2.2.2 = true := List.all_eq_true.mp h r hr
theorem sh_at {rs : List Rw} (h : shOK rs = true) {r : Rw} (hr : r ∈ rs) : pcsOK 0 rs = true ∧ jpOK rs r = true ∧ (ilen r.2.1 = 0 ∨ r.2.2.1 = ilen r.2.1) := by
  unfold shOK at h
  rw [Bool.and_eq_true] at h
  have h2 := List.all_eq_true.mp h.2 r hr
  rw [Bool.and_eq_true, Bool.or_eq_true, decide_eq_true_eq, decide_eq_true_eq] at h2
  exact ⟨h.1, h2.1, h2.2⟩
theorem dc_k {k pc len : Nat} {raw : Instr} {x : List Nat} (h : (pc, raw, len, x) ∈ rows k) : decode (byt k) pc = .ok (raw, len) := dc_at (r := (pc, raw, len, x)) (ck_parts k).1 h
theorem ln_k {k pc len : Nat} {raw : Instr} {x : List Nat} (h : (pc, raw, len, x) ∈ rows k) : lkOK (own k) raw x = true := ln_at (r := (pc, raw, len, x)) (ck_parts k).2.1 h
theorem sh_k {k pc len : Nat} {raw : Instr} {x : List Nat} (h : (pc, raw, len, x) ∈ rows k) : pcsOK 0 (rows k) = true ∧ jpOK (rows k) (pc, raw, len, x) = true ∧ (ilen raw = 0 ∨ len = ilen raw) := sh_at (r := (pc, raw, len, x)) (ck_parts k).2.2.1 h
theorem pc_k {k i pc len : Nat} {raw : Instr} {x : List Nat} (hr : (rows k)[i]? = some (pc, raw, len, x)) : pcA k i = pc ∧ pcA k (i + 1) = pc + len := pcL_next (rows k) 0 i (pc, raw, len, x) (sh_k (List.mem_of_getElem? hr)).1 hr
theorem row_of {k i pc len : Nat} {raw : Instr} {x : List Nat} (hr : (rows k)[i]? = some (pc, raw, len, x)) :
    decode (byt k) pc = .ok (raw, len) ∧ lkOK (own k) raw x = true ∧ jpOK (rows k) (pc, raw, len, x) = true ∧ (ilen raw = 0 ∨ len = ilen raw) ∧ pcA k i = pc ∧ pcA k (i + 1) = pc + len :=
  And.intro (dc_k (List.mem_of_getElem? hr)) (And.intro (ln_k (List.mem_of_getElem? hr)) (And.intro (sh_k (List.mem_of_getElem? hr)).2.1 (And.intro (sh_k (List.mem_of_getElem? hr)).2.2 (pc_k hr))))
theorem cn_row {k i pc len : Nat} {raw : Instr} {x : List Nat} (hr : (rows k)[i]? = some (pc, raw, len, x)) : cnR raw = true := List.all_eq_true.mp (cnAll _ (mi_mem k)) _ (List.mem_of_getElem? hr)
theorem cn_i {k i pc len : Nat} {n : Int} {x : List Nat} (hr : (rows k)[i]? = some (pc, .iconst n, len, x)) : inR n := of_decide_eq_true (p := -2147483648 ≤ n ∧ n < 2147483648) (cn_row hr)
theorem cn_b {k i pc len : Nat} {n : Int} {x : List Nat} (hr : (rows k)[i]? = some (pc, .bipush n, len, x)) : -128 ≤ n ∧ n < 128 := of_decide_eq_true (cn_row hr)
theorem cn_s {k i pc len : Nat} {n : Int} {x : List Nat} (hr : (rows k)[i]? = some (pc, .sipush n, len, x)) : -32768 ≤ n ∧ n < 32768 := of_decide_eq_true (cn_row hr)
/-- a word that holds at the start holds at any state that is warmer -/
theorem wd {K : WK} (hG : G0 K) {U : State} (hB : Bg K U) {w : Cond} (hm : w ∈ lw_tbl) (hg : goodWord w = true) (a' : Array Value) : w.before a' U = true := by
  obtain ⟨l, s0, z, D, cs, σs, ads⟩ := K
  obtain ⟨-, -, ⟨a, hw⟩, -⟩ := hG
  exact word_at hB.1 (good_of_word hg) (hw w hm)
theorem wdF {K : WK} (hG : G0 K) {U : State} (hB : Bg K U) {a b n d h : String} {i : Nat} (hm : Cond.fieldLinkNest a i b n d h ∈ lw_tbl) (a' : Array Value) : (Cond.fieldLinkNest a i b n d h).before a' U = true := by
  obtain ⟨l, s0, z, D, cs, σs, ads⟩ := K
  obtain ⟨-, -, ⟨ar, hw⟩, -⟩ := hG
  exact va_Nw.use rfl (va_Nw.warmF hB.1 (va_Nw.of rfl (hw _ hm)))
theorem wdM' {K : WK} (hG : G0 K) {U : State} (hB : Bg K U) {a h : String} {x : MethodName} {i : Nat} (hm : Cond.methodLinkNest a i x h ∈ lw_tbl) : va_Nw (.methodLinkNest a i x h) U := by
  obtain ⟨l, s0, z, D, cs, σs, ads⟩ := K
  obtain ⟨-, -, ⟨ar, hw⟩, -⟩ := hG
  exact va_Nw.warmM hB.1 (va_Nw.of rfl (hw _ hm))
theorem kK {K : WK} (hG : G0 K) {U : State} (hB : Bg K U) : va_K K.2.2.2.1 MC (TY K.2.2.2.2.1) U := by
  obtain ⟨l, s0, z, D, cs, σs, ads⟩ := K
  exact va_K.moved hB.1.alike hG.2.2.2.1
section Pure
variable {ph : Bool} {K : WK} {k i pc len : Nat} {raw : Instr} {x : List Nat} {ls ls' : Vls} {st st' : List AV} {σ σ' : Mem} {P : Option Prop} {c s : Nat} {Q : Out → Mem → Prop}
/-- an instruction that turns the stack alone -/
theorem s_pg (hr : (rows k)[i]? = some (pc, raw, len, x))
    (hok : (∀ a ∈ st, aok σ a) → (∀ (j : Nat) (a : AV), ls[j]? = some (some a) → aok σ a) → Wf ph σ → ∀ a ∈ st', aok σ a)
    (hw : ∀ {p : Program} {e : Env} {sx : State} {m : MethodId} {args : Array Value} {below : List Frame} {meth : Method} {cd : Code} {H : Heap} {locs : List Loc} {lsR : Array Slot} {ad : AD} {Qf : State → Prop},
      Cx K k p sx m meth cd → decode (byt k) pc = .ok (raw, len) → LsR ad lsR (mxl k) ls → (∀ a ∈ st, aok σ a) → va_S (Zp K) sx.heap H locs → Sw ph K ad σ H →
      W p K.1 e (rm k) sx m args below meth cd H locs c s Qf (F0 m (pc + len) lsR (st'.map (val ad))) → W p K.1 e (rm k) sx m args below meth cd H locs c s Qf (F0 m pc lsR (st.map (val ad))))
    (hn : Wst ph K k (i + 1) ls st' σ c s Q) : Wst ph K k i ls st σ c s Q := by
  intro p e sx m args below meth cd σ0 ad0 ad H locs lsR hC hS hE hT ha hl hL hc1 hc2
  obtain ⟨hd, -, -, -, e1, e2⟩ := row_of hr
  rw [e1]
  refine hw hC hd hL ha hS hT ?_
  have hWf : Wf ph σ := by
    obtain ⟨l, s0, z, D, cs, σs, ads⟩ := K
    exact hT.2.1
  have h := hn p e sx m args below meth cd σ0 ad0 ad H locs lsR hC hS hE hT (hok ha hl hWf) hl hL hc1 hc2
  rw [e2] at h
  exact h
theorem s_pu (hr : (rows k)[i]? = some (pc, raw, len, x))
    (hok : (∀ a ∈ st, aok σ a) → (∀ (j : Nat) (a : AV), ls[j]? = some (some a) → aok σ a) → Wf ph σ → ∀ a ∈ st', aok σ a)
    (hw : ∀ {p : Program} {e : Env} {sx : State} {m : MethodId} {args : Array Value} {below : List Frame} {meth : Method} {cd : Code} {H : Heap} {locs : List Loc} {lsR : Array Slot} {ad : AD} {Qf : State → Prop},
      Cx K k p sx m meth cd → decode (byt k) pc = .ok (raw, len) → LsR ad lsR (mxl k) ls → (∀ a ∈ st, aok σ a) →
      W p K.1 e (rm k) sx m args below meth cd H locs c s Qf (F0 m (pc + len) lsR (st'.map (val ad))) → W p K.1 e (rm k) sx m args below meth cd H locs c s Qf (F0 m pc lsR (st.map (val ad))))
    (hn : Wst ph K k (i + 1) ls st' σ c s Q) : Wst ph K k i ls st σ c s Q := s_pg hr hok (fun hC hd hL ha _ _ hk => hw hC hd hL ha hk) hn
theorem tl2 {P : AV → Prop} {a b : AV} {r : List AV} (h : ∀ q ∈ a :: b :: r, P q) : P a ∧ P b ∧ ∀ q ∈ r, P q := ⟨h _ (by simp), h _ (by simp), fun q hq => h q (by simp [hq])⟩
theorem tl1 {P : AV → Prop} {a : AV} {r : List AV} (h : ∀ q ∈ a :: r, P q) : P a ∧ ∀ q ∈ r, P q := ⟨h _ (by simp), fun q hq => h q (by simp [hq])⟩
theorem mk1 {P : AV → Prop} {a : AV} {r : List AV} (h : P a) (h2 : ∀ q ∈ r, P q) : ∀ q ∈ a :: r, P q := fun q hq => (List.mem_cons.mp hq).elim (fun e => e ▸ h) (h2 q)
theorem mkI {v : Int} {r : List AV} (h : inR v) (h2 : ∀ q ∈ r, aok σ q) : ∀ q ∈ aI v :: r, aok σ q := mk1 (P := aok σ) (a := aI v) h h2
theorem mkL {v : Int} {r : List AV} (h : inL v) (h2 : ∀ q ∈ r, aok σ q) : ∀ q ∈ aL v :: r, aok σ q := mk1 (P := aok σ) (a := aL v) h h2
theorem mkD {v : UInt64} {r : List AV} (h2 : ∀ q ∈ r, aok σ q) : ∀ q ∈ aD v :: r, aok σ q := mk1 (P := aok σ) (a := aD v) True.intro h2
theorem mkN {r : List AV} (h2 : ∀ q ∈ r, aok σ q) : ∀ q ∈ aN :: r, aok σ q := mk1 (P := aok σ) (a := aN) True.intro h2
theorem b_inv {f : Int → Int → Int} (h : bin f ls σ st = some (P, ls', st', σ')) : ∃ y x r, st = aI y :: aI x :: r ∧ P = none ∧ ls' = ls ∧ st' = aI (f x y) :: r ∧ σ' = σ := by
  unfold bin at h
  split at h
  · cases h; exact ⟨_, _, _, rfl, rfl, rfl, rfl, rfl⟩
  · cases h
theorem bP_inv {f : Int → Int → Int} (h : binP f ls σ st = some (P, ls', st', σ')) : ∃ y x r, st = aI y :: aI x :: r ∧ P = some (y ≠ 0) ∧ ls' = ls ∧ st' = aI (f x y) :: r ∧ σ' = σ := by
  unfold binP at h
  split at h
  · cases h; exact ⟨_, _, _, rfl, rfl, rfl, rfl, rfl⟩
  · cases h
theorem bL_inv {f : Int → Int → Int} (h : binL f ls σ st = some (P, ls', st', σ')) : ∃ y x r, st = aL y :: aL x :: r ∧ P = none ∧ ls' = ls ∧ st' = aL (f x y) :: r ∧ σ' = σ := by
  unfold binL at h
  split at h
  · cases h; exact ⟨_, _, _, rfl, rfl, rfl, rfl, rfl⟩
  · cases h
theorem getD_some {j : Nat} {v : AV} (h : ls.getD j none = some v) : ls[j]? = some (some v) := by
  rw [List.getD_eq_getElem?_getD] at h
  cases h2 : ls[j]? with
  | none => rw [h2] at h; cases h
  | some u => rw [h2] at h; rw [show u = some v from h]
theorem ld_inv {kd j : Nat} (h : ldp kd ls j st σ = some (P, ls', st', σ')) : ∃ v, ls[j]? = some (some v) ∧ kdOf v = kd ∧ P = none ∧ ls' = ls ∧ st' = v :: st ∧ σ' = σ := by
  unfold ldp at h
  split at h
  · rename_i a ha
    split at h
    · rename_i hk
      cases h; exact ⟨_, getD_some ha, hk, rfl, rfl, rfl, rfl⟩
    · cases h
  · cases h
theorem s_iadd (hr : (rows k)[i]? = some (pc, .iadd, len, x)) (h : plain ph (.iadd) x ls st σ = some (P, ls', st', σ')) (hP : hold P) (hn : Wst ph K k (i + 1) ls' st' σ' c s Q) : Wst ph K k i ls st σ c s Q := by
  obtain ⟨y, z, r, rfl, -, rfl, rfl, rfl⟩ := b_inv h
  have hlen : len = 1 := (row_of hr).2.2.2.1.resolve_left (by decide)
  subst hlen
  refine s_pu hr (fun h _ _ => mkI (wr_in _) (tl2 h).2.2) (fun hC hd hL _ hk => ?_) hn
  refine lv_iadd hC.1 hC.2.1 hd ?_
  have e : Int32.ofInt (wr (z + y)) = Int32.ofInt z + Int32.ofInt y := by rw [ofI_wr, Int32.ofInt_add]
  simp only [List.map_cons, val, e] at hk
  exact hk
theorem s_isub (hr : (rows k)[i]? = some (pc, .isub, len, x)) (h : plain ph (.isub) x ls st σ = some (P, ls', st', σ')) (hP : hold P) (hn : Wst ph K k (i + 1) ls' st' σ' c s Q) : Wst ph K k i ls st σ c s Q := by
  obtain ⟨y, z, r, rfl, -, rfl, rfl, rfl⟩ := b_inv h
  have hlen : len = 1 := (row_of hr).2.2.2.1.resolve_left (by decide)
  subst hlen
  refine s_pu hr (fun h _ _ => mkI (wr_in _) (tl2 h).2.2) (fun hC hd hL _ hk => ?_) hn
  refine lv_isub hC.1 hC.2.1 hd ?_
  have e : Int32.ofInt (wr (z - y)) = Int32.ofInt z - Int32.ofInt y := by rw [ofI_wr, Int32.ofInt_sub]
  simp only [List.map_cons, val, e] at hk
  exact hk
theorem s_imul (hr : (rows k)[i]? = some (pc, .imul, len, x)) (h : plain ph (.imul) x ls st σ = some (P, ls', st', σ')) (hP : hold P) (hn : Wst ph K k (i + 1) ls' st' σ' c s Q) : Wst ph K k i ls st σ c s Q := by
  obtain ⟨y, z, r, rfl, -, rfl, rfl, rfl⟩ := b_inv h
  have hlen : len = 1 := (row_of hr).2.2.2.1.resolve_left (by decide)
  subst hlen
  refine s_pu hr (fun h _ _ => mkI (wr_in _) (tl2 h).2.2) (fun hC hd hL _ hk => ?_) hn
  refine lv_imul hC.1 hC.2.1 hd ?_
  have e : Int32.ofInt (wr (z * y)) = Int32.ofInt z * Int32.ofInt y := by rw [ofI_wr, Int32.ofInt_mul]
  simp only [List.map_cons, val, e] at hk
  exact hk
theorem s_iand (hr : (rows k)[i]? = some (pc, .iand, len, x)) (h : plain ph (.iand) x ls st σ = some (P, ls', st', σ')) (hP : hold P) (hn : Wst ph K k (i + 1) ls' st' σ' c s Q) : Wst ph K k i ls st σ c s Q := by
  obtain ⟨y, z, r, rfl, -, rfl, rfl, rfl⟩ := b_inv h
  have hlen : len = 1 := (row_of hr).2.2.2.1.resolve_left (by decide)
  subst hlen
  refine s_pu hr (fun h _ _ => mkI (inR_toI _) (tl2 h).2.2) (fun hC hd hL _ hk => ?_) hn
  refine lv_iand hC.1 hC.2.1 hd ?_
  simp only [List.map_cons, val, iandI, of_toI] at hk
  exact hk
theorem s_ishr (hr : (rows k)[i]? = some (pc, .ishr, len, x)) (h : plain ph (.ishr) x ls st σ = some (P, ls', st', σ')) (hP : hold P) (hn : Wst ph K k (i + 1) ls' st' σ' c s Q) : Wst ph K k i ls st σ c s Q := by
  obtain ⟨y, z, r, rfl, -, rfl, rfl, rfl⟩ := b_inv h
  have hlen : len = 1 := (row_of hr).2.2.2.1.resolve_left (by decide)
  subst hlen
  refine s_pu hr (fun h _ _ => mkI (inR_toI _) (tl2 h).2.2) (fun hC hd hL _ hk => ?_) hn
  refine lv_ishr hC.1 hC.2.1 hd ?_
  simp only [List.map_cons, val, ishrI, of_toI] at hk
  exact hk
theorem s_idiv (hr : (rows k)[i]? = some (pc, .idiv, len, x)) (h : plain ph (.idiv) x ls st σ = some (P, ls', st', σ')) (hP : hold P) (hn : Wst ph K k (i + 1) ls' st' σ' c s Q) : Wst ph K k i ls st σ c s Q := by
  obtain ⟨y, z, r, rfl, rfl, rfl, rfl, rfl⟩ := bP_inv h
  have hlen : len = 1 := (row_of hr).2.2.2.1.resolve_left (by decide)
  subst hlen
  refine s_pu hr (fun h _ _ => mkI (wr_in _) (tl2 h).2.2) (fun hC hd hL ha hk => ?_) hn
  have hy : inR y := (tl2 ha).1
  have hz : inR z := (tl2 ha).2.1
  refine lv_idiv hC.1 hC.2.1 hd (fun h0 => hP ?_) ?_
  · have h1 := congrArg Int32.toInt h0
    rw [toI_of hy] at h1
    exact h1
  have e : Int32.ofInt (wr (z.tdiv y)) = Int32.ofInt z / Int32.ofInt y := by rw [ofI_wr, Int32.ofInt_tdiv hz.1 (by have := hz.2; show z ≤ 2147483647; omega) hy.1 (by have := hy.2; show y ≤ 2147483647; omega)]
  simp only [List.map_cons, val, e] at hk
  exact hk
theorem s_irem (hr : (rows k)[i]? = some (pc, .irem, len, x)) (h : plain ph (.irem) x ls st σ = some (P, ls', st', σ')) (hP : hold P) (hn : Wst ph K k (i + 1) ls' st' σ' c s Q) : Wst ph K k i ls st σ c s Q := by
  obtain ⟨y, z, r, rfl, rfl, rfl, rfl, rfl⟩ := bP_inv h
  have hlen : len = 1 := (row_of hr).2.2.2.1.resolve_left (by decide)
  subst hlen
  refine s_pu hr (fun h _ _ => mkI (tmod_in (tl2 h).2.1) (tl2 h).2.2) (fun hC hd hL ha hk => ?_) hn
  have hy : inR y := (tl2 ha).1
  have hz : inR z := (tl2 ha).2.1
  refine lv_irem hC.1 hC.2.1 hd (fun h0 => hP ?_) ?_
  · have h1 := congrArg Int32.toInt h0
    rw [toI_of hy] at h1
    exact h1
  have e : Int32.ofInt (z.tmod y) = Int32.ofInt z - Int32.ofInt z / Int32.ofInt y * Int32.ofInt y := by rw [← Int32.ofInt_tdiv hz.1 (by have := hz.2; show z ≤ 2147483647; omega) hy.1 (by have := hy.2; show y ≤ 2147483647; omega), ← Int32.ofInt_mul, ← Int32.ofInt_sub]; congr 1; rw [Int.tmod_def, Int.mul_comm]
  simp only [List.map_cons, val, e] at hk
  exact hk
theorem s_ladd (hr : (rows k)[i]? = some (pc, .ladd, len, x)) (h : plain ph (.ladd) x ls st σ = some (P, ls', st', σ')) (hP : hold P) (hn : Wst ph K k (i + 1) ls' st' σ' c s Q) : Wst ph K k i ls st σ c s Q := by
  obtain ⟨y, z, r, rfl, -, rfl, rfl, rfl⟩ := bL_inv h
  have hlen : len = 1 := (row_of hr).2.2.2.1.resolve_left (by decide)
  subst hlen
  refine s_pu hr (fun h _ _ => mkL (wl_in _) (tl2 h).2.2) (fun hC hd hL _ hk => ?_) hn
  refine lv_ladd hC.1 hC.2.1 hd ?_
  have e : Int64.ofInt (wl (z + y)) = Int64.ofInt z + Int64.ofInt y := by rw [ofL_wl, Int64.ofInt_add]
  simp only [List.map_cons, val, e] at hk
  exact hk
theorem s_lmul (hr : (rows k)[i]? = some (pc, .lmul, len, x)) (h : plain ph (.lmul) x ls st σ = some (P, ls', st', σ')) (hP : hold P) (hn : Wst ph K k (i + 1) ls' st' σ' c s Q) : Wst ph K k i ls st σ c s Q := by
  obtain ⟨y, z, r, rfl, -, rfl, rfl, rfl⟩ := bL_inv h
  have hlen : len = 1 := (row_of hr).2.2.2.1.resolve_left (by decide)
  subst hlen
  refine s_pu hr (fun h _ _ => mkL (wl_in _) (tl2 h).2.2) (fun hC hd hL _ hk => ?_) hn
  refine lv_lmul hC.1 hC.2.1 hd ?_
  have e : Int64.ofInt (wl (z * y)) = Int64.ofInt z * Int64.ofInt y := by rw [ofL_wl, Int64.ofInt_mul]
  simp only [List.map_cons, val, e] at hk
  exact hk
theorem s_i2l (hr : (rows k)[i]? = some (pc, .i2l, len, x)) (h : plain ph (.i2l) x ls st σ = some (P, ls', st', σ')) (hP : hold P) (hn : Wst ph K k (i + 1) ls' st' σ' c s Q) : Wst ph K k i ls st σ c s Q := by
  simp only [plain] at h
  split at h
  · cases h
    have hlen : len = 1 := (row_of hr).2.2.2.1.resolve_left (by simp [ilen])
    subst hlen
    refine s_pu hr (fun h hl hw => mkL (inRL (tl1 h).1) (tl1 h).2) (fun hC hd hL ha hk => ?_) hn
    refine lv_i2l hC.1 hC.2.1 hd rfl ?_
    have e : Int64.ofInt _ = _ := ofL_ofI (tl1 ha).1
    simp only [List.map_cons, val, e] at hk
    exact hk
  · cases h
theorem s_i2c (hr : (rows k)[i]? = some (pc, .i2c, len, x)) (h : plain ph (.i2c) x ls st σ = some (P, ls', st', σ')) (hP : hold P) (hn : Wst ph K k (i + 1) ls' st' σ' c s Q) : Wst ph K k i ls st σ c s Q := by
  simp only [plain] at h
  split at h
  · cases h
    have hlen : len = 1 := (row_of hr).2.2.2.1.resolve_left (by simp [ilen])
    subst hlen
    refine s_pu hr (fun h hl hw => mkI (i2c_in _) (tl1 h).2) (fun hC hd hL ha hk => ?_) hn
    refine lv_i2c hC.1 hC.2.1 hd rfl ?_
    have e := (i2c_eq (tl1 ha).1).symm
    simp only [List.map_cons, val, e] at hk
    exact hk
  · cases h
theorem s_i2d (hr : (rows k)[i]? = some (pc, .i2d, len, x)) (h : plain ph (.i2d) x ls st σ = some (P, ls', st', σ')) (hP : hold P) (hn : Wst ph K k (i + 1) ls' st' σ' c s Q) : Wst ph K k i ls st σ c s Q := by
  simp only [plain] at h
  split at h
  · cases h
    have hlen : len = 1 := (row_of hr).2.2.2.1.resolve_left (by simp [ilen])
    subst hlen
    refine s_pu hr (fun h hl hw => mkD (tl1 h).2) (fun hC hd hL ha hk => ?_) hn
    refine lv_i2d hC.1 hC.2.1 hd ?_
    have e : (0:Nat) = 0 := rfl
    simp only [List.map_cons, val, e] at hk
    exact hk
  · cases h
theorem s_l2i (hr : (rows k)[i]? = some (pc, .l2i, len, x)) (h : plain ph (.l2i) x ls st σ = some (P, ls', st', σ')) (hP : hold P) (hn : Wst ph K k (i + 1) ls' st' σ' c s Q) : Wst ph K k i ls st σ c s Q := by
  simp only [plain] at h
  split at h
  · cases h
    have hlen : len = 1 := (row_of hr).2.2.2.1.resolve_left (by simp [ilen])
    subst hlen
    refine s_pu hr (fun h hl hw => mkI (wr_in _) (tl1 h).2) (fun hC hd hL ha hk => ?_) hn
    refine lv_l2i hC.1 hC.2.1 hd rfl ?_
    have e := (l2i_eq (tl1 ha).1).symm
    simp only [List.map_cons, val, e] at hk
    exact hk
  · cases h
theorem s_lcmp (hr : (rows k)[i]? = some (pc, .lcmp, len, x)) (h : plain ph (.lcmp) x ls st σ = some (P, ls', st', σ')) (hP : hold P) (hn : Wst ph K k (i + 1) ls' st' σ' c s Q) : Wst ph K k i ls st σ c s Q := by
  simp only [plain] at h
  split at h
  · cases h
    have hlen : len = 1 := (row_of hr).2.2.2.1.resolve_left (by simp [ilen])
    subst hlen
    refine s_pu hr (fun h hl hw => mkI (lcmp_in _ _) (tl2 h).2.2) (fun hC hd hL ha hk => ?_) hn
    refine W.lcmp hC.1 hC.2.1 hd ?_
    have e := (lcmp_eq (tl2 ha).2.1 (tl2 ha).1).symm
    simp only [List.map_cons, val, e] at hk
    exact hk
  · cases h
theorem s_dcmp {op : CmpOp} (hr : (rows k)[i]? = some (pc, .dcmp op, len, x)) (h : plain ph (.dcmp op) x ls st σ = some (P, ls', st', σ')) (hP : hold P) (hn : Wst ph K k (i + 1) ls' st' σ' c s Q) : Wst ph K k i ls st σ c s Q := by
  simp only [plain] at h
  split at h
  · cases h
    have hlen : len = 1 := (row_of hr).2.2.2.1.resolve_left (by simp [ilen])
    subst hlen
    refine s_pu hr (fun h hl hw => mkI (inR_toI _) (tl2 h).2.2) (fun hC hd hL ha hk => ?_) hn
    refine lv_dcmp hC.1 hC.2.1 hd ?_
    have e := of_toI
    simp only [List.map_cons, val, dcmpI, e] at hk
    exact hk
  · cases h
theorem s_iconst {n : Int} (hr : (rows k)[i]? = some (pc, .iconst n, len, x)) (h : plain ph (.iconst n) x ls st σ = some (P, ls', st', σ')) (hP : hold P) (hn : Wst ph K k (i + 1) ls' st' σ' c s Q) : Wst ph K k i ls st σ c s Q := by
  cases h
  have hlen : len = 1 := (row_of hr).2.2.2.1.resolve_left (by simp [ilen])
  subst hlen
  exact s_pu hr (fun h _ _ => mkI (cn_i hr) h) (fun hC hd hL _ hk => lv_iconst hC.1 hC.2.1 hd rfl hk) hn
theorem s_bipush {n : Int} (hr : (rows k)[i]? = some (pc, .bipush n, len, x)) (h : plain ph (.bipush n) x ls st σ = some (P, ls', st', σ')) (hP : hold P) (hn : Wst ph K k (i + 1) ls' st' σ' c s Q) : Wst ph K k i ls st σ c s Q := by
  cases h
  have hlen : len = 2 := (row_of hr).2.2.2.1.resolve_left (by simp [ilen])
  subst hlen
  exact s_pu hr (fun h _ _ => mkI (i8_in (cn_b hr)) h) (fun hC hd hL _ hk => lv_bipush hC.1 hC.2.1 hd (i8_eq (cn_b hr)) hk) hn
theorem s_sipush {n : Int} (hr : (rows k)[i]? = some (pc, .sipush n, len, x)) (h : plain ph (.sipush n) x ls st σ = some (P, ls', st', σ')) (hP : hold P) (hn : Wst ph K k (i + 1) ls' st' σ' c s Q) : Wst ph K k i ls st σ c s Q := by
  cases h
  have hlen : len = 3 := (row_of hr).2.2.2.1.resolve_left (by simp [ilen])
  subst hlen
  exact s_pu hr (fun h _ _ => mkI (i16_in (cn_s hr)) h) (fun hC hd hL _ hk => lv_sipush hC.1 hC.2.1 hd (i16_eq (cn_s hr)) hk) hn
theorem s_null (hr : (rows k)[i]? = some (pc, .aconst_null, len, x)) (h : plain ph (.aconst_null) x ls st σ = some (P, ls', st', σ')) (hP : hold P) (hn : Wst ph K k (i + 1) ls' st' σ' c s Q) : Wst ph K k i ls st σ c s Q := by
  cases h
  have hlen : len = 1 := (row_of hr).2.2.2.1.resolve_left (by decide)
  subst hlen
  exact s_pu hr (fun h _ _ => mkN h) (fun hC hd hL _ hk => lv_null hC.1 hC.2.1 hd hk) hn
theorem s_dconst {d : Fin 2} (hr : (rows k)[i]? = some (pc, .dconst d, len, x)) (h : plain ph (.dconst d) x ls st σ = some (P, ls', st', σ')) (hP : hold P) (hn : Wst ph K k (i + 1) ls' st' σ' c s Q) : Wst ph K k i ls st σ c s Q := by
  simp only [plain] at h
  split at h
  · rename_i h0
    have hd0 : d = 0 := Fin.ext h0
    subst hd0
    cases h
    have hlen : len = 1 := (row_of hr).2.2.2.1.resolve_left (by decide)
    subst hlen
    exact s_pu hr (fun h _ _ => mkD h) (fun hC hd hL _ hk => lv_dconst0 hC.1 hC.2.1 hd hk) hn
  · cases h
theorem s_ldc (hG : G0 K) {j : Nat} (hr : (rows k)[i]? = some (pc, .ldc j, len, x)) (h : plain ph (.ldc j) x ls st σ = some (P, ls', st', σ')) (hP : hold P) (hn : Wst ph K k (i + 1) ls' st' σ' c s Q) : Wst ph K k i ls st σ c s Q := by
  simp only [plain] at h
  split at h
  · rename_i v w
    cases h
    have hlen : len = 2 := (row_of hr).2.2.2.1.resolve_left (by simp [ilen])
    subst hlen
    have hk := (row_of hr).2.1
    simp only [lkOK, Bool.and_eq_true, decide_eq_true_eq] at hk
    exact s_pu hr (fun h _ _ => mkI (nR hk.2) h) (fun hC hd hL _ hq => lv_ldc hC.1 hC.2.1 hC.2.2.2.2.1 (wd hG hC.2.2.2.2.2.2.2.2 (isW_mem hk.1) rfl _) hd hq) hn
  · cases h
theorem s_ldcw (hG : G0 K) {j : Nat} (hr : (rows k)[i]? = some (pc, .ldc_w j, len, x)) (h : plain ph (.ldc_w j) x ls st σ = some (P, ls', st', σ')) (hP : hold P) (hn : Wst ph K k (i + 1) ls' st' σ' c s Q) : Wst ph K k i ls st σ c s Q := by
  simp only [plain] at h
  split at h
  · rename_i v w
    cases h
    have hlen : len = 3 := (row_of hr).2.2.2.1.resolve_left (by simp [ilen])
    subst hlen
    have hk := (row_of hr).2.1
    simp only [lkOK, Bool.and_eq_true, decide_eq_true_eq] at hk
    exact s_pu hr (fun h _ _ => mkI (nR hk.2) h) (fun hC hd hL _ hq => lv_ldcw hC.1 hC.2.1 hC.2.2.2.2.1 (wd hG hC.2.2.2.2.2.2.2.2 (isW_mem hk.1) rfl _) hd hq) hn
  · cases h
theorem s_ldc2 (hG : G0 K) {j : Nat} (hr : (rows k)[i]? = some (pc, .ldc2_w j, len, x)) (h : plain ph (.ldc2_w j) x ls st σ = some (P, ls', st', σ')) (hP : hold P) (hn : Wst ph K k (i + 1) ls' st' σ' c s Q) : Wst ph K k i ls st σ c s Q := by
  simp only [plain] at h
  split at h
  · rename_i v w
    cases h
    have hlen : len = 3 := (row_of hr).2.2.2.1.resolve_left (by simp [ilen])
    subst hlen
    have hk := (row_of hr).2.1
    simp only [lkOK, Bool.and_eq_true, decide_eq_true_eq] at hk
    exact s_pu hr (fun h _ _ => mkL (nL hk.2) h) (fun hC hd hL _ hq => lv_ldc2 hC.1 hC.2.1 hC.2.2.2.2.1 (wd hG hC.2.2.2.2.2.2.2.2 (isW_mem hk.1) rfl _) hd hq) hn
  · cases h
theorem s_lrem (hr : (rows k)[i]? = some (pc, .lrem, len, x)) (h : plain ph (.lrem) x ls st σ = some (P, ls', st', σ')) (hP : hold P) (hn : Wst ph K k (i + 1) ls' st' σ' c s Q) : Wst ph K k i ls st σ c s Q := by
  simp only [plain] at h
  split at h
  · rename_i y z r
    cases h
    have hlen : len = 1 := (row_of hr).2.2.2.1.resolve_left (by decide)
    subst hlen
    refine s_pu hr (fun h _ _ => mkL (tmodL_in (tl2 h).2.1) (tl2 h).2.2) (fun hC hd hL ha hk => ?_) hn
    have hy : inL y := (tl2 ha).1
    have hz : inL z := (tl2 ha).2.1
    refine lv_lrem hC.1 hC.2.1 hd (fun h0 => hP ?_) ?_
    · have h1 := congrArg Int64.toInt h0
      rw [toL_of hy] at h1
      exact h1
    have e : Int64.ofInt (z.tmod y) = Int64.ofInt z - Int64.ofInt z / Int64.ofInt y * Int64.ofInt y := by rw [← Int64.ofInt_tdiv hz.1 (by have := hz.2; show z ≤ 9223372036854775807; omega) hy.1 (by have := hy.2; show y ≤ 9223372036854775807; omega), ← Int64.ofInt_mul, ← Int64.ofInt_sub]; congr 1; rw [Int.tmod_def, Int.mul_comm]
    simp only [List.map_cons, val, e] at hk
    exact hk
  · cases h
theorem s_ddiv (hr : (rows k)[i]? = some (pc, .ddiv, len, x)) (h : plain ph (.ddiv) x ls st σ = some (P, ls', st', σ')) (hP : hold P) (hn : Wst ph K k (i + 1) ls' st' σ' c s Q) : Wst ph K k i ls st σ c s Q := by
  simp only [plain] at h
  split at h
  · cases h
    have hlen : len = 1 := (row_of hr).2.2.2.1.resolve_left (by decide)
    subst hlen
    exact s_pu hr (fun h _ _ => mkD (tl2 h).2.2) (fun hC hd hL ha hk => lv_ddiv hC.1 hC.2.1 hd hP hk) hn
  · cases h
theorem s_dup (hr : (rows k)[i]? = some (pc, .dup, len, x)) (h : plain ph (.dup) x ls st σ = some (P, ls', st', σ')) (hP : hold P) (hn : Wst ph K k (i + 1) ls' st' σ' c s Q) : Wst ph K k i ls st σ c s Q := by
  simp only [plain] at h
  split at h
  · split at h
    · cases h
    · rename_i hc
      cases h
      have hlen : len = 1 := (row_of hr).2.2.2.1.resolve_left (by decide)
      subst hlen
      exact s_pu hr (fun h _ _ => mk1 (tl1 h).1 h) (fun hC hd hL ha hk => lv_dup hC.1 hC.2.1 hd (cat1 hc) hk) hn
  · cases h
theorem s_dup2 (hr : (rows k)[i]? = some (pc, .dup2, len, x)) (h : plain ph (.dup2) x ls st σ = some (P, ls', st', σ')) (hP : hold P) (hn : Wst ph K k (i + 1) ls' st' σ' c s Q) : Wst ph K k i ls st σ c s Q := by
  simp only [plain] at h
  split at h
  · split at h
    · cases h
    · rename_i hc
      simp only [Bool.or_eq_true, not_or] at hc
      cases h
      have hlen : len = 1 := (row_of hr).2.2.2.1.resolve_left (by decide)
      subst hlen
      exact s_pu hr (fun h _ _ => mk1 (tl2 h).1 (mk1 (tl2 h).2.1 h)) (fun hC hd hL ha hk => lv_dup2_11 hC.1 hC.2.1 hd (cat1 hc.1) (cat1 hc.2) hk) hn
  · cases h
theorem s_pop (hr : (rows k)[i]? = some (pc, .pop, len, x)) (h : plain ph (.pop) x ls st σ = some (P, ls', st', σ')) (hP : hold P) (hn : Wst ph K k (i + 1) ls' st' σ' c s Q) : Wst ph K k i ls st σ c s Q := by
  simp only [plain] at h
  split at h
  · split at h
    · cases h
    · rename_i hc
      cases h
      have hlen : len = 1 := (row_of hr).2.2.2.1.resolve_left (by decide)
      subst hlen
      exact s_pu hr (fun h _ _ => (tl1 h).2) (fun hC hd hL ha hk => lv_pop hC.1 hC.2.1 hd (cat1 hc) hk) hn
  · cases h
theorem s_iload {a : Nat} (hr : (rows k)[i]? = some (pc, .iload a, len, x)) (h : plain ph (.iload a) x ls st σ = some (P, ls', st', σ')) (hP : hold P) (hn : Wst ph K k (i + 1) ls' st' σ' c s Q) : Wst ph K k i ls st σ c s Q := by
  obtain ⟨v, hv, hk, -, rfl, rfl, rfl⟩ := ld_inv h
  have hlen : len = 2 := (row_of hr).2.2.2.1.resolve_left (by simp [ilen])
  subst hlen
  obtain ⟨u, rfl⟩ := kd0 hk
  exact s_pu hr (fun h hl _ => mk1 (hl _ _ hv) h) (fun hC hd hL _ hk => lv_iload hC.1 hC.2.1 hd (hL.2.2.2 _ _ hv) hk) hn
theorem s_iload_n {a : Fin 4} (hr : (rows k)[i]? = some (pc, .iload_n a, len, x)) (h : plain ph (.iload_n a) x ls st σ = some (P, ls', st', σ')) (hP : hold P) (hn : Wst ph K k (i + 1) ls' st' σ' c s Q) : Wst ph K k i ls st σ c s Q := by
  obtain ⟨v, hv, hk, -, rfl, rfl, rfl⟩ := ld_inv h
  have hlen : len = 1 := (row_of hr).2.2.2.1.resolve_left (by simp [ilen])
  subst hlen
  obtain ⟨u, rfl⟩ := kd0 hk
  exact s_pu hr (fun h hl _ => mk1 (hl _ _ hv) h) (fun hC hd hL _ hk => lv_iload_n hC.1 hC.2.1 hd rfl (hL.2.2.2 _ _ hv) hk) hn
theorem s_aload {a : Nat} (hr : (rows k)[i]? = some (pc, .aload a, len, x)) (h : plain ph (.aload a) x ls st σ = some (P, ls', st', σ')) (hP : hold P) (hn : Wst ph K k (i + 1) ls' st' σ' c s Q) : Wst ph K k i ls st σ c s Q := by
  obtain ⟨v, hv, hk, -, rfl, rfl, rfl⟩ := ld_inv h
  have hlen : len = 2 := (row_of hr).2.2.2.1.resolve_left (by simp [ilen])
  subst hlen
  obtain ⟨u, rfl⟩ := kd3 hk
  cases u with
  | none => exact s_pu hr (fun h hl _ => mk1 (hl _ _ hv) h) (fun hC hd hL _ hk => lv_aloadN hC.1 hC.2.1 hd (hL.2.2.2 _ _ hv) hk) hn
  | some q => exact s_pu hr (fun h hl _ => mk1 (hl _ _ hv) h) (fun hC hd hL _ hk => lv_aload hC.1 hC.2.1 hd (hL.2.2.2 _ _ hv) hk) hn
theorem s_aload_n {a : Fin 4} (hr : (rows k)[i]? = some (pc, .aload_n a, len, x)) (h : plain ph (.aload_n a) x ls st σ = some (P, ls', st', σ')) (hP : hold P) (hn : Wst ph K k (i + 1) ls' st' σ' c s Q) : Wst ph K k i ls st σ c s Q := by
  obtain ⟨v, hv, hk, -, rfl, rfl, rfl⟩ := ld_inv h
  have hlen : len = 1 := (row_of hr).2.2.2.1.resolve_left (by simp [ilen])
  subst hlen
  obtain ⟨u, rfl⟩ := kd3 hk
  cases u with
  | none => exact s_pu hr (fun h hl _ => mk1 (hl _ _ hv) h) (fun hC hd hL _ hk => lv_aload_nN hC.1 hC.2.1 hd rfl (hL.2.2.2 _ _ hv) hk) hn
  | some q => exact s_pu hr (fun h hl _ => mk1 (hl _ _ hv) h) (fun hC hd hL _ hk => lv_aload_n hC.1 hC.2.1 hd rfl (hL.2.2.2 _ _ hv) hk) hn
theorem s_dload {a : Nat} (hr : (rows k)[i]? = some (pc, .dload a, len, x)) (h : plain ph (.dload a) x ls st σ = some (P, ls', st', σ')) (hP : hold P) (hn : Wst ph K k (i + 1) ls' st' σ' c s Q) : Wst ph K k i ls st σ c s Q := by
  obtain ⟨v, hv, hk, -, rfl, rfl, rfl⟩ := ld_inv h
  have hlen : len = 2 := (row_of hr).2.2.2.1.resolve_left (by simp [ilen])
  subst hlen
  obtain ⟨u, rfl⟩ := kd2 hk
  exact s_pu hr (fun h hl _ => mk1 (hl _ _ hv) h) (fun hC hd hL _ hk => lv_dload hC.1 hC.2.1 hd (hL.2.2.2 _ _ hv) hk) hn
end Pure
