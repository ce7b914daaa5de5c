section CallA
variable {ph : Bool} {K : WK} {k i pc len : Nat} {raw : Instr} {x : List Nat} {ls ls' : Vls} {st st' : List AV} {σ σ' : Mem} {P : Option Prop} {c s : Nat} {Q : Out → Mem → Prop}
theorem args_at : ∀ (vs : List Value) (j i : Nat) (v : Value), (∀ u ∈ vs, u.category = 1) → vs[i]? = some v → (j + i, v) ∈ lv_args j vs
  | [], j, i, v, _, h => by simp at h
  | u :: vs, j, 0, v, hc, h => by
    simp at h
    subst h
    unfold lv_args
    exact List.mem_cons_self
  | u :: vs, j, i + 1, v, hc, h => by
    have h1 : vs[i]? = some v := by simpa using h
    have h2 := args_at vs (j + 1) i v (fun w hw => hc w (List.mem_cons_of_mem _ hw)) h1
    unfold lv_args
    rw [if_neg (by rw [hc u List.mem_cons_self]; decide)]
    rw [show j + (i + 1) = j + 1 + i by omega]
    exact List.mem_cons_of_mem _ h2
theorem sl_len : ∀ (vs : List Value), (∀ u ∈ vs, u.category = 1) → (lg_sl vs).length = vs.length
  | [], _ => rfl
  | u :: vs, h => by
    have h2 := sl_len vs (fun w hw => h w (List.mem_cons_of_mem _ hw))
    have h1 : ¬ u.category = 2 := by rw [h u List.mem_cons_self]; decide
    simp only [lg_sl, List.flatMap_cons, if_neg h1, List.length_append, List.length_cons, List.length_nil] at h2 ⊢
    omega
theorem entry_LsR {ad : AD} {As : List AV} {n : Nat} (hc : ∀ a ∈ As, isC2 (some a) = false) (hl : As.length ≤ n) : LsR ad ((lg_sl (As.map (val ad)) ++ List.replicate (n - (lg_sl (As.map (val ad))).length) Slot.unset).toArray) n (As.map some ++ List.replicate (n - As.length) none) := by
  have hcat : ∀ u ∈ As.map (val ad), u.category = 1 := by
    intro u hu
    obtain ⟨a, ha, rfl⟩ := List.mem_map.mp hu
    exact cat1 (by rw [hc a ha]; decide)
  have hlen : (lg_sl (As.map (val ad))).length = As.length := by rw [sl_len _ hcat, List.length_map]
  have h := lv_entry (As.map (val ad)) (n := n) (by rw [hlen]; exact hl)
  refine ⟨h.1, by simp; omega, h.2.1, fun j a hj => ?_⟩
  have hj2 : As[j]? = some a := by
    by_cases hlt : j < As.length
    · rw [List.getElem?_append_left (by rw [List.length_map]; exact hlt), List.getElem?_map] at hj
      cases h2 : As[j]? with
      | none => rw [h2] at hj; cases hj
      | some b => rw [h2] at hj; cases hj; rfl
    · rw [List.getElem?_append_right (by rw [List.length_map]; omega)] at hj
      rw [List.getElem?_replicate] at hj
      split at hj <;> cases hj
  have h3 := args_at (As.map (val ad)) 0 j (val ad a) hcat (by rw [List.getElem?_map, hj2]; rfl)
  rw [Nat.zero_add] at h3
  exact h.2.2 _ h3
theorem pcA0 (k : Nat) : pcA k 0 = 0 := by
  have h := (ck_parts k).2.2.1
  unfold shOK at h
  rw [Bool.and_eq_true] at h
  have h1 := h.1
  unfold pcA
  cases hr : rows k with
  | nil => rfl
  | cons r rs =>
    rw [hr] at h1
    unfold pcsOK at h1
    rw [Bool.and_eq_true, decide_eq_true_eq] at h1
    cases rs with
    | nil => exact h1.1
    | cons r2 rs2 => exact h1.1
def PcO (ph : Bool) (K : WK) (As : List AV) (ad : AD) (σ : Mem) : Array Value → State → Prop := fun a U => a = (As.map (val ad)).toArray ∧ Sw ph K ad σ U.heap ∧ Bg K U
theorem nm_at (k : Nat) : (yy k).cls = own k ∧ plainName (yy k).cls = true := by
  have h := (ck_parts k).2.2.2
  unfold nmM at h
  rw [Bool.and_eq_true, decide_eq_true_eq] at h
  exact h
/-- what is walked is a contract -/
theorem met_of {k' : Nat} {As : List AV} {ad : AD} {Q' : Out → Mem → Prop} (hG : G0 K) (hcat : ∀ a ∈ As, isC2 (some a) = false) (hl : As.length ≤ mxl k') (hok : ∀ a ∈ As, aok σ a)
    (h : Wst ph K k' 0 (As.map some ++ List.replicate (mxl k' - As.length) none) [] σ 0 0 Q') : vx_Met K.1 (yy k') [wCodeM (mi k')] (rm k') (PcO ph K As ad σ) (QcO ph K σ ad Q') (XcO ph K σ ad Q') (mcs k') (mss k') (Zp K) := by
  have hloc : ∀ (j : Nat) (a : AV), (As.map some ++ List.replicate (mxl k' - As.length) none)[j]? = some (some a) → aok σ a := by
    intro j a hj
    have hm := List.mem_of_getElem? hj
    rcases List.mem_append.mp hm with hm | hm
    · obtain ⟨b, hb, he⟩ := List.mem_map.mp hm
      cases he
      exact hok _ hb
    · cases (List.mem_replicate.mp hm).2
  have key : ∀ (p : Program) (e : Env) (sx : State) (m : MethodId) (args : Array Value) (below : List Frame) (meth : Method) (cd : Code), Cx K k' p sx m meth cd → PcO ph K As ad σ args sx →
      W p K.1 e (rm k') sx m args below meth cd sx.heap [] 0 0 (vx_MQ below (QcO ph K σ ad Q') (XcO ph K σ ad Q') args sx (mcs k') (mss k') (Zp K)) (entryFrame m args (mxl k')) := by
    intro p e sx m args below meth cd hC hp
    obtain ⟨rfl, hSw, hB⟩ := hp
    rw [lg_entry_eq]
    have h1 := h p e sx m (As.map (val ad)).toArray below meth cd σ ad ad sx.heap [] _ hC va_S.rf (fun C r _ q => ⟨q, rfl⟩) hSw (fun a ha => by cases ha) hloc (entry_LsR hcat hl) (Nat.zero_le _) (Nat.zero_le _)
    rw [pcA0] at h1
    exact h1
  cases hh : hhd k' with
  | nil =>
    have e : wCodeM (mi k') = .code (yy k') (byt k') (mxl k') (rett k') := by
      unfold wCodeM
      have hh' : (mi k').2.1.2.2 = [] := hh
      rw [hh']
      rfl
    rw [e]
    refine vx_ofW (nm_at k').2 rfl ?_
    intro p e s m args below meth c s₁ B hml ht hPc
    refine key p e s m args below meth c ⟨B.exec, B.bytes, B.returns, hml, ?_, B.notSynchronized, (name_of_methodNamed B.named B.method).1, ?_, hPc.2.2⟩ hPc
    · rw [← (nm_at k').1]; exact findClass_of_methodNamed B.named
    · rw [hh]
      exact List.eq_nil_iff_forall_not_mem.mpr (fun x hx => ht x hx)
  | cons q qs =>
    have e : wCodeM (mi k') = .codeWith (yy k') (byt k') (mxl k') (rett k') (hhd k') := by
      unfold wCodeM
      have hh' : (mi k').2.1.2.2 = q :: qs := hh
      rw [hh']
      rw [hh]
      rfl
    rw [e]
    refine vx_ofWH (nm_at k').2 rfl ?_
    intro p e s m args below meth c s₁ B hml hPc
    refine key p e s m args below meth c ⟨B.exec, B.bytes, B.returns, hml, ?_, B.notSynchronized, (name_of_methodNamed B.named B.method).1, ?_, hPc.2.2⟩ hPc
    · rw [← (nm_at k').1]; exact findClass_of_methodNamed B.named
    · exact vx_table (x := yy k') B (atoms_spec B.pre _ List.mem_cons_self)
end CallA
