section Stores
variable {ph : Bool} {K : WK} {k i pc len : Nat} {raw : Instr} {x : List Nat} {ls ls' : Vls} {st st' : List AV} {σ σ' : Mem} {P : Option Prop} {c s : Nat} {Q : Out → Mem → Prop}
def prs (ad : AD) (ls : Vls) : List (Nat × Value) := (List.range ls.length).filterMap (fun j => match ls[j]? with | some (some a) => some (j, val ad a) | _ => none)
theorem prs_in {ad : AD} {j : Nat} {a : AV} (h : ls[j]? = some (some a)) : (j, val ad a) ∈ prs ad ls := by
  refine List.mem_filterMap.mpr ⟨j, List.mem_range.mpr (List.getElem?_eq_some_iff.mp h).1, ?_⟩
  rw [h]
theorem prs_out {ad : AD} {q : Nat × Value} (h : q ∈ prs ad ls) : ∃ a, ls[q.1]? = some (some a) ∧ q.2 = val ad a := by
  obtain ⟨j, -, h2⟩ := List.mem_filterMap.mp h
  split at h2
  · rename_i a ha
    cases h2
    exact ⟨a, ha, rfl⟩
  · cases h2
theorem LsR.has {ad : AD} {lsR : Array Slot} {n : Nat} (h : LsR ad lsR n ls) : lv_has lsR n (prs ad ls) := by
  refine ⟨h.1, h.2.2.1, fun q hq => ?_⟩
  obtain ⟨a, h1, h2⟩ := prs_out hq
  rw [h2]
  exact h.2.2.2 _ _ h1
theorem val_cat2 {ad : AD} {a : AV} (h : (val ad a).category = 2) : isC2 (some a) = true := by
  rcases a with x | x | x | (_ | q)
  · cases h
  · rfl
  · rfl
  · cases h
  · cases h
theorem stL1 {ad : AD} {lsR : Array Slot} {n j : Nat} {a : AV} {lsN : Vls} (hl : ls.length = n) (hs : stL ls j a = some lsN) (hc : isC2 (some a) = false)
    (h : lv_has lsR n ((j, val ad a) :: (prs ad ls).filter (fun q => !(q.1 == j) && !(q.1 + 1 == j && q.2.category == 2)))) : LsR ad lsR n lsN ∧ j < n ∧ lsN = ls.set j (some a) := by
  unfold stL at hs
  split at hs
  · rename_i hb
    rw [hc] at hs
    simp only [Bool.false_eq_true, if_false] at hs
    cases hs
    refine ⟨⟨h.1, by rw [List.length_set]; exact hl, h.2.1, fun q b hq => ?_⟩, by omega, rfl⟩
    by_cases hqj : q = j
    · subst hqj
      rw [List.getElem?_set_self hb.1] at hq
      cases hq
      exact h.2.2 _ (List.mem_cons_self)
    · rw [List.getElem?_set_ne (Ne.symm hqj)] at hq
      refine h.2.2 (q, val ad b) (List.mem_cons_of_mem _ (List.mem_filter.mpr ⟨prs_in hq, ?_⟩))
      have e1 : (q == j) = false := by simp [hqj]
      simp only [e1, Bool.not_false, Bool.true_and]
      by_cases hq1 : q + 1 = j
      · rcases hb.2 with h0 | h0
        · omega
        · rw [show j - 1 = q by omega, List.getD_eq_getElem?_getD, hq] at h0
          have h5 : ¬ (val ad b).category = 2 := fun h6 => by
            have h7 := val_cat2 h6
            rw [show isC2 ((some (some b)).getD none) = isC2 (some b) from rfl] at h0
            rw [h7] at h0; cases h0
          simp [h5]
      · simp [hq1]
  · cases hs
theorem stL2 {ad : AD} {lsR : Array Slot} {n j : Nat} {a : AV} {lsN : Vls} (hl : ls.length = n) (hs : stL ls j a = some lsN) (hc : isC2 (some a) = true)
    (h : lv_has lsR n ((j, val ad a) :: (prs ad ls).filter (fun q => !(q.1 == j) && (!(q.1 == j + 1) && !(q.1 + 1 == j && q.2.category == 2))))) : LsR ad lsR n lsN := by
  unfold stL at hs
  split at hs
  · rename_i hb
    try (rw [hc] at hs)
    try (simp only [if_true] at hs)
    split at hs
    · rename_i hb2
      cases hs
      refine ⟨h.1, by rw [List.length_set, List.length_set]; exact hl, h.2.1, fun q b hq => ?_⟩
      by_cases hq2 : q = j + 1
      · subst hq2
        rw [List.getElem?_set_self (by rw [List.length_set]; exact hb2)] at hq
        cases hq
      · rw [List.getElem?_set_ne (Ne.symm hq2)] at hq
        by_cases hqj : q = j
        · subst hqj
          rw [List.getElem?_set_self hb.1] at hq
          cases hq
          exact h.2.2 _ (List.mem_cons_self)
        · rw [List.getElem?_set_ne (Ne.symm hqj)] at hq
          refine h.2.2 (q, val ad b) (List.mem_cons_of_mem _ (List.mem_filter.mpr ⟨prs_in hq, ?_⟩))
          have e1 : (q == j) = false := by simp [hqj]
          have e2 : (q == j + 1) = false := by simp [hq2]
          simp only [e1, e2, Bool.not_false, Bool.true_and]
          by_cases hq1 : q + 1 = j
          · rcases hb.2 with h0 | h0
            · omega
            · rw [show j - 1 = q by omega, List.getD_eq_getElem?_getD, hq] at h0
              have h5 : ¬ (val ad b).category = 2 := fun h6 => by
                have h7 := val_cat2 h6
                rw [show isC2 ((some (some b)).getD none) = isC2 (some b) from rfl] at h0
                rw [h7] at h0; cases h0
              simp [h5]
          · simp [hq1]
    · cases hs
  · cases hs
theorem stL_lt {j : Nat} {a : AV} {lsN : Vls} (hs : stL ls j a = some lsN) : j < ls.length ∧ (isC2 (some a) = true → j + 1 < ls.length) := by
  unfold stL at hs
  split at hs
  · rename_i hb
    refine ⟨hb.1, fun hc => ?_⟩
    try (rw [hc] at hs)
    try (simp only [if_true] at hs)
    split at hs
    · assumption
    · cases hs
  · cases hs
theorem stL_ok {j : Nat} {a : AV} {lsN : Vls} (hs : stL ls j a = some lsN) {q : Nat} {b : AV} (hq : lsN[q]? = some (some b)) : b = a ∨ ls[q]? = some (some b) := by
  unfold stL at hs
  have key : ∀ {l : Vls}, (l.set j (some a))[q]? = some (some b) → b = a ∨ l[q]? = some (some b) := by
    intro l hl
    by_cases h : j = q
    · subst h
      rw [List.getElem?_set] at hl
      split at hl
      · split at hl
        · cases hl; exact Or.inl rfl
        · cases hl
      · exact Or.inr hl
    · rw [List.getElem?_set_ne h] at hl; exact Or.inr hl
  split at hs
  · split at hs
    · split at hs
      · cases hs
        by_cases h : j + 1 = q
        · subst h
          rw [List.getElem?_set] at hq
          split at hq
          · split at hq <;> cases hq
          · exact key hq
        · rw [List.getElem?_set_ne h] at hq
          exact key hq
      · cases hs
    · cases hs
      exact key hq
  · cases hs
theorem st_inv {kd j : Nat} (h : stp kd ls j st σ = some (P, ls', st', σ')) : ∃ a, st = a :: st' ∧ kdOf a = kd ∧ stL ls j a = some ls' ∧ P = none ∧ σ' = σ := by
  unfold stp at h
  split at h
  · split at h
    · rename_i hk
      split at h
      · rename_i hs
        cases h
        exact ⟨_, rfl, hk, hs, rfl, rfl⟩
      · cases h
    · cases h
  · cases h
/-- an instruction that stores into a place of the locals -/
theorem s_ls {a : AV} {j : Nat} (hr : (rows k)[i]? = some (pc, raw, len, x)) (hs : stL ls j a = some ls')
    (hw : ∀ {p : Program} {e : Env} {sx : State} {m : MethodId} {args : Array Value} {below : List Frame} {meth : Method} {cd : Code} {H : Heap} {locs : List Loc} {lsR : Array Slot} {ad : AD} {Qf : State → Prop},
      Cx K k p sx m meth cd → decode (byt k) pc = .ok (raw, len) → LsR ad lsR (mxl k) ls →
      (∀ lsR', LsR ad lsR' (mxl k) ls' → W p K.1 e (rm k) sx m args below meth cd H locs c s Qf (F0 m (pc + len) lsR' (st.map (val ad)))) → W p K.1 e (rm k) sx m args below meth cd H locs c s Qf (F0 m pc lsR (val ad a :: st.map (val ad))))
    (hn : Wst ph K k (i + 1) ls' st σ c s Q) : Wst ph K k i ls (a :: st) σ c s Q := by
  intro p e sx m args below meth cd σ0 ad0 ad H locs lsR hC hS hE hT ha hl hL hc1 hc2
  obtain ⟨hd, -, -, -, e1, e2⟩ := row_of hr
  rw [e1]
  refine hw hC hd hL fun lsR' hL' => ?_
  have h := hn p e sx m args below meth cd σ0 ad0 ad H locs lsR' hC hS hE hT (tl1 ha).2 (fun q b hq => (stL_ok hs hq).elim (fun e => e ▸ (tl1 ha).1) (hl q b)) hL' hc1 hc2
  rw [e2] at h
  exact h
theorem s_istore {a : Nat} (hr : (rows k)[i]? = some (pc, .istore a, len, x)) (h : plain ph (.istore a) x ls st σ = some (P, ls', st', σ')) (hn : Wst ph K k (i + 1) ls' st' σ' c s Q) : Wst ph K k i ls st σ c s Q := by
  obtain ⟨v, rfl, hk, hs, -, rfl⟩ := st_inv h
  have hlen : len = 2 := (row_of hr).2.2.2.1.resolve_left (by simp [ilen])
  subst hlen
  obtain ⟨u, rfl⟩ := kd0 hk
  exact s_ls hr hs (fun hC hd hL hk => lv_istore hC.1 hC.2.1 hd hL.has (by have := (stL_lt hs).1; rw [hL.2.1] at this; exact this) rfl (fun ls2 h2 => hk ls2 (stL1 hL.2.1 hs rfl h2).1)) hn
theorem s_istore_n {a : Fin 4} (hr : (rows k)[i]? = some (pc, .istore_n a, len, x)) (h : plain ph (.istore_n a) x ls st σ = some (P, ls', st', σ')) (hn : Wst ph K k (i + 1) ls' st' σ' c s Q) : Wst ph K k i ls st σ c s Q := by
  obtain ⟨v, rfl, hk, hs, -, rfl⟩ := st_inv h
  have hlen : len = 1 := (row_of hr).2.2.2.1.resolve_left (by simp [ilen])
  subst hlen
  obtain ⟨u, rfl⟩ := kd0 hk
  exact s_ls hr hs (fun hC hd hL hk => lv_istore_n hC.1 hC.2.1 hd rfl hL.has (by have := (stL_lt hs).1; rw [hL.2.1] at this; exact this) rfl (fun ls2 h2 => hk ls2 (stL1 hL.2.1 hs rfl h2).1)) hn
theorem s_astore {a : Nat} (hr : (rows k)[i]? = some (pc, .astore a, len, x)) (h : plain ph (.astore a) x ls st σ = some (P, ls', st', σ')) (hn : Wst ph K k (i + 1) ls' st' σ' c s Q) : Wst ph K k i ls st σ c s Q := by
  obtain ⟨v, rfl, hk, hs, -, rfl⟩ := st_inv h
  have hlen : len = 2 := (row_of hr).2.2.2.1.resolve_left (by simp [ilen])
  subst hlen
  obtain ⟨u, rfl⟩ := kd3 hk
  cases u with
  | none => exact s_ls hr hs (fun hC hd hL hk => lv_astoreN hC.1 hC.2.1 hd hL.has (by have := (stL_lt hs).1; rw [hL.2.1] at this; exact this) rfl (fun ls2 h2 => hk ls2 (stL1 hL.2.1 hs rfl h2).1)) hn
  | some q => exact s_ls hr hs (fun hC hd hL hk => lv_astore hC.1 hC.2.1 hd hL.has (by have := (stL_lt hs).1; rw [hL.2.1] at this; exact this) rfl (fun ls2 h2 => hk ls2 (stL1 hL.2.1 hs rfl h2).1)) hn
theorem s_astore_n {a : Fin 4} (hr : (rows k)[i]? = some (pc, .astore_n a, len, x)) (h : plain ph (.astore_n a) x ls st σ = some (P, ls', st', σ')) (hn : Wst ph K k (i + 1) ls' st' σ' c s Q) : Wst ph K k i ls st σ c s Q := by
  obtain ⟨v, rfl, hk, hs, -, rfl⟩ := st_inv h
  have hlen : len = 1 := (row_of hr).2.2.2.1.resolve_left (by simp [ilen])
  subst hlen
  obtain ⟨u, rfl⟩ := kd3 hk
  cases u with
  | none => exact s_ls hr hs (fun hC hd hL hk => lv_astore_nN hC.1 hC.2.1 hd rfl hL.has (by have := (stL_lt hs).1; rw [hL.2.1] at this; exact this) rfl (fun ls2 h2 => hk ls2 (stL1 hL.2.1 hs rfl h2).1)) hn
  | some q => exact s_ls hr hs (fun hC hd hL hk => lv_astore_n hC.1 hC.2.1 hd rfl hL.has (by have := (stL_lt hs).1; rw [hL.2.1] at this; exact this) rfl (fun ls2 h2 => hk ls2 (stL1 hL.2.1 hs rfl h2).1)) hn
theorem s_dstore {a : Nat} (hr : (rows k)[i]? = some (pc, .dstore a, len, x)) (h : plain ph (.dstore a) x ls st σ = some (P, ls', st', σ')) (hn : Wst ph K k (i + 1) ls' st' σ' c s Q) : Wst ph K k i ls st σ c s Q := by
  obtain ⟨v, rfl, hk, hs, -, rfl⟩ := st_inv h
  have hlen : len = 2 := (row_of hr).2.2.2.1.resolve_left (by simp [ilen])
  subst hlen
  obtain ⟨u, rfl⟩ := kd2 hk
  exact s_ls hr hs (fun hC hd hL hk => lv_dstore hC.1 hC.2.1 hd hL.has (by have := (stL_lt hs).2 rfl; rw [hL.2.1] at this; exact this) rfl (fun ls2 h2 => hk ls2 (stL2 hL.2.1 hs rfl h2))) hn
theorem s_iinc {a : Nat} {n : Int} (hr : (rows k)[i]? = some (pc, .iinc a n, len, x)) (h : plain ph (.iinc a n) x ls st σ = some (P, ls', st', σ')) (hn : Wst ph K k (i + 1) ls' st' σ' c s Q) : Wst ph K k i ls st σ c s Q := by
  simp only [plain] at h
  split at h
  · rename_i v hv
    cases h
    have hlen : len = 3 := (row_of hr).2.2.2.1.resolve_left (by simp [ilen])
    subst hlen
    have hg := getD_some hv
    intro p e sx m args below meth cd σ0 ad0 ad H locs lsR hC hS hE hT ha hl hL hc1 hc2
    obtain ⟨hd, -, -, -, e1, e2⟩ := row_of hr
    rw [e1]
    have hlt : a < mxl k := by have := (List.getElem?_eq_some_iff.mp hg).1; rw [hL.2.1] at this; exact this
    have hmem := prs_in (ad := ad) hg
    obtain ⟨q, hq⟩ := List.getElem?_of_mem hmem
    refine lv_iinc (v := Int32.ofInt (wr (v + n))) hC.1 hC.2.1 hd hL.has (k := q) hq (by rw [ofI_wr, Int32.ofInt_add]) hlt rfl (fun ls2 h2 => ?_)
    have hnew : LsR ad ls2 (mxl k) (ls.set a (some (aI (wr (v + n))))) := by
      refine ⟨h2.1, by rw [List.length_set]; exact hL.2.1, h2.2.1, fun j b hj => ?_⟩
      by_cases hja : j = a
      · subst hja
        rw [List.getElem?_set_self (by rw [hL.2.1]; exact hlt)] at hj
        cases hj
        exact h2.2.2 _ (List.mem_cons_self)
      · rw [List.getElem?_set_ne (Ne.symm hja)] at hj
        refine h2.2.2 (j, val ad b) (List.mem_cons_of_mem _ (List.mem_filter.mpr ⟨prs_in hj, ?_⟩))
        have e1 : (j == a) = false := by simp [hja]
        simp only [e1, Bool.not_false, Bool.true_and]
        by_cases hj1 : j + 1 = a
        · have h5 : ¬ (val ad b).category = 2 := fun h6 => by
            have h8 := hL.2.2.1.1 j (val ad b) (hL.2.2.2 _ _ hj) h6
            rw [hj1, hL.2.2.2 _ _ hg] at h8
            cases h8
          simp [h5]
        · simp [hj1]
    have h := hn p e sx m args below meth cd σ0 ad0 ad H locs ls2 hC hS hE hT ha (fun j b hj => ?_) hnew hc1 hc2
    · rw [e2] at h
      exact h
    · by_cases hja : j = a
      · subst hja
        rw [List.getElem?_set_self (by rw [hL.2.1]; exact hlt)] at hj
        cases hj
        exact wr_in _
      · rw [List.getElem?_set_ne (Ne.symm hja)] at hj
        exact hl j b hj
  · cases h
end Stores
