section CallD
variable {ph : Bool} {K : WK} {k i pc len : Nat} {raw : Instr} {x : List Nat} {ls ls' : Vls} {st st' : List AV} {σ σ' : Mem} {P : Option Prop} {c s : Nat} {Q : Out → Mem → Prop}
theorem wd_parts {k : Nat} (hk : k < 278) : wCodeM (mi k) ∈ lw_tbl ∧ Cond.initialized (own k) ∈ lw_tbl ∧ (yy k).cls ≠ "java/lang/invoke/MethodHandle" ∧ (yy k).cls ≠ "java/lang/invoke/VarHandle" ∧ (parseMethodDescriptor (yy k).desc).map (fun d => d.parameters.length) = some (nAr k) := by
  have h := wdK k hk
  unfold wdM at h
  rw [Bool.and_eq_true, Bool.and_eq_true, Bool.and_eq_true, Bool.and_eq_true, Bool.and_eq_true, decide_eq_true_eq, decide_eq_true_eq, decide_eq_true_eq] at h
  obtain ⟨⟨⟨⟨⟨h1, h2⟩, -⟩, h4⟩, h5⟩, h6⟩ := h
  exact ⟨isW_mem h1, isW_mem h2, h4, h5, h6⟩
theorem codeM_good (k : Nat) : goodWord (wCodeM (mi k)) = true := by
  unfold wCodeM
  split <;> rfl
theorem codeM_nil {k : Nat} (h : hhd k = []) : wCodeM (mi k) = .code (yy k) (byt k) (mxl k) (rett k) := by
  unfold wCodeM
  have hh' : (mi k).2.1.2.2 = [] := h
  rw [hh']
  rfl
theorem codeM_cons {k : Nat} (h : hhd k ≠ []) : wCodeM (mi k) = .codeWith (yy k) (byt k) (mxl k) (rett k) (hhd k) := by
  unfold wCodeM hhd
  have h : (mi k).2.1.2.2 ≠ [] := h
  split
  · rename_i e; exact absurd e h
  · rfl
theorem pcO_blind {As : List AV} {ad : AD} : FrameBlind (PcO ph K As ad σ) := by
  obtain ⟨l, s0, z, D, cs, σs, ads⟩ := K
  exact fun a U g mk h => h
/-- behind a call that has run -/
theorem s_run (hG : G0 K) {k' : Nat} {rest : List AV} {Q' : Out → Mem → Prop} {p : Program} {e : Env} {sx : State} {m : MethodId} {args : Array Value} {below : List Frame} {meth : Method} {cd : Code} {σ0 : Mem} {ad0 ad : AD} {H : Heap} {locs : List Loc} {lsR : Array Slot} {a9 : Array Value} {st0 : List Value}
    (hr : vx_Run p K.1 e (rm k) sx m args below meth cd H locs c s (mcs k') (mss k') (F0 m (pcA k i) lsR st0) (rest.map (val ad)) (QcO ph K σ ad Q' a9) (XcO ph K σ ad Q') (Zp K)) (hpc : pcA k (i + 1) = pcA k i + 3)
    (hret : ∀ v σ', Q' (.inl v) σ' → Wst ph K k (i + 1) ls (v.toList ++ rest) σ' (c + mcs k') (s + mss k') Q) (hthr : ∀ E σ', Q' (.inr E) σ' → xGo (Wst ph K) k i ls E σ' (c + mcs k') (s + mss k') Q)
    (hC : Cx K k p sx m meth cd) (hS : va_S (Zp K) sx.heap H locs) (hE : Ext σ0 ad0 σ ad) (hT : Sw ph K ad σ H) (ha : ∀ a ∈ rest, aok σ a) (hl : ∀ (j : Nat) (a : AV), ls[j]? = some (some a) → aok σ a) (hL : LsR ad lsR (mxl k) ls) (hc1 : c + mcs k' ≤ mcs k) (hc2 : s + mss k' ≤ mss k) :
    W p K.1 e (rm k) sx m args below meth cd H locs c s (vx_MQ below (QcO ph K σ0 ad0 Q) (XcO ph K σ0 ad0 Q) args sx (mcs k) (mss k) (Zp K)) (F0 m (pcA k i) lsR st0) := by
  have hzA : ∀ q, q < H.size → Zp K q → Zp K q := fun _ _ h => h
  intro T hTT X
  rcases hr T hTT X with ⟨v, st₀, t, T', L, h0, X', hLL, e1, e2, hq, hgo⟩ | ⟨q, st₀, t, T', L, E, ce, h0, X', hLL, e1, e2, hxc, hce, hcv, hcl, hgo⟩
  · obtain ⟨ad', σ', v', ho, hQ', hv', hE', h19, hSw', hF⟩ := hq
    have hv : v = v'.map (val ad') := by cases ho; rfl
    subst hv
    obtain ⟨k1, k2, k3⟩ := vx_keep h0 e1 hS hzA (fun q h => h) hLL hF
    have hve : ∀ a, aok σ a → val ad' a = val ad a := fun a h => val_eq hE' hT.un.2.2 hSw'.un.2.2 h19 h
    have h := hret v' σ' hQ' p e sx m args below meth cd σ0 ad0 ad' T'.heap (locs ++ L) lsR hC k3 (hE.trans hE') (by rw [e1]; exact hSw')
      (fun a hm => by
        rcases List.mem_append.mp hm with h | h
        · exact hv' a (by
            cases v' with
            | none => cases h
            | some u => rw [Option.toList_some, List.mem_singleton] at h; rw [h])
        · exact aok_mono hE' (ha a h)) (fun j a hj => aok_mono hE' (hl j a hj)) (hL.moved (fun j a hj => hve a (hl j a hj))) hc1 hc2
    obtain ⟨t2, a1, b1⟩ := h T' rfl X'
    refine ⟨t2, hgo t2 ?_, b1⟩
    have e9 : (v'.toList ++ rest).map (val ad') = (v'.map (val ad')).toList ++ rest.map (val ad) := by
      rw [List.map_append]
      congr 1
      · cases v' <;> rfl
      · exact List.map_congr_left (fun a h => hve a (ha a h))
    rw [e9, hpc] at a1
    exact a1
  · obtain ⟨ad', σ', en, rfl, hlt, hQ', hE', h19, hSw', hF⟩ := hxc
    obtain ⟨k1, k2, k3⟩ := vx_keep h0 e1 hS hzA (fun q h => h) hLL hF
    have hve : ∀ a, aok σ a → val ad' a = val ad a := fun a h => val_eq hE' hT.un.2.2 hSw'.un.2.2 h19 h
    obtain ⟨t2, a1, b1⟩ := s_out hG (rest := rest.map (val ad)) (hthr en σ' hQ') hlt hC k3 (hE.trans hE') (by rw [e1]; exact hSw') (fun j a hj => aok_mono hE' (hl j a hj)) (hL.moved (fun j a hj => hve a (hl j a hj))) hc1 hc2 (by rw [e1]; exact hce) hcv hcl T' rfl X'
    exact ⟨t2, hgo.trans a1, b1⟩
theorem s_call (ph : Bool) {K : WK} (hG : G0 K) : c_call (Wst ph K) := by
  intro k i ls σ c s Q pc raw len n k' w As rest Q' hr hinv hcf hlenA hAl hAc hrl hrec hfr hlo hcm hcs hcallee hret hthr p e sx m args below meth cd σ0 ad0 ad H locs lsR hC hS hE hT ha hl hL hc1 hc2
  obtain ⟨hd, hlk, -, hl3, e1, e2⟩ := row_of hr
  have hB : Bg K sx := hC.2.2.2.2.2.2.2.2
  have haA : ∀ a ∈ As, aok σ a := fun a h => ha a (List.mem_append_left _ (List.mem_reverse.mpr h))
  have haR : ∀ a ∈ rest, aok σ a := fun a h => ha a (List.mem_append_right _ h)
  have hM := met_of (ad := ad) hG hAc hAl haA hcallee
  have hk278 : k' < 278 := by
    unfold cfOK at hcf
    rw [Bool.and_eq_true, decide_eq_true_eq] at hcf
    exact hcf.1
  obtain ⟨g1, g2, g3, g4, g5⟩ := wd_parts hk278
  have hown := nm_at k'
  have hrm : (rm k').frames + 1 ≤ (rm k).frames ∧ 8 + (mxl k' + 11) + (rm k').locals ≤ (rm k).locals := ⟨hfr, hlo⟩
  have hws : ∀ w ∈ [wCodeM (mi k')], ∀ (a' : Array Value) (U : State), sx.WarmedH U.vm → w.before a' U = true := fun w hw a' U hW => by
    rw [List.mem_singleton.mp hw]
    exact wdw hG hB hW g1 (codeM_good k') a'
  have hfix : CallFix p m cd (byt k) (mxl k) sx args [] (own k) := ⟨hC.1, hC.2.1, hC.2.2.2.1, hC.2.2.2.2.1, fun _ h => by cases h⟩
  have hPc : ∀ U : State, U.heap = H → sx.WarmedH U.vm → PcO ph K As ad σ (As.map (val ad)).toArray U := by
    intro U hU hW
    refine ⟨rfl, by rw [hU]; exact hT, ?_⟩
    obtain ⟨l, s0, z, D, cs, σs, ads⟩ := K
    refine ⟨State.WarmedH.trans hB.1 hW, ?_, fun q hq => ?_⟩
    · rw [hU]; exact Nat.le_trans hB.2.1 hS.1
    · rw [hU, hS.2.1 q (Nat.lt_of_lt_of_le hq hB.2.1) (Nat.not_le.mpr hq)]
      exact hB.2.2 q hq
  have hsz : lsR.size = mxl k := hL.1
  have hroom : 2 * (F0 m (pcA k i) lsR (((As.reverse ++ rest)).map (val ad))).monitorRoom + ((rest.map (val ad)).map fun v => v.category).sum ≤ 8 := by
    have := cat_sum ad rest
    exact lv_room (by omega)
  have hparse : ∀ sig, parseMethodDescriptor (yy k').desc = some sig → nAr k' = sig.parameters.length := fun sig h => by
    rw [h] at g5
    exact (Option.some.inj g5).symm
  have hini : (Cond.initialized (yy k').cls).before args sx = true := by rw [hown.1]; exact wd hG hB g2 rfl args
  have hstk : (As.reverse ++ rest).map (val ad) = (As.map (val ad)).reverse ++ rest.map (val ad) := by rw [List.map_append, List.map_reverse]
  have hpc3 : len = 3 → pcA k (i + 1) = pcA k i + 3 := fun h => by rw [e2, e1, h]
  -- the first of the values is the receiver
  have hthis : n ≠ 2 → ∃ (r : Int) (As' : List AV), As = aR (tagO (own k')) r :: As' ∧ As'.length = nAr k' := by
    intro hn2
    obtain ⟨r, hr0⟩ := hrec hn2
    cases As with
    | nil => simp at hr0
    | cons a As' =>
      simp at hr0
      refine ⟨r, As', by rw [hr0], ?_⟩
      unfold argc at hlenA
      rw [if_neg hn2, List.length_cons] at hlenA
      omega
  cases raw with
  | invokevirtual j =>
    have hlen : len = 3 := hl3.resolve_left (by simp [ilen])
    have hn0 : n = 0 := by simpa [isInv] using hinv
    subst hn0
    subst hlen
    simp only [lkOK, Bool.and_eq_true, decide_eq_true_eq, if_true] at hlk
    unfold cfOK at hcf
    simp only [Bool.and_eq_true, decide_eq_true_eq] at hcf
    obtain ⟨-, ⟨⟨c1, c2⟩, c3⟩, c4⟩ := hcf
    obtain ⟨r, As', rfl, hAl'⟩ := hthis (by decide)
    rw [codeM_nil c4] at hM hws g1
    have hvr : vld σ (tagO (own k')) r := haA _ List.mem_cons_self
    obtain ⟨q9, hq9⟩ : ∃ q9, MC[tagO (own k')]? = some q9 := by
      cases h : MC[tagO (own k')]? with
      | none => rw [h] at c3; cases c3
      | some q9 => exact ⟨q9, rfl⟩
    have hq91 : q9.1 = own k' := by rw [hq9] at c3; exact Option.some.inj c3
    have htag : tagO (own k') < 12 := (List.getElem?_eq_some_iff.mp hq9).1
    obtain ⟨⟨os, ho1, ho2, ho3, ho4⟩, -, -⟩ := hT.un
    obtain ⟨q0, -, hq⟩ := wld_at (ph := ph) (σ := σ) (ad := ad) (cs := K.2.2.2.2.1) ((ho2 (tagO (own k')) r).mpr ⟨by omega, hvr⟩)
    have he : ent ph ad σ K.2.2.2.2.1 (tagO (own k')) r = .inr (tagO (own k'), flds ph ad σ (tagO (own k')) r) := by unfold ent; rw [if_pos htag]
    rw [he] at hq
    obtain ⟨cell, z1, z2, z3⟩ := va_recv (kK hG hB) ho3 hq9 hq
    rw [hq91] at z3
    have hrun := vx_runV (C := own k') (rest := rest.map (val ad)) (As := As'.map (val ad)) (cells := c) (slots := s) (e := e) (below := below) (locs := locs) (H := H) (meth := meth) (g := F0 m (pcA k i) lsR (((aR (tagO (own k')) r :: As').reverse ++ rest).map (val ad))) hfix hM
      (R := rm k) (n := nAr k') (index := j) ⟨⟨rfl, rfl, hrm.1, hrm.2, hws, List.mem_cons_self, wd hG hB g1 rfl args, hini, ⟨g3, g4⟩, hparse, wd hG hB (isW_mem hlk.2) rfl args⟩, wd hG hB (isW_mem c1) rfl args, wd hG hB (isW_mem c2) rfl args⟩
      ⟨pcO_blind, ⟨cell, z1, z2, z3⟩, hPc⟩ rfl (by rw [List.length_map]; exact hAl') hsz (by rw [hstk, List.map_cons, List.reverse_cons, List.append_assoc]; rfl) hroom (by rw [← e1] at hd; exact hd) ⟨hcm, hcs⟩
    exact s_run hG hrun (hpc3 rfl) hret hthr hC hS hE hT haR hl hL hcm hcs
  | invokestatic j =>
    have hlen : len = 3 := hl3.resolve_left (by simp [ilen])
    have hn2 : n = 2 := by simpa [isInv] using hinv
    subst hn2
    subst hlen
    simp only [lkOK, Bool.and_eq_true, Bool.or_eq_true, decide_eq_true_eq] at hlk
    have hlk2 : isW w (.methodLink (own k) j (yy k')) = true := by
      rcases hlk with ((h | h) | h) | h
      · exact h.2
      · omega
      · omega
      · omega
    unfold cfOK at hcf
    simp only [Bool.and_eq_true, decide_eq_true_eq] at hcf
    obtain ⟨-, c1⟩ := hcf
    have hAl2 : As.length = nAr k' := by unfold argc at hlenA; rw [if_pos rfl] at hlenA; exact hlenA
    by_cases hh : hhd k' = []
    · rw [codeM_nil hh] at hM hws g1
      have hrun := vx_runS (rest := rest.map (val ad)) (As := As.map (val ad)) (cells := c) (slots := s) (e := e) (below := below) (locs := locs) (H := H) (meth := meth) (g := F0 m (pcA k i) lsR ((As.reverse ++ rest).map (val ad))) hfix hM
        (R := rm k) (n := nAr k') (index := j) ⟨⟨rfl, rfl, hrm.1, hrm.2, hws, List.mem_cons_self, wd hG hB g1 rfl args, hini, ⟨g3, g4⟩, hparse, wd hG hB (isW_mem hlk2) rfl args⟩, wd hG hB (isW_mem c1) rfl args⟩
        ⟨pcO_blind, hPc⟩ rfl (by rw [List.length_map]; exact hAl2) hsz hstk hroom (by rw [← e1] at hd; exact hd) ⟨hcm, hcs⟩
      exact s_run hG hrun (hpc3 rfl) hret hthr hC hS hE hT haR hl hL hcm hcs
    · rw [codeM_cons hh] at hM hws g1
      have hrun := vx_runSX (hh := hhd k') (rest := rest.map (val ad)) (As := As.map (val ad)) (cells := c) (slots := s) (e := e) (below := below) (locs := locs) (H := H) (meth := meth) (g := F0 m (pcA k i) lsR ((As.reverse ++ rest).map (val ad))) hfix hM
        (R := rm k) (n := nAr k') (index := j) ⟨⟨rfl, rfl, hrm.1, hrm.2, hws, List.mem_cons_self⟩, wd hG hB g1 rfl args, hini, ⟨g3, g4⟩, hparse, wd hG hB (isW_mem hlk2) rfl args, wd hG hB (isW_mem c1) rfl args⟩
        ⟨pcO_blind, hPc⟩ rfl (by rw [List.length_map]; exact hAl2) hsz hstk hroom (by rw [← e1] at hd; exact hd) ⟨hcm, hcs⟩
      exact s_run hG hrun (hpc3 rfl) hret hthr hC hS hE hT haR hl hL hcm hcs
  | invokespecial j =>
    have hlen : len = 3 := hl3.resolve_left (by simp [ilen])
    subst hlen
    have hn34 : n = 3 ∨ n = 4 := by simpa [isInv] using hinv
    simp only [lkOK, Bool.and_eq_true, Bool.or_eq_true, decide_eq_true_eq] at hlk
    have hcf2 : isW (wKind k') (.instanceMethod (yy k')) = true ∧ (yy k').name = "<init>" ∧ rett k' = none ∧ hhd k' = [] := by
      unfold cfOK at hcf
      rcases hn34 with rfl | rfl
      · simp only [Bool.and_eq_true, decide_eq_true_eq] at hcf
        exact ⟨hcf.2.1.1.1, hcf.2.1.1.2, hcf.2.1.2, hcf.2.2⟩
      · simp only [Bool.and_eq_true, decide_eq_true_eq] at hcf
        exact ⟨hcf.2.1.1.1, hcf.2.1.1.2, hcf.2.1.2, hcf.2.2⟩
    obtain ⟨c1, c2, c3, c4⟩ := hcf2
    obtain ⟨r, As', rfl, hAl'⟩ := hthis (by omega)
    rw [codeM_nil c4, c3] at hM hws g1
    have hstk2 : ((aR (tagO (own k')) r :: As').reverse ++ rest).map (val ad) = (As'.map (val ad)).reverse ++ .ref (ad (tagO (own k')) r) :: rest.map (val ad) := by
      rw [hstk, List.map_cons, List.reverse_cons, List.append_assoc]; rfl
    rcases hn34 with rfl | rfl
    · have hlk2 : isW w (.methodLink (own k) j (yy k')) = true := by
        rcases hlk with ((h | h) | h) | h
        · exact h.1.2
        · omega
        · omega
        · omega
      have hrun := vx_runI (rest := rest.map (val ad)) (As := As'.map (val ad)) (b := ad (tagO (own k')) r) (cells := c) (slots := s) (e := e) (below := below) (locs := locs) (H := H) (meth := meth) (g := F0 m (pcA k i) lsR (((aR (tagO (own k')) r :: As').reverse ++ rest).map (val ad))) hfix hM
        (R := rm k) (n := nAr k') (index := j) ⟨⟨rfl, rfl, hrm.1, hrm.2, hws, List.mem_cons_self, wd hG hB g1 rfl args, hini, ⟨g3, g4⟩, hparse, wd hG hB (isW_mem hlk2) rfl args⟩, c2, wd hG hB (isW_mem c1) rfl args⟩
        ⟨pcO_blind, hPc⟩ rfl (by rw [List.length_map]; exact hAl') hsz hstk2 hroom (by rw [← e1] at hd; exact hd) ⟨hcm, hcs⟩
      exact s_run hG hrun (hpc3 rfl) hret hthr hC hS hE hT haR hl hL hcm hcs
    · have hlk2 : isW w (.methodLinkNest (own k) j (yy k') hostS) = true := by
        rcases hlk with ((h | h) | h) | h
        · omega
        · exact h.1.2
        · omega
        · omega
      have hrun := vx_runIN (rest := rest.map (val ad)) (As := As'.map (val ad)) (b := ad (tagO (own k')) r) (cells := c) (slots := s) (e := e) (below := below) (locs := locs) (H := H) (meth := meth) (g := F0 m (pcA k i) lsR (((aR (tagO (own k')) r :: As').reverse ++ rest).map (val ad))) hfix hM
        (R := rm k) (n := nAr k') (index := j) (host := hostS) ⟨⟨⟨rfl, rfl, hrm.1, hrm.2, hws, List.mem_cons_self⟩, wd hG hB g1 rfl args, hini, ⟨g3, g4⟩, hparse, va_Nw.use rfl (wdM' hG hB (isW_mem hlk2))⟩, c2, wd hG hB (isW_mem c1) rfl args⟩
        ⟨pcO_blind, hPc⟩ rfl (by rw [List.length_map]; exact hAl') hsz hstk2 hroom (by rw [← e1] at hd; exact hd) ⟨hcm, hcs⟩
      exact s_run hG hrun (hpc3 rfl) hret hthr hC hS hE hT haR hl hL hcm hcs
  | _ => exact absurd hinv (by simp [isInv])
/-- everything that the rules give is so of the machine -/
theorem s_wf (ph : Bool) (K : WK) : c_wf ph (Wst ph K) := by
  intro k i ls st σ c s Q h p e sx m args below meth cd σ0 ad0 ad H locs lsR hC hS hE hT ha hl hL hc1 hc2
  exact h hT.2.1 (fun j v hj => hl j (aI v) hj) p e sx m args below meth cd σ0 ad0 ad H locs lsR hC hS hE hT ha hl hL hc1 hc2
theorem sound (ph : Bool) {K : WK} (hG : G0 K) {k i : Nat} {ls : Vls} {st : List AV} {σ : Mem} {c s : Nat} {Q : Out → Mem → Prop} (h : wp ph k i ls st σ c s Q) : Wst ph K k i ls st σ c s Q :=
  h (Wst ph K) ⟨s_weak ph K, s_plain hG, s_goto ph K, s_if ph K, s_icmp ph K, s_nullN ph K, s_nullR ph K, s_switch ph K, s_call ph hG, s_iret ph K, s_dret ph K, s_aret ph K, s_vret ph K, s_throw ph hG, s_wf ph K⟩
end CallD
