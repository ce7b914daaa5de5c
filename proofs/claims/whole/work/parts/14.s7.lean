section Flow
variable {ph : Bool} {K : WK} {k i pc len : Nat} {raw : Instr} {x : List Nat} {ls ls' : Vls} {st st' : List AV} {σ σ' : Mem} {P : Option Prop} {c s : Nat} {Q : Out → Mem → Prop}
theorem jp {k t pc : Nat} {off : Int} (h : decide ((pc : Int) + off = (pcL (rows k) t : Int)) = true) : (pc : Int) + off = ((pcA k t : Nat) : Int) := of_decide_eq_true h
theorem s_goto (ph : Bool) (K : WK) : c_goto (Wst ph K) := by
  intro k i ls st σ c s Q pc off len t hr hn p e sx m args below meth cd σ0 ad0 ad H locs lsR hC hS hE hT ha hl hL hc1 hc2
  obtain ⟨hd, -, hj, hl3, e1, -⟩ := row_of hr
  have hlen : len = 3 := hl3.resolve_left (by simp [ilen])
  subst hlen
  rw [e1]
  exact lv_goto hC.1 hC.2.1 hd (jp hj) (hn p e sx m args below meth cd σ0 ad0 ad H locs lsR hC hS hE hT ha hl hL hc1 hc2)
theorem ofI_eq {a b : Int} (ha : inR a) (hb : inR b) : Int32.ofInt a = Int32.ofInt b ↔ a = b := by rw [← Int32.toInt_inj, toI_of ha, toI_of hb]
theorem ofI_lt {a b : Int} (ha : inR a) (hb : inR b) : Int32.ofInt a < Int32.ofInt b ↔ a < b := by rw [Int32.lt_iff_toInt_lt, toI_of ha, toI_of hb]
theorem ofI_le {a b : Int} (ha : inR a) (hb : inR b) : Int32.ofInt a ≤ Int32.ofInt b ↔ a ≤ b := by rw [Int32.le_iff_toInt_le, toI_of ha, toI_of hb]
theorem s_icmp (ph : Bool) (K : WK) : c_icmp (Wst ph K) := by
  intro k i ls st σ c s Q pc cd off len t v w hr ht hf p e sx m args below meth cde σ0 ad0 ad H locs lsR hC hS hE hT ha hl hL hc1 hc2
  obtain ⟨hd, -, hj, hl3, e1, e2⟩ := row_of hr
  have hlen : len = 3 := hl3.resolve_left (by simp [ilen])
  subst hlen
  rw [e1]
  have hw : inR w := (tl2 ha).1
  have hv : inR v := (tl2 ha).2.1
  have kt := fun hc => ht hc p e sx m args below meth cde σ0 ad0 ad H locs lsR hC hS hE hT (tl2 ha).2.2 hl hL hc1 hc2
  have kf := fun hc => hf hc p e sx m args below meth cde σ0 ad0 ad H locs lsR hC hS hE hT (tl2 ha).2.2 hl hL hc1 hc2
  rw [e2] at kf
  cases cd with
  | eq => exact lv_icmp_eq hC.1 hC.2.1 hd (jp hj) (fun h => kt ((ofI_eq hv hw).mp h)) (fun h => kf (fun q => h ((ofI_eq hv hw).mpr q)))
  | ne => exact lv_icmp_ne hC.1 hC.2.1 hd (jp hj) (fun h => kt (fun q => h ((ofI_eq hv hw).mpr q))) (fun h => kf (fun q => q ((ofI_eq hv hw).mp h)))
  | lt => exact lv_icmp_lt hC.1 hC.2.1 hd (jp hj) (fun h => kt ((ofI_lt hv hw).mp h)) (fun h => kf (fun q => h ((ofI_lt hv hw).mpr q)))
  | ge => exact lv_icmp_ge hC.1 hC.2.1 hd (jp hj) (fun h => kt ((ofI_le hw hv).mp h)) (fun h => kf (fun q => h ((ofI_le hw hv).mpr q)))
  | gt => exact lv_icmp_gt hC.1 hC.2.1 hd (jp hj) (fun h => kt ((ofI_lt hw hv).mp h)) (fun h => kf (fun q => h ((ofI_lt hw hv).mpr q)))
  | le => exact lv_icmp_le hC.1 hC.2.1 hd (jp hj) (fun h => kt ((ofI_le hv hw).mp h)) (fun h => kf (fun q => h ((ofI_le hv hw).mpr q)))
theorem s_if (ph : Bool) (K : WK) : c_if (Wst ph K) := by
  intro k i ls st σ c s Q pc cd off len t v hr ht hf p e sx m args below meth cde σ0 ad0 ad H locs lsR hC hS hE hT ha hl hL hc1 hc2
  obtain ⟨hd, -, hj, hl3, e1, e2⟩ := row_of hr
  have hlen : len = 3 := hl3.resolve_left (by simp [ilen])
  subst hlen
  rw [e1]
  have hv : inR v := (tl1 ha).1
  have hw : inR 0 := ⟨by decide, by decide⟩
  have kt := fun hc => ht hc p e sx m args below meth cde σ0 ad0 ad H locs lsR hC hS hE hT (tl1 ha).2 hl hL hc1 hc2
  have kf := fun hc => hf hc p e sx m args below meth cde σ0 ad0 ad H locs lsR hC hS hE hT (tl1 ha).2 hl hL hc1 hc2
  rw [e2] at kf
  cases cd with
  | eq => exact lv_if_eq hC.1 hC.2.1 hd (jp hj) (fun h => kt ((ofI_eq hv hw).mp h)) (fun h => kf (fun q => h ((ofI_eq hv hw).mpr q)))
  | ne => exact lv_if_ne hC.1 hC.2.1 hd (jp hj) (fun h => kt (fun q => h ((ofI_eq hv hw).mpr q))) (fun h => kf (fun q => q ((ofI_eq hv hw).mp h)))
  | lt => exact lv_if_lt hC.1 hC.2.1 hd (jp hj) (fun h => kt ((ofI_lt hv hw).mp h)) (fun h => kf (fun q => h ((ofI_lt hv hw).mpr q)))
  | ge => exact lv_if_ge hC.1 hC.2.1 hd (jp hj) (fun h => kt ((ofI_le hw hv).mp h)) (fun h => kf (fun q => h ((ofI_le hw hv).mpr q)))
  | gt => exact lv_if_gt hC.1 hC.2.1 hd (jp hj) (fun h => kt ((ofI_lt hw hv).mp h)) (fun h => kf (fun q => h ((ofI_lt hw hv).mpr q)))
  | le => exact lv_if_le hC.1 hC.2.1 hd (jp hj) (fun h => kt ((ofI_le hv hw).mp h)) (fun h => kf (fun q => h ((ofI_le hv hw).mpr q)))
theorem s_nullN (ph : Bool) (K : WK) : c_nullN (Wst ph K) := by
  intro k i ls st σ c s Q pc off len t hr hn p e sx m args below meth cd σ0 ad0 ad H locs lsR hC hS hE hT ha hl hL hc1 hc2
  obtain ⟨hd, -, hj, hl3, e1, -⟩ := row_of hr
  have hlen : len = 3 := hl3.resolve_left (by simp [ilen])
  subst hlen
  rw [e1]
  exact lv_ifnullN hC.1 hC.2.1 hd (jp hj) (hn p e sx m args below meth cd σ0 ad0 ad H locs lsR hC hS hE hT (tl1 ha).2 hl hL hc1 hc2)
theorem s_nullR (ph : Bool) (K : WK) : c_nullR (Wst ph K) := by
  intro k i ls st σ c s Q pc off len t C r hr hn p e sx m args below meth cd σ0 ad0 ad H locs lsR hC hS hE hT ha hl hL hc1 hc2
  obtain ⟨hd, -, hj, hl3, e1, e2⟩ := row_of hr
  have hlen : len = 3 := hl3.resolve_left (by simp [ilen])
  subst hlen
  rw [e1]
  have h := hn p e sx m args below meth cd σ0 ad0 ad H locs lsR hC hS hE hT (tl1 ha).2 hl hL hc1 hc2
  rw [e2] at h
  exact lv_ifnull hC.1 hC.2.1 hd h
theorem s_weak (ph : Bool) (K : WK) : c_weak (Wst ph K) := by
  intro k i ls ls' st σ c s Q hle hn p e sx m args below meth cd σ0 ad0 ad H locs lsR hC hS hE hT ha hl hL hc1 hc2
  exact hn p e sx m args below meth cd σ0 ad0 ad H locs lsR hC hS hE hT ha (fun j a h => hl j a (hle.2 j a h)) ⟨hL.1, hle.1.trans hL.2.1, hL.2.2.1, fun j a h => hL.2.2.2 j a (hle.2 j a h)⟩ hc1 hc2
theorem s_switch (ph : Bool) (K : WK) : c_switch (Wst ph K) := by
  intro k i ls st σ c s Q pc dflt lo hi offs len ts v hr hn p e sx m args below meth cd σ0 ad0 ad H locs lsR hC hS hE hT ha hl hL hc1 hc2
  obtain ⟨hd, -, hj, -, e1, -⟩ := row_of hr
  rw [e1]
  have hv : inR v := (tl1 ha).1
  have h := hn p e sx m args below meth cd σ0 ad0 ad H locs lsR hC hS hE hT (tl1 ha).2 hl hL hc1 hc2
  cases ts with
  | nil => simp [jpOK] at hj
  | cons d ts =>
    simp only [jpOK, Bool.and_eq_true, decide_eq_true_eq] at hj
    obtain ⟨⟨⟨h1, h2⟩, h3⟩, h4⟩ := hj
    show W p K.1 e (rm k) sx m args below meth cd H locs c s _ (F0 m pc lsR (.int (Int32.ofInt v) :: st.map (val ad)))
    unfold swT at h
    dsimp only at h
    by_cases hlo : lo ≤ v
    · rw [if_pos hlo] at h
      by_cases hhi : v ≤ hi
      · have hlt : (v - lo).toNat < ts.length := by omega
        have hlt2 : (v - lo).toNat < offs.size := by omega
        have e5 : ts.getD (v - lo).toNat d = ts[(v - lo).toNat] := by
          rw [List.getD_eq_getElem?_getD, List.getElem?_eq_getElem hlt]; rfl
        rw [e5] at h
        have hz : (ts[(v - lo).toNat], offs[(v - lo).toNat]) ∈ ts.zip offs.toList := by
          refine List.mem_of_getElem? (i := (v - lo).toNat) ?_
          rw [List.getElem?_zip_eq_some]
          exact ⟨List.getElem?_eq_getElem hlt, by rw [Array.getElem?_toList]; exact Array.getElem?_eq_getElem hlt2⟩
        have h5 := of_decide_eq_true (List.all_eq_true.mp h4 _ hz)
        exact lv_tableIn hC.1 hC.2.1 hd (by rw [toI_of hv]; omega) (by rw [toI_of hv]; omega) (by rw [toI_of hv]; exact Array.getElem?_eq_getElem hlt2) h5 h
      · have e5 : ts.getD (v - lo).toNat d = d := by
          rw [List.getD_eq_getElem?_getD, List.getElem?_eq_none (by omega)]; rfl
        rw [e5] at h
        exact lv_tableOut hC.1 hC.2.1 hd (by rw [toI_of hv]; omega) h1 h
    · rw [if_neg hlo] at h
      exact lv_tableOut hC.1 hC.2.1 hd (by rw [toI_of hv]; omega) h1 h
/-- a return -/
theorem s_end {v : Option AV} {p : Program} {sx : State} {args : Array Value} {m : MethodId} {meth : Method} {cd : Code} {σ0 : Mem} {ad0 ad ad' : AD} {H : Heap} {locs : List Loc}
    (hC : Cx K k p sx m meth cd) (hS : va_S (Zp K) sx.heap H locs) (hE : Ext σ0 ad0 σ ad) (hT : Sw ph K ad σ H) (hQ : Q (.inl v) σ) (hv : ∀ a, v = some a → aok σ a)
    (h18 : ∀ (C : Nat) (r : Int), C ≤ 18 → ad' C r = ad C r) (h19 : ∀ r, ad' 19 r = ad0 19 r) (hT' : Sw ph K ad' σ H) {o : Outcome} (ho : o = .returned (v.map (val ad'))) :
    ∀ t : State, t.heap = H → sx.WarmedH t.vm → QcO ph K σ0 ad0 Q args sx o t := by
  intro t ht hW
  refine ⟨ad', σ, v, ho, hQ, hv, fun C r q1 q2 => ⟨(hE C r q1 q2).1, (h18 C r (by omega)).trans (hE C r q1 q2).2⟩, h19, by rw [ht]; exact hT', hS.F ht⟩
theorem fsp_tag (C : Nat) : ∀ f ∈ fsp C, f.2.2.2 ≤ 18 := by
  unfold fsp
  split <;> decide
theorem Sw_ad {ad ad' : AD} {H : Heap} (h : Sw ph K ad σ H) (he : ∀ (C : Nat) (r : Int), C ≤ 18 → ad' C r = ad C r) : Sw ph K ad' σ H := by
  obtain ⟨l, s0, z, D, cs, σs, ads⟩ := K
  obtain ⟨⟨os, ho1, ho2, ho3, ho4⟩, hWf, hRd⟩ := h
  have e : wld ph ad' σ cs os = wld ph ad σ cs os := by
    unfold wld
    refine List.map_congr_left fun o ho => ?_
    have hC : o.1 < 17 := ((ho2 o.1 o.2).mp ho).1
    rw [he o.1 o.2 (by omega)]
    have e2 : ent ph ad' σ cs o.1 o.2 = ent ph ad σ cs o.1 o.2 := by
      unfold ent
      have e3 : flds ph ad' σ o.1 o.2 = flds ph ad σ o.1 o.2 := by
        unfold flds
        refine List.ext_getElem? fun n => ?_
        rw [List.getElem?_mapIdx, List.getElem?_mapIdx]
        cases hf : (fsp o.1)[n]? with
        | none => rfl
        | some f =>
          show some _ = some _
          unfold fval
          dsimp only
          rw [he f.2.2.2 _ (fsp_tag o.1 f (List.mem_of_getElem? hf))]
      rw [e3]
      simp only [he 2 _ (by omega)]
    rw [e2]
  refine ⟨⟨os, ho1, ho2, by rw [e]; exact ho3, by rw [e]; exact ho4⟩, hWf, ⟨hRd.1, ?_, ?_, ?_⟩⟩
  · rw [he 17 0 (by omega)]; exact hRd.2.1
  · rw [he 18 0 (by omega)]; exact hRd.2.2.1
  · rw [he 18 1 (by omega)]; exact hRd.2.2.2
def reAd (ad ad0 : AD) : AD := fun C r => if C = 19 then ad0 C r else ad C r
theorem reAd18 {ad ad0 : AD} (C : Nat) (r : Int) (h : C ≤ 18) : reAd ad ad0 C r = ad C r := by unfold reAd; rw [if_neg (by omega)]
theorem reAd19 {ad ad0 : AD} (r : Int) : reAd ad ad0 19 r = ad0 19 r := by unfold reAd; rw [if_pos rfl]
theorem s_iret (ph : Bool) (K : WK) : c_iret (Wst ph K) := by
  intro k i ls σ c s Q pc len x v hr hret hQ p e sx m args below meth cd σ0 ad0 ad H locs lsR hC hS hE hT ha hl hL hc1 hc2
  obtain ⟨hd, -, hj, hl3, e1, -⟩ := row_of hr
  have hlen : len = 1 := hl3.resolve_left (by simp [ilen])
  subst hlen
  rw [e1]
  refine W.widen hc1 hc2 (vx_ret ?_)
  have hend := s_end (args := args) hC hS hE hT hQ (fun a h => by cases h; exact (tl1 ha).1) reAd18 reAd19 (Sw_ad hT reAd18) (v := some (aI v)) rfl
  have hrt : meth.sig.returnType = rett k := hC.2.2.1
  have hlk := hC.2.2.2.2.2.1
  rcases hret with h | ⟨h, h01⟩
  · exact W.iret hC.1 hC.2.1 (hrt.trans h) hend hS.2.2 hd hlk
  · exact W.zret hC.1 hC.2.1 (hrt.trans h) (by rcases h01 with rfl | rfl <;> decide) hend hS.2.2 hd hlk
theorem s_dret (ph : Bool) (K : WK) : c_dret (Wst ph K) := by
  intro k i ls σ c s Q pc len x v hr hret hQ p e sx m args below meth cd σ0 ad0 ad H locs lsR hC hS hE hT ha hl hL hc1 hc2
  obtain ⟨hd, -, hj, hl3, e1, -⟩ := row_of hr
  have hlen : len = 1 := hl3.resolve_left (by simp [ilen])
  subst hlen
  rw [e1]
  refine W.widen hc1 hc2 (vx_ret ?_)
  exact W.dret hC.1 hC.2.1 (hC.2.2.1.trans hret) (s_end (args := args) hC hS hE hT hQ (fun a h => by cases h; exact (tl1 ha).1) reAd18 reAd19 (Sw_ad hT reAd18) (v := some (aD v)) rfl) hS.2.2 hd hC.2.2.2.2.2.1
theorem s_vret (ph : Bool) (K : WK) : c_vret (Wst ph K) := by
  intro k i ls σ c s Q pc len x hr hret hQ p e sx m args below meth cd σ0 ad0 ad H locs lsR hC hS hE hT ha hl hL hc1 hc2
  obtain ⟨hd, -, hj, hl3, e1, -⟩ := row_of hr
  have hlen : len = 1 := hl3.resolve_left (by simp [ilen])
  subst hlen
  rw [e1]
  refine W.widen hc1 hc2 (vx_ret ?_)
  exact W.vret hC.1 hC.2.1 (hC.2.2.1.trans hret) (s_end (args := args) hC hS hE hT hQ (fun a h => by cases h) reAd18 reAd19 (Sw_ad hT reAd18) (v := none) rfl) hS.2.2 hd hC.2.2.2.2.2.1
theorem s_aret (ph : Bool) (K : WK) : c_aret (Wst ph K) := by
  intro k i ls σ c s Q pc len x v hr hret hv hQ p e sx m args below meth cd σ0 ad0 ad H locs lsR hC hS hE hT ha hl hL hc1 hc2
  obtain ⟨hd, -, hj, hl3, e1, -⟩ := row_of hr
  have hlen : len = 1 := hl3.resolve_left (by simp [ilen])
  subst hlen
  rw [e1]
  refine W.widen hc1 hc2 (vx_ret ?_)
  have hend := fun {o} ho => s_end (args := args) (o := o) hC hS hE hT hQ (fun a h => by cases h; exact (tl1 ha).1) reAd18 reAd19 (Sw_ad hT reAd18) (v := some (.inr (.inr (.inr v)))) ho
  rcases hv with rfl | ⟨r, rfl⟩
  · exact W.aret hC.1 hC.2.1 (hC.2.2.1.trans hret) (Or.inl ⟨_, rfl⟩) (Or.inl rfl) (hend rfl) hS.2.2 hd hC.2.2.2.2.2.1
  · exact W.aret hC.1 hC.2.1 (hC.2.2.1.trans hret) (Or.inl ⟨_, rfl⟩) (Or.inr ⟨_, rfl⟩) (hend (by show _ = Outcome.returned (some (Value.ref _)); rw [reAd18 2 r (by omega)])) hS.2.2 hd hC.2.2.2.2.2.1
end Flow
