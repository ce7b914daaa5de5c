section Heap3
variable {ph : Bool} {K : WK} {k i pc len : Nat} {raw : Instr} {x : List Nat} {ls ls' : Vls} {st st' : List AV} {σ σ' : Mem} {P : Option Prop} {c s : Nat} {Q : Out → Mem → Prop}
theorem Wst.aok (h : (∀ a ∈ st, aok σ a) → Wst ph K k i ls st σ c s Q) : Wst ph K k i ls st σ c s Q := by
  intro p e sx m args below meth cd σ0 ad0 ad H locs lsR hC hS hE hT ha hl hL hc1 hc2
  exact h ha p e sx m args below meth cd σ0 ad0 ad H locs lsR hC hS hE hT ha hl hL hc1 hc2
theorem s_iaload' (hG : G0 K) (hr : (rows k)[i]? = some (pc, .iaload, len, x)) (h : plain ph .iaload x ls st σ = some (P, ls', st', σ')) (hP : hold P) (hn : Wst ph K k (i + 1) ls' st' σ' c s Q) : Wst ph K k i ls st σ c s Q := by
  refine Wst.aok fun ha => s_iaload hG hr h hP hn (fun a h r e => ?_) (fun a h r e => ?_)
  · have := ha a h; rw [e] at this; exact this
  · have := ha a h; rw [e] at this; exact this
theorem s_alenI {r : Int} {rest : List AV} (hG : G0 K) {C n t0 : Nat} {cA : ClassId} {ty : FieldType} {w : (Nat → Int32) ⊕ (Nat → Int64) ⊕ (Nat → UInt32) ⊕ (Nat → UInt64) ⊕ (Nat → Option Nat)} (hC17 : C < 17) (hn31 : n < 2147483648) (ht : (TY K.2.2.2.2.1)[t0]? = some (cA, ty)) (he : ∀ ad, ∃ w, ent ph ad σ K.2.2.2.2.1 C r = .inl (cA, n, w)) (hr : (rows k)[i]? = some (pc, .arraylength, 1, x)) (hn : Wst ph K k (i + 1) ls (aI n :: rest) σ c s Q) : Wst ph K k i ls (aR C r :: rest) σ c s Q := by
  refine s_pg hr (fun h _ hWf => mkI ⟨by omega, by omega⟩ (tl1 h).2) (fun {p e sx m args below meth cd H locs lsR ad Qf} hC hd hL ha hS hT hk => ?_) hn
  obtain ⟨⟨os, ho1, ho2, ho3, ho4⟩, -, -⟩ := hT.un
  obtain ⟨q0, -, hq⟩ := wld_at (ph := ph) (σ := σ) (ad := ad) (cs := K.2.2.2.2.1) ((ho2 C r).mpr ⟨hC17, (tl1 ha).1⟩)
  have hB : Bg K sx := hC.2.2.2.2.2.2.2.2
  obtain ⟨w, hw⟩ := he ad
  rw [hw] at hq
  exact va_alen hC.1 hC.2.1 (kK hG hB) ho3 q0 t0 hq ht rfl hd hk
theorem s_arraylength (hG : G0 K) (hr : (rows k)[i]? = some (pc, .arraylength, len, x)) (h : plain ph .arraylength x ls st σ = some (P, ls', st', σ')) (hn : Wst ph K k (i + 1) ls' st' σ' c s Q) : Wst ph K k i ls st σ c s Q := by
  have hlen : len = 1 := (row_of hr).2.2.2.1.resolve_left (by simp [ilen])
  subst hlen
  simp only [plain] at h
  split at h
  · rename_i C r rest
    split at h
    · rename_i hC
      cases h
      rcases hC with rfl | rfl | rfl | rfl | rfl
      · have hb := rowLen_bd r
        have e : alen σ 13 r = (((rowLen r).toNat : Nat) : Int) := by unfold alen; rw [if_pos rfl]; omega
        rw [e] at hn
        exact s_alenI hG (C := 13) (n := (rowLen r).toNat) (t0 := 1) (w := .inl (fun _ => 0)) (by omega) (by omega) rfl (fun ad => ⟨_, rfl⟩) hr hn
      · exact s_alenI hG (C := 12) (n := 60) (t0 := 0) (w := .inl (fun _ => 0)) (by omega) (by omega) rfl (fun ad => ⟨_, rfl⟩) hr hn
      · exact s_alenI hG (C := 14) (n := 8) (t0 := 2) (w := .inl (fun _ => 0)) (by omega) (by omega) rfl (fun ad => ⟨_, rfl⟩) hr hn
      · refine Wst.aok fun ha => ?_
        have h0 : r = 0 := (tl1 ha).1
        subst h0
        exact s_alen17 hG hr hn
      · refine Wst.aok fun ha => ?_
        have h0 : r = 0 ∨ r = 1 := (tl1 ha).1
        have hk : ∀ a : Nat, a ≤ 1 → Wst ph K k i ls (aR 18 a :: rest) σ c s Q := by
          intro a ha1
          refine s_pg hr (fun h _ hWf => mkI (show inR 9 from ⟨by decide, by decide⟩) (tl1 h).2) (fun {p e sx m args below meth cd H locs lsR ad Qf} hC hd hL ha hS hT hk => ?_) hn
          have hRd := hT.un.2.2
          have hB : Bg K sx := hC.2.2.2.2.2.2.2.2
          have e1 := (sta_at hG hB ha1).2
          have hRd2 : ad 18 a = K.2.2.2.2.2.2 18 a := by
            obtain ⟨l, s0, z, D, cs, σs, ads⟩ := K
            rcases (show a = 0 ∨ a = 1 by omega) with rfl | rfl
            · exact hRd.2.2.1
            · exact hRd.2.2.2
          show W p K.1 e (rm k) sx m args below meth cd H locs c s Qf (F0 m pc lsR (.ref (ad 18 a) :: rest.map (val ad)))
          rw [hRd2]
          exact va_tlen hC.1 hC.2.1 e1 hS rfl hd hk
        rcases h0 with rfl | rfl
        · exact hk 0 (by omega)
        · exact hk 1 (by omega)
    · cases h
  · cases h
theorem s_getstatic (hG : G0 K) {j : Nat} (hr : (rows k)[i]? = some (pc, .getstatic j, len, x)) (h : plain ph (.getstatic j) x ls st σ = some (P, ls', st', σ')) (hn : Wst ph K k (i + 1) ls' st' σ' c s Q) : Wst ph K k i ls st σ c s Q := by
  have hlen : len = 3 := (row_of hr).2.2.2.1.resolve_left (by simp [ilen])
  subst hlen
  simp only [plain] at h
  split at h
  · rename_i a w n
    split at h
    · rename_i ha1
      cases h
      have hlk := (row_of hr).2.1
      simp only [lkOK] at hlk
      refine s_pg hr (fun h _ hWf => mk1 (P := aok σ) (a := aR 18 a) (show (a : Int) = 0 ∨ (a : Int) = 1 by omega) h) (fun {p e sx m args below meth cd H locs lsR ad Qf} hC hd hL ha hS hT hk => ?_) hn
      have hRd := hT.un.2.2
      have hB : Bg K sx := hC.2.2.2.2.2.2.2.2
      have e1 := (sta_at hG hB ha1).1
      have hRd2 : ad 18 a = K.2.2.2.2.2.2 18 a := by
        obtain ⟨l, s0, z, D, cs, σs, ads⟩ := K
        rcases (show a = 0 ∨ a = 1 by omega) with rfl | rfl
        · exact hRd.2.2.1
        · exact hRd.2.2.2
      have hk : W p K.1 e (rm k) sx m args below meth cd H locs c s Qf (F0 m (pc + 3) lsR (.ref (ad 18 a) :: st.map (val ad))) := hk
      rw [hRd2] at hk
      by_cases hn0 : n = 0
      · rw [if_pos hn0] at hlk
        exact va_gets hC.1 hC.2.1 e1 hS hC.2.2.2.2.1 (wd hG hB (isW_mem hlk) rfl args) (fun _ h => h) hd hk
      · rw [if_neg hn0] at hlk
        exact va_getsN hC.1 hC.2.1 e1 hS hC.2.2.2.2.1 (wdF hG hB (isW_mem hlk) args) (fun _ h => h) hd hk
    · cases h
  · cases h
theorem nv_at {j n a b : Nat} (hr : (rows k)[i]? = some (pc, .invokestatic j, len, [n, a, b])) (h : n = 6 ∨ n = 7 ∨ n = 8) : 1 ≤ frm k ∧ 100 ≤ lcl k := by
  have h2 := List.all_eq_true.mp (nvAll _ (mi_mem k)) _ (List.mem_of_getElem? hr)
  simp only [nvR, h, if_true, Bool.and_eq_true, decide_eq_true_eq] at h2
  exact h2
theorem cat_sum (ad : AD) : ∀ (r : List AV), ((r.map (val ad)).map fun v => v.category).sum ≤ 2 * r.length
  | [] => by simp
  | a :: r => by
    have h := cat_sum ad r
    have h2 := lv_cat (val ad a)
    simp only [List.map_cons, List.sum_cons, List.length_cons]
    omega
theorem ofI_if {a b u v : Int} (ha : inR a) (hb : inR b) : (if Int32.ofInt a < Int32.ofInt b then Int32.ofInt u else Int32.ofInt v) = Int32.ofInt (if a < b then u else v) := by
  have e : (Int32.ofInt a < Int32.ofInt b) ↔ a < b := by rw [Int32.lt_iff_toInt_lt, toI_of ha, toI_of hb]
  by_cases h : a < b
  · rw [if_pos h, if_pos (e.mpr h)]
  · rw [if_neg h, if_neg (fun q => h (e.mp q))]
theorem if_in {p : Prop} [Decidable p] {a b : Int} (ha : inR a) (hb : inR b) : inR (if p then a else b) := by split <;> assumption
theorem s_mm (hG : G0 K) {j n a b : Nat} (h67 : n = 6 ∨ n = 7) {y z : Int} {r : List AV} (hlr : r.length ≤ 6) (hr : (rows k)[i]? = some (pc, .invokestatic j, 3, [n, a, b])) (hn : Wst ph K k (i + 1) ls (aI (if n = 6 then (if z < y then y else z) else (if y < z then y else z)) :: r) σ c s Q) : Wst ph K k i ls (aI y :: aI z :: r) σ c s Q := by
  obtain ⟨hf, hlc⟩ := nv_at hr (by omega)
  have hlk := (row_of hr).2.1
  simp only [lkOK, Bool.or_eq_true, Bool.and_eq_true, decide_eq_true_eq] at hlk
  refine Wst.aok fun ha0 => ?_
  have hy : inR y := (tl2 ha0).1
  have hz : inR z := (tl2 ha0).2.1
  intro p e sx m args below meth cd σ0 ad0 ad H locs lsR hC hS hE hT ha hl hL hc1 hc2
  obtain ⟨hd, -, -, -, e1, e2⟩ := row_of hr
  rw [e1]
  have h := hn p e sx m args below meth cd σ0 ad0 ad H locs lsR hC hS hE hT (mkI (by split <;> exact if_in ‹_› ‹_›) (tl2 ha).2.2) hl hL hc1 hc2
  rw [e2] at h
  have hB : Bg K sx := hC.2.2.2.2.2.2.2.2
  have hml : cd.maxLocals = lsR.size := by rw [hC.2.2.2.1, hL.1]
  have hcs := cat_sum ad r
  rcases h67 with rfl | rfl
  · have hw : isW b (.methodLink (own k) j Lib.Math.max.name) = true := by
      rcases hlk with ((h | h) | h) | h
      · omega
      · exact h.2
      · omega
      · omega
    refine va_mmax hC.1 hC.2.1 hml hC.2.2.2.2.1 (wd hG hB (isW_mem hw) rfl _) (wd hG hB w_max.1 rfl _) (wd hG hB w_max.2.1 rfl _) (wd hG hB w_max.2.2 rfl _) hf (by show _ ≤ lcl k; omega) hc1 hc2 hd ?_
    rw [ofI_if hz hy]
    exact h
  · have hw : isW b (.methodLink (own k) j Lib.Math.min.name) = true := by
      rcases hlk with ((h | h) | h) | h
      · omega
      · omega
      · exact h.2
      · omega
    refine va_mmin hC.1 hC.2.1 hml hC.2.2.2.2.1 (wd hG hB (isW_mem hw) rfl _) (wd hG hB w_min.1 rfl _) (wd hG hB w_max.2.1 rfl _) (wd hG hB w_min.2 rfl _) hf (by show _ ≤ lcl k; omega) hc1 hc2 hd ?_
    rw [ofI_if hy hz]
    exact h
theorem cp_tag {C' : Nat} (h : C' ≠ 13) {a d sp dp n : Int} (r' j : Int) : cpM σ a d sp dp n C' r' j = σ C' r' j := by
  unfold cpM
  rw [if_neg]
  rintro ⟨h1, -⟩
  exact h h1
theorem cp_in (h : Wf ph σ) {a d sp dp n : Int} (r j : Int) : inR (cpM σ a d sp dp n 13 r j) := by
  unfold cpM
  split
  · exact h.1 13 _ _ (by omega) (by omega) (by omega)
  · exact h.1 13 _ _ (by omega) (by omega) (by omega)
theorem Wf_cp (h : Wf ph σ) {a d sp dp n : Int} : Wf ph (cpM σ a d sp dp n) := by
  have h0 := @cp_in ph σ h a d sp dp n
  obtain ⟨a1, a2, a3, a4, a5, a6, a7⟩ := h
  have e20 : (cpM σ a d sp dp n) 20 = σ 20 := by funext r' j; exact cp_tag (by omega) r' j
  refine ⟨fun C' r' j q1 q2 q3 => ?_, fun r' j => ?_, fun r' j => ?_, fun r' j => ?_, fun C' r' k' f q1 q2 => ?_, fun C' r' k' f q1 q2 q3 q4 q5 => ?_, fun r' j q1 q2 q3 q4 => ?_⟩
  · by_cases h13 : C' = 13
    · subst h13; exact h0 r' j
    · rw [cp_tag h13]; exact a1 C' r' j q1 q2 q3
  · rw [cp_tag (by omega)]; exact a2 r' j
  · rw [cp_tag (by omega)]; exact a3 r' j
  · rw [cp_tag (by omega)]; exact a4 r' j
  · by_cases h13 : C' = 13
    · subst h13; rw [fsp_big (by omega)] at q1; cases q1
    · rw [cp_tag h13]; exact a5 C' r' k' f q1 q2
  · rw [vld_of e20] at q2 ⊢
    rw [cp_tag (by omega)] at q5
    exact a6 C' r' k' f q1 q2 q3 q4 q5
  · rw [vld_of e20] at q1 ⊢
    rw [cp_tag (by omega)] at q4
    exact a7 r' j q1 q2 q3 q4
theorem nfw : nativeFrameWords "java/lang/System" "arraycopy" 5 ≤ 60 := by decide
theorem s_copy (hG : G0 K) {j a b : Nat} {n dp d sp u : Int} {r : List AV} (hlr : r.length ≤ 4) (h1 : 0 ≤ sp) (h2 : 0 ≤ dp) (h3 : 0 ≤ n) (h4 : sp + n ≤ rowLen u) (h5 : dp + n ≤ rowLen d) (hr : (rows k)[i]? = some (pc, .invokestatic j, 3, [8, a, b])) (hn : Wst ph K k (i + 1) ls r (cpM σ u d sp dp n) c s Q) : Wst ph K k i ls (aI n :: aI dp :: aR 13 d :: aI sp :: aR 13 u :: r) σ c s Q := by
  have hlk := (row_of hr).2.1
  simp only [lkOK, Bool.or_eq_true, Bool.and_eq_true, decide_eq_true_eq] at hlk
  have hw : isW b (.methodLink (own k) j arraycopyName) = true := by
    rcases hlk with ((h | h) | h) | h
    · omega
    · omega
    · omega
    · exact h.2
  refine s_hp hr (fun ha hWf => Wf_cp hWf) (by funext r' j; exact cp_tag (by omega) r' j) (by funext r' j; exact cp_tag (by omega) r' j) (by funext r' j; exact cp_tag (by omega) r' j) (fun a h => by simp [h]) (fun {p e sx m args below meth cd H locs lsR ad Qf os} hC hd hL ha hWf hS ho1 ho2 ho3 ho4 hk => ?_) hn
  have hB : Bg K sx := hC.2.2.2.2.2.2.2.2
  obtain ⟨hn1, hdp1, ha2⟩ := tl2 ha
  obtain ⟨hd1, hsp1, ha3⟩ := tl2 ha2
  obtain ⟨hu1, -⟩ := tl1 ha3
  have hn1 : inR n := hn1
  have hdp1 : inR dp := hdp1
  have hsp1 : inR sp := hsp1
  obtain ⟨q0, hq0, hq⟩ := wld_at (ph := ph) (σ := σ) (ad := ad) (cs := K.2.2.2.2.1) ((ho2 13 u).mpr ⟨by omega, hu1⟩)
  obtain ⟨q1, hq1, hqd⟩ := wld_at (ph := ph) (σ := σ) (ad := ad) (cs := K.2.2.2.2.1) ((ho2 13 d).mpr ⟨by omega, hd1⟩)
  have hml : cd.maxLocals = lsR.size := by rw [hC.2.2.2.1, hL.1]
  have hset : (wld ph ad σ K.2.2.2.2.1 os).set q1 (ad 13 d, .inl (K.2.2.2.2.1.2.1, (rowLen d).toNat, .inl (va_cpy (fun q => Int32.ofInt (σ 13 u q)) (fun q => Int32.ofInt (σ 13 d q)) (Int32.ofInt sp).toNatClampNeg (Int32.ofInt dp).toNatClampNeg (Int32.ofInt n).toNatClampNeg))) = wld ph ad (cpM σ u d sp dp n) K.2.2.2.2.1 os := by
    refine wld_set ho1 hq1 (fun C' r' h j => ?_) ?_
    · unfold cpM
      rw [if_neg]
      rintro ⟨rfl, rfl, -⟩
      exact h rfl
    · rw [clp h1 hsp1, clp h2 hdp1, clp h3 hn1]
      have e : va_cpy (fun (q : Nat) => Int32.ofInt (σ 13 u q)) (fun (q : Nat) => Int32.ofInt (σ 13 d q)) sp.toNat dp.toNat n.toNat = fun (q : Nat) => Int32.ofInt (cpM σ u d sp dp n 13 d q) := by
        funext q
        unfold va_cpy cpM
        by_cases hq : dp.toNat ≤ q ∧ q < dp.toNat + n.toNat
        · rw [if_pos hq, if_pos ⟨rfl, rfl, by omega, by omega⟩]
          dsimp only
          rw [show ((sp.toNat + (q - dp.toNat) : Nat) : Int) = sp + ((q : Int) - dp) by omega]
        · rw [if_neg hq, if_neg]
          rintro ⟨-, -, h6, h7⟩
          exact hq ⟨by omega, by omega⟩
      rw [e]
      rfl
  have nneg : ∀ {v : Int}, 0 ≤ v → inR v → ¬ Int32.ofInt v < 0 := by
    intro v h0 h
    rw [Int32.lt_iff_toInt_lt, toI_of h]
    have : (0 : Int32).toInt = 0 := by decide
    omega
  exact va_copyi hC.1 hC.2.1 hml hC.2.2.2.2.1 (wd hG hB (isW_mem hw) rfl _) (wd hG hB w_cpy.1 rfl _) (wd hG hB w_cpy.2.1 rfl _) (wd hG hB w_cpy.2.2 rfl _) (kK hG hB) ho3 ho4 hS q0 q1 1 1 hq hqd rfl rfl rfl (nneg h1 hsp1) (nneg h2 hdp1) (nneg h3 hn1) (by rw [clp h1 hsp1, clp h3 hn1]; omega) (by rw [clp h2 hdp1, clp h3 hn1]; omega) (fun _ _ => rfl) (nv_at hr (by omega)).1 (by have h9 := cat_sum ad r; have h8 := nfw; have h7 := (nv_at hr (by omega)).2; show _ ≤ lcl k; omega) hd (fun H1 locs1 a1 a2 a3 => hk H1 locs1 (hset ▸ a1) (hset ▸ a2) a3)
end Heap3
