section Heap
variable {ph : Bool} {K : WK} {k i pc len : Nat} {raw : Instr} {x : List Nat} {ls ls' : Vls} {st st' : List AV} {σ σ' : Mem} {P : Option Prop} {c s : Nat} {Q : Out → Mem → Prop}
theorem goodU {C : String} {T : u_T} {N : Nat} : ∀ w ∈ u_ws C T N, goodWord w = true := by
  intro w hw
  obtain ⟨k, -, rfl⟩ := List.mem_map.mp hw
  unfold u_lay
  split <;> rfl
/-- a class by its number: its name, how many fields, its words, its fields' types -/
theorem mcF {C : Nat} (h : C < 12) : ∃ (Cn : String) (ty : Nat → FieldType), MC[C]? = some (Cn, fF C, (fsp C).length) ∧ (∀ w ∈ u_ws Cn (fF C) (fsp C).length, w ∈ lw_tbl) ∧ (∀ k, k < (fsp C).length → parseFieldDescriptor (fF C k).2.2.1 = some (ty k)) ∧ (∀ a, a < (fsp C).length → ∀ b, b < (fsp C).length → a ≠ b → (fF C a).2.1 ≠ (fF C b).2.1) := by
  match C, h with
  | 0, _ => exact ⟨RX0, tyX0, rfl, inX0, tyX0_ok, nmX0⟩
  | 1, _ => exact ⟨RX1, tyX1, rfl, inX1, tyX1_ok, nmX1⟩
  | 2, _ => exact ⟨RX2, tyX2, rfl, inX2, tyX2_ok, nmX2⟩
  | 3, _ => exact ⟨RX3, tyX3, rfl, inX3, tyX3_ok, nmX3⟩
  | 4, _ => exact ⟨RX4, tyX4, rfl, inX4, tyX4_ok, nmX4⟩
  | 5, _ => exact ⟨RX5, tyX5, rfl, inX5, tyX5_ok, nmX5⟩
  | 6, _ => exact ⟨RX6, tyX6, rfl, inX6, tyX6_ok, nmX6⟩
  | 7, _ => exact ⟨RX7, tyX7, rfl, inX7, tyX7_ok, nmX7⟩
  | 8, _ => exact ⟨RX8, tyX8, rfl, inX8, tyX8_ok, nmX8⟩
  | 9, _ => exact ⟨RX9, tyX9, rfl, inX9, tyX9_ok, nmX9⟩
  | 10, _ => exact ⟨RX10, tyX10, rfl, inX10, tyX10_ok, nmX10⟩
  | 11, _ => exact ⟨RX11, tyX11, rfl, inX11, tyX11_ok, nmX11⟩
def kdC (C f : Nat) : Bool := match (fsp C)[f]? with
  | some (kd, _, _, _) => if kd = 0 then decide (parseFieldDescriptor (fF C f).2.2.1 = some .int) else if kd = 1 then decide (parseFieldDescriptor (fF C f).2.2.1 = some .boolean) else true
  | none => true
theorem kdAll : (List.range 12).all (fun C => (List.range 16).all (fun f => kdC C f)) = true := by decide +kernel
theorem fsp_len (C : Nat) : (fsp C).length ≤ 16 := by
  unfold fsp
  split <;> simp [fs_0, fs_1, fs_2, fs_3, fs_4, fs_5, fs_6, fs_7, fs_8, fs_9, fs_10, fs_11]
theorem fsp_big {C : Nat} (h : 12 ≤ C) : fsp C = [] := by
  unfold fsp
  split <;> first | omega | rfl
theorem kd_of {C f : Nat} (hC : C < 12) (hf : f < (fsp C).length) : kdC C f = true := by
  have h := fsp_len C
  exact List.all_eq_true.mp (List.all_eq_true.mp kdAll C (List.mem_range.mpr hC)) f (List.mem_range.mpr (by omega))
theorem clp {j : Int} (h0 : 0 ≤ j) (h1 : inR j) : (Int32.ofInt j).toNatClampNeg = j.toNat := by
  show (Int32.ofInt j).toInt.toNat = _
  rw [toI_of h1]
theorem vin {j : Int} {n : Nat} (h0 : 0 ≤ j) (hn : j < n) (h1 : inR j) : vp_in (Int32.ofInt j) n := by
  rw [vp_in_iff, toI_of h1]; exact ⟨h0, hn⟩
theorem wld_at {ad : AD} {cs : CS} {os : List (Nat × Int)} {C : Nat} {r : Int} (h : (C, r) ∈ os) : ∃ q0 : Nat, os[q0]? = some (C, r) ∧ (wld ph ad σ cs os)[q0]? = some (ad C r, ent ph ad σ cs C r) := by
  obtain ⟨q0, hq⟩ := List.getElem?_of_mem h
  exact ⟨q0, hq, by rw [wld, List.getElem?_map, hq]; rfl⟩
theorem ent_congr {ad : AD} {cs : CS} {C : Nat} {r : Int} (h : ∀ j, σ' C r j = σ C r j) : ent ph ad σ' cs C r = ent ph ad σ cs C r := by
  unfold ent
  by_cases h1 : C < 12
  · simp only [h1, if_true, flds, fval, h]
  · simp only [h1, if_false]
    by_cases h2 : C = 12
    · subst h2; simp only [if_true, h]
    · simp only [h2, if_false]
      by_cases h3 : C = 13
      · subst h3; simp only [if_true, h]
      · simp only [h3, if_false]
        by_cases h4 : C = 14
        · subst h4; simp only [if_true, h]
        · simp only [h4, if_false]
          by_cases h5 : C = 15
          · subst h5; simp only [if_true, h]
          · simp only [h5, if_false, h]
/-- one cell of the world has changed -/
theorem wld_set {ad : AD} {cs : CS} {os : List (Nat × Int)} {C : Nat} {r : Int} {q0 : Nat} (hn : os.Nodup) (hq : os[q0]? = some (C, r)) (ho : ∀ C' r', (C', r') ≠ (C, r) → ∀ j, σ' C' r' j = σ C' r' j) {e : va_E} (he : ent ph ad σ' cs C r = e) :
    (wld ph ad σ cs os).set q0 (ad C r, e) = wld ph ad σ' cs os := by
  refine List.ext_getElem? fun n => ?_
  by_cases hnq : n = q0
  · subst hnq
    rw [List.getElem?_set_self (by rw [wld, List.length_map]; exact (List.getElem?_eq_some_iff.mp hq).1), wld, List.getElem?_map, hq, ← he]
    rfl
  · rw [List.getElem?_set_ne (Ne.symm hnq), wld, wld, List.getElem?_map, List.getElem?_map]
    cases hos : os[n]? with
    | none => rfl
    | some o =>
      have hne : o ≠ (C, r) := fun h => hnq (by
        subst h
        exact (List.getElem?_inj (List.getElem?_eq_some_iff.mp hos).1 hn).mp (hos.trans hq.symm))
      show some (ad o.1 o.2, ent ph ad σ cs o.1 o.2) = some (ad o.1 o.2, ent ph ad σ' cs o.1 o.2)
      rw [ent_congr (ho o.1 o.2 hne)]
theorem up_ne {C : Nat} {r kk v : Int} : ∀ C' r', (C', r') ≠ (C, r) → ∀ j, up σ C r kk v C' r' j = σ C' r' j := by
  intro C' r' h j
  unfold up
  rw [if_neg]
  rintro ⟨rfl, rfl, -⟩
  exact h rfl
theorem up_tag {C C' : Nat} {r kk v : Int} (h : C' ≠ C) (r' j : Int) : up σ C r kk v C' r' j = σ C' r' j := up_ne C' r' (fun e => h (congrArg Prod.fst e)) j
theorem vld_of (h : σ' 20 = σ 20) (C : Nat) (r : Int) : vld σ' C r ↔ vld σ C r := by unfold vld; rw [h]
/-- a number is written: the memory stays well formed -/
theorem Wf_up {C : Nat} {r kk v : Int} (h : Wf ph σ) (hC : C ≤ 16) (h14 : C ≠ 14) (h1 : C ≤ 14 → inR v) (h12 : C = 12 → 0 ≤ v ∧ v < 65536) (h15 : C = 15 → inL v) (h16 : C = 16 → 0 ≤ v ∧ v < 18446744073709551616)
    (hb : ∀ (f : Nat) (fk : Nat × Int × Int × Nat), kk = f → (fsp C)[f]? = some fk → fk.1 ≠ 2 ∧ (fk.1 = 1 → v = 0 ∨ v = 1)) : Wf ph (up σ C r kk v) := by
  obtain ⟨a1, a2, a3, a4, a5, a6, a7⟩ := h
  have e20 : (up σ C r kk v) 20 = σ 20 := by funext r' j; exact up_tag (by omega) r' j
  refine ⟨fun C' r' j q1 q2 q3 => ?_, fun r' j => ?_, fun r' j => ?_, fun r' j => ?_, fun C' r' k' f q1 q2 => ?_, fun C' r' k' f q1 q2 q3 q4 q5 => ?_, fun r' j q1 q2 q3 q4 => ?_⟩
  · unfold up; split
    · rename_i e; exact h1 (by omega)
    · exact a1 C' r' j q1 q2 q3
  · unfold up; split
    · rename_i e; exact h15 e.1.symm
    · exact a2 r' j
  · unfold up; split
    · rename_i e; exact h16 e.1.symm
    · exact a3 r' j
  · unfold up; split
    · rename_i e; exact h12 e.1.symm
    · exact a4 r' j
  · unfold up; split
    · rename_i e
      rw [e.1] at q1
      exact (hb k' f e.2.2.symm q1).2 q2
    · exact a5 C' r' k' f q1 q2
  · rw [vld_of e20] at q2 ⊢
    refine a6 C' r' k' f q1 q2 q3 q4 (q5.imp id fun q5 => ?_)
    unfold up at q5; split at q5
    · rename_i e
      rw [e.1] at q3
      exact absurd q4 (hb k' f e.2.2.symm q3).1
    · exact q5
  · rw [vld_of e20] at q1 ⊢
    refine a7 r' j q1 q2 q3 (q4.imp id fun q5 => ?_)
    rw [up_tag (by omega)] at q5
    exact q5
/-- an instruction that writes the heap -/
theorem s_hp (hr : (rows k)[i]? = some (pc, raw, len, x))
    (hσ : (∀ a ∈ st, aok σ a) → Wf ph σ → Wf ph σ') (h20 : σ' 20 = σ 20) (h17 : σ' 17 = σ 17) (h18 : σ' 18 = σ 18)
    (hok : ∀ a ∈ st', a ∈ st)
    (hw : ∀ {p : Program} {e : Env} {sx : State} {m : MethodId} {args : Array Value} {below : List Frame} {meth : Method} {cd : Code} {H : Heap} {locs : List Loc} {lsR : Array Slot} {ad : AD} {Qf : State → Prop} {os : List (Nat × Int)},
      Cx K k p sx m meth cd → decode (byt k) pc = .ok (raw, len) → LsR ad lsR (mxl k) ls → (∀ a ∈ st, aok σ a) → Wf ph σ → va_S (Zp K) sx.heap H locs →
      os.Nodup → (∀ (C : Nat) (r : Int), (C, r) ∈ os ↔ (C < 17 ∧ vld σ C r)) → va_P K.2.2.2.1 MC (wld ph ad σ K.2.2.2.2.1 os) H → va_D (Zp K) (wld ph ad σ K.2.2.2.2.1 os) →
      (∀ (H1 : Heap) (locs1 : List Loc), va_P K.2.2.2.1 MC (wld ph ad σ' K.2.2.2.2.1 os) H1 → va_D (Zp K) (wld ph ad σ' K.2.2.2.2.1 os) → va_S (Zp K) sx.heap H1 locs1 →
        W p K.1 e (rm k) sx m args below meth cd H1 locs1 c s Qf (F0 m (pc + len) lsR (st'.map (val ad)))) → W p K.1 e (rm k) sx m args below meth cd H locs c s Qf (F0 m pc lsR (st.map (val ad))))
    (hn : Wst ph K k (i + 1) ls st' σ' c s Q) : Wst ph K k i ls st σ c s Q := by
  intro p e sx m args below meth cd σ0 ad0 ad H locs lsR hC hS hE hT ha hl hL hc1 hc2
  obtain ⟨hd, -, -, -, e1, e2⟩ := row_of hr
  rw [e1]
  obtain ⟨l, s0, z, D, cs, σs, ads⟩ := K
  obtain ⟨⟨os, ho1, ho2, ho3, ho4⟩, hWf, hRd⟩ := hT
  have hv := vld_of h20
  have hal : ∀ a : AV, aok σ a → aok σ' a := by
    intro a h
    rcases a with a | a | a | (_ | a)
    · exact h
    · exact h
    · exact h
    · exact h
    · exact (hv _ _).mpr h
  refine hw hC hd hL ha hWf hS ho1 ho2 ho3 ho4 fun H1 locs1 hP1 hD1 hS1 => ?_
  have h := hn p e sx m args below meth cd σ0 ad0 ad H1 locs1 lsR hC hS1 (fun C r q1 q2 => ⟨(hv C r).mpr (hE C r q1 q2).1, (hE C r q1 q2).2⟩)
    ⟨⟨os, ho1, fun C r => by rw [hv]; exact ho2 C r, hP1, hD1⟩, hσ ha hWf, ⟨fun r j => by rw [h17, h18]; exact hRd.1 r j, hRd.2⟩⟩ (fun a h => hal a (ha a (hok a h))) (fun j a h => hal a (hl j a h)) hL hc1 hc2
  rw [e2] at h
  exact h
theorem Sw.un {ad : AD} {H : Heap} (h : Sw ph K ad σ H) : (∃ os : List (Nat × Int), os.Nodup ∧ (∀ (C : Nat) (r : Int), (C, r) ∈ os ↔ (C < 17 ∧ vld σ C r)) ∧ va_P K.2.2.2.1 MC (wld ph ad σ K.2.2.2.2.1 os) H ∧ va_D (Zp K) (wld ph ad σ K.2.2.2.2.1 os)) ∧ Wf ph σ ∧ Rd K ad σ := by
  obtain ⟨l, s0, z, D, cs, σs, ads⟩ := K
  exact h
theorem fLk_at (hG : G0 K) {U : State} (hB : Bg K U) {ow : String} {j C f n w : Nat} (h : isW w (fLk ow j C f n) = true) (a' : Array Value) :
    (n = 0 → (Cond.fieldLink ow j (fF C f).1 (fF C f).2.1 (fF C f).2.2.1).before a' U = true) ∧ (n ≠ 0 → (Cond.fieldLinkNest ow j (fF C f).1 (fF C f).2.1 (fF C f).2.2.1 hostS).before a' U = true) := by
  unfold fLk at h
  refine ⟨fun hn => ?_, fun hn => ?_⟩
  · rw [if_pos hn] at h
    exact wd hG hB (isW_mem h) rfl a'
  · rw [if_neg hn] at h
    exact wdF hG hB (isW_mem h) a'
theorem s_getfield (hG : G0 K) {j : Nat} (hr : (rows k)[i]? = some (pc, .getfield j, len, x)) (h : plain ph (.getfield j) x ls st σ = some (P, ls', st', σ')) (hP : hold P) (hn : Wst ph K k (i + 1) ls' st' σ' c s Q) : Wst ph K k i ls st σ c s Q := by
  have hlen : len = 3 := (row_of hr).2.2.2.1.resolve_left (by simp [ilen])
  subst hlen
  simp only [plain] at h
  split at h
  · rename_i C f w n C' r rest
    split at h
    · rename_i hCC
      subst hCC
      have hlk := (row_of hr).2.1
      simp only [lkOK, Bool.and_eq_true, decide_eq_true_eq] at hlk
      obtain ⟨⟨hC12, hflt⟩, hw⟩ := hlk
      obtain ⟨Cn, ty, hMC, hin, -, -⟩ := mcF hC12
      obtain ⟨fk, hfk⟩ : ∃ fk, (fsp C')[f]? = some fk := ⟨_, List.getElem?_eq_getElem hflt⟩
      have key : ∀ {v : AV}, (Wf ph σ → vld σ C' r → aok σ v) → (∀ ad, fval ph ad σ C' r f fk = val ad v) → Wst ph K k (i + 1) ls (v :: rest) σ c s Q → Wst ph K k i ls (aR C' r :: rest) σ c s Q := by
        intro v hv1 hv2 hn
        refine s_pg hr (fun h _ hWf => mk1 (hv1 hWf (tl1 h).1) (tl1 h).2) (fun {p e sx m args below meth cd H locs lsR ad Qf} hC hd hL ha hS hT hk => ?_) hn
        obtain ⟨⟨os, ho1, ho2, ho3, ho4⟩, -, -⟩ := hT.un
        obtain ⟨q0, -, hq⟩ := wld_at (ph := ph) (σ := σ) (ad := ad) (cs := K.2.2.2.2.1) ((ho2 C' r).mpr ⟨by omega, (tl1 ha).1⟩)
        have he : ent ph ad σ K.2.2.2.2.1 C' r = .inr (C', flds ph ad σ C' r) := by unfold ent; rw [if_pos hC12]
        rw [he] at hq
        have hv3 : (flds ph ad σ C' r)[f]? = some (val ad v) := by
          unfold flds
          rw [List.getElem?_mapIdx, hfk, ← hv2 ad]
          rfl
        have hB : Bg K sx := hC.2.2.2.2.2.2.2.2
        obtain ⟨hl0, hl1⟩ := fLk_at hG hB hw args
        have hts : ∀ w ∈ u_ws Cn (fF C') (fsp C').length, w.before args sx = true := fun w hw => wd hG hB (hin w hw) (goodU w hw) args
        by_cases hn0 : n = 0
        · exact va_get hC.1 hC.2.1 hts (fun _ h => h) hC.2.2.2.2.1 (kK hG hB) ho3 q0 hq hMC f hflt (hl0 hn0) (fun _ h => h) hv3 hd hk
        · exact va_getN hC.1 hC.2.1 hts (fun _ h => h) hC.2.2.2.2.1 (kK hG hB) ho3 q0 hq hMC f hflt (hl1 hn0) (fun _ h => h) hv3 hd hk
      rw [hfk] at h
      obtain ⟨kd, a, b, t⟩ := fk
      dsimp only at h
      split at h
      · rename_i hkd
        cases h
        subst hkd
        have hor : ph = true ∨ σ C' r f = 1 := by
          cases ph with
          | true => exact Or.inl rfl
          | false => exact Or.inr hP
        refine key (v := aR t (lay a b r)) (fun hWf hv => hWf.2.2.2.2.2.1 C' r f _ hC12 hv hfk rfl hor) (fun ad => ?_) hn
        unfold fval
        rw [if_pos rfl, if_pos hor]
        rfl
      · rename_i hkd
        cases h
        refine key (v := aI (σ C' r f)) (fun hWf hv => hWf.1 C' r f (by omega) (by omega) (by omega)) (fun ad => ?_) hn
        unfold fval
        rw [if_neg hkd]
        rfl
    · cases h
  · cases h
end Heap
