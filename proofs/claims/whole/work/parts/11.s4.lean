section Heap2
variable {ph : Bool} {K : WK} {k i pc len : Nat} {raw : Instr} {x : List Nat} {ls ls' : Vls} {st st' : List AV} {σ σ' : Mem} {P : Option Prop} {c s : Nat} {Q : Out → Mem → Prop}
theorem flds_set {ad : AD} {C : Nat} {r v : Int} {f : Nat} {fk : Nat × Int × Int × Nat} (hfk : (fsp C)[f]? = some fk) (h2 : fk.1 ≠ 2) : (flds ph ad σ C r).set f (.int (Int32.ofInt v)) = flds ph ad (up σ C r f v) C r := by
  have hlt := (List.getElem?_eq_some_iff.mp hfk).1
  refine List.ext_getElem? fun n => ?_
  by_cases hn : n = f
  · subst hn
    rw [List.getElem?_set_self (by rw [flds, List.length_mapIdx]; exact hlt), flds, List.getElem?_mapIdx, hfk]
    show some _ = some _
    unfold fval up
    dsimp only
    rw [if_neg h2]
    simp
  · rw [List.getElem?_set_ne (Ne.symm hn), flds, flds, List.getElem?_mapIdx, List.getElem?_mapIdx]
    have e : up σ C r f v C r n = σ C r n := by
      unfold up
      rw [if_neg]
      rintro ⟨-, -, h⟩
      exact hn (by omega)
    unfold fval
    rw [e]
theorem s_putfield (hG : G0 K) {j : Nat} (hr : (rows k)[i]? = some (pc, .putfield j, len, x)) (h : plain ph (.putfield j) x ls st σ = some (P, ls', st', σ')) (hP : hold P) (hn : Wst ph K k (i + 1) ls' st' σ' c s Q) : Wst ph K k i ls st σ c s Q := by
  have hlen : len = 3 := (row_of hr).2.2.2.1.resolve_left (by simp [ilen])
  subst hlen
  simp only [plain] at h
  split at h
  · rename_i C f w n v C' r rest
    split at h
    · rename_i hCC
      obtain ⟨hCC, hfin⟩ := hCC
      subst hCC
      have hlk := (row_of hr).2.1
      simp only [lkOK, Bool.and_eq_true, decide_eq_true_eq] at hlk
      obtain ⟨⟨hC12, hflt⟩, hw⟩ := hlk
      obtain ⟨Cn, ty, hMC, hin, hty, hnm⟩ := mcF hC12
      obtain ⟨fk, hfk⟩ : ∃ fk, (fsp C')[f]? = some fk := ⟨_, List.getElem?_eq_getElem hflt⟩
      have hkd := kd_of hC12 hflt
      unfold kdC at hkd
      have key : fk.1 ≠ 2 → (fk.1 = 1 → v = 0 ∨ v = 1) → (∀ h : inR v, ∃ t, parseFieldDescriptor (fF C' f).2.2.1 = some t ∧ narrow t (.int (Int32.ofInt v)) = .int (Int32.ofInt v) ∧ fits t (.int (Int32.ofInt v)) = true) → Wst ph K k (i + 1) ls rest (up σ C' r f v) c s Q → Wst ph K k i ls (aI v :: aR C' r :: rest) σ c s Q := by
        intro h2 h1 hpar hn
        refine s_hp hr (fun ha hWf => Wf_up hWf (by omega) (by omega) (fun _ => (tl2 ha).1) (by omega) (by omega) (by omega) (fun g gk e1 e2 => ?_)) (by funext r' j; exact up_tag (by omega) r' j) (by funext r' j; exact up_tag (by omega) r' j) (by funext r' j; exact up_tag (by omega) r' j) (fun a h => by simp [h]) (fun {p e sx m args below meth cd H locs lsR ad Qf os} hC hd hL ha hWf hS ho1 ho2 ho3 ho4 hk => ?_) hn
        · have : g = f := by omega
          subst this
          rw [hfk] at e2
          cases e2
          exact ⟨h2, h1⟩
        · obtain ⟨q0, hq0, hq⟩ := wld_at (ph := ph) (σ := σ) (ad := ad) (cs := K.2.2.2.2.1) ((ho2 C' r).mpr ⟨by omega, (tl2 ha).2.1⟩)
          have he : ent ph ad σ K.2.2.2.2.1 C' r = .inr (C', flds ph ad σ C' r) := by unfold ent; rw [if_pos hC12]
          rw [he] at hq
          have hB : Bg K sx := hC.2.2.2.2.2.2.2.2
          obtain ⟨hl0, hl1⟩ := fLk_at hG hB hw args
          have hts : ∀ w ∈ u_ws Cn (fF C') (fsp C').length, w.before args sx = true := fun w hw => wd hG hB (hin w hw) (goodU w hw) args
          obtain ⟨t, ht1, ht2, ht3⟩ := hpar (tl2 ha).1
          have hlen : f < (flds ph ad σ C' r).length := by rw [flds, List.length_mapIdx]; exact hflt
          have hset : (wld ph ad σ K.2.2.2.2.1 os).set q0 (ad C' r, .inr (C', (flds ph ad σ C' r).set f (.int (Int32.ofInt v)))) = wld ph ad (up σ C' r f v) K.2.2.2.2.1 os := by
            refine wld_set ho1 hq0 up_ne ?_
            rw [flds_set hfk h2]
            unfold ent
            rw [if_pos hC12]
          by_cases hn0 : n = 0
          · exact va_put hC.1 hC.2.1 hts (fun _ h => h) ty hty hnm hC.2.2.2.2.1 (kK hG hB) ho3 ho4 hS q0 hq hMC f hflt (hl0 hn0) (fun _ h => h) hfin ht1 ht2 ht3 hlen hd (fun H1 locs1 a1 a2 a3 => hk H1 locs1 (hset ▸ a1) (hset ▸ a2) a3)
          · exact va_putN hC.1 hC.2.1 hts (fun _ h => h) ty hty hnm hC.2.2.2.2.1 (kK hG hB) ho3 ho4 hS q0 hq hMC f hflt (hl1 hn0) (fun _ h => h) hfin ht1 ht2 ht3 hlen hd (fun H1 locs1 a1 a2 a3 => hk H1 locs1 (hset ▸ a1) (hset ▸ a2) a3)
      rw [hfk] at h hkd
      obtain ⟨kd, a, b, t⟩ := fk
      dsimp only at h hkd
      split at h
      · rename_i hkd0
        cases h
        subst hkd0
        rw [if_pos rfl] at hkd
        exact key (by simp) (by simp) (fun _ => ⟨.int, of_decide_eq_true hkd, rfl, rfl⟩) hn
      · split at h
        · rename_i hkd0 hkd1
          cases h
          subst hkd1
          rw [if_neg (by decide), if_pos rfl] at hkd
          refine key (by simp) (fun _ => hP) (fun _ => ⟨.boolean, of_decide_eq_true hkd, ?_, ?_⟩) hn
          · rcases (show v = 0 ∨ v = 1 from hP) with rfl | rfl <;> decide
          · rcases (show v = 0 ∨ v = 1 from hP) with rfl | rfl <;> decide
        · cases h
    · cases h
  · cases h
/-- reading an int array -/
theorem s_iald13 {r j : Int} {rest : List AV} (hG : G0 K) (hr : (rows k)[i]? = some (pc, .iaload, 1, x)) (h0 : 0 ≤ j) (h1 : j < rowLen r) (hn : Wst ph K k (i + 1) ls (aI (σ 13 r j) :: rest) σ c s Q) : Wst ph K k i ls (aI j :: aR 13 r :: rest) σ c s Q := by
  refine s_pg hr (fun h _ hWf => mkI (hWf.1 13 r j (by omega) (by omega) (by omega)) (tl2 h).2.2) (fun {p e sx m args below meth cd H locs lsR ad Qf} hC hd hL ha hS hT hk => ?_) hn
  obtain ⟨⟨os, ho1, ho2, ho3, ho4⟩, -, -⟩ := hT.un
  obtain ⟨q0, -, hq⟩ := wld_at (ph := ph) (σ := σ) (ad := ad) (cs := K.2.2.2.2.1) ((ho2 13 r).mpr ⟨by omega, (tl2 ha).2.1⟩)
  have hj : inR j := (tl2 ha).1
  have hB : Bg K sx := hC.2.2.2.2.2.2.2.2
  refine va_iald hC.1 hC.2.1 (kK hG hB) ho3 q0 1 (cA := K.2.2.2.2.1.2.1) (n := (rowLen r).toNat) (f := fun j => Int32.ofInt (σ 13 r j)) hq rfl (vin h0 (by omega) hj) hd ?_
  rw [clp h0 hj]
  have e : ((j.toNat : Nat) : Int) = j := Int.toNat_of_nonneg h0
  simp only [e]
  exact hk
theorem s_cald12 {r j : Int} {rest : List AV} (hG : G0 K) (hr : (rows k)[i]? = some (pc, .caload, 1, x)) (h0 : 0 ≤ j) (h1 : j < 60) (hn : Wst ph K k (i + 1) ls (aI (σ 12 r j) :: rest) σ c s Q) : Wst ph K k i ls (aI j :: aR 12 r :: rest) σ c s Q := by
  refine s_pg hr (fun h _ hWf => mkI (hWf.1 12 r j (by omega) (by omega) (by omega)) (tl2 h).2.2) (fun {p e sx m args below meth cd H locs lsR ad Qf} hC hd hL ha hS hT hk => ?_) hn
  obtain ⟨⟨os, ho1, ho2, ho3, ho4⟩, -, -⟩ := hT.un
  obtain ⟨q0, -, hq⟩ := wld_at (ph := ph) (σ := σ) (ad := ad) (cs := K.2.2.2.2.1) ((ho2 12 r).mpr ⟨by omega, (tl2 ha).2.1⟩)
  have hj : inR j := (tl2 ha).1
  have hB : Bg K sx := hC.2.2.2.2.2.2.2.2
  refine va_cald hC.1 hC.2.1 (kK hG hB) ho3 q0 0 (cA := K.2.2.2.2.1.1) (n := 60) (f := fun j => Int32.ofInt (σ 12 r j)) hq rfl (vin h0 (by omega) hj) hd ?_
  rw [clp h0 hj]
  have e : ((j.toNat : Nat) : Int) = j := Int.toNat_of_nonneg h0
  simp only [e]
  exact hk
theorem s_lald15 {r : Int} {rest : List AV} (hG : G0 K) (hr : (rows k)[i]? = some (pc, .laload, 1, x)) (hn : Wst ph K k (i + 1) ls (aL (σ 15 r 0) :: rest) σ c s Q) : Wst ph K k i ls (aI 0 :: aR 15 r :: rest) σ c s Q := by
  refine s_pg hr (fun h _ hWf => mkL (hWf.2.1 r 0) (tl2 h).2.2) (fun {p e sx m args below meth cd H locs lsR ad Qf} hC hd hL ha hS hT hk => ?_) hn
  obtain ⟨⟨os, ho1, ho2, ho3, ho4⟩, -, -⟩ := hT.un
  obtain ⟨q0, -, hq⟩ := wld_at (ph := ph) (σ := σ) (ad := ad) (cs := K.2.2.2.2.1) ((ho2 15 r).mpr ⟨by omega, (tl2 ha).2.1⟩)
  have hB : Bg K sx := hC.2.2.2.2.2.2.2.2
  refine va_lald hC.1 hC.2.1 (kK hG hB) ho3 q0 3 (cA := K.2.2.2.2.1.2.2.2.1) (n := 1) (f := fun j => Int64.ofInt (σ 15 r j)) hq rfl (vin (Int.le_refl 0) (by omega) (tl2 ha).1) hd ?_
  exact hk
theorem s_dald16 {r : Int} {rest : List AV} (hG : G0 K) (hr : (rows k)[i]? = some (pc, .daload, 1, x)) (hn : Wst ph K k (i + 1) ls (aD (UInt64.ofNat (σ 16 r 0).toNat) :: rest) σ c s Q) : Wst ph K k i ls (aI 0 :: aR 16 r :: rest) σ c s Q := by
  refine s_pg hr (fun h _ hWf => mkD (tl2 h).2.2) (fun {p e sx m args below meth cd H locs lsR ad Qf} hC hd hL ha hS hT hk => ?_) hn
  obtain ⟨⟨os, ho1, ho2, ho3, ho4⟩, -, -⟩ := hT.un
  obtain ⟨q0, -, hq⟩ := wld_at (ph := ph) (σ := σ) (ad := ad) (cs := K.2.2.2.2.1) ((ho2 16 r).mpr ⟨by omega, (tl2 ha).2.1⟩)
  have hB : Bg K sx := hC.2.2.2.2.2.2.2.2
  refine va_dald hC.1 hC.2.1 (kK hG hB) ho3 q0 4 (cA := K.2.2.2.2.1.2.2.2.2) (n := 1) (f := fun j => UInt64.ofNat (σ 16 r j).toNat) hq rfl (vin (Int.le_refl 0) (by omega) (tl2 ha).1) hd ?_
  exact hk
theorem s_aald14 {r j : Int} {rest : List AV} (hG : G0 K) (hph : ph = true) (hr : (rows k)[i]? = some (pc, .aaload, 1, x)) (h0 : 0 ≤ j) (h1 : j < 8) (hn : Wst ph K k (i + 1) ls (aR 2 (j + 2) :: rest) σ c s Q) : Wst ph K k i ls (aI j :: aR 14 r :: rest) σ c s Q := by
  refine s_pg hr (fun h _ hWf => mk1 (P := aok σ) (a := aR 2 (j + 2)) (hWf.2.2.2.2.2.2 r j (tl2 h).2.1 h0 h1 (Or.inl hph)) (tl2 h).2.2) (fun {p e sx m args below meth cd H locs lsR ad Qf} hC hd hL ha hS hT hk => ?_) hn
  obtain ⟨⟨os, ho1, ho2, ho3, ho4⟩, -, -⟩ := hT.un
  obtain ⟨q0, -, hq⟩ := wld_at (ph := ph) (σ := σ) (ad := ad) (cs := K.2.2.2.2.1) ((ho2 14 r).mpr ⟨by omega, (tl2 ha).2.1⟩)
  have hj : inR j := (tl2 ha).1
  have hB : Bg K sx := hC.2.2.2.2.2.2.2.2
  refine va_aldq hC.1 hC.2.1 (kK hG hB) ho3 q0 2 (cA := K.2.2.2.2.1.2.2.1) (C := RX2) (n := 8) (f := fun j => if ph = true ∨ σ 14 r j = 1 then some (ad 2 (j + 2)) else none) hq rfl (vin h0 (by omega) hj) hd ?_
  rw [clp h0 hj]
  have e : ((j.toNat : Nat) : Int) = j := Int.toNat_of_nonneg h0
  simp only [e, if_pos (Or.inl hph : ph = true ∨ σ 14 r j = 1)]
  exact hk
theorem upd_up {r j v : Int} {T : Nat} (h0 : 0 ≤ j) : upd (fun q => Int32.ofInt (σ T r q)) j.toNat (Int32.ofInt v) = fun (q : Nat) => Int32.ofInt (up σ T r j v T r q) := by
  funext q
  unfold upd up
  by_cases h : q = j.toNat
  · rw [if_pos h, if_pos ⟨rfl, rfl, by omega⟩]
  · rw [if_neg h, if_neg]
    rintro ⟨-, -, h2⟩
    exact h (by omega)
theorem s_iast13 {r j v : Int} {rest : List AV} (hG : G0 K) (hr : (rows k)[i]? = some (pc, .iastore, 1, x)) (h0 : 0 ≤ j) (h1 : j < rowLen r) (hn : Wst ph K k (i + 1) ls rest (up σ 13 r j v) c s Q) : Wst ph K k i ls (aI v :: aI j :: aR 13 r :: rest) σ c s Q := by
  refine s_hp hr (fun ha hWf => Wf_up hWf (by omega) (by omega) (fun _ => (tl2 ha).1) (by omega) (by omega) (by omega) (fun g gk e1 e2 => by rw [fsp_big (by omega)] at e2; cases e2)) (by funext r' j; exact up_tag (by omega) r' j) (by funext r' j; exact up_tag (by omega) r' j) (by funext r' j; exact up_tag (by omega) r' j) (fun a h => by simp [h]) (fun {p e sx m args below meth cd H locs lsR ad Qf os} hC hd hL ha hWf hS ho1 ho2 ho3 ho4 hk => ?_) hn
  obtain ⟨q0, hq0, hq⟩ := wld_at (ph := ph) (σ := σ) (ad := ad) (cs := K.2.2.2.2.1) ((ho2 13 r).mpr ⟨by omega, (tl1 (tl2 ha).2.2).1⟩)
  have hj : inR j := (tl2 ha).2.1
  have hB : Bg K sx := hC.2.2.2.2.2.2.2.2
  have hset : (wld ph ad σ K.2.2.2.2.1 os).set q0 (ad 13 r, .inl (K.2.2.2.2.1.2.1, (rowLen r).toNat, .inl (upd (fun q => Int32.ofInt (σ 13 r q)) (Int32.ofInt j).toNatClampNeg (Int32.ofInt v)))) = wld ph ad (up σ 13 r j v) K.2.2.2.2.1 os := by
    refine wld_set ho1 hq0 up_ne ?_
    rw [clp h0 hj, upd_up h0]
    rfl
  exact va_iast hC.1 hC.2.1 (kK hG hB) ho3 ho4 hS q0 1 (cA := K.2.2.2.2.1.2.1) (n := (rowLen r).toNat) (f := fun q => Int32.ofInt (σ 13 r q)) hq rfl (vin h0 (by omega) hj) hd (fun H1 locs1 a1 a2 a3 => hk H1 locs1 (hset ▸ a1) (hset ▸ a2) a3)
theorem nar_char {v : Int} (h : inR v) : vp_nar .char (Int32.ofInt v) = Int32.ofInt (v % 65536) := by
  have e : (Int32.ofInt v).toUInt32.toUInt16.toUInt32 = (Int32.ofInt v).toUInt32 % 65536 := by
    apply UInt32.toNat_inj.mp
    simp
  rw [vp_nar_char, e, i2c_eq h]
theorem s_cast12 {r j v : Int} {rest : List AV} (hG : G0 K) (hr : (rows k)[i]? = some (pc, .castore, 1, x)) (h0 : 0 ≤ j) (h1 : j < 60) (hn : Wst ph K k (i + 1) ls rest (up σ 12 r j (v % 65536)) c s Q) : Wst ph K k i ls (aI v :: aI j :: aR 12 r :: rest) σ c s Q := by
  refine s_hp hr (fun ha hWf => Wf_up hWf (by omega) (by omega) (fun _ => i2c_in v) (by omega) (by omega) (by omega) (fun g gk e1 e2 => by rw [fsp_big (by omega)] at e2; cases e2)) (by funext r' j; exact up_tag (by omega) r' j) (by funext r' j; exact up_tag (by omega) r' j) (by funext r' j; exact up_tag (by omega) r' j) (fun a h => by simp [h]) (fun {p e sx m args below meth cd H locs lsR ad Qf os} hC hd hL ha hWf hS ho1 ho2 ho3 ho4 hk => ?_) hn
  obtain ⟨q0, hq0, hq⟩ := wld_at (ph := ph) (σ := σ) (ad := ad) (cs := K.2.2.2.2.1) ((ho2 12 r).mpr ⟨by omega, (tl1 (tl2 ha).2.2).1⟩)
  have hj : inR j := (tl2 ha).2.1
  have hB : Bg K sx := hC.2.2.2.2.2.2.2.2
  have hset : (wld ph ad σ K.2.2.2.2.1 os).set q0 (ad 12 r, .inl (K.2.2.2.2.1.1, 60, .inl (upd (fun q => Int32.ofInt (σ 12 r q)) (Int32.ofInt j).toNatClampNeg (vp_nar .char (Int32.ofInt v))))) = wld ph ad (up σ 12 r j (v % 65536)) K.2.2.2.2.1 os := by
    refine wld_set ho1 hq0 up_ne ?_
    rw [clp h0 hj, nar_char (tl2 ha).1, upd_up h0]
    rfl
  exact va_cast hC.1 hC.2.1 (kK hG hB) ho3 ho4 hS q0 0 (cA := K.2.2.2.2.1.1) (n := 60) (f := fun q => Int32.ofInt (σ 12 r q)) hq rfl (vin h0 (by omega) hj) hd (fun H1 locs1 a1 a2 a3 => hk H1 locs1 (hset ▸ a1) (hset ▸ a2) a3)
theorem s_last15 {r v : Int} {rest : List AV} (hG : G0 K) (hr : (rows k)[i]? = some (pc, .lastore, 1, x)) (hn : Wst ph K k (i + 1) ls rest (up σ 15 r 0 v) c s Q) : Wst ph K k i ls (aL v :: aI 0 :: aR 15 r :: rest) σ c s Q := by
  refine s_hp hr (fun ha hWf => Wf_up hWf (by omega) (by omega) (by omega) (by omega) (fun _ => (tl2 ha).1) (by omega) (fun g gk e1 e2 => by rw [fsp_big (by omega)] at e2; cases e2)) (by funext r' j; exact up_tag (by omega) r' j) (by funext r' j; exact up_tag (by omega) r' j) (by funext r' j; exact up_tag (by omega) r' j) (fun a h => by simp [h]) (fun {p e sx m args below meth cd H locs lsR ad Qf os} hC hd hL ha hWf hS ho1 ho2 ho3 ho4 hk => ?_) hn
  obtain ⟨q0, hq0, hq⟩ := wld_at (ph := ph) (σ := σ) (ad := ad) (cs := K.2.2.2.2.1) ((ho2 15 r).mpr ⟨by omega, (tl1 (tl2 ha).2.2).1⟩)
  have hj : inR 0 := (tl2 ha).2.1
  have hB : Bg K sx := hC.2.2.2.2.2.2.2.2
  have hset : (wld ph ad σ K.2.2.2.2.1 os).set q0 (ad 15 r, .inl (K.2.2.2.2.1.2.2.2.1, 1, .inr (.inl (vp_updL (fun q => Int64.ofInt (σ 15 r q)) (Int32.ofInt 0).toNatClampNeg (Int64.ofInt v))))) = wld ph ad (up σ 15 r 0 v) K.2.2.2.2.1 os := by
    refine wld_set ho1 hq0 up_ne ?_
    rw [clp (Int.le_refl 0) hj]
    have e : vp_updL (fun q => Int64.ofInt (σ 15 r q)) (0 : Int).toNat (Int64.ofInt v) = fun (q : Nat) => Int64.ofInt (up σ 15 r 0 v 15 r q) := by
      funext q
      unfold vp_updL up
      by_cases h : q = (0 : Int).toNat
      · rw [if_pos h, if_pos ⟨rfl, rfl, by omega⟩]
      · rw [if_neg h, if_neg]
        rintro ⟨-, -, h2⟩
        exact h (by omega)
    rw [e]
    rfl
  exact va_last hC.1 hC.2.1 (kK hG hB) ho3 ho4 hS q0 3 (cA := K.2.2.2.2.1.2.2.2.1) (n := 1) (f := fun q => Int64.ofInt (σ 15 r q)) hq rfl (vin (Int.le_refl 0) (by omega) hj) hd (fun H1 locs1 a1 a2 a3 => hk H1 locs1 (hset ▸ a1) (hset ▸ a2) a3)
theorem s_dast16 {r : Int} {v : UInt64} {rest : List AV} (hG : G0 K) (hr : (rows k)[i]? = some (pc, .dastore, 1, x)) (hn : Wst ph K k (i + 1) ls rest (up σ 16 r 0 (v.toNat : Int)) c s Q) : Wst ph K k i ls (aD v :: aI 0 :: aR 16 r :: rest) σ c s Q := by
  refine s_hp hr (fun ha hWf => Wf_up hWf (by omega) (by omega) (by omega) (by omega) (by omega) (fun _ => by have := v.toNat_lt; omega) (fun g gk e1 e2 => by rw [fsp_big (by omega)] at e2; cases e2)) (by funext r' j; exact up_tag (by omega) r' j) (by funext r' j; exact up_tag (by omega) r' j) (by funext r' j; exact up_tag (by omega) r' j) (fun a h => by simp [h]) (fun {p e sx m args below meth cd H locs lsR ad Qf os} hC hd hL ha hWf hS ho1 ho2 ho3 ho4 hk => ?_) hn
  obtain ⟨q0, hq0, hq⟩ := wld_at (ph := ph) (σ := σ) (ad := ad) (cs := K.2.2.2.2.1) ((ho2 16 r).mpr ⟨by omega, (tl1 (tl2 ha).2.2).1⟩)
  have hj : inR 0 := (tl2 ha).2.1
  have hB : Bg K sx := hC.2.2.2.2.2.2.2.2
  have hset : (wld ph ad σ K.2.2.2.2.1 os).set q0 (ad 16 r, .inl (K.2.2.2.2.1.2.2.2.2, 1, .inr (.inr (.inr (.inl (vf_upd (fun q => UInt64.ofNat (σ 16 r q).toNat) (Int32.ofInt 0).toNatClampNeg v)))))) = wld ph ad (up σ 16 r 0 (v.toNat : Int)) K.2.2.2.2.1 os := by
    refine wld_set ho1 hq0 up_ne ?_
    rw [clp (Int.le_refl 0) hj]
    have e : vf_upd (fun (q : Nat) => UInt64.ofNat (σ 16 r q).toNat) (0 : Int).toNat v = fun (q : Nat) => UInt64.ofNat (up σ 16 r 0 (v.toNat : Int) 16 r q).toNat := by
      funext q
      unfold vf_upd up
      by_cases h : q = (0 : Int).toNat
      · rw [if_pos h, if_pos ⟨rfl, rfl, by omega⟩]
        simp
      · rw [if_neg h, if_neg]
        rintro ⟨-, -, h2⟩
        exact h (by omega)
    rw [e]
    rfl
  exact va_dast hC.1 hC.2.1 (kK hG hB) ho3 ho4 hS q0 4 (cA := K.2.2.2.2.1.2.2.2.2) (n := 1) (f := fun q => UInt64.ofNat (σ 16 r q).toNat) hq rfl (vin (Int.le_refl 0) (by omega) hj) hd (fun H1 locs1 a1 a2 a3 => hk H1 locs1 (hset ▸ a1) (hset ▸ a2) a3)
/-- the script, and the two constant rows, at any state -/
theorem scr_at (hG : G0 K) {U : State} (hB : Bg K U) : ∃ (L : Nat) (xs : Nat → Int32), va_X (K.2.2.2.2.2.2 17 0) L xs U U.heap ∧ K.2.2.2.2.2.2 17 0 < U.heap.size ∧ ¬ Zp K (K.2.2.2.2.2.2 17 0) ∧ L < 2147483648 ∧ K.2.2.2.2.2.1 17 0 (-1) = L ∧ ∀ j : Nat, j < L → K.2.2.2.2.2.1 17 0 j = (xs j).toInt := by
  obtain ⟨l, s0, z, D, cs, σs, ads⟩ := K
  obtain ⟨-, hz, -, -, ⟨L, xs, h1, h2, h3, h4, h5⟩, -⟩ := hG
  exact ⟨L, xs, (h1.moved hB.1.alike).kept (hB.2.2 _ h2), Nat.lt_of_lt_of_le h2 hB.2.1, Nat.not_le.mpr h2, h3, h4, h5⟩
theorem sta_at (hG : G0 K) {U : State} (hB : Bg K U) {a : Nat} (ha : a ≤ 1) : va_Z "FencingMeet" (sNm a) "[I" (.ref (K.2.2.2.2.2.2 18 a)) (Zp K) U U.heap ∧ va_T .int (K.2.2.2.2.2.2 18 a) 9 (fun j => .int (Int32.ofInt (K.2.2.2.2.2.1 18 a j))) (Zp K) U U.heap := by
  obtain ⟨l, s0, z, D, cs, σs, ads⟩ := K
  obtain ⟨-, hz, -, -, -, h, -⟩ := hG
  have hq : ∀ q : Nat, q < s0.heap.size → ¬ (z ≤ q) → U.heap[q]? = s0.heap[q]? := fun q h1 h2 => hB.2.2 q (by omega)
  exact ⟨((h a ha).1.moved hB.1.alike).kept hq, ((h a ha).2.moved hB.1.alike).kept hq⟩
theorem s_iald17 {j : Int} {rest : List AV} (hG : G0 K) (hr : (rows k)[i]? = some (pc, .iaload, 1, x)) (h0 : 0 ≤ j) (h1 : j < σ 17 0 (-1)) (hn : Wst ph K k (i + 1) ls (aI (σ 17 0 j) :: rest) σ c s Q) : Wst ph K k i ls (aI j :: aR 17 0 :: rest) σ c s Q := by
  refine s_pg hr (fun h _ hWf => mkI (hWf.1 17 0 j (by omega) (by omega) (by omega)) (tl2 h).2.2) (fun {p e sx m args below meth cd H locs lsR ad Qf} hC hd hL ha hS hT hk => ?_) hn
  have hRd := hT.un.2.2
  have hj : inR j := (tl2 ha).1
  have hB : Bg K sx := hC.2.2.2.2.2.2.2.2
  obtain ⟨L, xs, e1, e2, e3, e4, e5, e6⟩ := scr_at hG hB
  have hRd2 : (∀ r k : Int, σ 17 r k = K.2.2.2.2.2.1 17 r k) ∧ ad 17 0 = K.2.2.2.2.2.2 17 0 := by
    obtain ⟨l, s0, z, D, cs, σs, ads⟩ := K
    exact ⟨fun r k => (hRd.1 r k).1, hRd.2.1⟩
  rw [hRd2.1, e5] at h1
  have hjl : j.toNat < L := by omega
  have ej : ((j.toNat : Nat) : Int) = j := Int.toNat_of_nonneg h0
  have ev : σ 17 0 j = (xs j.toNat).toInt := by rw [hRd2.1, ← e6 _ hjl, ej]
  show W p K.1 e (rm k) sx m args below meth cd H locs c s Qf (F0 m pc lsR (.int (Int32.ofInt j) :: .ref (ad 17 0) :: rest.map (val ad)))
  rw [hRd2.2]
  refine va_sld hC.1 hC.2.1 e1 e2 e3 hS (vin h0 (by omega) hj) hd ?_
  rw [clp h0 hj, ← of_toI (xs j.toNat), ← ev]
  exact hk
theorem s_alen17 {rest : List AV} (hG : G0 K) (hr : (rows k)[i]? = some (pc, .arraylength, 1, x)) (hn : Wst ph K k (i + 1) ls (aI (σ 17 0 (-1)) :: rest) σ c s Q) : Wst ph K k i ls (aR 17 0 :: rest) σ c s Q := by
  refine s_pg hr (fun h _ hWf => mkI (hWf.1 17 0 (-1) (by omega) (by omega) (by omega)) (tl1 h).2) (fun {p e sx m args below meth cd H locs lsR ad Qf} hC hd hL ha hS hT hk => ?_) hn
  have hRd := hT.un.2.2
  have hB : Bg K sx := hC.2.2.2.2.2.2.2.2
  obtain ⟨L, xs, e1, e2, e3, e4, e5, e6⟩ := scr_at hG hB
  have hRd2 : (∀ r k : Int, σ 17 r k = K.2.2.2.2.2.1 17 r k) ∧ ad 17 0 = K.2.2.2.2.2.2 17 0 := by
    obtain ⟨l, s0, z, D, cs, σs, ads⟩ := K
    exact ⟨fun r k => (hRd.1 r k).1, hRd.2.1⟩
  show W p K.1 e (rm k) sx m args below meth cd H locs c s Qf (F0 m pc lsR (.ref (ad 17 0) :: rest.map (val ad)))
  rw [hRd2.2]
  refine va_slen hC.1 hC.2.1 e1 e2 e3 hS hd ?_
  have ev : Int32.ofInt (σ 17 0 (-1)) = Int32.ofNat L := by rw [hRd2.1, e5]; rfl
  rw [← ev]
  exact hk
theorem s_iald18 {j : Int} {a : Nat} {rest : List AV} (hG : G0 K) (ha1 : a ≤ 1) (hr : (rows k)[i]? = some (pc, .iaload, 1, x)) (h0 : 0 ≤ j) (h1 : j < 9) (hn : Wst ph K k (i + 1) ls (aI (σ 18 a j) :: rest) σ c s Q) : Wst ph K k i ls (aI j :: aR 18 a :: rest) σ c s Q := by
  refine s_pg hr (fun h _ hWf => mkI (hWf.1 18 a j (by omega) (by omega) (by omega)) (tl2 h).2.2) (fun {p e sx m args below meth cd H locs lsR ad Qf} hC hd hL ha hS hT hk => ?_) hn
  have hRd := hT.un.2.2
  have hj : inR j := (tl2 ha).1
  have hB : Bg K sx := hC.2.2.2.2.2.2.2.2
  have e1 := (sta_at hG hB ha1).2
  have hRd2 : (∀ r k : Int, σ 18 r k = K.2.2.2.2.2.1 18 r k) ∧ ad 18 a = K.2.2.2.2.2.2 18 a := by
    obtain ⟨l, s0, z, D, cs, σs, ads⟩ := K
    refine ⟨fun r k => (hRd.1 r k).2, ?_⟩
    rcases (show a = 0 ∨ a = 1 by omega) with rfl | rfl
    · exact hRd.2.2.1
    · exact hRd.2.2.2
  show W p K.1 e (rm k) sx m args below meth cd H locs c s Qf (F0 m pc lsR (.int (Int32.ofInt j) :: .ref (ad 18 a) :: rest.map (val ad)))
  rw [hRd2.2]
  refine va_ti hC.1 hC.2.1 e1 hS (vin h0 (by omega) hj) rfl hd ?_
  rw [clp h0 hj]
  have ej : ((j.toNat : Nat) : Int) = j := Int.toNat_of_nonneg h0
  simp only [ej, ← hRd2.1]
  exact hk
theorem s_iaload (hG : G0 K) (hr : (rows k)[i]? = some (pc, .iaload, len, x)) (h : plain ph .iaload x ls st σ = some (P, ls', st', σ')) (hP : hold P) (hn : Wst ph K k (i + 1) ls' st' σ' c s Q) (hv : ∀ a ∈ st, ∀ r, a = aR 17 r → r = 0) (hv2 : ∀ a ∈ st, ∀ r, a = aR 18 r → r = 0 ∨ r = 1) : Wst ph K k i ls st σ c s Q := by
  have hlen : len = 1 := (row_of hr).2.2.2.1.resolve_left (by simp [ilen])
  subst hlen
  simp only [plain] at h
  split at h
  · rename_i j C r rest
    split at h
    · rename_i hC
      cases h
      obtain ⟨h0, h1⟩ := hP
      rcases hC with rfl | rfl | rfl
      · exact s_iald13 hG hr h0 h1 hn
      · have := hv _ (by simp) r rfl
        subst this
        exact s_iald17 hG hr h0 h1 hn
      · rcases hv2 _ (by simp) r rfl with rfl | rfl
        · exact s_iald18 (a := 0) hG (by omega) hr h0 h1 hn
        · exact s_iald18 (a := 1) hG (by omega) hr h0 h1 hn
    · cases h
  · cases h
end Heap2
