/-! Construction: rules for what makes objects and arrays, and that they are so of the machine. -/
def nAl (C : Nat) (r : Int) : Int := if C = 13 then rowLen r else if C = 12 then 60 else if C = 14 then 8 else 1
def atOf (C : Nat) : ArrayType := if C = 13 then .int else if C = 12 then .char else if C = 15 then .long else .double
/-- the next object of a kind is made -/
def mkO (σ : Mem) (C : Nat) : Mem := up σ 20 C 0 (σ 20 C 0 + 1)
/-- its number is free, and its cells are empty -/
def frO (σ : Mem) (C : Nat) : Prop := 0 ≤ σ 20 C 0 ∧ (∀ j, σ C (σ 20 C 0) j = 0) ∧ (C = 2 → ∀ r j, σ 14 r j = 1 → j + 2 < σ 20 2 0)
def c_new (R : RR) : Prop := ∀ k i ls st σ c s Q pc j len C w, (rows k)[i]? = some (pc, .new j, len, [0, C, w]) → C < 12 → frO σ C → c + 1 ≤ mcs k → s + (fsp C).length ≤ mss k → R k (i + 1) ls (aR C (σ 20 C 0) :: st) (mkO σ C) (c + 1) (s + (fsp C).length) Q → R k i ls st σ c s Q
def c_newa (R : RR) : Prop := ∀ k i ls st σ c s Q pc len C x n, (rows k)[i]? = some (pc, .newarray (atOf C), len, x) → (C = 12 ∨ C = 13 ∨ C = 15 ∨ C = 16) → n = nAl C (σ 20 C 0) → frO σ C → c + 1 ≤ mcs k → s + n.toNat ≤ mss k → R k (i + 1) ls (aR C (σ 20 C 0) :: st) (mkO σ C) (c + 1) (s + n.toNat) Q → R k i ls (aI n :: st) σ c s Q
def c_newq (R : RR) : Prop := ∀ k i ls st σ c s Q pc j len C0 w, (rows k)[i]? = some (pc, .anewarray j, len, [C0, w]) → frO σ 14 → c + 1 ≤ mcs k → s + 8 ≤ mss k → R k (i + 1) ls (aR 14 (σ 20 14 0) :: st) (mkO σ 14) (c + 1) (s + 8) Q → R k i ls (aI 8 :: st) σ c s Q
def c_putq (R : RR) : Prop := ∀ k i ls st σ c s Q pc j len C f w a b t q r, (rows k)[i]? = some (pc, .putfield j, len, [C, f, w, 0]) → (fsp C)[f]? = some (2, a, b, t) → q = lay a b r → R k (i + 1) ls st (up σ C r f 1) c s Q → R k i ls (aR t q :: aR C r :: st) σ c s Q
def c_astq (R : RR) : Prop := ∀ k i ls st σ c s Q pc len x j r, (rows k)[i]? = some (pc, .aastore, len, x) → 0 ≤ j → j < 8 → R k (i + 1) ls st (up σ 14 r j 1) c s Q → R k i ls (aR 2 (j + 2) :: aI j :: aR 14 r :: st) σ c s Q
def c_obj (R : RR) : Prop := ∀ k i ls σ c s Q pc j len w C r st, (rows k)[i]? = some (pc, .invokespecial j, len, [5, 0, w]) → 1 ≤ frm k → 100 ≤ lcl k → st.length ≤ 4 → R k (i + 1) ls st σ c s Q → R k i ls (aR C r :: st) σ c s Q
def c_con (R : RR) : Prop := c_new R ∧ c_newa R ∧ c_newq R ∧ c_putq R ∧ c_astq R ∧ c_obj R
theorem w_arr : Cond.arrayClass .int ∈ lw_tbl ∧ Cond.arrayClass .char ∈ lw_tbl ∧ Cond.arrayClass .long ∈ lw_tbl ∧ Cond.arrayClass .double ∈ lw_tbl ∧ Cond.arrayOver (.object RX2) ∈ lw_tbl := by decide +kernel
theorem w_obj : Cond.instanceMethod Lib.objectInit ∈ lw_tbl ∧ Cond.code Lib.objectInit ⟨#[0xb1]⟩ 1 none ∈ lw_tbl := by decide +kernel
def kd2C (C f : Nat) : Bool := match (fsp C)[f]? with
  | some (kd, _, _, _) => if kd = 2 then (match parseFieldDescriptor (fF C f).2.2.1 with | some (.object _) => true | some (.array _) => true | _ => false) && (fF C f).2.2.2 && decide (some (fF C f).1 = (MC[C]?).map (fun q => q.1)) else decide (kd ≤ 1)
  | none => true
theorem kd2All : (List.range 12).all (fun C => (List.range 16).all (fun f => kd2C C f)) = true := by decide +kernel
theorem kd2_of {C f : Nat} (hC : C < 12) (hf : f < (fsp C).length) : kd2C C f = true := by
  have h := fsp_len C
  exact List.all_eq_true.mp (List.all_eq_true.mp kd2All C (List.mem_range.mpr hC)) f (List.mem_range.mpr (by omega))
def pqR (ow nm : String) (r : Rw) : Bool := match r.2.1, r.2.2.2 with
  | .putfield _, [C, f, _, 0] => (match (fsp C)[f]? with | some (2, _, _, _) => decide (nm = "<init>") && decide ((fF C f).1 = ow) | _ => true)
  | _, _ => true
set_option maxRecDepth 100000 in
theorem pqAll : ∀ m ∈ mtab, (m.2.2.1.all (pqR m.1.1 m.1.2.1.name)) = true := List.all_eq_true.mp (by decide +kernel)
def mkW (C : Nat) : Bool := decide (Cond.instantiable (MC.getD C (RX0, TX0, 8)).1 (fsp C).length ∈ lw_tbl) && decide (Cond.initialized (MC.getD C (RX0, TX0, 8)).1 ∈ lw_tbl)
theorem mkWAll : (List.range 12).all mkW = true := by decide +kernel
section Con
variable {K : WK} {k i pc len : Nat} {raw : Instr} {x : List Nat} {ls ls' : Vls} {st st' : List AV} {σ σ' : Mem} {P : Option Prop} {c s : Nat} {Q : Out → Mem → Prop}
theorem mkO_o {C C' : Nat} {r j : Int} (h : C' ≠ 20) : mkO σ C C' r j = σ C' r j := up_o (Or.inl h)
theorem vld_mkO {C C' : Nat} {r : Int} (h : vld σ C' r) : vld (mkO σ C) C' r := by
  unfold vld at h ⊢
  split at h
  · rename_i h1
    rw [if_pos h1]
    unfold mkO up
    split
    · rename_i e
      have : C' = C := by omega
      subst this
      omega
    · exact h
  · rename_i h1
    rw [if_neg h1]
    exact h
theorem vld_new {C : Nat} (hC : C < 17) (h0 : 0 ≤ σ 20 C 0) : vld (mkO σ C) C (σ 20 C 0) := by
  unfold vld
  rw [if_pos hC]
  have : mkO σ C 20 C 0 = σ 20 C 0 + 1 := up_s _ _ _ _ _
  omega
theorem vld_mkO' {C C' : Nat} {r : Int} (hC : C < 17) (h : vld (mkO σ C) C' r) (h0 : 0 ≤ σ 20 C 0) : vld σ C' r ∨ (C' = C ∧ r = σ 20 C 0) := by
  unfold vld at h ⊢
  split at h
  · rename_i h1
    rw [if_pos h1]
    by_cases e : C' = C
    · subst e
      have : mkO σ C' 20 C' 0 = σ 20 C' 0 + 1 := up_s _ _ _ _ _
      rw [this] at h
      by_cases e2 : r = σ 20 C' 0
      · exact Or.inr ⟨rfl, e2⟩
      · exact Or.inl (by omega)
    · have : mkO σ C 20 C' 0 = σ 20 C' 0 := up_o (Or.inr (Or.inl (by omega)))
      rw [this] at h
      exact Or.inl h
  · rename_i h1
    rw [if_neg h1]
    exact Or.inl h
theorem nvld {C : Nat} (hC : C < 17) : ¬ vld σ C (σ 20 C 0) := by
  unfold vld
  rw [if_pos hC]
  omega
theorem Wf_mkO {C : Nat} (hC : C < 17) (hf : frO σ C) (h : Wf false σ) : Wf false (mkO σ C) := by
  obtain ⟨a1, a2, a3, a4, a5, a6, a7⟩ := h
  refine ⟨fun C' r j q1 q2 q3 => ?_, fun r j => ?_, fun r j => ?_, fun r j => ?_, fun C' r f fk q1 q2 => ?_, fun C' r f fk q1 q2 q3 q4 q5 => ?_, fun r j q1 q2 q3 q4 => ?_⟩
  · rw [mkO_o (by omega)]; exact a1 C' r j q1 q2 q3
  · rw [mkO_o (by omega)]; exact a2 r j
  · rw [mkO_o (by omega)]; exact a3 r j
  · rw [mkO_o (by omega)]; exact a4 r j
  · by_cases e : 12 ≤ C'
    · rw [fsp_big e] at q1; cases q1
    · rw [mkO_o (by omega)]; exact a5 C' r f fk q1 q2
  · rw [mkO_o (by omega)] at q5
    rcases vld_mkO' hC q2 hf.1 with h | ⟨rfl, rfl⟩
    · exact vld_mkO (a6 C' r f fk q1 h q3 q4 q5)
    · rw [hf.2.1] at q5
      rcases q5 with q5 | q5
      · cases q5
      · omega
  · rw [mkO_o (by omega)] at q4
    rcases vld_mkO' hC q1 hf.1 with h | ⟨rfl, rfl⟩
    · exact vld_mkO (a7 r j h q2 q3 q4)
    · rw [hf.2.1] at q4
      rcases q4 with q4 | q4
      · cases q4
      · omega
theorem ent_ad {ad ad' : AD} {cs : CS} {C : Nat} {r : Int} (hv : vld σ C r) (hWf : Wf false σ) (h14 : ∀ (r j : Int), σ 14 r j = 1 → ad' 2 (j + 2) = ad 2 (j + 2)) (h : ∀ C' r', vld σ C' r' → ad' C' r' = ad C' r') : ent false ad' σ cs C r = ent false ad σ cs C r := by
  unfold ent
  by_cases h1 : C < 12
  · rw [if_pos h1, if_pos h1]
    congr 2
    unfold flds
    refine List.ext_getElem? fun n => ?_
    rw [List.getElem?_mapIdx, List.getElem?_mapIdx]
    cases hf : (fsp C)[n]? with
    | none => rfl
    | some fk =>
      show some (fval false ad' σ C r n fk) = some (fval false ad σ C r n fk)
      congr 1
      unfold fval
      by_cases h2 : fk.1 = 2
      · rw [if_pos h2, if_pos h2]
        by_cases h3 : σ C r n = 1
        · rw [if_pos (Or.inr h3), if_pos (Or.inr h3), h _ _ (hWf.2.2.2.2.2.1 C r n fk h1 hv hf h2 (Or.inr h3))]
        · rw [if_neg (fun q => q.elim (by decide) h3), if_neg (fun q => q.elim (by decide) h3)]
      · rw [if_neg h2, if_neg h2]
  · rw [if_neg h1, if_neg h1]
    by_cases h2 : C = 12
    · rw [if_pos h2, if_pos h2]
    · rw [if_neg h2, if_neg h2]
      by_cases h3 : C = 13
      · rw [if_pos h3, if_pos h3]
      · rw [if_neg h3, if_neg h3]
        by_cases h4 : C = 14
        · rw [if_pos h4, if_pos h4]
          have : (fun j : Nat => if (false = true) ∨ σ 14 r j = 1 then some (ad' 2 ((j : Int) + 2)) else none) = fun j : Nat => if (false = true) ∨ σ 14 r j = 1 then some (ad 2 ((j : Int) + 2)) else none := by
            funext j
            by_cases h5 : σ 14 r j = 1
            · rw [if_pos (Or.inr h5), if_pos (Or.inr h5), h14 r j h5]
            · rw [if_neg (fun q => q.elim (by decide) h5), if_neg (fun q => q.elim (by decide) h5)]
          rw [this]
        · rw [if_neg h4, if_neg h4]
theorem s_mk {C n : Nat} {st0 : List AV} (hr : (rows k)[i]? = some (pc, raw, len, x)) (hC : C < 17) (hf : frO σ C) (hst : ∀ a ∈ st, a ∈ st0) (hc1' : c + 1 ≤ mcs k) (hc2' : s + n ≤ mss k)
    (hw : ∀ {p : Program} {e : Env} {sx : State} {m : MethodId} {args : Array Value} {below : List Frame} {meth : Method} {cd : Code} {H : Heap} {locs : List Loc} {lsR : Array Slot} {ad : AD} {Qf : State → Prop} {os : List (Nat × Int)},
      Cx K k p sx m meth cd → decode (byt k) pc = .ok (raw, len) → va_S (Zp K) sx.heap H locs → (∀ q : Nat, sx.heap.size ≤ q → Zp K q) →
      va_P K.2.2.2.1 MC (wld false ad σ K.2.2.2.2.1 os) H → va_D (Zp K) (wld false ad σ K.2.2.2.2.1 os) →
      (∀ (q : Nat) (H1 : Heap), va_P K.2.2.2.1 MC (wld false ad σ K.2.2.2.2.1 os ++ [(q, ent false ad σ K.2.2.2.2.1 C (σ 20 C 0))]) H1 → va_D (Zp K) (wld false ad σ K.2.2.2.2.1 os ++ [(q, ent false ad σ K.2.2.2.2.1 C (σ 20 C 0))]) → va_S (Zp K) sx.heap H1 locs →
        W p K.1 e (rm k) sx m args below meth cd H1 locs (c + 1) (s + n) Qf (F0 m (pc + len) lsR (.ref q :: st.map (val ad)))) → W p K.1 e (rm k) sx m args below meth cd H locs c s Qf (F0 m pc lsR (st0.map (val ad))))
    (hn : Wst false K k (i + 1) ls (aR C (σ 20 C 0) :: st) (mkO σ C) (c + 1) (s + n) Q) : Wst false K k i ls st0 σ c s Q := by
  intro p e sx m args below meth cd σ0 ad0 ad H locs lsR hCx hS hE hT ha hl hL hc1 hc2
  obtain ⟨hd, -, -, -, e1, e2⟩ := row_of hr
  rw [e1]
  have hB : Bg K sx := hCx.2.2.2.2.2.2.2.2
  have hzq : ∀ q : Nat, sx.heap.size ≤ q → Zp K q := by
    obtain ⟨l, s0, z, D, cs, σs, ads⟩ := K
    exact fun q hq => Nat.le_trans hB.2.1 hq
  obtain ⟨⟨os, ho1, ho2, ho3, ho4⟩, hWf, hRd⟩ := hT.un
  refine hw hCx hd hS hzq ho3 ho4 fun q H1 hP1 hD1 hS1 => ?_
  generalize had : (fun C' r' => if C' = C ∧ r' = σ 20 C 0 then q else ad C' r' : AD) = ad'
  have hadn : ad' C (σ 20 C 0) = q := by rw [← had]; exact if_pos ⟨rfl, rfl⟩
  have hado : ∀ C' r', ¬ (C' = C ∧ r' = σ 20 C 0) → ad' C' r' = ad C' r' := fun C' r' h => by rw [← had]; exact if_neg h
  have hadv : ∀ C' r', C' < 17 → vld σ C' r' → ad' C' r' = ad C' r' := fun C' r' hl hv => hado C' r' (fun h => by rw [h.1, h.2] at hv; exact nvld hC hv)
  have hadb : ∀ C' r', 17 ≤ C' → ad' C' r' = ad C' r' := fun C' r' hl => hado C' r' (fun h => by omega)
  have hadV : ∀ C' r', vld σ C' r' → ad' C' r' = ad C' r' := fun C' r' hv => by
    by_cases h : C' < 17
    · exact hadv C' r' h hv
    · exact hadb C' r' (by omega)
  have h14 : ∀ (r j : Int), σ 14 r j = 1 → ad' 2 (j + 2) = ad 2 (j + 2) := fun r j h => hado _ _ (fun e => by
    have h3 := hf.2.2 e.1.symm r j h
    have h4 := e.2
    have h5 : (C : Int) = 2 := by rw [← e.1]; rfl
    rw [h5] at h4
    omega)
  have hent : ∀ C' r', C' < 17 → vld σ C' r' → ent false ad' (mkO σ C) K.2.2.2.2.1 C' r' = ent false ad σ K.2.2.2.2.1 C' r' := fun C' r' hl hv => (ent_congr (fun j => mkO_o (by omega))).trans (ent_ad hv hWf h14 hadV)
  have hentn : ent false ad' (mkO σ C) K.2.2.2.2.1 C (σ 20 C 0) = ent false ad σ K.2.2.2.2.1 C (σ 20 C 0) := by
    refine (ent_congr (fun j => mkO_o (by omega))).trans ?_
    unfold ent
    by_cases h1 : C < 12
    · rw [if_pos h1, if_pos h1]
      congr 2
      unfold flds
      refine List.ext_getElem? fun n => ?_
      rw [List.getElem?_mapIdx, List.getElem?_mapIdx]
      cases hf' : (fsp C)[n]? with
      | none => rfl
      | some fk =>
        show some (fval false ad' σ C (σ 20 C 0) n fk) = some (fval false ad σ C (σ 20 C 0) n fk)
        unfold fval
        have h3 : ¬ ((false = true) ∨ σ C (σ 20 C 0) n = 1) := fun q => q.elim (by decide) (fun q => by rw [hf.2.1] at q; omega)
        rw [if_neg h3, if_neg h3]
    · rw [if_neg h1, if_neg h1]
      by_cases h2 : C = 12
      · rw [if_pos h2, if_pos h2]
      · rw [if_neg h2, if_neg h2]
        by_cases h3 : C = 13
        · rw [if_pos h3, if_pos h3]
        · rw [if_neg h3, if_neg h3]
          by_cases h4 : C = 14
          · subst h4
            rw [if_pos rfl, if_pos rfl]
            have : (fun j : Nat => if (false = true) ∨ σ 14 (σ 20 ((14 : Nat) : Int) 0) j = 1 then some (ad' 2 ((j : Int) + 2)) else none) = fun j : Nat => if (false = true) ∨ σ 14 (σ 20 ((14 : Nat) : Int) 0) j = 1 then some (ad 2 ((j : Int) + 2)) else none := by
              funext j
              have h3 : ¬ ((false = true) ∨ σ 14 (σ 20 ((14 : Nat) : Int) 0) j = 1) := fun q => q.elim (by decide) (fun q => by rw [hf.2.1] at q; omega)
              rw [if_neg h3, if_neg h3]
            rw [this]
          · rw [if_neg h4, if_neg h4]
  have hwld : wld false ad σ K.2.2.2.2.1 os ++ [(q, ent false ad σ K.2.2.2.2.1 C (σ 20 C 0))] = wld false ad' (mkO σ C) K.2.2.2.2.1 (os ++ [(C, σ 20 C 0)]) := by
    unfold wld
    rw [List.map_append, List.map_cons, List.map_nil, hadn, hentn]
    congr 1
    refine List.map_congr_left fun o ho => ?_
    have hv := (ho2 o.1 o.2).mp ho
    rw [hadv _ _ hv.1 hv.2, hent _ _ hv.1 hv.2]
  rw [hwld] at hP1 hD1
  have hnm : (C, σ 20 C 0) ∉ os := fun h => nvld hC ((ho2 _ _).mp h).2
  have hE1 : Ext σ ad (mkO σ C) ad' := fun C' r' h1 h2 => ⟨vld_mkO h2, hadv C' r' h1 h2⟩
  have hRd1 : Rd K ad' (mkO σ C) := by
    obtain ⟨l, s0, z, D, cs, σs, ads⟩ := K
    exact ⟨fun r j => ⟨(mkO_o (by omega)).trans (hRd.1 r j).1, (mkO_o (by omega)).trans (hRd.1 r j).2⟩, (hadb _ _ (by omega)).trans hRd.2.1, (hadb _ _ (by omega)).trans hRd.2.2.1, (hadb _ _ (by omega)).trans hRd.2.2.2⟩
  have h19 : ∀ r : Int, ad' 19 r = ad 19 r := fun r => hadb _ _ (by omega)
  have hSw1 : Sw false K ad' (mkO σ C) H1 := by
    have hRep : Rep false K.2.2.2.1 K.2.2.2.2.1 K.2.2.1 ad' (mkO σ C) H1 := by
      refine ⟨os ++ [(C, σ 20 C 0)], List.nodup_append.mpr ⟨ho1, by simp, fun a h1 b h2 => ?_⟩, fun C' r' => ?_, hP1, ?_⟩
      · rw [List.mem_singleton.mp h2]
        exact fun e => hnm (e ▸ h1)
      · rw [List.mem_append, List.mem_singleton, ho2]
        constructor
        · rintro (⟨h1, h2⟩ | h)
          · exact ⟨h1, vld_mkO h2⟩
          · cases h
            exact ⟨hC, vld_new hC hf.1⟩
        · rintro ⟨h1, h2⟩
          rcases vld_mkO' hC h2 hf.1 with h3 | ⟨rfl, rfl⟩
          · exact Or.inl ⟨h1, h3⟩
          · exact Or.inr rfl
      · obtain ⟨l, s0, z, D, cs, σs, ads⟩ := K
        exact hD1
    obtain ⟨l, s0, z, D, cs, σs, ads⟩ := K
    exact ⟨hRep, Wf_mkO hC hf hWf, hRd1⟩
  have hve : ∀ a, aok σ a → val ad' a = val ad a := fun a h => val_eq hE1 hRd hRd1 h19 h
  have h := hn p e sx m args below meth cd σ0 ad0 ad' H1 locs lsR hCx hS1 (hE.trans hE1) hSw1 (mk1 (P := aok (mkO σ C)) (a := aR C (σ 20 C 0)) (vld_new hC hf.1) (fun a h => aok_mono hE1 (ha a (hst a h)))) (fun j a hj => aok_mono hE1 (hl j a hj)) (hL.moved (fun j a hj => hve a (hl j a hj))) hc1' hc2'
  rw [e2] at h
  have e9 : (aR C (σ 20 C 0) :: st).map (val ad') = .ref q :: st.map (val ad) := by
    rw [List.map_cons]
    congr 1
    · show Value.ref (ad' C (σ 20 C 0)) = _
      rw [hadn]
    · exact List.map_congr_left (fun a h => hve a (ha a (hst a h)))
  rw [e9] at h
  exact h
theorem s_new (hG : G0 K) : c_new (Wst false K) := by
  intro k i ls st σ c s Q pc j len C w hr hC hf hc1 hc2 hn
  have hlen : len = 3 := (row_of hr).2.2.2.1.resolve_left (by simp [ilen])
  subst hlen
  refine s_mk hr (by omega) hf (fun a h => h) hc1 hc2 (fun {p e sx m args below meth cd H locs lsR ad Qf os} hCx hd hS hzq ho3 ho4 hk => ?_) hn
  have hlk := (row_of hr).2.1
  simp only [lkOK, Bool.and_eq_true, Bool.or_eq_true, decide_eq_true_eq] at hlk
  have hw := (hlk.resolve_right (fun h => by omega)).2
  obtain ⟨Cn, ty, hMC, hin, hty, hnm⟩ := mcF hC
  have hMD : MC.getD C (RX0, TX0, 8) = (Cn, fF C, (fsp C).length) := by rw [List.getD_eq_getElem?_getD, hMC]; rfl
  rw [hMD] at hw
  have hmk := List.all_eq_true.mp mkWAll C (List.mem_range.mpr hC)
  unfold mkW at hmk
  rw [hMD, Bool.and_eq_true, decide_eq_true_eq, decide_eq_true_eq] at hmk
  have hB : Bg K sx := hCx.2.2.2.2.2.2.2.2
  have hts : ∀ w ∈ u_ws Cn (fF C) (fsp C).length, w.before args sx = true := fun w hw => wd hG hB (hin w hw) (goodU w hw) args
  refine va_new hCx.1 hCx.2.1 hts (fun _ h => h) ty hty hCx.2.2.2.2.1 (wd hG hB (isW_mem hw) rfl args) (wd hG hB hmk.1 rfl args) (wd hG hB hmk.2 rfl args) (kK hG hB) ho3 ho4 hS hzq hMC (fs := flds false ad σ C (σ 20 C 0)) (fun f hfl => ?_) hc1 hc2 hd (fun q H1 a1 a2 a3 => ?_)
  · have hfk : (fsp C)[f]? = some (fsp C)[f] := List.getElem?_eq_getElem hfl
    have h1 := kd_of hC hfl
    have h2 := kd2_of hC hfl
    unfold kdC at h1
    unfold kd2C at h2
    rw [hfk] at h1 h2
    rw [hty f hfl] at h1 h2
    show _ = (flds false ad σ C (σ 20 C 0)).getD f .null
    rw [List.getD_eq_getElem?_getD, flds, List.getElem?_mapIdx, hfk]
    show _ = fval false ad σ C (σ 20 C 0) f (fsp C)[f]
    unfold fval
    rw [hf.2.1]
    generalize (fsp C)[f] = fk at h1 h2 ⊢
    obtain ⟨kd, a, b, t⟩ := fk
    dsimp only at h1 h2 ⊢
    by_cases e2 : kd = 2
    · subst e2
      rw [if_pos rfl, if_neg (by simp)]
      rw [if_pos rfl, Bool.and_eq_true, Bool.and_eq_true] at h2
      have h3 := h2.1.1
      generalize ty f = tf at h3 ⊢
      cases tf <;> first | rfl | cases h3
    · rw [if_neg e2]
      by_cases e0 : kd = 0
      · rw [if_pos e0, decide_eq_true_eq] at h1
        rw [Option.some.inj h1]
        rfl
      · rw [if_neg e0] at h1
        by_cases e1 : kd = 1
        · rw [if_pos e1, decide_eq_true_eq] at h1
          rw [Option.some.inj h1]
          rfl
        · rw [if_neg e2, decide_eq_true_eq] at h2
          omega
  · have he : ent false ad σ K.2.2.2.2.1 C (σ 20 C 0) = .inr (C, flds false ad σ C (σ 20 C 0)) := by unfold ent; rw [if_pos hC]
    rw [← he] at a1 a2
    exact hk q H1 a1 a2 a3
theorem ra_inj {U : State} {cA cB : ClassId} {ty : FieldType} (h1 : va_RA U cA ty) (h2 : va_RA U cB ty) : cA = cB := by
  cases ty with
  | object C =>
    obtain ⟨-, -, -, -, -, h1⟩ := h1
    obtain ⟨-, -, -, -, -, h2⟩ := h2
    exact Option.some.inj (h1.symm.trans h2)
  | _ => exact Option.some.inj (Eq.trans (Eq.symm h1) h2)
theorem s_newa (hG : G0 K) : c_newa (Wst false K) := by
  intro k i ls st σ c s Q pc len C x n hr hC hn' hf hc1 hc2 hn
  have hlen : len = 2 := (row_of hr).2.2.2.1.resolve_left (by simp [ilen])
  subst hlen
  have hb := rowLen_bd (σ 20 C 0)
  have hn0 : 0 ≤ n ∧ n ≤ 26640 := by
    rw [hn']; unfold nAl
    repeat' split
    all_goals omega
  have hnR : inR n := ⟨by omega, by omega⟩
  refine s_mk (st0 := aI n :: st) hr (by omega) hf (fun a h => List.mem_cons_of_mem _ h) hc1 hc2 (fun {p e sx m args below meth cd H locs lsR ad Qf os} hCx hd hS hzq ho3 ho4 hk => ?_) hn
  have hB : Bg K sx := hCx.2.2.2.2.2.2.2.2
  have hneg : ¬ Int32.ofInt n < 0 := by
    rw [Int32.lt_iff_toInt_lt, toI_of hnR]
    show ¬ n < 0
    omega
  have hcl : (Int32.ofInt n).toNatClampNeg = n.toNat := clp hn0.1 hnR
  have hz : ∀ j : Nat, σ C (σ 20 C 0) j = 0 := fun j => hf.2.1 j
  rcases hC with rfl | rfl | rfl | rfl
  · refine va_newa (ty := .char) hCx.1 hCx.2.1 (atype := .char) (wd hG hB w_arr.2.1 rfl args) rfl (kK hG hB) ho3 ho4 hS hzq (n := Int32.ofInt n) (N' := n.toNat) (a0 := (60, .inl (fun j => Int32.ofInt (σ 12 (σ 20 ((12 : Nat) : Int) 0) j)))) (fun cA => ?_) hneg hcl (by show n.toNat * 2 ≤ _; omega) hc1 hc2 hd (fun q cA H1 hK1 a1 a2 a3 => ?_)
    · rw [vp_cell_i, show n.toNat = 60 by rw [hn']; rfl]
      simp only [hz]
      rfl
    · have hcA : cA = K.2.2.2.2.1.1 := ra_inj (hK1.2 5 _ rfl).2 ((kK hG hB).2 0 _ rfl).2
      subst hcA
      exact hk q H1 a1 a2 a3
  · refine va_newa (ty := .int) hCx.1 hCx.2.1 (atype := .int) (wd hG hB w_arr.1 rfl args) rfl (kK hG hB) ho3 ho4 hS hzq (n := Int32.ofInt n) (N' := n.toNat) (a0 := ((rowLen (σ 20 ((13 : Nat) : Int) 0)).toNat, .inl (fun j => Int32.ofInt (σ 13 (σ 20 ((13 : Nat) : Int) 0) j)))) (fun cA => ?_) hneg hcl (by show n.toNat * 4 ≤ _; omega) hc1 hc2 hd (fun q cA H1 hK1 a1 a2 a3 => ?_)
    · rw [vp_cell_i, show n.toNat = (rowLen (σ 20 ((13 : Nat) : Int) 0)).toNat by rw [hn']; rfl]
      simp only [hz]
      rfl
    · have hcA : cA = K.2.2.2.2.1.2.1 := ra_inj (hK1.2 5 _ rfl).2 ((kK hG hB).2 1 _ rfl).2
      subst hcA
      exact hk q H1 a1 a2 a3
  · refine va_newa (ty := .long) hCx.1 hCx.2.1 (atype := .long) (wd hG hB w_arr.2.2.1 rfl args) rfl (kK hG hB) ho3 ho4 hS hzq (n := Int32.ofInt n) (N' := n.toNat) (a0 := (1, .inr (.inl (fun j => Int64.ofInt (σ 15 (σ 20 ((15 : Nat) : Int) 0) j))))) (fun cA => ?_) hneg hcl (by show n.toNat * 8 ≤ _; omega) hc1 hc2 hd (fun q cA H1 hK1 a1 a2 a3 => ?_)
    · rw [vp_cell_l, show n.toNat = 1 by rw [hn']; rfl]
      simp only [hz]
      rfl
    · have hcA : cA = K.2.2.2.2.1.2.2.2.1 := ra_inj (hK1.2 5 _ rfl).2 ((kK hG hB).2 3 _ rfl).2
      subst hcA
      exact hk q H1 a1 a2 a3
  · refine va_newa (ty := .double) hCx.1 hCx.2.1 (atype := .double) (wd hG hB w_arr.2.2.2.1 rfl args) rfl (kK hG hB) ho3 ho4 hS hzq (n := Int32.ofInt n) (N' := n.toNat) (a0 := (1, .inr (.inr (.inr (.inl (fun j => UInt64.ofNat (σ 16 (σ 20 ((16 : Nat) : Int) 0) j).toNat)))))) (fun cA => ?_) hneg hcl (by show n.toNat * 8 ≤ _; omega) hc1 hc2 hd (fun q cA H1 hK1 a1 a2 a3 => ?_)
    · rw [vp_cell_d, show n.toNat = 1 by rw [hn']; rfl]
      simp only [hz]
      rfl
    · have hcA : cA = K.2.2.2.2.1.2.2.2.2 := ra_inj (hK1.2 5 _ rfl).2 ((kK hG hB).2 4 _ rfl).2
      subst hcA
      exact hk q H1 a1 a2 a3
theorem ao_at (hG : G0 K) {U : State} (hB : Bg K U) : va_AO RX2 U := by
  obtain ⟨l, s0, z, D, cs, σs, ads⟩ := K
  obtain ⟨-, -, ⟨ar, hw⟩, -⟩ := hG
  exact (va_AO.of (hw _ w_arr.2.2.2.2)).moved hB.1.alike
theorem s_newq (hG : G0 K) : c_newq (Wst false K) := by
  intro k i ls st σ c s Q pc j len C0 w hr hf hc1 hc2 hn
  have hlen : len = 3 := (row_of hr).2.2.2.1.resolve_left (by simp [ilen])
  subst hlen
  refine s_mk (st0 := aI 8 :: st) hr (by omega) hf (fun a h => List.mem_cons_of_mem _ h) hc1 hc2 (fun {p e sx m args below meth cd H locs lsR ad Qf os} hCx hd hS hzq ho3 ho4 hk => ?_) hn
  have hB : Bg K sx := hCx.2.2.2.2.2.2.2.2
  have hz : ∀ j : Nat, σ 14 (σ 20 ((14 : Nat) : Int) 0) j = 0 := fun j => hf.2.1 j
  have hlk := (row_of hr).2.1
  simp only [lkOK, Bool.and_eq_true, decide_eq_true_eq] at hlk
  refine va_newq hCx.1 hCx.2.1 hCx.2.2.2.2.1 (wd hG hB (isW_mem hlk.2) rfl args) (ao_at hG hB) (kK hG hB) ho3 ho4 hS hzq (n := Int32.ofInt 8) (N' := 8) (by decide) (by decide) (by decide) hc1 hc2 hd (fun q cA H1 hK1 a1 a2 a3 => ?_)
  have hcA : cA = K.2.2.2.2.1.2.2.1 := ra_inj (hK1.2 5 _ rfl).2 ((kK hG hB).2 2 _ rfl).2
  subst hcA
  have he : (.inl (K.2.2.2.2.1.2.2.1, 8, .inr (.inr (.inr (.inr (fun _ => none))))) : va_E) = ent false ad σ K.2.2.2.2.1 14 (σ 20 ((14 : Nat) : Int) 0) := by
    unfold ent
    rw [if_neg (by decide), if_neg (by decide), if_neg (by decide), if_pos rfl]
    have e9 : (fun j : Nat => if (false = true) ∨ σ 14 (σ 20 ((14 : Nat) : Int) 0) j = 1 then some (ad 2 ((j : Int) + 2)) else none) = fun _ => none := by
      funext j
      rw [hz j]
      simp
    rw [e9]
  rw [he] at a1 a2
  exact hk q H1 a1 a2 a3
theorem Wf_upq {C f : Nat} {r : Int} {a b : Int} {t : Nat} (h : Wf false σ) (hC : C < 12) (hfk : (fsp C)[f]? = some (2, a, b, t)) (hv : vld σ t (lay a b r)) : Wf false (up σ C r f 1) := by
  obtain ⟨a1, a2, a3, a4, a5, a6, a7⟩ := h
  have e20 : (up σ C r f 1) 20 = σ 20 := by funext r' j; exact up_tag (by omega) r' j
  refine ⟨fun C' r' j q1 q2 q3 => ?_, fun r' j => ?_, fun r' j => ?_, fun r' j => ?_, fun C' r' k' fk q1 q2 => ?_, fun C' r' k' fk q1 q2 q3 q4 q5 => ?_, fun r' j q1 q2 q3 q4 => ?_⟩
  · unfold up; split
    · exact ⟨by decide, by decide⟩
    · exact a1 C' r' j q1 q2 q3
  · rw [up_tag (by omega)]; exact a2 r' j
  · rw [up_tag (by omega)]; exact a3 r' j
  · rw [up_tag (by omega)]; exact a4 r' j
  · unfold up; split
    · rename_i e
      have : k' = f := by omega
      subst this
      rw [e.1, hfk] at q1
      cases q1
      cases q2
    · exact a5 C' r' k' fk q1 q2
  · rw [vld_of e20] at q2 ⊢
    by_cases e : C' = C ∧ r' = r ∧ (k' : Int) = f
    · have : k' = f := by omega
      subst this
      rw [e.1, hfk] at q3
      cases q3
      rw [e.2.1]
      exact hv
    · refine a6 C' r' k' fk q1 q2 q3 q4 (q5.imp id fun q5 => ?_)
      unfold up at q5
      rw [if_neg e] at q5
      exact q5
  · rw [vld_of e20] at q1 ⊢
    refine a7 r' j q1 q2 q3 (q4.imp id fun q5 => ?_)
    rw [up_tag (by omega)] at q5
    exact q5
theorem flds_setq {ad : AD} {C : Nat} {r : Int} {f : Nat} {a b : Int} {t : Nat} (hfk : (fsp C)[f]? = some (2, a, b, t)) : (flds false ad σ C r).set f (.ref (ad t (lay a b r))) = flds false ad (up σ C r f 1) C r := by
  have hlt := (List.getElem?_eq_some_iff.mp hfk).1
  refine List.ext_getElem? fun n => ?_
  by_cases hn : n = f
  · subst hn
    rw [List.getElem?_set_self (by rw [flds, List.length_mapIdx]; exact hlt), flds, List.getElem?_mapIdx, hfk]
    show some _ = some (fval false ad (up σ C r n 1) C r n (2, a, b, t))
    unfold fval
    dsimp only
    rw [if_pos rfl, up_s, if_pos (Or.inr rfl)]
  · rw [List.getElem?_set_ne (Ne.symm hn), flds, flds, List.getElem?_mapIdx, List.getElem?_mapIdx]
    have e : up σ C r f 1 C r n = σ C r n := up_o (Or.inr (Or.inr (by omega)))
    unfold fval
    rw [e]
theorem pq_at {k i pc j len C f w : Nat} {a b : Int} {t : Nat} (hr : (rows k)[i]? = some (pc, .putfield j, len, [C, f, w, 0])) (hf : (fsp C)[f]? = some (2, a, b, t)) : (yy k).name = "<init>" ∧ (fF C f).1 = own k := by
  have h := List.all_eq_true.mp (pqAll _ (mi_mem k)) _ (List.mem_of_getElem? hr)
  simp only [pqR, hf, Bool.and_eq_true, decide_eq_true_eq] at h
  exact h
theorem s_putq (hG : G0 K) : c_putq (Wst false K) := by
  intro k i ls st σ c s Q pc j len C f w a b t q r hr hfk hq hn
  subst hq
  have hlen : len = 3 := (row_of hr).2.2.2.1.resolve_left (by simp [ilen])
  subst hlen
  have hlk := (row_of hr).2.1
  simp only [lkOK, Bool.and_eq_true, decide_eq_true_eq] at hlk
  obtain ⟨⟨hC12, hflt⟩, hw⟩ := hlk
  obtain ⟨Cn, ty, hMC, hin, hty, hnm⟩ := mcF hC12
  have hk2 := kd2_of hC12 hflt
  unfold kd2C at hk2
  rw [hfk] at hk2
  dsimp only at hk2
  rw [if_pos rfl, hty f hflt, Bool.and_eq_true, Bool.and_eq_true] at hk2
  obtain ⟨hini1, hini2⟩ := pq_at hr hfk
  refine s_hp (st := aR t (lay a b r) :: aR C r :: st) (st' := st) hr (fun ha hWf => Wf_upq hWf hC12 hfk (tl2 ha).1) (by funext r' j; exact up_tag (by omega) r' j) (by funext r' j; exact up_tag (by omega) r' j) (by funext r' j; exact up_tag (by omega) r' j) (fun a h => by simp [h]) (fun {p e sx m args below meth cd H locs lsR ad Qf os} hC hd hL ha hWf hS ho1 ho2 ho3 ho4 hk => ?_) hn
  obtain ⟨q0, hq0, hq⟩ := wld_at (ph := false) (σ := σ) (ad := ad) (cs := K.2.2.2.2.1) ((ho2 C r).mpr ⟨by omega, (tl2 ha).2.1⟩)
  have he : ent false ad σ K.2.2.2.2.1 C r = .inr (C, flds false ad σ C r) := by unfold ent; rw [if_pos hC12]
  rw [he] at hq
  have hB : Bg K sx := hC.2.2.2.2.2.2.2.2
  obtain ⟨hl0, hl1⟩ := fLk_at hG hB hw args
  have hts : ∀ w ∈ u_ws Cn (fF C) (fsp C).length, w.before args sx = true := fun w hw => wd hG hB (hin w hw) (goodU w hw) args
  have hlen : f < (flds false ad σ C r).length := by rw [flds, List.length_mapIdx]; exact hflt
  have hset : (wld false ad σ K.2.2.2.2.1 os).set q0 (ad C r, .inr (C, (flds false ad σ C r).set f (.ref (ad t (lay a b r))))) = wld false ad (up σ C r f 1) K.2.2.2.2.1 os := by
    refine wld_set ho1 hq0 up_ne ?_
    rw [flds_setq hfk]
    unfold ent
    rw [if_pos hC12]
  have hfit : narrow (ty f) (.ref (ad t (lay a b r))) = .ref (ad t (lay a b r)) ∧ fits (ty f) (.ref (ad t (lay a b r))) = true := by
    have h3 := hk2.1.1
    generalize ty f = tf at h3 ⊢
    cases tf <;> first | exact ⟨rfl, rfl⟩ | cases h3
  exact va_putF hC.1 hC.2.1 hts (fun _ h => h) ty hty hnm hC.2.2.2.2.1 (kK hG hB) ho3 ho4 hS q0 hq hMC f hflt (hl0 rfl) (fun _ h => h) hk2.1.2 (by rw [hC.2.2.2.2.2.2.1]; exact hini1) hini2 (hty f hflt) hfit.1 hfit.2 hlen hd (fun H1 locs1 a1 a2 a3 => hk H1 locs1 (hset ▸ a1) (hset ▸ a2) a3)
theorem Wf_up14 {r j : Int} (h : Wf false σ) (hv : vld σ 2 (j + 2)) : Wf false (up σ 14 r j 1) := by
  obtain ⟨a1, a2, a3, a4, a5, a6, a7⟩ := h
  have e20 : (up σ 14 r j 1) 20 = σ 20 := by funext r' j; exact up_tag (by omega) r' j
  refine ⟨fun C' r' j' q1 q2 q3 => ?_, fun r' j => ?_, fun r' j => ?_, fun r' j => ?_, fun C' r' k' fk q1 q2 => ?_, fun C' r' k' fk q1 q2 q3 q4 q5 => ?_, fun r' j' q1 q2 q3 q4 => ?_⟩
  · unfold up; split
    · exact ⟨by decide, by decide⟩
    · exact a1 C' r' j' q1 q2 q3
  · rw [up_tag (by omega)]; exact a2 r' j
  · rw [up_tag (by omega)]; exact a3 r' j
  · rw [up_tag (by omega)]; exact a4 r' j
  · by_cases e : 12 ≤ C'
    · rw [fsp_big e] at q1; cases q1
    · rw [up_tag (by omega)]; exact a5 C' r' k' fk q1 q2
  · rw [vld_of e20] at q2 ⊢
    refine a6 C' r' k' fk q1 q2 q3 q4 (q5.imp id fun q5 => ?_)
    rw [up_tag (by omega)] at q5
    exact q5
  · rw [vld_of e20] at q1 ⊢
    by_cases e : r' = r ∧ j' = j
    · rw [e.2]; exact hv
    · refine a7 r' j' q1 q2 q3 (q4.imp id fun q5 => ?_)
      rw [up_o (by omega)] at q5
      exact q5
theorem s_astq (hG : G0 K) : c_astq (Wst false K) := by
  intro k i ls st σ c s Q pc len x j r hr h0 h8 hn
  have hlen : len = 1 := (row_of hr).2.2.2.1.resolve_left (by simp [ilen])
  subst hlen
  refine s_hp (st := aR 2 (j + 2) :: aI j :: aR 14 r :: st) (st' := st) hr (fun ha hWf => Wf_up14 hWf (tl2 ha).1) (by funext r' j; exact up_tag (by omega) r' j) (by funext r' j; exact up_tag (by omega) r' j) (by funext r' j; exact up_tag (by omega) r' j) (fun a h => by simp [h]) (fun {p e sx m args below meth cd H locs lsR ad Qf os} hC hd hL ha hWf hS ho1 ho2 ho3 ho4 hk => ?_) hn
  obtain ⟨q0, hq0, hq⟩ := wld_at (ph := false) (σ := σ) (ad := ad) (cs := K.2.2.2.2.1) ((ho2 14 r).mpr ⟨by omega, (tl1 (tl2 ha).2.2).1⟩)
  obtain ⟨q1, hq1, hqv⟩ := wld_at (ph := false) (σ := σ) (ad := ad) (cs := K.2.2.2.2.1) ((ho2 2 (j + 2)).mpr ⟨by omega, (tl2 ha).1⟩)
  have hj : inR j := (tl2 ha).2.1
  have hB : Bg K sx := hC.2.2.2.2.2.2.2.2
  have he : ent false ad σ K.2.2.2.2.1 2 (j + 2) = .inr (2, flds false ad σ 2 (j + 2)) := rfl
  rw [he] at hqv
  generalize hfn : (fun q : Nat => if (false = true) ∨ σ 14 r q = 1 then some (ad 2 ((q : Int) + 2)) else none) = fn
  have hset : (wld false ad σ K.2.2.2.2.1 os).set q0 (ad 14 r, .inl (K.2.2.2.2.1.2.2.1, 8, .inr (.inr (.inr (.inr (va_up fn (Int32.ofInt j).toNatClampNeg (some (ad 2 (j + 2))))))))) = wld false ad (up σ 14 r j 1) K.2.2.2.2.1 os := by
    refine wld_set ho1 hq0 up_ne ?_
    rw [clp h0 hj]
    have e : va_up fn j.toNat (some (ad 2 (j + 2))) = fun q : Nat => if (false = true) ∨ up σ 14 r j 1 14 r q = 1 then some (ad 2 ((q : Int) + 2)) else none := by
      subst hfn
      funext q
      unfold va_up
      by_cases h : q = j.toNat
      · have hq : (q : Int) = j := by omega
        rw [if_pos h, hq, up_s, if_pos (Or.inr rfl)]
      · rw [if_neg h, up_o (Or.inr (Or.inr (by omega)))]
    rw [e]
    rfl
  exact va_astq hC.1 hC.2.1 (kK hG hB) ho3 ho4 hS q0 2 q1 2 (cA := K.2.2.2.2.1.2.2.1) (n := 8) (f := fn) (hfn ▸ hq) rfl hqv rfl (vin h0 (by omega) hj) hd (fun H1 locs1 a1 a2 a3 => hk H1 locs1 (hset ▸ a1) (hset ▸ a2) a3)
theorem s_obj (hG : G0 K) : c_obj (Wst false K) := by
  intro k i ls σ c s Q pc j len w C r st hr hfr hlc hst hn
  have hlen : len = 3 := (row_of hr).2.2.2.1.resolve_left (by simp [ilen])
  subst hlen
  intro p e sx m args below meth cd σ0 ad0 ad H locs lsR hC hS hE hT ha hl hL hc1 hc2
  obtain ⟨hd, hlk, -, -, e1, e2⟩ := row_of hr
  rw [e1]
  simp only [lkOK, Bool.or_eq_true, Bool.and_eq_true, decide_eq_true_eq] at hlk
  have hw : isW w (.methodLink (own k) j Lib.objectInit) = true := by
    rcases hlk with ((h | h) | h) | h
    · omega
    · omega
    · exact h.2
    · omega
  have hB : Bg K sx := hC.2.2.2.2.2.2.2.2
  have h := hn p e sx m args below meth cd σ0 ad0 ad H locs lsR hC hS hE hT (tl1 ha).2 hl hL hc1 hc2
  rw [e2] at h
  have hcs := cat_sum ad st
  exact W.objInit hC.1 hC.2.1 hC.2.2.2.2.1 (wd hG hB (isW_mem hw) rfl args) (wd hG hB w_obj.1 rfl args) (wd hG hB w_obj.2 rfl args) rfl (by show lsR.size = _; rw [hC.2.2.2.1, hL.1]) rfl hd hfr (by have h8 : 2 * (F0 m pc lsR ((aR C r :: st).map (val ad))).monitorRoom + ((st.map (val ad)).map fun v => v.category).sum ≤ 8 := lv_room (by omega); show _ ≤ lcl k; omega) h
end Con
