/-! What the law's start gives, and the two phases of the world. -/
section Gst
variable {s : State} {args : Array Value} {b L : Nat} {xs : Nat → Int32} {l : Launch}
set_option maxRecDepth 100000 in
theorem uwAll : (List.range 12).all (fun C => (u_ws (MC.getD C (RX0, TX0, 8)).1 (MC.getD C (RX0, TX0, 8)).2.1 (MC.getD C (RX0, TX0, 8)).2.2).all (fun w => decide (w ∈ lw_tbl))) = true := by decide +kernel
theorem g_kn (hts : ∀ w ∈ lw_tbl, w.before args s = true) : ∃ D : va_G, ∀ (c : Nat) (q : vw_C), MC[c]? = some q → u_Kn s q.1 q.2.1 q.2.2 (D.1 c) (D.2 c) := by
  have h : ∀ c : Nat, ∃ x : ClassId × (Nat → Nat), ∀ q : vw_C, MC[c]? = some q → u_Kn s q.1 q.2.1 q.2.2 x.1 x.2 := fun c => by
    by_cases hc : c < 12
    · obtain ⟨q, hq⟩ : ∃ q, MC[c]? = some q := ⟨_, List.getElem?_eq_getElem hc⟩
      have e : MC.getD c (RX0, TX0, 8) = q := by rw [List.getD_eq_getElem?_getD, hq]; rfl
      have h1 := List.all_eq_true.mp uwAll c (List.mem_range.mpr hc)
      have h2 := List.all_eq_true.mp mkWAll c (List.mem_range.mpr hc)
      unfold mkW at h2
      rw [e] at h1 h2
      rw [Bool.and_eq_true, decide_eq_true_eq, decide_eq_true_eq] at h2
      obtain ⟨cC, iS, h3⟩ := u_known (s := s) hts (fun w hw => of_decide_eq_true (List.all_eq_true.mp h1 w hw)) (hts _ h2.1)
      exact ⟨(cC, iS), fun q' hq' => by rw [hq] at hq'; cases hq'; exact h3⟩
    · exact ⟨(0, fun _ => 0), fun q hq => by rw [List.getElem?_eq_none (by show 12 ≤ c; omega)] at hq; cases hq⟩
  exact ⟨(fun c => (Classical.choose (h c)).1, fun c => (Classical.choose (h c)).2), fun c q hq => Classical.choose_spec (h c) q hq⟩
theorem g_ar1 {ty : FieldType} (h : (Cond.arrayClass ty).before args s = true) : ∃ cA : ClassId, ArrOfT s cA ty ∧ s.vm.findClass ("[" ++ ty.toString) = some cA := by
  obtain ⟨c, k, comp, h1, h2, h3⟩ := Cond.arrayClass_spec h
  exact ⟨c, fun n z => ⟨fun k h => (by cases h), k, h2, comp, h3⟩, h1⟩
theorem g_ar (hts : ∀ w ∈ lw_tbl, w.before args s = true) : ∃ cs : CS, ∀ (k : Nat) (q : ClassId × FieldType), (TY cs)[k]? = some q → ArrOfT s q.1 q.2 ∧ va_RA s q.1 q.2 := by
  obtain ⟨c0, a0, b0⟩ := g_ar1 (hts _ w_arr.2.1)
  obtain ⟨c1, a1, b1⟩ := g_ar1 (hts _ w_arr.1)
  obtain ⟨c3, a3, b3⟩ := g_ar1 (hts _ w_arr.2.2.1)
  obtain ⟨c4, a4, b4⟩ := g_ar1 (hts _ w_arr.2.2.2.1)
  obtain ⟨comp, c2, k2, h1, h2, h3, h4, h5⟩ := Cond.arrayOver_spec (hts _ w_arr.2.2.2.2)
  have a2 : ArrOfT s c2 (.object RX2) := fun n z => ⟨fun k h => (by cases h), k2, h3, comp, h4⟩
  refine ⟨(c0, c1, c2, c3, c4), fun k q h => ?_⟩
  match k, h with
  | 0, h => cases h; exact ⟨a0, b0⟩
  | 1, h => cases h; exact ⟨a1, b1⟩
  | 2, h => cases h; exact ⟨a2, k2, comp, h3, h4, h1, h5⟩
  | 3, h => cases h; exact ⟨a3, b3⟩
  | 4, h => cases h; exact ⟨a4, b4⟩
  | k + 5, h => cases h
def lgL (a : Nat) : List Int := if a = 0 then [3, 1, 2, 1, 3, 2, 1, 2, 3] else [6, 5, 4, 6, 4, 5, 4, 6, 5]
abbrev fl1 : List Cond := flatC (Cond.and given_1 narrow_1)
def sT (a : Nat) : Term := Term.static "FencingMeet" (sNm a) "[I"
set_option maxRecDepth 100000 in
theorem stW : [0, 1].all (fun a => decide (Cond.arrayOf (sT a) .int ∈ fl1) && decide (Cond.eq (.length (sT a)) (.int (Int32.ofNat 9)) ∈ fl1) && (List.range 9).all (fun j => decide (Cond.eq (.elem (sT a) (.int (Int32.ofNat j))) (.int (Int32.ofInt ((lgL a).getD j 0))) ∈ fl1)) && decide (Cond.laysStatic "FencingMeet" (sNm a) "[I" ∈ lw_tbl)) = true := by decide +kernel
set_option maxRecDepth 100000 in
theorem inW : Cond.initialized "FencingMeet" ∈ lw_tbl ∧ Cond.initialized Bundle.tN ∈ lw_tbl ∧ Cond.laysStatic Bundle.tN "UNASSIGNED_STACK" Bundle.steD ∈ lw_tbl ∧ Cond.laysStatic Bundle.tN "SUPPRESSED_SENTINEL" Bundle.listD ∈ lw_tbl := by decide +kernel
set_option maxRecDepth 100000 in
theorem isW1 : Cond.isRef (.static Bundle.tN "UNASSIGNED_STACK" Bundle.steD) ∈ fl1 ∧ Cond.isRef (.static Bundle.tN "SUPPRESSED_SENTINEL" Bundle.listD) ∈ fl1 := by decide +kernel
set_option maxRecDepth 100000 in
theorem ncW : ncP.all (fun q => decide (Cond.not (.castable (exN q.1) (exN q.2)) ∈ fl1)) = true := by decide +kernel
set_option maxRecDepth 100000 in
theorem exW : thSt.all (fun j => decide (Cond.exactly (.string RX10 j) "java/lang/String" ∈ fl1)) = true := by decide +kernel
def isSr (j : Nat) (w : Cond) : Bool := match w with | .stringRef C k _ => decide (C = RX10) && decide (k = j) | _ => false
set_option maxRecDepth 100000 in
theorem srW : thSt.all (fun j => lw_tbl.any (isSr j)) = true := by decide +kernel
theorem g_st (hgv : (Cond.and given_1 narrow_1).before args s = true) (hts : ∀ w ∈ lw_tbl, w.before args s = true) {a : Nat} (ha : a ∈ [0, 1]) : ∃ t : Nat, va_Z "FencingMeet" (sNm a) "[I" (.ref t) (fun q => s.heap.size ≤ q) s s.heap ∧ va_T .int t 9 (fun j => .int (Int32.ofInt ((lgL a).getD j 0))) (fun q => s.heap.size ≤ q) s s.heap := by
  have hs := flat_of_before _ hgv
  have hW := List.all_eq_true.mp stW a ha
  rw [Bool.and_eq_true, Bool.and_eq_true, Bool.and_eq_true, decide_eq_true_eq, decide_eq_true_eq, decide_eq_true_eq] at hW
  obtain ⟨⟨⟨h1, h2⟩, h3⟩, h4⟩ := hW
  have hA : ∀ q : Nat, q < s.heap.size → ¬ (s.heap.size ≤ q) := fun q h => by omega
  obtain ⟨t, ht, hT⟩ := va_Tof (tm := sT a) (ty := .int) (N := 9) (f := fun j => .int (Int32.ofInt ((lgL a).getD j 0))) (A := fun q => s.heap.size ≤ q) (by decide) (hs _ h1) (va_eqt (hs _ h2)) (fun j hj => va_eqt (hs _ (of_decide_eq_true (List.all_eq_true.mp h3 j (List.mem_range.mpr hj))))) hA
  exact ⟨t, va_Zref (hts _ h4) (hts _ inW.1) ht hA, hT⟩
theorem g_sr (hgv : (Cond.and given_1 narrow_1).before args s = true) (hts : ∀ w ∈ lw_tbl, w.before args s = true) {j : Nat} (hj : j ∈ thSt) : ∃ (tx : String) (sa : Nat), vk_R RX10 j tx sa s := by
  have hs := flat_of_before _ hgv
  obtain ⟨sa, -, -, -, h1, -⟩ := Cond.exactly_spec (hs _ (of_decide_eq_true (List.all_eq_true.mp exW j hj)))
  obtain ⟨w, hw, h2⟩ := List.any_eq_true.mp (List.all_eq_true.mp srW j hj)
  unfold isSr at h2
  split at h2
  · rename_i C k tx
    rw [Bool.and_eq_true, decide_eq_true_eq, decide_eq_true_eq] at h2
    obtain ⟨rfl, rfl⟩ := h2
    exact ⟨tx, sa, vk_R.of (hts _ hw) h1⟩
  · cases h2
def mem0 (L : Nat) (xs : Nat → Int32) : Mem := fun C r k => if C = 17 then (if r = 0 then (if k = -1 then (L : Int) else if 0 ≤ k ∧ k < L then (xs k.toNat).toInt else 0) else 0) else if C = 18 then (if (r = 0 ∨ r = 1) ∧ 0 ≤ k ∧ k < 9 then (lgL r.toNat).getD k.toNat 0 else 0) else 0
def adr0 (b t0 t1 : Nat) : AD := fun C r => if C = 17 then b else if C = 18 then (if r = 0 then t0 else t1) else 0
theorem mem0_z {C : Nat} {r k : Int} (h : C ≠ 17) (h2 : C ≠ 18) : mem0 L xs C r k = 0 := by unfold mem0; rw [if_neg h, if_neg h2]
theorem mem0_leg {a j : Nat} (ha : a ≤ 1) (hj : j < 9) : mem0 L xs 18 (a : Int) (j : Int) = (lgL a).getD j 0 := by
  unfold mem0
  rw [if_neg (by decide), if_pos rfl, if_pos (by omega), Int.toNat_natCast, Int.toNat_natCast]
theorem vT_cong {ty : FieldType} {t N : Nat} {f g : Nat → Value} {A : Nat → Prop} {U : State} {H : Heap} (h : va_T ty t N f A U H) (e : ∀ j, j < N → f j = g j) : va_T ty t N g A U H := by
  obtain ⟨cell, h1, h2, h3, h4, h5, h6, h7⟩ := h
  exact ⟨cell, h1, h2, h3, h4, h5, fun j hj => by rw [← e j hj]; exact h6 j hj, h7⟩
theorem g_all (hst : l.stackTraces = false) (hts : ∀ w ∈ lw_tbl, w.before args s = true) (hgv : (Cond.and given_1 narrow_1).before args s = true) (hX : va_X b L xs s s.heap) (hb : b < s.heap.size) (hL : L ≤ 2560) :
    ∃ (D : va_G) (cs : CS) (t0 t1 : Nat), G0 (l, s, s.heap.size, D, cs, mem0 L xs, adr0 b t0 t1) := by
  obtain ⟨D, hD⟩ := g_kn hts
  obtain ⟨cs, hcs⟩ := g_ar hts
  obtain ⟨t0, z0, v0⟩ := g_st hgv hts (a := 0) (by decide)
  obtain ⟨t1, z1, v1⟩ := g_st hgv hts (a := 1) (by decide)
  have hs := flat_of_before _ hgv
  have hA : ∀ q : Nat, q < s.heap.size → ¬ (s.heap.size ≤ q) := fun q h => by omega
  refine ⟨D, cs, t0, t1, hst, rfl, ⟨args, hts⟩, ⟨hD, hcs⟩, ⟨L, xs, hX, hb, by omega, rfl, fun j hj => ?_⟩, fun a ha => ?_, vx_Zqof (hts _ inW.2.2.1) (hts _ inW.2.1) (hs _ isW1.1) hA, vx_Zqof (hts _ inW.2.2.2) (hts _ inW.2.1) (hs _ isW1.2) hA, fun j hj => g_sr hgv hts hj, fun q hq => va_Nc.of (hs _ (of_decide_eq_true (List.all_eq_true.mp ncW q hq)))⟩
  · unfold mem0
    rw [if_pos rfl, if_pos rfl, if_neg (by omega), if_pos (by omega), Int.toNat_natCast]
  · have : a = 0 ∨ a = 1 := by omega
    rcases this with rfl | rfl
    · exact ⟨z0, vT_cong v0 (fun j hj => by rw [mem0_leg (by decide) hj])⟩
    · exact ⟨z1, vT_cong v1 (fun j hj => by rw [mem0_leg (by decide) hj])⟩
theorem mem0_rg (hL : L ≤ 2560) (C : Nat) (r k : Int) : inR (mem0 L xs C r k) := by
  unfold mem0 inR
  by_cases h : C = 17
  · rw [if_pos h]
    by_cases hr : r = 0
    · rw [if_pos hr]
      by_cases hk : k = -1
      · rw [if_pos hk]; omega
      · rw [if_neg hk]
        by_cases hk2 : 0 ≤ k ∧ k < L
        · rw [if_pos hk2]
          exact ⟨Int32.le_toInt _, Int32.toInt_lt _⟩
        · rw [if_neg hk2]; omega
    · rw [if_neg hr]; omega
  · rw [if_neg h]
    by_cases h2 : C = 18
    · rw [if_pos h2]
      by_cases hr : (r = 0 ∨ r = 1) ∧ 0 ≤ k ∧ k < 9
      · rw [if_pos hr]
        have hz : ∀ a ∈ [0, 1], ∀ j ∈ List.range 9, -2147483648 ≤ (lgL a).getD j 0 ∧ (lgL a).getD j 0 < 2147483648 := by decide
        refine hz r.toNat ?_ k.toNat (List.mem_range.mpr (by omega))
        rcases hr.1 with rfl | rfl <;> decide
      · rw [if_neg hr]; omega
    · rw [if_neg h2]; omega
theorem mem0_wf (hL : L ≤ 2560) : Wf false (mem0 L xs) := by
  refine ⟨fun C r k _ _ _ => mem0_rg hL C r k, fun r k => ?_, fun r k => ?_, fun r k => ?_, fun C r k f e _ => ?_, fun C r k f hC _ _ _ q => ?_, fun r j _ _ _ q => ?_⟩
  · rw [mem0_z (by decide) (by decide)]; unfold inL; omega
  · rw [mem0_z (by decide) (by decide)]; omega
  · rw [mem0_z (by decide) (by decide)]; omega
  · have hC : C < 12 := by
      by_cases hC : C < 12
      · exact hC
      · rw [fsp_big (by omega)] at e; cases e
    exact Or.inl (mem0_z (by omega) (by omega))
  · rw [mem0_z (by omega) (by omega)] at q
    rcases q with q | q
    · cases q
    · cases q
  · rw [mem0_z (by decide) (by decide)] at q
    rcases q with q | q
    · cases q
    · cases q
theorem mem0_St : St (mem0 L xs) (mem0 L xs) (fun _ => 0) (fun _ _ _ => False) := by
  refine ⟨fun C hC => ⟨mem0_z (by decide) (by decide), Int.le_refl 0⟩, fun C r k hC _ => mem0_z (by omega) (by omega), fun r j h => ?_, fun C r k hC => Or.inl (mem0_z (by omega) (by omega)), fun C r k h => h.elim, fun C r k _ _ => rfl⟩
  rw [mem0_z (by decide) (by decide)] at h
  cases h
theorem mem0_Sw (hL : L ≤ 2560) {D : va_G} {cs : CS} {t0 t1 : Nat} : Sw false (l, s, s.heap.size, D, cs, mem0 L xs, adr0 b t0 t1) (adr0 b t0 t1) (mem0 L xs) s.heap := by
  refine ⟨⟨[], List.nodup_nil, fun C r => ⟨fun h => (by cases h), fun h => ?_⟩, fun k q h => (by cases h), ⟨fun i j p q h => (by cases h), fun k q h => (by cases h)⟩⟩, mem0_wf hL, ⟨fun r k => ⟨rfl, rfl⟩, rfl, rfl, rfl⟩⟩
  exfalso
  obtain ⟨hC, hv⟩ := h
  unfold vld at hv
  rw [if_pos hC, mem0_z (by decide) (by decide)] at hv
  omega
theorem mem0_JL {σ : Mem} (e : ∀ C r k, 17 ≤ C → C < 20 → σ C r k = mem0 L xs C r k) : JL σ := by
  intro j j0 j1
  have : j = 0 ∨ j = 1 ∨ j = 2 ∨ j = 3 ∨ j = 4 ∨ j = 5 ∨ j = 6 ∨ j = 7 ∨ j = 8 := by omega
  rw [e 18 0 j (by decide) (by decide), e 18 1 j (by decide) (by decide)]
  rcases this with rfl | rfl | rfl | rfl | rfl | rfl | rfl | rfl | rfl <;> exact ⟨rfl, rfl⟩
end Gst
section Phs
variable {K : WK} {ad : AD} {σ : Mem} {H : Heap}
theorem ofFn_cong {n : Nat} {f g : Nat → Value} (h : ∀ j, j < n → f j = g j) (c : ClassId) : arrV c n f = arrV c n g := by
  unfold arrV
  congr 1
  exact congrArg _ (funext fun j => h j.val j.isLt)
theorem ent_up (cs : CS) {C : Nat} {r : Int} (h1 : ∀ (k : Nat) (f : Nat × Int × Int × Nat), C < 12 → (fsp C)[k]? = some f → f.1 = 2 → σ C r k = 1) (h : C ≠ 14) : ent true ad σ cs C r = ent false ad σ cs C r := by
  unfold ent
  by_cases hC : C < 12
  · rw [if_pos hC, if_pos hC]
    congr 2
    unfold flds
    refine List.ext_getElem? fun n => ?_
    rw [List.getElem?_mapIdx, List.getElem?_mapIdx]
    cases hf : (fsp C)[n]? with
    | none => rfl
    | some fk =>
      show some (fval true ad σ C r n fk) = some (fval false ad σ C r n fk)
      congr 1
      unfold fval
      by_cases h2 : fk.1 = 2
      · rw [if_pos h2, if_pos h2, if_pos (Or.inl rfl), if_pos (Or.inr (h1 n fk hC hf h2))]
      · rw [if_neg h2, if_neg h2]
  · rw [if_neg hC, if_neg hC, if_neg h, if_neg h]
theorem Wf_flg (h : Wf false σ) (h1 : ∀ (C : Nat) (r : Int) (k : Nat) (f : Nat × Int × Int × Nat), C < 12 → vld σ C r → (fsp C)[k]? = some f → f.1 = 2 → σ C r k = 1) (h2 : ∀ r j : Int, vld σ 14 r → 0 ≤ j → j < 8 → σ 14 r j = 1) : Wf true σ := by
  obtain ⟨a1, a2, a3, a4, a5, a6, a7⟩ := h
  exact ⟨a1, a2, a3, a4, a5, fun C r k f hC hv e e2 _ => a6 C r k f hC hv e e2 (Or.inr (h1 C r k f hC hv e e2)), fun r j hv j0 j1 _ => a7 r j hv j0 j1 (Or.inr (h2 r j hv j0 j1))⟩
theorem Sw_up (h : Sw false K ad σ H) (h1 : ∀ (C : Nat) (r : Int) (k : Nat) (f : Nat × Int × Int × Nat), C < 12 → vld σ C r → (fsp C)[k]? = some f → f.1 = 2 → σ C r k = 1) (h2 : ∀ r j : Int, vld σ 14 r → 0 ≤ j → j < 8 → σ 14 r j = 1) : Sw true K ad σ H := by
  obtain ⟨l, s0, z, D, cs, σs, ads⟩ := K
  obtain ⟨⟨os, o1, o2, o3, o4⟩, hW, hR⟩ := h
  refine ⟨⟨os, o1, o2, fun k q hk => ?_, ⟨fun i j p q hi hj => ?_, fun k q hk => ?_⟩⟩, Wf_flg hW h1 h2, hR⟩
  · unfold wld at hk
    rw [List.getElem?_map] at hk
    cases ho : os[k]? with
    | none => rw [ho] at hk; cases hk
    | some o =>
      rw [ho] at hk
      obtain ⟨C, r⟩ := o
      cases hk
      have hv := (o2 C r).mp (List.mem_of_getElem? ho)
      have h3 := o3 k (ad C r, ent false ad σ cs C r) (by unfold wld; rw [List.getElem?_map, ho]; rfl)
      show va_at D MC (ad C r, ent true ad σ cs C r) H
      by_cases e : C = 14
      · subst e
        have h4 : H[ad 14 r]? = some (vp_cell cs.2.2.1 (8, .inr (.inr (.inr (.inr (fun j : Nat => if false = true ∨ σ 14 r j = 1 then some (ad 2 (j + 2)) else none)))))) := h3
        show H[ad 14 r]? = some (vp_cell cs.2.2.1 (8, .inr (.inr (.inr (.inr (fun j : Nat => if true = true ∨ σ 14 r j = 1 then some (ad 2 (j + 2)) else none))))))
        rw [h4, vp_cell_q, vp_cell_q]
        refine congrArg some (ofFn_cong (fun j hj => ?_) _)
        rw [if_pos (Or.inr (h2 r j hv.2 (by omega) (by omega))), if_pos (Or.inl rfl)]
      · rw [ent_up cs (fun k f hC e1 e2 => h1 C r k f hC hv.2 e1 e2) e]
        exact h3
  · unfold wld at hi hj
    rw [List.getElem?_map] at hi hj
    refine fun hpq => ?_
    have hi' : (wld false ad σ cs os)[i]? = some (p.1, (ent false ad σ cs (os.getD i (0, 0)).1 (os.getD i (0, 0)).2)) := by
      unfold wld
      rw [List.getElem?_map, List.getD_eq_getElem?_getD]
      cases ho : os[i]? with
      | none => rw [ho] at hi; cases hi
      | some o => rw [ho] at hi; cases hi; rfl
    have hj' : (wld false ad σ cs os)[j]? = some (q.1, (ent false ad σ cs (os.getD j (0, 0)).1 (os.getD j (0, 0)).2)) := by
      unfold wld
      rw [List.getElem?_map, List.getD_eq_getElem?_getD]
      cases ho : os[j]? with
      | none => rw [ho] at hj; cases hj
      | some o => rw [ho] at hj; cases hj; rfl
    exact o4.1 i j _ _ hi' hj' hpq
  · unfold wld at hk
    rw [List.getElem?_map] at hk
    have hk' : (wld false ad σ cs os)[k]? = some (q.1, (ent false ad σ cs (os.getD k (0, 0)).1 (os.getD k (0, 0)).2)) := by
      unfold wld
      rw [List.getElem?_map, List.getD_eq_getElem?_getD]
      cases ho : os[k]? with
      | none => rw [ho] at hk; cases hk
      | some o => rw [ho] at hk; cases hk; rfl
    have z9 := o4.2 k _ hk'
    exact z9
/-- all that can be there is there -/
def rfB (C : Nat) (k : Int) : Bool := match (fsp C)[k.toNat]? with | some f => decide (f.1 = 2) && decide (0 ≤ k) | none => false
def flM (σ : Mem) : Mem := fun C r k => if C < 12 ∧ rfB C k = true then 1 else if C = 14 then 1 else σ C r k
theorem flM_o {C : Nat} {r k : Int} (h : 12 ≤ C) (h2 : C ≠ 14) : flM σ C r k = σ C r k := by unfold flM; rw [if_neg (by omega), if_neg h2]
theorem flM_n {C : Nat} {r : Int} {k : Nat} {f : Nat × Int × Int × Nat} (e : (fsp C)[k]? = some f) (h : f.1 ≠ 2) : flM σ C r k = σ C r k := by
  unfold flM
  have hC : C < 12 := by
    by_cases hC : C < 12
    · exact hC
    · rw [fsp_big (by omega)] at e; cases e
  rw [if_neg, if_neg (by omega)]
  intro q
  have q2 := q.2
  unfold rfB at q2
  rw [Int.toNat_natCast, e] at q2
  simp [h] at q2
theorem flM_y {C : Nat} {r : Int} {k : Nat} {f : Nat × Int × Int × Nat} (e : (fsp C)[k]? = some f) (h : f.1 = 2) : flM σ C r k = 1 := by
  unfold flM
  have hC : C < 12 := by
    by_cases hC : C < 12
    · exact hC
    · rw [fsp_big (by omega)] at e; cases e
  rw [if_pos]
  refine ⟨hC, ?_⟩
  unfold rfB
  rw [Int.toNat_natCast, e]
  simp [h]
theorem flM_v {C : Nat} {r : Int} : vld (flM σ) C r ↔ vld σ C r := by
  unfold vld
  rw [flM_o (C := 20) (by decide) (by decide)]
theorem ent_dn (cs : CS) {C : Nat} {r : Int} : ent false ad (flM σ) cs C r = ent true ad σ cs C r := by
  unfold ent
  by_cases hC : C < 12
  · rw [if_pos hC, if_pos hC]
    congr 2
    unfold flds
    refine List.ext_getElem? fun n => ?_
    rw [List.getElem?_mapIdx, List.getElem?_mapIdx]
    cases hf : (fsp C)[n]? with
    | none => rfl
    | some fk =>
      show some (fval false ad (flM σ) C r n fk) = some (fval true ad σ C r n fk)
      congr 1
      unfold fval
      by_cases h2 : fk.1 = 2
      · rw [if_pos h2, if_pos h2, if_pos (Or.inl rfl), if_pos (Or.inr (flM_y hf h2))]
      · rw [if_neg h2, if_neg h2, flM_n hf h2]
  · rw [if_neg hC, if_neg hC]
    by_cases h12 : C = 12
    · rw [if_pos h12, if_pos h12]
      have e : ∀ j : Nat, flM σ 12 r j = σ 12 r j := fun j => flM_o (by decide) (by decide)
      simp only [e]
    · rw [if_neg h12, if_neg h12]
      by_cases h13 : C = 13
      · rw [if_pos h13, if_pos h13]
        have e : ∀ j : Nat, flM σ 13 r j = σ 13 r j := fun j => flM_o (by decide) (by decide)
        simp only [e]
      · rw [if_neg h13, if_neg h13]
        by_cases h14 : C = 14
        · rw [if_pos h14, if_pos h14]
          have e : ∀ j : Nat, flM σ 14 r j = 1 := fun j => by unfold flM; rw [if_neg (by omega), if_pos rfl]
          simp [e]
        · rw [if_neg h14, if_neg h14]
          by_cases h15 : C = 15
          · rw [if_pos h15, if_pos h15]
            have e : ∀ j : Nat, flM σ 15 r j = σ 15 r j := fun j => flM_o (by decide) (by decide)
            simp only [e]
          · rw [if_neg h15, if_neg h15]
            have e : ∀ j : Nat, flM σ C r j = σ C r j := fun j => flM_o (by omega) h14
            simp only [e]
theorem Sw_dn (h : Sw true K ad σ H) : Sw false K ad (flM σ) H := by
  obtain ⟨l, s0, z, D, cs, σs, ads⟩ := K
  obtain ⟨⟨os, o1, o2, o3, o4⟩, ⟨a1, a2, a3, a4, a5, a6, a7⟩, hR⟩ := h
  have e : wld false ad (flM σ) cs os = wld true ad σ cs os := by
    unfold wld
    exact List.map_congr_left (fun o _ => by rw [ent_dn])
  refine ⟨⟨os, o1, fun C r => (o2 C r).trans ⟨fun z => ⟨z.1, flM_v.mpr z.2⟩, fun z => ⟨z.1, flM_v.mp z.2⟩⟩, by rw [e]; exact o3, by rw [e]; exact o4⟩, ⟨fun C r k q1 q2 q3 => ?_, fun r k => ?_, fun r k => ?_, fun r k => ?_, fun C r k f q1 q2 => ?_, fun C r k f hC hv q1 q2 _ => ?_, fun r j hv j0 j1 _ => ?_⟩, ⟨fun r k => ⟨?_, ?_⟩, hR.2⟩⟩
  · unfold flM
    split
    · unfold inR; omega
    · split
      · unfold inR; omega
      · exact a1 C r k q1 q2 q3
  · rw [flM_o (by decide) (by decide)]; exact a2 r k
  · rw [flM_o (by decide) (by decide)]; exact a3 r k
  · rw [flM_o (by decide) (by decide)]; exact a4 r k
  · rw [flM_n q1 (by omega)]; exact a5 C r k f q1 q2
  · exact flM_v.mpr (a6 C r k f hC (flM_v.mp hv) q1 q2 (Or.inl rfl))
  · exact flM_v.mpr (a7 r j (flM_v.mp hv) j0 j1 (Or.inl rfl))
  · rw [flM_o (by decide) (by decide)]; exact (hR.1 r k).1
  · rw [flM_o (by decide) (by decide)]; exact (hR.1 r k).2
end Phs
