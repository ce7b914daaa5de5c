section CallC
variable {ph : Bool} {K : WK} {k i pc len : Nat} {raw : Instr} {x : List Nat} {ls ls' : Vls} {st st' : List AV} {σ σ' : Mem} {P : Option Prop} {c s : Nat} {Q : Out → Mem → Prop}
theorem wdw (hG : G0 K) {sx U : State} (hB : Bg K sx) (hW : sx.WarmedH U.vm) {w : Cond} (hm : w ∈ lw_tbl) (hg : goodWord w = true) (a' : Array Value) : w.before a' U = true := by
  obtain ⟨l, s0, z, D, cs, σs, ads⟩ := K
  obtain ⟨-, -, ⟨a, hw⟩, -⟩ := hG
  exact word_at (State.WarmedH.trans hB.1 hW) (good_of_word hg) (hw w hm)
theorem aok_mono {a : AV} {ad ad' : AD} (h : Ext σ ad σ' ad') (ha : aok σ a) : aok σ' a := by
  rcases a with x | x | x | (_ | ⟨C, r⟩)
  · exact ha
  · exact ha
  · exact ha
  · exact ha
  · show vld σ' C r
    have ha : vld σ C r := ha
    by_cases h17 : C < 17
    · exact (h C r h17 ha).1
    · unfold vld at ha ⊢
      rw [if_neg h17] at ha ⊢
      exact ha
theorem val_eq {a : AV} {ad ad' : AD} (h : Ext σ ad σ' ad') (h1 : Rd K ad σ) (h2 : Rd K ad' σ') (h19 : ∀ r, ad' 19 r = ad 19 r) (ha : aok σ a) : val ad' a = val ad a := by
  rcases a with x | x | x | (_ | ⟨C, r⟩)
  · rfl
  · rfl
  · rfl
  · rfl
  · have ha : vld σ C r := ha
    show Value.ref (ad' C r) = Value.ref (ad C r)
    by_cases h17 : C < 17
    · rw [(h C r h17 ha).2]
    · obtain ⟨l, s0, z, D, cs, σs, ads⟩ := K
      obtain ⟨-, a1, a2, a3⟩ := h1
      obtain ⟨-, b1, b2, b3⟩ := h2
      unfold vld at ha
      rw [if_neg h17] at ha
      by_cases e1 : C = 17
      · rw [if_pos e1] at ha
        subst e1; subst ha
        rw [a1, b1]
      · rw [if_neg e1] at ha
        by_cases e2 : C = 18
        · rw [if_pos e2] at ha
          subst e2
          rcases ha with rfl | rfl
          · rw [a2, b2]
          · rw [a3, b3]
        · rw [if_neg e2] at ha
          subst ha
          rw [h19]
theorem Ext.trans {σ0 : Mem} {ad0 ad ad' : AD} (h1 : Ext σ0 ad0 σ ad) (h2 : Ext σ ad σ' ad') : Ext σ0 ad0 σ' ad' := fun C r h h0 => ⟨(h2 C r h (h1 C r h h0).1).1, (h2 C r h (h1 C r h h0).1).2.trans (h1 C r h h0).2⟩
theorem LsR.moved {ad ad' : AD} {lsR : Array Slot} {n : Nat} (h : LsR ad lsR n ls) (he : ∀ (j : Nat) (a : AV), ls[j]? = some (some a) → val ad' a = val ad a) : LsR ad' lsR n ls := ⟨h.1, h.2.1, h.2.2.1, fun j a hj => by rw [he j a hj]; exact h.2.2.2 j a hj⟩
theorem caAt (k : Nat) : (hhd k).length = (hcat k).length ∧ (hcat k ≠ [] → caOK k = true) := by
  by_cases h1 : k < 244
  · have h := List.all_eq_true.mp caAll0 k (List.mem_range.mpr h1)
    rw [Bool.and_eq_true, decide_eq_true_eq, decide_eq_true_eq] at h
    exact ⟨by rw [h.1, h.2]; rfl, fun hne => absurd h.2 hne⟩
  · by_cases h2 : k < 279
    · have h := List.all_eq_true.mp caAll1 (k - 244) (List.mem_range.mpr (by omega))
      rw [show 244 + (k - 244) = k by omega] at h
      refine ⟨?_, fun _ => h⟩
      unfold caOK at h
      rw [Bool.and_eq_true, Bool.and_eq_true, decide_eq_true_eq] at h
      exact h.1.1
    · have e : mi k = mi_0 := by
        have h3 : mtab[k]? = none := List.getElem?_eq_none (by have : mtab.length = 279 := by decide +kernel
                                                               omega)
        simp only [mi, h3]
        rfl
      have e1 : hhd k = [] := by unfold hhd; rw [e]; rfl
      have e2 : hcat k = [] := by
        unfold hcat
        have h5 : hcT[k - hc0]? = none := List.getElem?_eq_none (by have : hcT.length = 34 := by decide
                                                                    have : hc0 = 244 := rfl
                                                                    omega)
        rw [h5]
        split <;> rfl
      exact ⟨by rw [e1, e2]; rfl, fun hne => absurd e2 hne⟩
def setAd (ad : AD) (q : Nat) : AD := fun C r => if C = 19 then q else ad C r
theorem setAd18 {ad : AD} {q : Nat} (C : Nat) (r : Int) (h : C ≤ 18) : setAd ad q C r = ad C r := by unfold setAd; rw [if_neg (by omega)]
theorem val_set {ad : AD} {q : Nat} {a : AV} (h : ∀ r, a ≠ aR 19 r) : val (setAd ad q) a = val ad a := by
  rcases a with x | x | x | (_ | ⟨C, r⟩)
  · rfl
  · rfl
  · rfl
  · rfl
  · show Value.ref _ = Value.ref _
    unfold setAd
    rw [if_neg]
    intro h19
    subst h19
    exact h r rfl
theorem Nc_at (hG : G0 K) {U : State} (hB : Bg K U) {a b : Nat} (h : (a, b) ∈ ncP) : va_Nc (exN a) (exN b) U := by
  obtain ⟨l, s0, z, D, cs, σs, ads⟩ := K
  obtain ⟨-, -, -, -, -, -, -, -, -, h1⟩ := hG
  exact (h1 _ h).moved hB.1.alike
/-- what is thrown out of a call: caught here, or it goes on -/
theorem s_out (hG : G0 K) {E : Nat} {p : Program} {e : Env} {sx : State} {m : MethodId} {args : Array Value} {below : List Frame} {meth : Method} {cd : Code} {σ0 : Mem} {ad0 ad : AD} {H : Heap} {locs : List Loc} {lsR : Array Slot} {q : Addr} {ce : Cell} {rest : List Value}
    (hx : xGo (Wst ph K) k i ls E σ c s Q) (hE6 : E < 6) (hC : Cx K k p sx m meth cd) (hS : va_S (Zp K) sx.heap H locs) (hE : Ext σ0 ad0 σ ad) (hT : Sw ph K ad σ H) (hl : ∀ (j : Nat) (a : AV), ls[j]? = some (some a) → aok σ a) (hL : LsR ad lsR (mxl k) ls) (hc1 : c ≤ mcs k) (hc2 : s ≤ mss k)
    (hce : H[q]? = some ce) (hcv : ce.vm = .none) (hcl : sx.vm.findClass (exN E) = some ce.cls) :
    vx_W p K.1 e (rm k) sx m args below meth cd H locs c s (vx_MQ below (QcO ph K σ0 ad0 Q) (XcO ph K σ0 ad0 Q) args sx (mcs k) (mss k) (Zp K)) (F0 m (pcA k i) lsR rest) q := by
  obtain ⟨hlen, hca⟩ := caAt k
  have hB : Bg K sx := hC.2.2.2.2.2.2.2.2
  unfold xGo at hx
  cases hcat' : hcat k with
  | nil =>
    rw [hcat'] at hx hlen
    have hh : hhd k = [] := List.eq_nil_of_length_eq_zero hlen
    have htab : cd.exceptionTable.toList = [] := by rw [hC.2.2.2.2.2.2.2.1, hh]; rfl
    refine vx_out (fun x h => by rw [htab] at h; cases h) hC.2.2.2.2.2.1 hce hcv hcl (fun t ht _ => ?_) hS.2.2 hc1 hc2
    exact ⟨reAd ad ad0, σ, E, rfl, hE6, hx, fun C r q1 q2 => ⟨(hE C r q1 q2).1, (reAd18 C r (by omega)).trans (hE C r q1 q2).2⟩, reAd19, by rw [ht]; exact Sw_ad hT reAd18, hS.F ht⟩
  | cons q0 qs =>
    have hne : hcat k ≠ [] := by rw [hcat']; exact List.cons_ne_nil _ _
    have hok := hca hne
    rw [hcat'] at hx
    dsimp only at hx
    obtain ⟨hno, hin, h, hmem, hgo⟩ := hx
    rw [← hcat'] at hmem
    unfold caOK at hok
    rw [Bool.and_eq_true, Bool.and_eq_true, decide_eq_true_eq] at hok
    obtain ⟨⟨-, hz⟩, hpr⟩ := hok
    obtain ⟨n, hn⟩ := List.getElem?_of_mem hmem
    have hnlt : n < (hcat k).length := (List.getElem?_eq_some_iff.mp hn).1
    have hnlt2 : n < (hhd k).length := by omega
    obtain ⟨y, hy⟩ : ∃ y, (hhd k)[n]? = some y := ⟨_, List.getElem?_eq_getElem hnlt2⟩
    have at' : ∀ {j : Nat} {y : Nat × Nat × Nat × Nat} {w : Nat × Nat}, (hhd k)[j]? = some y → (hcat k)[j]? = some w → w.1 < 6 ∧ y.2.2.2 ≠ 0 ∧ Cond.classLink (own k) y.2.2.2 (exN w.1) ∈ lw_tbl ∧ pcA k w.2 = y.2.2.1 ∧ Cond.castable (exN w.1) (exN w.1) ∈ lw_tbl := by
      intro j y w h1 h2
      have h3 := List.all_eq_true.mp hz (y, w) (List.mem_of_getElem? (i := j) (by rw [List.getElem?_zip_eq_some]; exact ⟨h1, h2⟩))
      rw [Bool.and_eq_true, Bool.and_eq_true, Bool.and_eq_true, Bool.and_eq_true, decide_eq_true_eq, decide_eq_true_eq, decide_eq_true_eq, decide_eq_true_eq, decide_eq_true_eq] at h3
      exact ⟨h3.1.1.1.1, h3.1.1.1.2, h3.1.1.2, h3.1.2, h3.2⟩
    obtain ⟨a1, a2, a3, a4, a5⟩ := at' hy hn
    have htab : cd.exceptionTable.toList = (hhd k).map (fun q => ⟨q.1, q.2.1, q.2.2.1, q.2.2.2⟩) := hC.2.2.2.2.2.2.2.1
    have hsp : hhd k = (hhd k).take n ++ y :: (hhd k).drop (n + 1) := by
      have h5 : (hhd k).drop n = y :: (hhd k).drop (n + 1) := by
        rw [List.drop_eq_getElem_cons hnlt2]
        rw [List.getElem?_eq_getElem hnlt2] at hy
        cases hy
        rfl
      rw [← h5, List.take_append_drop]
    have hcov : ∀ y ∈ hhd k, covers (⟨y.1, y.2.1, y.2.2.1, y.2.2.2⟩ : ExceptionTableEntry) (pcA k i) = true := fun y hy => List.all_eq_true.mp hin y hy
    refine vx_catch (E := exN E) (name := exN E) hC.2.2.2.2.1 (((hhd k).take n).map (fun q => ⟨q.1, q.2.1, q.2.2.1, q.2.2.2⟩)) ⟨y.1, y.2.1, y.2.2.1, y.2.2.2⟩ (((hhd k).drop (n + 1)).map (fun q => ⟨q.1, q.2.1, q.2.2.1, q.2.2.2⟩)) ?_ (fun w hw => ?_) (hcov y (List.mem_of_getElem? hy)) a2 (wd hG hB a3 rfl args) (wdG hG hB a5 rfl rfl args) hce hcv hcl ?_
    · rw [htab]
      conv => lhs; rw [hsp]
      rw [List.map_append, List.map_cons]
    · obtain ⟨u, hu, rfl⟩ := List.mem_map.mp hw
      obtain ⟨j, hj⟩ := List.getElem?_of_mem hu
      have hjn : j < n := by
        have := (List.getElem?_eq_some_iff.mp hj).1
        rw [List.length_take] at this
        omega
      rw [List.getElem?_take_of_lt hjn] at hj
      obtain ⟨v, hv⟩ : ∃ v, (hcat k)[j]? = some v := ⟨_, List.getElem?_eq_getElem (by omega)⟩
      obtain ⟨b1, b2, b3, b4, b5⟩ := at' hj hv
      have hp := of_decide_eq_true (List.all_eq_true.mp (List.all_eq_true.mp hpr n (List.mem_range.mpr hnlt)) j (List.mem_range.mpr hjn))
      rw [hn, hv] at hp
      exact Or.inr ⟨b2, exN v.1, wd hG hB b3 rfl args, Nc_at hG hB hp⟩
    · have hv : ∀ (j : Nat) (a : AV), ls[j]? = some (some a) → val (setAd ad q) a = val ad a := fun j a hj => val_set (fun r h => hno j r (h ▸ hj))
      have h6 := hgo p e sx m args below meth cd σ0 ad0 (setAd ad q) H locs lsR hC hS (fun C r q1 q2 => ⟨(hE C r q1 q2).1, (setAd18 C r (by omega)).trans (hE C r q1 q2).2⟩) (Sw_ad hT setAd18) (fun a ha => by rw [List.mem_singleton.mp ha]; show vld σ 19 0; unfold vld; simp) hl (hL.moved hv) hc1 hc2
      rw [a4] at h6
      have e7 : [aR 19 0].map (val (setAd ad q)) = [Value.ref q] := by
        show [Value.ref (setAd ad q 19 0)] = _
        unfold setAd
        rw [if_pos rfl]
      rw [e7] at h6
      exact h6
end CallC
