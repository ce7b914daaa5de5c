section Thr
variable {ph : Bool} {K : WK} {k i pc len : Nat} {raw : Instr} {x : List Nat} {ls ls' : Vls} {st st' : List AV} {σ σ' : Mem} {P : Option Prop} {c s : Nat} {Q : Out → Mem → Prop}
theorem wdG {K : WK} (hG : G0 K) {U : State} (hB : Bg K U) {w : Cond} (hm : w ∈ lw_tbl) (h1 : w.onTables = true) (h2 : w.keepsFace = true) (a' : Array Value) : w.before a' U = true := by
  obtain ⟨l, s0, z, D, cs, σs, ads⟩ := K
  obtain ⟨-, -, ⟨ar, hw⟩, -⟩ := hG
  have h3 : w.before ar (s0.setVm U.vm) = true := Cond.before_shiftedFace (State.Shifted.of_warmed hB.1) _ h2 (hw w hm)
  exact va_tabs h1 (rfl : (s0.setVm U.vm).vm = U.vm) h3
theorem zq_at {K : WK} (hG : G0 K) {U : State} (hB : Bg K U) : vx_Zq Bundle.tN "UNASSIGNED_STACK" Bundle.steD (Zp K) U U.heap ∧ vx_Zq Bundle.tN "SUPPRESSED_SENTINEL" Bundle.listD (Zp K) U U.heap ∧ ∀ j ∈ thSt, ∃ (tx : String) (sa : Nat), vk_R RX10 j tx sa U := by
  obtain ⟨l, s0, z, D, cs, σs, ads⟩ := K
  obtain ⟨-, hz, -, -, -, -, h1, h2, h3, -⟩ := hG
  have hq : ∀ q : Nat, q < s0.heap.size → ¬ (z ≤ q) → U.heap[q]? = s0.heap[q]? := fun q h1 h2 => hB.2.2 q (by omega)
  refine ⟨(h1.moved hB.1.alike).kept hq, (h2.moved hB.1.alike).kept hq, fun j hj => ?_⟩
  obtain ⟨tx, sa, h⟩ := h3 j hj
  exact ⟨tx, sa, vk_R.warm hB.1 h⟩
theorem Sw_keep {ad : AD} {H H1 : Heap} (h : Sw ph K ad σ H) (hq : ∀ q : Nat, q < H.size → H1[q]? = H[q]?) : Sw ph K ad σ H1 := by
  obtain ⟨l, s0, z, D, cs, σs, ads⟩ := K
  obtain ⟨⟨os, ho1, ho2, ho3, ho4⟩, hWf, hRd⟩ := h
  exact ⟨⟨os, ho1, ho2, ho3.kept (fun k q hk => hq _ (ho3 k q hk).lt), ho4⟩, hWf, hRd⟩
theorem s_throw (ph : Bool) {K : WK} (hG : G0 K) : c_throw (Wst ph K) := by
  intro k i ls st σ c s Q pc j len E w hr hcat hst hfr hc hs hQ p e sx m args below meth cd σ0 ad0 ad H locs lsR hC hS hE hT ha hl hL hc1 hc2
  obtain ⟨hd, hlk, -, hl3, e1, e2⟩ := row_of hr
  have hlen : len = 3 := hl3.resolve_left (by simp [ilen])
  subst hlen
  rw [e1]
  have hth : thS (hhd k) (lcl k) (own k) (pc, .new j, 3, [1, E, w]) ((rows k).drop (i + 1)) = true := thL_at (thAll _ (mi_mem k)) hr
  have hB : Bg K sx := hC.2.2.2.2.2.2.2.2
  simp only [lkOK, Bool.or_eq_true, Bool.and_eq_true, decide_eq_true_eq] at hlk
  have hcl : isW w (.classLink (own k) j (exN E)) = true := by
    rcases hlk with h | h
    · omega
    · exact h.2
  obtain ⟨hz1, hz2, hz3⟩ := zq_at hG hB
  have hst0 : K.1.stackTraces = false := by
    obtain ⟨l, s0, z, D, cs, σs, ads⟩ := K
    exact hG.1
  have main3 : ∀ {jj ic n : Nat}, E = 3 → sOK (hhd k) (lcl k) (own k) E jj ic = true → decode (byt k) (pc + 3) = .ok (.dup, 1) → ((n = 2 ∧ decode (byt k) (pc + 4) = .ok (.ldc jj, 2)) ∨ (n = 3 ∧ decode (byt k) (pc + 4) = .ok (.ldc_w jj, 3))) →
      decode (byt k) (pc + 4 + n) = .ok (.invokespecial ic, 3) → decode (byt k) (pc + 4 + n + 3) = .ok (.athrow, 1) →
      W p K.1 e (rm k) sx m args below meth cd H locs c s (vx_MQ below (QcO ph K σ0 ad0 Q) (XcO ph K σ0 ad0 Q) args sx (mcs k) (mss k) (Zp K)) (F0 m pc lsR (st.map (val ad))) := by
    intro jj ic n hE3 hso dd dl di da
    subst hE3
    simp only [sOK, Bool.and_eq_true, decide_eq_true_eq] at hso
    obtain ⟨⟨⟨⟨⟨ho, hh⟩, hlc⟩, hE6⟩, hjj⟩, hic⟩ := hso
    have hic1 : ic = 161 := by simpa [thIc] using hic
    subst hic1
    obtain ⟨tx, sa, hvk⟩ := hz3 jj hjj
    have hW : ∀ w ∈ vy_nse, ((w ∈ lw_tbl ∧ w.onTables = true) ∧ w.keepsFace = true) ∧ vx_ot w = true := fun w hw => by
      have h := List.all_eq_true.mp vy_words.1 w hw
      simpa only [Bool.and_eq_true, decide_eq_true_eq] using h
    have hx : cd.exceptionTable.toList = [] := by rw [hC.2.2.2.2.2.2.2.1, hh]; rfl
    have hcs := cat_sum ad st
    refine vy_throw (own := own k) (nx := "java/lang/RuntimeException") (names := ["java/lang/Exception"]) (ix := 13) (rx := vyRx) (n := n) (is := jj) (ic := 161) hC.1 hC.2.1 hst0 vyR_0 vyR_1 vyR_2 vyR_5 hC.2.2.2.2.1 vy_fits.1 vy_fits.2.1 vy_fits.2.2 (wd hG hB (isW_mem hcl) rfl args) (wd hG hB vy_words.2 rfl args) (by rw [ho]; exact hvk) (fun w hw => ?_) (fun w hw => ?_) hz1 hz2 hS
      (by rw [hL.1, hC.2.2.2.1]) hd dd dl di da (fun x h => by rw [hx] at h; cases h) (by show 1 + 4 < frm k; omega) (by show _ + (13 * (1 + 2) + 43) ≤ lcl k; omega) hc hs hC.2.2.2.2.2.1 (fun t hal hsz hq => ?_) hS.2.2 hc hs
    · rw [ho] at hw
      exact wdG hG hB (hW w hw).1.1.1 (hW w hw).1.1.2 (hW w hw).1.2 args
    · rcases List.mem_cons.mp hw with rfl | hw
      · rfl
      · rcases List.mem_cons.mp hw with rfl | hw
        · rfl
        · rw [ho] at hw
          exact (hW w hw).2
    · refine ⟨reAd ad ad0, σ, 3, rfl, hE6, hQ, fun C r q1 q2 => ⟨(hE C r q1 q2).1, (reAd18 C r (by omega)).trans (hE C r q1 q2).2⟩, reAd19, Sw_keep (Sw_ad hT reAd18) hq, ⟨Nat.le_trans hS.1 hsz, fun q h1 h2 => ?_⟩⟩
      rw [hq q (Nat.lt_of_lt_of_le h1 hS.1)]
      exact hS.2.1 q h1 h2
  have main : ∀ {jj ic : Nat}, ¬ E = 3 → sOK (hhd k) (lcl k) (own k) E jj ic = true → (∀ tx sa, vk_R RX10 jj tx sa sx → (∀ w ∈ vx_atS (own k) ic (exN E) exNs, w.before args sx = true) →
      (∀ w ∈ Cond.classLink (own k) j (exN E) :: Cond.initialized (exN E) :: vx_atS (own k) ic (exN E) exNs, vx_ot w = true) → Bundle.fit (exN E) = true → (∀ n ∈ exNs, Bundle.fit n = true) → own k = RX10 → cd.exceptionTable.toList = [] → 100 ≤ lcl k → (Cond.initialized (exN E)).before args sx = true →
      (∀ t : State, sx.vm.Alike t.vm → H.size ≤ t.heap.size → (∀ q : Nat, q < H.size → t.heap[q]? = H[q]?) → XcO ph K σ0 ad0 Q (exN E) sx t) →
      W p K.1 e (rm k) sx m args below meth cd H locs c s (vx_MQ below (QcO ph K σ0 ad0 Q) (XcO ph K σ0 ad0 Q) args sx (mcs k) (mss k) (Zp K)) (F0 m pc lsR (st.map (val ad)))) →
      W p K.1 e (rm k) sx m args below meth cd H locs c s (vx_MQ below (QcO ph K σ0 ad0 Q) (XcO ph K σ0 ad0 Q) args sx (mcs k) (mss k) (Zp K)) (F0 m pc lsR (st.map (val ad))) := by
    intro jj ic hE3 hso hgo
    simp only [sOK, Bool.and_eq_true, decide_eq_true_eq] at hso
    obtain ⟨⟨⟨⟨⟨ho, hh⟩, hlc⟩, hE6⟩, hjj⟩, hic⟩ := hso
    obtain ⟨tx, sa, hvk⟩ := hz3 jj hjj
    have hW := List.all_eq_true.mp thWAll (E, ic) (List.mem_filter.mpr ⟨hic, by simp [hE3]⟩)
    simp only [thW, Bool.and_eq_true, List.all_eq_true, decide_eq_true_eq] at hW
    obtain ⟨⟨⟨h1, h2⟩, h3⟩, h4⟩ := hW
    refine hgo tx sa hvk (fun w hw => ?_) (fun w hw => ?_) h3 h4 ho (by rw [hC.2.2.2.2.2.2.2.1, hh]; rfl) hlc (wd hG hB h2 rfl args) (fun t hal hsz hq => ?_)
    · rw [ho] at hw
      exact wdG hG hB (h1 w hw).1.1.1 (h1 w hw).1.1.2 (h1 w hw).1.2 args
    · rcases List.mem_cons.mp hw with rfl | hw
      · rfl
      · rcases List.mem_cons.mp hw with rfl | hw
        · rfl
        · rw [ho] at hw
          exact (h1 w hw).2
    · refine ⟨reAd ad ad0, σ, E, rfl, hE6, hQ, fun C r q1 q2 => ⟨(hE C r q1 q2).1, (reAd18 C r (by omega)).trans (hE C r q1 q2).2⟩, reAd19, Sw_keep (Sw_ad hT reAd18) hq, ⟨Nat.le_trans hS.1 hsz, fun q h1 h2 => ?_⟩⟩
      rw [hq q (Nat.lt_of_lt_of_le h1 hS.1)]
      exact hS.2.1 q h1 h2
  have hsz : lsR.size = cd.maxLocals := by rw [hL.1, hC.2.2.2.1]
  have hcs := cat_sum ad st
  obtain ⟨rs, hrs⟩ : ∃ rs, rs = (rows k).drop (i + 1) := ⟨_, rfl⟩
  rw [← hrs] at hth
  simp only [thS] at hth
  split at hth
  · obtain ⟨r1, d1⟩ := dropAt hrs.symm
    obtain ⟨r2, d2⟩ := dropAt d1
    obtain ⟨r3, d3⟩ := dropAt d2
    obtain ⟨r4, -⟩ := dropAt d3
    obtain ⟨D1, -, -, l1, a1, b1⟩ := row_of r1
    obtain ⟨D2, -, -, l2, a2, b2⟩ := row_of r2
    obtain ⟨D3, -, -, l3, a3, b3⟩ := row_of r3
    obtain ⟨D4, -, -, l4, a4, b4⟩ := row_of r4
    have l1 := l1.resolve_left (by simp [ilen])
    have l2 := l2.resolve_left (by simp [ilen])
    have l3 := l3.resolve_left (by simp [ilen])
    have l4 := l4.resolve_left (by simp [ilen])
    simp only [ilen] at l1 l2 l3 l4
    have q1 := e2.symm.trans a1
    have q2 := b1.symm.trans a2
    rw [l1, ← q1] at q2
    have q3 := b2.symm.trans a3
    rw [l2, ← q2] at q3
    have q4 := b3.symm.trans a4
    rw [l3, ← q3] at q4
    by_cases hE3 : E = 3
    · exact main3 (n := 2) hE3 hth (by rw [q1, ← l1]; exact D1) (Or.inl ⟨rfl, by rw [show pc + 4 = pc + 3 + 1 from rfl, q2, ← l2]; exact D2⟩) (by rw [show pc + 4 + 2 = pc + 3 + 1 + 2 from rfl, q3, ← l3]; exact D3) (by rw [show pc + 4 + 2 + 3 = pc + 3 + 1 + 2 + 3 from rfl, q4, ← l4]; exact D4)
    refine main hE3 hth fun tx sa hvk hat hgood hf1 hf2 ho hx hlc hini hxc => ?_
    refine vx_throwS hC.1 hC.2.1 hst0 hC.2.2.2.2.1 hf1 hf2 (wd hG hB (isW_mem hcl) rfl args) hini (by rw [ho]; exact hvk) hat hgood hz1 hz2 hS hsz hd ?_ ?_ ?_ ?_ (fun x h => by rw [hx] at h; cases h) (by show 2 + 3 < frm k; omega) (by show _ + (13 * (2 + 1) + 43) ≤ lcl k; omega) hc hs hC.2.2.2.2.2.1 hxc hS.2.2 hc hs
    · rw [q1, ← l1]; exact D1
    · rw [show pc + 4 = pc + 3 + 1 from rfl, q2, ← l2]; exact D2
    · rw [show pc + 6 = pc + 3 + 1 + 2 from rfl, q3, ← l3]; exact D3
    · rw [show pc + 9 = pc + 3 + 1 + 2 + 3 from rfl, q4, ← l4]; exact D4
  · obtain ⟨r1, d1⟩ := dropAt hrs.symm
    obtain ⟨r2, d2⟩ := dropAt d1
    obtain ⟨r3, d3⟩ := dropAt d2
    obtain ⟨r4, -⟩ := dropAt d3
    obtain ⟨D1, -, -, l1, a1, b1⟩ := row_of r1
    obtain ⟨D2, -, -, l2, a2, b2⟩ := row_of r2
    obtain ⟨D3, -, -, l3, a3, b3⟩ := row_of r3
    obtain ⟨D4, -, -, l4, a4, b4⟩ := row_of r4
    have l1 := l1.resolve_left (by simp [ilen])
    have l2 := l2.resolve_left (by simp [ilen])
    have l3 := l3.resolve_left (by simp [ilen])
    have l4 := l4.resolve_left (by simp [ilen])
    simp only [ilen] at l1 l2 l3 l4
    have q1 := e2.symm.trans a1
    have q2 := b1.symm.trans a2
    rw [l1, ← q1] at q2
    have q3 := b2.symm.trans a3
    rw [l2, ← q2] at q3
    have q4 := b3.symm.trans a4
    rw [l3, ← q3] at q4
    by_cases hE3 : E = 3
    · exact main3 (n := 3) hE3 hth (by rw [q1, ← l1]; exact D1) (Or.inr ⟨rfl, by rw [show pc + 4 = pc + 3 + 1 from rfl, q2, ← l2]; exact D2⟩) (by rw [show pc + 4 + 3 = pc + 3 + 1 + 3 from rfl, q3, ← l3]; exact D3) (by rw [show pc + 4 + 3 + 3 = pc + 3 + 1 + 3 + 3 from rfl, q4, ← l4]; exact D4)
    refine main hE3 hth fun tx sa hvk hat hgood hf1 hf2 ho hx hlc hini hxc => ?_
    refine vx_throwSW hC.1 hC.2.1 hst0 hC.2.2.2.2.1 hf1 hf2 (wd hG hB (isW_mem hcl) rfl args) hini (by rw [ho]; exact hvk) hat hgood hz1 hz2 hS hsz hd ?_ ?_ ?_ ?_ (fun x h => by rw [hx] at h; cases h) (by show 2 + 3 < frm k; omega) (by show _ + (13 * (2 + 1) + 43) ≤ lcl k; omega) hc hs hC.2.2.2.2.2.1 hxc hS.2.2 hc hs
    · rw [q1, ← l1]; exact D1
    · rw [show pc + 4 = pc + 3 + 1 from rfl, q2, ← l2]; exact D2
    · rw [show pc + 7 = pc + 3 + 1 + 3 from rfl, q3, ← l3]; exact D3
    · rw [show pc + 10 = pc + 3 + 1 + 3 + 3 from rfl, q4, ← l4]; exact D4
  · cases hth
end Thr
