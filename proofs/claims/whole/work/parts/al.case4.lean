/-! The law's cases of another form. -/
section LawC
variable {N i : Int} {c s : Nat} {σ : Mem} {Q : Out → Mem → Prop}
theorem mx_clubPairs : mcs 112 = 0 ∧ mss 112 = 0 := by decide +kernel
theorem mx_faultPosition : mcs 138 = 0 ∧ mss 138 = 0 := by decide +kernel
theorem mx_save : mcs 140 = 0 ∧ mss 140 = 0 := by decide +kernel
set_option maxRecDepth 100000 in
theorem ls_clubPairs (hJ : J N σ σ) (hN : 0 ≤ N ∧ N < 2147483647) (hi : 0 ≤ i) (hL : i + 5 ≤ σ 17 0 (-1)) (hM : σ 17 0 (-1) < 2147483648) (hc : c + 5 ≤ 603072) (hs : s + 30 ≤ 7198826) (nx : Nxt i c s N σ Q) : wp true 278 303 (LL i none none none) [] σ c s Q := by
  refine wp_wf (fun hw hl => ?_)
  have hg := G_wf hw
  obtain ⟨v, F, hF, hJF, hag⟩ := ca_clubPairs hJ
  refine wp_seg 1 (P := none) (ls' := LL i none none none) (st' := [aR 10 0]) (σ' := σ) rq_278 rfl True.intro (i' := 304) rfl ?_
  refine wp_callQ (C := 10) (As := [aR 10 0]) (rest := []) rq_278 rfl rfl (clOK_of (show clQw 278 112 0 1 10 = true by decide +kernel) (by rw [m278.1, mx_clubPairs.1]; omega) (by rw [m278.2, mx_clubPairs.2]; omega)) rfl (show 0 ≤ 4 by decide) (fun _ => ⟨_, rfl⟩) rfl (wp_17 (ev_xclubPairs σ (by rw [(J_R1 hJ).2.2.2.2.2.2.1]; have z := J_I1 hJ; have z2 := pB_rg hJ; unfold I1 at z; unfold pB at z2 ⊢; split <;> omega))) (fun v2 τ hq => ?_) (fun E τ hq => by cases hq.2.1)
  obtain ⟨h17, e9, rfl⟩ := hq
  cases e9
  refine wp_seg 1 (P := none) (ls' := LL i none none none) (st' := [aR 11 0, aI (wr (sumTo (fcc τ) (τ 0 0 1)))]) (σ' := τ) rq_278 rfl True.intro (i' := 306) rfl ?_
  have k2 := mm_at (k := 182) (by decide)
  refine wp_callQ (C := 11) (As := [aR 11 0]) (rest := [aI (wr (sumTo (fcc τ) (τ 0 0 1)))]) rq_278 rfl rfl (clOK_of (show clQw 278 182 0 1 11 = true by decide +kernel) (by rw [m278.1, mx_clubPairs.1]; omega) (by rw [m278.2, mx_clubPairs.2]; omega)) rfl (show 1 ≤ 4 by decide) (fun _ => ⟨_, rfl⟩) rfl (wp_17 hF) (fun v2 τ hq => ?_) (fun E τ hq => by cases hq.2.1)
  obtain ⟨h17b, e9, rfl⟩ := hq
  cases e9
  refine wp_icmp rq_278 rfl (fun _ => ?_) (fun hne => absurd ?_ hne)
  · exact wp_weak LL_w (nx _ N _ _ hJF (by omega) (by omega) (h17b.trans h17) (by rw [mx_clubPairs.1]; omega) (by rw [mx_clubPairs.2]; omega))
  · rcases hag with ⟨x, e, -, e2⟩ | ⟨E, e, -⟩
    · cases e
      exact e2.symm
    · cases e
set_option maxRecDepth 100000 in
theorem ls_faultPosition (hJ : J N σ σ) (hN : 0 ≤ N ∧ N < 2147483647) (hi : 0 ≤ i) (hL : i + 5 ≤ σ 17 0 (-1)) (hM : σ 17 0 (-1) < 2147483648) (hc : c + 5 ≤ 603072) (hs : s + 30 ≤ 7198826) (nx : Nxt i c s N σ Q) : wp true 278 1245 (LL i none none none) [] σ c s Q := by
  refine wp_wf (fun hw hl => ?_)
  have hg := G_wf hw
  obtain ⟨v, F, hF, hJF, hag⟩ := ca_faultPosition hJ
  refine wp_seg 1 (P := none) (ls' := LL i none none none) (st' := [aR 10 0]) (σ' := σ) rq_278 rfl True.intro (i' := 1246) rfl ?_
  refine wp_callQ (C := 10) (As := [aR 10 0]) (rest := []) rq_278 rfl rfl (clOK_of (show clQw 278 138 0 1 10 = true by decide +kernel) (by rw [m278.1, mx_faultPosition.1]; omega) (by rw [m278.2, mx_faultPosition.2]; omega)) rfl (show 0 ≤ 4 by decide) (fun _ => ⟨_, rfl⟩) rfl (wp_17 (ev_xfaultPosition σ)) (fun v2 τ hq => ?_) (fun E τ hq => by cases hq.2.1)
  obtain ⟨h17, e9, rfl⟩ := hq
  cases e9
  refine wp_seg 1 (P := none) (ls' := LL i none none none) (st' := [aR 11 0, aI (τ 5 0 2)]) (σ' := τ) rq_278 rfl True.intro (i' := 1248) rfl ?_
  have k2 := mm_at (k := 242) (by decide)
  refine wp_callQ (C := 11) (As := [aR 11 0]) (rest := [aI (τ 5 0 2)]) rq_278 rfl rfl (clOK_of (show clQw 278 242 0 1 11 = true by decide +kernel) (by rw [m278.1, mx_faultPosition.1]; omega) (by rw [m278.2, mx_faultPosition.2]; omega)) rfl (show 1 ≤ 4 by decide) (fun _ => ⟨_, rfl⟩) rfl (wp_17 hF) (fun v2 τ hq => ?_) (fun E τ hq => by cases hq.2.1)
  obtain ⟨h17b, e9, rfl⟩ := hq
  cases e9
  refine wp_icmp rq_278 rfl (fun _ => ?_) (fun hne => absurd ?_ hne)
  · exact wp_weak LL_w (nx _ N _ _ hJF (by omega) (by omega) (h17b.trans h17) (by rw [mx_faultPosition.1]; omega) (by rw [mx_faultPosition.2]; omega))
  · rcases hag with ⟨x, e, -, e2⟩ | ⟨E, e, -⟩
    · cases e
      exact e2.symm
    · cases e
set_option maxRecDepth 100000 in
theorem ls_save (hJ : J N σ σ) (hN : 0 ≤ N ∧ N < 2147483647) (hi : 0 ≤ i) (hL : i + 5 ≤ σ 17 0 (-1)) (hM : σ 17 0 (-1) < 2147483648) (hc : c + 5 ≤ 603072) (hs : s + 30 ≤ 7198826) (nx : Nxt i c s N σ Q) : wp true 278 1277 (LL i none none none) [] σ c s Q := by
  obtain ⟨F, hF, hJF⟩ := ca_save hJ
  refine wp_seg 1 (P := none) (ls' := LL i none none none) (st' := [aR 10 0]) (σ' := σ) rq_278 rfl True.intro (i' := 1278) rfl ?_
  refine wp_callQ (C := 10) (As := [aR 10 0]) (rest := []) rq_278 rfl rfl (clOK_of (show clQw 278 140 0 1 10 = true by decide +kernel) (by rw [m278.1, mx_save.1]; omega) (by rw [m278.2, mx_save.2]; omega)) rfl (show 0 ≤ 4 by decide) (fun _ => ⟨_, rfl⟩) rfl (wp_17 (ev_xsave σ)) (fun v2 τ hq => ?_) (fun E τ hq => by cases hq.2.1)
  obtain ⟨h17, e9, rfl⟩ := hq
  cases e9
  refine wp_seg 1 (P := none) (ls' := LL i none none none) (st' := [aR 11 0]) (σ' := (zm_xsave σ)) rq_278 rfl True.intro (i' := 1280) rfl ?_
  have k2 := mm_at (k := 162) (by decide)
  refine wp_callQ (C := 11) (As := [aR 11 0]) (rest := []) rq_278 rfl rfl (clOK_of (show clQw 278 162 0 1 11 = true by decide +kernel) (by rw [m278.1, mx_save.1]; omega) (by rw [m278.2, mx_save.2]; omega)) rfl (show 0 ≤ 4 by decide) (fun _ => ⟨_, rfl⟩) rfl (wp_17 hF) (fun v2 τ hq => ?_) (fun E τ hq => by cases hq.2.1)
  obtain ⟨h17b, e9, rfl⟩ := hq
  cases e9
  exact wp_goto rq_278 rfl (wp_weak LL_w (nx _ N _ _ hJF (by omega) (by omega) (h17b.trans h17) (by rw [mx_save.1]; omega) (by rw [mx_save.2]; omega)))
set_option maxRecDepth 100000 in
theorem ls_restore (hJ : J N σ σ) (hN : 0 ≤ N ∧ N < 2147483647) (hi : 0 ≤ i) (hL : i + 5 ≤ σ 17 0 (-1)) (hM : σ 17 0 (-1) < 2147483648) (hc : c + 5 ≤ 603072) (hs : s + 30 ≤ 7198826) (nx : Nxt i c s N σ Q) : wp true 278 1282 (LL i none none none) [] σ c s Q := by
  refine wp_wf (fun hw hl => ?_)
  have hg := G_wf hw
  obtain ⟨F, hF, hJF, hag⟩ := ca_restore hJ
  have ho : zo_xrestore σ = .inl none ∨ zo_xrestore σ = .inr 1 := by
    unfold zo_xrestore
    split
    · exact Or.inl rfl
    · exact Or.inr rfl
  refine wp_seg 1 (P := none) (ls' := LL i none none none) (st' := [aR 10 0]) (σ' := σ) rq_278 rfl True.intro (i' := 1283) rfl ?_
  have k1 := mh_at (k := 277) (by decide)
  refine wp_callQ (C := 0) (As := [aR 10 0]) (rest := []) rq_278 rfl rfl (clOK_of (show clQw 278 277 2 1 0 = true by decide +kernel) (by rw [m278.1]; omega) (by rw [m278.2]; omega)) rfl (show 0 ≤ 4 by decide) (fun z => absurd rfl z) rfl (wp_17 (hl_restore (ev_xrestore σ) hg ho)) (fun v2 τ hq => ?_) (fun E τ hq => by obtain ⟨-, _, z, -⟩ := hq; cases z)
  obtain ⟨h17, kk, e9, rfl, hsm, hk⟩ := hq
  cases e9
  have hkk : F 11 0 6 = kk := by
    rcases hag with ⟨e, h1⟩ | ⟨E, e, h1, -⟩
    · rcases hk with ⟨k0, -⟩ | ⟨e2, -⟩
      · omega
      · rw [e] at e2; cases e2
    · rcases hk with ⟨-, e2⟩ | ⟨-, k0⟩
      · rw [e] at e2; cases e2
      · exact h1.trans k0.symm
  refine wp_seg 2 (P := none) (ls' := LL i (some (aI kk)) none none) (st' := [aR 11 0]) (σ' := (zm_xrestore σ)) rq_278 rfl True.intro (i' := 1286) rfl ?_
  have k2 := mm_at (k := 163) (by decide)
  refine wp_callQ (C := 11) (As := [aR 11 0]) (rest := []) rq_278 rfl rfl (clOK_of (show clQw 278 163 0 1 11 = true by decide +kernel) (by rw [m278.1]; omega) (by rw [m278.2]; omega)) rfl (show 0 ≤ 4 by decide) (fun _ => ⟨_, rfl⟩) rfl (wp_17 hF) (fun v2 τ hq => ?_) (fun E τ hq => by cases hq.2.1)
  obtain ⟨h17b, e9, rfl⟩ := hq
  cases e9
  refine wp_seg 1 (P := none) (ls' := LL i (some (aI kk)) none none) (st' := [aR 11 0]) (σ' := τ) rq_278 rfl True.intro (i' := 1288) rfl ?_
  have k3 := mm_at (k := 152) (by decide)
  refine wp_call (C := 11) (As := [aR 11 0]) (rest := []) rq_278 (ev_mthrown _) rfl rfl (clOK_of (show clQw 278 152 0 1 11 = true by decide +kernel) (by rw [m278.1]; omega) (by rw [m278.2]; omega)) rfl (show 0 ≤ 4 by decide) (fun _ => ⟨_, rfl⟩) rfl rfl rfl ?_
  refine wp_seg 1 (P := none) (ls' := LL i (some (aI kk)) none none) (st' := [aI kk, aI (τ 11 0 6)]) (σ' := τ) rq_278 rfl True.intro (i' := 1290) rfl ?_
  refine wp_icmp rq_278 rfl (fun _ => ?_) (fun hne => absurd (show τ 11 0 6 = kk from hkk) hne)
  exact wp_goto rq_278 rfl (wp_weak LL_w (nx _ N _ _ hJF (by omega) (by omega) (h17b.trans h17) (by omega) (by omega)))
set_option maxRecDepth 100000 in
theorem ls_append (hJ : J N σ σ) (hN : 0 ≤ N ∧ N < 2147483647) (hi : 0 ≤ i) (hL : i + 5 ≤ σ 17 0 (-1)) (hM : σ 17 0 (-1) < 2147483648) (hc : c + 5 ≤ 603072) (hs : s + 30 ≤ 7198826) (nx : Nxt i c s N σ Q) : wp true 278 1196 (LL i none none none) [] σ c s Q := by
  refine wp_wf (fun hw hl => ?_)
  have hg := G_wf hw
  have e1 : wr (i + 1) = i + 1 := wr_eq (by omega) (by omega)
  obtain ⟨F, hF, hJF, hag⟩ := ca_append (x := σ 17 0 (wr (i + 1)) % 65536) hJ (by omega)
  have ho : zo_xappend (σ 17 0 (wr (i + 1)) % 65536) σ = .inl none ∨ zo_xappend (σ 17 0 (wr (i + 1)) % 65536) σ = .inr 1 := by
    unfold zo_xappend
    split
    · exact Or.inl rfl
    · exact Or.inr rfl
  refine wp_seg 7 (P := some (0 ≤ wr (i + 1) ∧ wr (i + 1) < alen σ 17 0)) (ls' := LL i none none none) (st' := [aI (σ 17 0 (wr (i + 1)) % 65536), aR 10 0]) (σ' := σ) rq_278 rfl ?_ (i' := 1203) rfl ?_
  · show 0 ≤ wr (i + 1) ∧ wr (i + 1) < σ 17 0 (-1)
    omega
  have k1 := mh_at (k := 274) (by decide)
  refine wp_callQ (C := 0) (As := [aR 10 0, aI (σ 17 0 (wr (i + 1)) % 65536)]) (rest := []) rq_278 rfl rfl (clOK_of (show clQw 278 274 2 2 0 = true by decide +kernel) (by rw [m278.1]; omega) (by rw [m278.2]; omega)) rfl (show 0 ≤ 4 by decide) (fun z => absurd rfl z) rfl (wp_17 (hl_append (ev_xappend _ σ) hg ho)) (fun v2 τ hq => ?_) (fun E τ hq => by obtain ⟨-, _, z, -⟩ := hq; cases z)
  obtain ⟨h17, kk, e9, rfl, hsm, hk⟩ := hq
  cases e9
  have hkk : F 11 0 6 = kk := by
    rcases hag with ⟨e, h1⟩ | ⟨E, e, h1⟩
    · rcases hk with ⟨k0, -⟩ | ⟨e2, -⟩
      · omega
      · rw [e] at e2; cases e2
    · rcases hk with ⟨-, e2⟩ | ⟨-, k0⟩
      · rw [e] at e2; cases e2
      · omega
  generalize hZ : zm_xappend (σ 17 0 (wr (i + 1)) % 65536) σ = Z at *
  refine wp_seg 8 (P := some (0 ≤ wr (i + 1) ∧ wr (i + 1) < alen Z 17 0)) (ls' := LL i (some (aI kk)) none none) (st' := [aI (Z 17 0 (wr (i + 1)) % 65536), aR 11 0]) (σ' := Z) rq_278 rfl ?_ (i' := 1212) rfl ?_
  · show 0 ≤ wr (i + 1) ∧ wr (i + 1) < Z 17 0 (-1)
    rw [h17]
    omega
  rw [h17]
  have k2 := mm_at (k := 235) (by decide)
  refine wp_callQ (C := 11) (As := [aR 11 0, aI (σ 17 0 (wr (i + 1)) % 65536)]) (rest := []) rq_278 rfl rfl (clOK_of (show clQw 278 235 0 2 11 = true by decide +kernel) (by rw [m278.1]; omega) (by rw [m278.2]; omega)) rfl (show 0 ≤ 4 by decide) (fun _ => ⟨_, rfl⟩) rfl (wp_17 hF) (fun v2 τ hq => ?_) (fun E τ hq => by cases hq.2.1)
  obtain ⟨h17b, e9, rfl⟩ := hq
  cases e9
  refine wp_seg 1 (P := none) (ls' := LL i (some (aI kk)) none none) (st' := [aR 11 0]) (σ' := τ) rq_278 rfl True.intro (i' := 1214) rfl ?_
  have k3 := mm_at (k := 152) (by decide)
  refine wp_call (C := 11) (As := [aR 11 0]) (rest := []) rq_278 (ev_mthrown _) rfl rfl (clOK_of (show clQw 278 152 0 1 11 = true by decide +kernel) (by rw [m278.1]; omega) (by rw [m278.2]; omega)) rfl (show 0 ≤ 4 by decide) (fun _ => ⟨_, rfl⟩) rfl rfl rfl ?_
  refine wp_seg 1 (P := none) (ls' := LL i (some (aI kk)) none none) (st' := [aI kk, aI (τ 11 0 6)]) (σ' := τ) rq_278 rfl True.intro (i' := 1216) rfl ?_
  refine wp_icmp rq_278 rfl (fun _ => ?_) (fun hne => absurd (show τ 11 0 6 = kk from hkk) hne)
  exact wp_goto rq_278 rfl (wp_weak LL_w (nx _ N _ _ hJF (by omega) (by omega) (h17b.trans h17) (by omega) (by omega)))
set_option maxRecDepth 100000 in
theorem ls_ratio (hJ : J N σ σ) (hN : 0 ≤ N ∧ N < 2147483647) (hi : 0 ≤ i) (hL : i + 5 ≤ σ 17 0 (-1)) (hM : σ 17 0 (-1) < 2147483648) (hc : c + 5 ≤ 603072) (hs : s + 30 ≤ 7198826) (nx : Nxt i c s N σ Q) : wp true 278 700 (LL i none none none) [] σ c s Q := by
  refine wp_wf (fun hw hl => ?_)
  have hg := G_wf hw
  have e1 : wr (i + 1) = i + 1 := wr_eq (by omega) (by omega)
  obtain ⟨v, F, hF, hJF, hag⟩ := ca_ratio (f := σ 17 0 (wr (i + 1))) hJ
  obtain ⟨o, eo⟩ : ∃ o, o = zo_xratio (σ 17 0 (wr (i + 1))) σ := ⟨_, rfl⟩
  obtain ⟨a, ea⟩ : ∃ a, a = zm_xratio (σ 17 0 (wr (i + 1))) σ := ⟨_, rfl⟩
  have hev := ev_xratio (σ 17 0 (wr (i + 1))) σ (hq_ratio hJ)
  have ho : (∃ v, zo_xratio (σ 17 0 (wr (i + 1))) σ = .inl (some (aD v))) ∨ ∃ E, zo_xratio (σ 17 0 (wr (i + 1))) σ = .inr E ∧ E ∈ [2, 5] := by
    unfold zo_xratio
    split
    · exact Or.inr ⟨_, rfl, by decide⟩
    · split
      · exact Or.inl ⟨_, rfl⟩
      · exact Or.inr ⟨_, rfl, by decide⟩
  rw [← eo, ← ea] at hev
  rw [← eo] at ho hag
  rw [← ea] at hF
  refine wp_seg 7 (P := some (0 ≤ wr (i + 1) ∧ wr (i + 1) < alen σ 17 0)) (ls' := LL i none none none) (st' := [aR 16 0, aI (σ 17 0 (wr (i + 1))), aR 10 0]) (σ' := σ) rq_278 rfl ?_ (i' := 707) rfl ?_
  · show 0 ≤ wr (i + 1) ∧ wr (i + 1) < σ 17 0 (-1)
    omega
  have k1 := mh_at (k := 261) (by decide)
  refine wp_callQ (C := 0) (As := [aR 10 0, aI (σ 17 0 (wr (i + 1))), aR 16 0]) (rest := []) rq_278 rfl rfl (clOK_of (show clQw 278 261 2 3 0 = true by decide +kernel) (by rw [m278.1]; omega) (by rw [m278.2]; omega)) rfl (show 0 ≤ 4 by decide) (fun z => absurd rfl z) rfl (wp_17 (hl_ratio hev hg ho)) (fun v2 τ hq => ?_) (fun E τ hq => by obtain ⟨-, _, _, z, -⟩ := hq; cases z)
  obtain ⟨h17, kk, B, e9, rfl, hsm, hk⟩ := hq
  cases e9
  have hkk : F 11 0 6 = kk ∧ (kk = 0 → B 0 0 = (v.toNat : Int)) := by
    rcases hag with ⟨e, h1⟩ | ⟨E, e, h1⟩
    · rcases hk with ⟨k0, x, e2, h3⟩ | ⟨E2, e2, -⟩
      · rw [e] at e2
        cases e2
        exact ⟨by omega, fun _ => h3⟩
      · rw [e] at e2; cases e2
    · rcases hk with ⟨k0, x, e2, h3⟩ | ⟨E2, e2, h3⟩
      · rw [e] at e2; cases e2
      · rw [e] at e2
        cases e2
        have h3 : kk = if E = 2 then 1 else 2 := h3
        rw [← h3] at h1
        refine ⟨h1, fun k0 => ?_⟩
        rw [k0] at h3
        split at h3
        · omega
        · omega
  obtain ⟨hkk, hB⟩ := hkk
  refine wp_seg 7 (P := some (0 ≤ wr (i + 1) ∧ wr (i + 1) < alen (md (a 15) B a) 17 0)) (ls' := LL i (some (aI kk)) none none) (st' := [aI ((md (a 15) B a) 17 0 (wr (i + 1))), aR 11 0]) (σ' := (md (a 15) B a)) rq_278 rfl ?_ (i' := 715) rfl ?_
  · show 0 ≤ wr (i + 1) ∧ wr (i + 1) < (md (a 15) B a) 17 0 (-1)
    rw [h17]
    omega
  rw [h17]
  have k2 := mm_at (k := 207) (by decide)
  refine wp_callQ (C := 11) (As := [aR 11 0, aI (σ 17 0 (wr (i + 1)))]) (rest := []) rq_278 rfl rfl (clOK_of (show clQw 278 207 0 2 11 = true by decide +kernel) (by rw [m278.1]; omega) (by rw [m278.2]; omega)) rfl (show 0 ≤ 4 by decide) (fun _ => ⟨_, rfl⟩) rfl (wp_17 (ev_frame (A := a 15) (B := B) hF (noS_of rfl) (G_same hsm hg))) (fun v2 τ hq => ?_) (fun E τ hq => by cases hq.2.1)
  obtain ⟨h17b, e9, rfl⟩ := hq
  cases e9
  refine wp_seg 2 (P := none) (ls' := LL i (some (aI kk)) (some (aD v)) none) (st' := [aR 11 0]) (σ' := (md (a 15) B F)) rq_278 rfl True.intro (i' := 718) rfl ?_
  have k3 := mm_at (k := 152) (by decide)
  refine wp_call (C := 11) (As := [aR 11 0]) (rest := []) rq_278 (ev_mthrown _) rfl rfl (clOK_of (show clQw 278 152 0 1 11 = true by decide +kernel) (by rw [m278.1]; omega) (by rw [m278.2]; omega)) rfl (show 0 ≤ 4 by decide) (fun _ => ⟨_, rfl⟩) rfl rfl rfl ?_
  refine wp_seg 1 (P := none) (ls' := LL i (some (aI kk)) (some (aD v)) none) (st' := [aI kk, aI ((md (a 15) B F) 11 0 6)]) (σ' := (md (a 15) B F)) rq_278 rfl True.intro (i' := 720) rfl ?_
  refine wp_icmp rq_278 rfl (fun _ => ?_) (fun hne => absurd (show (md (a 15) B F) 11 0 6 = kk from (md_o (by decide) (by decide)).trans hkk) hne)
  refine wp_seg 1 (P := none) (ls' := LL i (some (aI kk)) (some (aD v)) none) (st' := [aI kk]) (σ' := (md (a 15) B F)) rq_278 rfl True.intro (i' := 724) rfl ?_
  have fin : wp true 278 745 (LL i (some (aI kk)) (some (aD v)) none) [] (md (a 15) B F) (c + mcs 261 + mcs 207 + mcs 152) (s + mss 261 + mss 207 + mss 152) Q := by
    exact wp_goto rq_278 rfl (wp_weak LL_w (nx _ N _ _ (J_md hJF) (by omega) (by omega) (h17b.trans h17) (by omega) (by omega)))
  refine wp_if rq_278 rfl (fun _ => fin) (fun h0 => ?_)
  have h0 : kk = 0 := Decidable.of_not_not h0
  have eb : UInt64.ofNat ((md (a 15) B F) 16 0 0).toNat = v := by
    show UInt64.ofNat (B 0 0).toNat = v
    rw [hB h0, Int.toNat_natCast]
    exact UInt64.ofNat_toNat
  refine wp_seg 5 (P := some ((0 : Int) = 0)) (ls' := LL i (some (aI kk)) (some (aD v)) none) (st' := [aI (dcmpI (UInt64.ofNat ((md (a 15) B F) 16 0 0).toNat) v .l)]) (σ' := (md (a 15) B F)) rq_278 rfl rfl (i' := 730) rfl ?_
  rw [eb]
  refine wp_if rq_278 rfl (fun _ => fin) (fun h1 => ?_)
  refine wp_seg 7 (P := some ((0 : Int) = 0 ∧ (0 : Int) = 0)) (ls' := LL i (some (aI kk)) (some (aD v)) none) (st' := [aI (dcmpI (UInt64.ofNat ((md (a 15) B F) 16 0 0).toNat) (UInt64.ofNat ((md (a 15) B F) 16 0 0).toNat) .l)]) (σ' := (md (a 15) B F)) rq_278 rfl ⟨rfl, rfl⟩ (i' := 738) rfl ?_
  rw [eb]
  refine wp_if rq_278 rfl (fun h2 => absurd h2 h1) (fun _ => ?_)
  refine wp_seg 3 (P := none) (ls' := LL i (some (aI kk)) (some (aD v)) none) (st' := [aI (dcmpI v v .l)]) (σ' := (md (a 15) B F)) rq_278 rfl True.intro (i' := 742) rfl ?_
  exact wp_if rq_278 rfl (fun _ => fin) (fun h2 => absurd (Decidable.of_not_not h2) h1)
end LawC
