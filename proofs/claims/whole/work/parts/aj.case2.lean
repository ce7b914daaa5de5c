/-! The law's cases, further. -/
section LawC
variable {N i : Int} {c s : Nat} {σ : Mem} {Q : Out → Mem → Prop}
set_option maxRecDepth 100000 in
theorem ls_drawPools (hJ : J N σ σ) (hN : 0 ≤ N ∧ N < 2147483647) (hi : 0 ≤ i) (hL : i + 5 ≤ σ 17 0 (-1)) (hM : σ 17 0 (-1) < 2147483648) (hc : c + 5 ≤ 603072) (hs : s + 30 ≤ 7198826) (nx : Nxt i c s N σ Q) : wp true 278 73 (LL i none none none) [] σ c s Q := by
  refine wp_wf (fun hw hl => ?_)
  have hg := G_wf hw
  have e1 : wr (i + 1) = i + 1 := wr_eq (by omega) (by omega)
  obtain ⟨o, a, hev, ⟨v, F, hF, hJF, hag⟩, hE⟩ := pr_drawPools (b := σ 17 0 (wr (i + 1))) hJ
  refine wp_seg 7 (P := some ((0 ≤ wr (i + 1) ∧ wr (i + 1) < alen σ 17 0))) (ls' := LL i none none none) (st' := [aR 15 0, aI (σ 17 0 (wr (i + 1))), aR 10 0]) (σ' := σ) rq_278 rfl ?_ (i' := 80) rfl ?_
  · show (0 ≤ wr (i + 1) ∧ wr (i + 1) < σ 17 0 (-1))
    omega
  have k1 := mh_at (k := 245) (by decide)
  refine wp_callQ (C := 0) (As := [aR 10 0, aI (σ 17 0 (wr (i + 1))), aR 15 0]) (rest := []) rq_278 rfl rfl (clOK_of (show clQw 278 245 2 3 0 = true by decide +kernel) (by rw [m278.1]; omega) (by rw [m278.2]; omega)) rfl (show 0 ≤ 4 by decide) (fun z => absurd rfl z) rfl (wp_17 (hl_drawPools hev hg (Ho_of hag hE))) (fun v2 τ hq => ?_) (fun E τ hq => by obtain ⟨-, _, _, z, -⟩ := hq; cases z)
  obtain ⟨h17, kk, A, e9, rfl, hsm, hk⟩ := hq
  cases e9
  obtain ⟨hkk, hA⟩ := agr_k hag hk
  refine wp_seg 7 (P := some ((0 ≤ wr (i + 1) ∧ wr (i + 1) < alen (md A (a 16) a) 17 0))) (ls' := LL i (some (aI kk)) none none) (st' := [aI ((md A (a 16) a) 17 0 (wr (i + 1))), aR 11 0]) (σ' := (md A (a 16) a)) rq_278 rfl ?_ (i' := 88) rfl ?_
  · show (0 ≤ wr (i + 1) ∧ wr (i + 1) < (md A (a 16) a) 17 0 (-1))
    rw [h17]
    omega
  rw [h17]
  have k2 := mm_at (k := 174) (by decide)
  refine wp_callQ (C := 11) (As := [aR 11 0, aI (σ 17 0 (wr (i + 1)))]) (rest := []) rq_278 rfl rfl (clOK_of (show clQw 278 174 0 2 11 = true by decide +kernel) (by rw [m278.1]; omega) (by rw [m278.2]; omega)) rfl (show 0 ≤ 4 by decide) (fun _ => ⟨_, rfl⟩) rfl (wp_17 (ev_frame (A := A) (B := a 16) hF (noS_of rfl) (G_same hsm hg))) (fun v2 τ hq => ?_) (fun E τ hq => by cases hq.2.1)
  obtain ⟨h17b, e9, rfl⟩ := hq
  cases e9
  refine wp_seg 2 (P := none) (ls' := LL i (some (aI kk)) (some (aI v)) none) (st' := [aR 11 0]) (σ' := (md A (a 16) F)) rq_278 rfl True.intro (i' := 91) rfl ?_
  have k3 := mm_at (k := 152) (by decide)
  refine wp_call (C := 11) (As := [aR 11 0]) (rest := []) rq_278 (ev_mthrown _) rfl rfl (clOK_of (show clQw 278 152 0 1 11 = true by decide +kernel) (by rw [m278.1]; omega) (by rw [m278.2]; omega)) rfl (show 0 ≤ 4 by decide) (fun _ => ⟨_, rfl⟩) rfl rfl rfl ?_
  refine wp_seg 1 (P := none) (ls' := LL i (some (aI kk)) (some (aI v)) none) (st' := [aI kk, aI ((md A (a 16) F) 11 0 6)]) (σ' := (md A (a 16) F)) rq_278 rfl True.intro (i' := 93) rfl ?_
  refine wp_icmp rq_278 rfl (fun _ => ?_) (fun hne => absurd (show (md A (a 16) F) 11 0 6 = kk from (md_o (by decide) (by decide)).trans hkk) hne)
  refine wp_seg 1 (P := none) (ls' := LL i (some (aI kk)) (some (aI v)) none) (st' := [aI kk]) (σ' := (md A (a 16) F)) rq_278 rfl True.intro (i' := 97) rfl ?_
  refine wp_if rq_278 rfl (fun _ => ?_) (fun h0 => ?_)
  · exact wp_goto rq_278 rfl (wp_weak LL_w (nx _ N _ _ (J_md hJF) (by omega) (by omega) (h17b.trans h17) (by omega) (by omega)))
  · have h0 : kk = 0 := Decidable.of_not_not h0
    refine wp_seg 6 (P := some ((0 : Int) = 0)) (ls' := LL i (some (aI kk)) (some (aI v)) none) (st' := [aI (lcmpI ((md A (a 16) F) 15 0 0) v)]) (σ' := (md A (a 16) F)) rq_278 rfl rfl (i' := 104) rfl ?_
    refine wp_if rq_278 rfl (fun _ => ?_) (fun h1 => absurd (show lcmpI ((md A (a 16) F) 15 0 0) v = 0 from lcmp_0 (hA h0)) h1)
    exact wp_goto rq_278 rfl (wp_weak LL_w (nx _ N _ _ (J_md hJF) (by omega) (by omega) (h17b.trans h17) (by omega) (by omega)))
set_option maxRecDepth 100000 in
theorem ls_setSeed (hJ : J N σ σ) (hN : 0 ≤ N ∧ N < 2147483647) (hi : 0 ≤ i) (hL : i + 5 ≤ σ 17 0 (-1)) (hM : σ 17 0 (-1) < 2147483648) (hc : c + 5 ≤ 603072) (hs : s + 30 ≤ 7198826) (nx : Nxt i c s N σ Q) : wp true 278 108 (LL i none none none) [] σ c s Q := by
  refine wp_wf (fun hw hl => ?_)
  have hg := G_wf hw
  have e1 : wr (i + 1) = i + 1 := wr_eq (by omega) (by omega)
  obtain ⟨o, a, hev, ⟨v, F, hF, hJF, hag⟩, hE⟩ := pr_setSeed (b := σ 17 0 (wr (i + 1))) hJ (by have z := (hw.1 17 0 (wr (i + 1)) (by decide) (by decide) (by decide)).2; omega)
  refine wp_seg 7 (P := some ((0 ≤ wr (i + 1) ∧ wr (i + 1) < alen σ 17 0))) (ls' := LL i none none none) (st' := [aR 15 0, aI (σ 17 0 (wr (i + 1))), aR 10 0]) (σ' := σ) rq_278 rfl ?_ (i' := 115) rfl ?_
  · show (0 ≤ wr (i + 1) ∧ wr (i + 1) < σ 17 0 (-1))
    omega
  have k1 := mh_at (k := 246) (by decide)
  refine wp_callQ (C := 0) (As := [aR 10 0, aI (σ 17 0 (wr (i + 1))), aR 15 0]) (rest := []) rq_278 rfl rfl (clOK_of (show clQw 278 246 2 3 0 = true by decide +kernel) (by rw [m278.1]; omega) (by rw [m278.2]; omega)) rfl (show 0 ≤ 4 by decide) (fun z => absurd rfl z) rfl (wp_17 (hl_setSeed hev hg (Ho_of hag hE))) (fun v2 τ hq => ?_) (fun E τ hq => by obtain ⟨-, _, _, z, -⟩ := hq; cases z)
  obtain ⟨h17, kk, A, e9, rfl, hsm, hk⟩ := hq
  cases e9
  obtain ⟨hkk, hA⟩ := agr_k hag hk
  refine wp_seg 7 (P := some ((0 ≤ wr (i + 1) ∧ wr (i + 1) < alen (md A (a 16) a) 17 0))) (ls' := LL i (some (aI kk)) none none) (st' := [aI ((md A (a 16) a) 17 0 (wr (i + 1))), aR 11 0]) (σ' := (md A (a 16) a)) rq_278 rfl ?_ (i' := 123) rfl ?_
  · show (0 ≤ wr (i + 1) ∧ wr (i + 1) < (md A (a 16) a) 17 0 (-1))
    rw [h17]
    omega
  rw [h17]
  have k2 := mm_at (k := 164) (by decide)
  refine wp_callQ (C := 11) (As := [aR 11 0, aI (σ 17 0 (wr (i + 1)))]) (rest := []) rq_278 rfl rfl (clOK_of (show clQw 278 164 0 2 11 = true by decide +kernel) (by rw [m278.1]; omega) (by rw [m278.2]; omega)) rfl (show 0 ≤ 4 by decide) (fun _ => ⟨_, rfl⟩) rfl (wp_17 (ev_frame (A := A) (B := a 16) hF (noS_of rfl) (G_same hsm hg))) (fun v2 τ hq => ?_) (fun E τ hq => by cases hq.2.1)
  obtain ⟨h17b, e9, rfl⟩ := hq
  cases e9
  refine wp_seg 2 (P := none) (ls' := LL i (some (aI kk)) (some (aI v)) none) (st' := [aR 11 0]) (σ' := (md A (a 16) F)) rq_278 rfl True.intro (i' := 126) rfl ?_
  have k3 := mm_at (k := 152) (by decide)
  refine wp_call (C := 11) (As := [aR 11 0]) (rest := []) rq_278 (ev_mthrown _) rfl rfl (clOK_of (show clQw 278 152 0 1 11 = true by decide +kernel) (by rw [m278.1]; omega) (by rw [m278.2]; omega)) rfl (show 0 ≤ 4 by decide) (fun _ => ⟨_, rfl⟩) rfl rfl rfl ?_
  refine wp_seg 1 (P := none) (ls' := LL i (some (aI kk)) (some (aI v)) none) (st' := [aI kk, aI ((md A (a 16) F) 11 0 6)]) (σ' := (md A (a 16) F)) rq_278 rfl True.intro (i' := 128) rfl ?_
  refine wp_icmp rq_278 rfl (fun _ => ?_) (fun hne => absurd (show (md A (a 16) F) 11 0 6 = kk from (md_o (by decide) (by decide)).trans hkk) hne)
  refine wp_seg 1 (P := none) (ls' := LL i (some (aI kk)) (some (aI v)) none) (st' := [aI kk]) (σ' := (md A (a 16) F)) rq_278 rfl True.intro (i' := 132) rfl ?_
  refine wp_if rq_278 rfl (fun _ => ?_) (fun h0 => ?_)
  · exact wp_goto rq_278 rfl (wp_weak LL_w (nx _ N _ _ (J_md hJF) (by omega) (by omega) (h17b.trans h17) (by omega) (by omega)))
  · have h0 : kk = 0 := Decidable.of_not_not h0
    refine wp_seg 6 (P := some ((0 : Int) = 0)) (ls' := LL i (some (aI kk)) (some (aI v)) none) (st' := [aI (lcmpI ((md A (a 16) F) 15 0 0) v)]) (σ' := (md A (a 16) F)) rq_278 rfl rfl (i' := 139) rfl ?_
    refine wp_if rq_278 rfl (fun _ => ?_) (fun h1 => absurd (show lcmpI ((md A (a 16) F) 15 0 0) v = 0 from lcmp_0 (hA h0)) h1)
    exact wp_goto rq_278 rfl (wp_weak LL_w (nx _ N _ _ (J_md hJF) (by omega) (by omega) (h17b.trans h17) (by omega) (by omega)))
set_option maxRecDepth 100000 in
theorem ls_fencer (hJ : J N σ σ) (hN : 0 ≤ N ∧ N < 2147483647) (hi : 0 ≤ i) (hL : i + 5 ≤ σ 17 0 (-1)) (hM : σ 17 0 (-1) < 2147483648) (hc : c + 5 ≤ 603072) (hs : s + 30 ≤ 7198826) (nx : Nxt i c s N σ Q) : wp true 278 143 (LL i none none none) [] σ c s Q := by
  refine wp_wf (fun hw hl => ?_)
  have hg := G_wf hw
  have e1 : wr (i + 1) = i + 1 := wr_eq (by omega) (by omega)
  have e2 : wr (i + 2) = i + 2 := wr_eq (by omega) (by omega)
  obtain ⟨o, a, hev, ⟨v, F, hF, hJF, hag⟩, hE⟩ := pr_fencer (b := σ 17 0 (wr (i + 1))) (x := σ 17 0 (wr (i + 2))) hJ
  refine wp_seg 12 (P := some ((0 ≤ wr (i + 1) ∧ wr (i + 1) < alen σ 17 0) ∧ (0 ≤ wr (i + 2) ∧ wr (i + 2) < alen σ 17 0))) (ls' := LL i none none none) (st' := [aR 15 0, aI (σ 17 0 (wr (i + 2))), aI (σ 17 0 (wr (i + 1))), aR 10 0]) (σ' := σ) rq_278 rfl ?_ (i' := 155) rfl ?_
  · show (0 ≤ wr (i + 1) ∧ wr (i + 1) < σ 17 0 (-1)) ∧ (0 ≤ wr (i + 2) ∧ wr (i + 2) < σ 17 0 (-1))
    omega
  have k1 := mh_at (k := 247) (by decide)
  refine wp_callQ (C := 0) (As := [aR 10 0, aI (σ 17 0 (wr (i + 1))), aI (σ 17 0 (wr (i + 2))), aR 15 0]) (rest := []) rq_278 rfl rfl (clOK_of (show clQw 278 247 2 4 0 = true by decide +kernel) (by rw [m278.1]; omega) (by rw [m278.2]; omega)) rfl (show 0 ≤ 4 by decide) (fun z => absurd rfl z) rfl (wp_17 (hl_fencer hev hg (Ho_of hag hE))) (fun v2 τ hq => ?_) (fun E τ hq => by obtain ⟨-, _, _, z, -⟩ := hq; cases z)
  obtain ⟨h17, kk, A, e9, rfl, hsm, hk⟩ := hq
  cases e9
  obtain ⟨hkk, hA⟩ := agr_k hag hk
  refine wp_seg 12 (P := some ((0 ≤ wr (i + 1) ∧ wr (i + 1) < alen (md A (a 16) a) 17 0) ∧ (0 ≤ wr (i + 2) ∧ wr (i + 2) < alen (md A (a 16) a) 17 0))) (ls' := LL i (some (aI kk)) none none) (st' := [aI ((md A (a 16) a) 17 0 (wr (i + 2))), aI ((md A (a 16) a) 17 0 (wr (i + 1))), aR 11 0]) (σ' := (md A (a 16) a)) rq_278 rfl ?_ (i' := 168) rfl ?_
  · show (0 ≤ wr (i + 1) ∧ wr (i + 1) < (md A (a 16) a) 17 0 (-1)) ∧ (0 ≤ wr (i + 2) ∧ wr (i + 2) < (md A (a 16) a) 17 0 (-1))
    rw [h17]
    omega
  rw [h17]
  have k2 := mm_at (k := 176) (by decide)
  refine wp_callQ (C := 11) (As := [aR 11 0, aI (σ 17 0 (wr (i + 1))), aI (σ 17 0 (wr (i + 2)))]) (rest := []) rq_278 rfl rfl (clOK_of (show clQw 278 176 0 3 11 = true by decide +kernel) (by rw [m278.1]; omega) (by rw [m278.2]; omega)) rfl (show 0 ≤ 4 by decide) (fun _ => ⟨_, rfl⟩) rfl (wp_17 (ev_frame (A := A) (B := a 16) hF (noS_of rfl) (G_same hsm hg))) (fun v2 τ hq => ?_) (fun E τ hq => by cases hq.2.1)
  obtain ⟨h17b, e9, rfl⟩ := hq
  cases e9
  refine wp_seg 2 (P := none) (ls' := LL i (some (aI kk)) (some (aI v)) none) (st' := [aR 11 0]) (σ' := (md A (a 16) F)) rq_278 rfl True.intro (i' := 171) rfl ?_
  have k3 := mm_at (k := 152) (by decide)
  refine wp_call (C := 11) (As := [aR 11 0]) (rest := []) rq_278 (ev_mthrown _) rfl rfl (clOK_of (show clQw 278 152 0 1 11 = true by decide +kernel) (by rw [m278.1]; omega) (by rw [m278.2]; omega)) rfl (show 0 ≤ 4 by decide) (fun _ => ⟨_, rfl⟩) rfl rfl rfl ?_
  refine wp_seg 1 (P := none) (ls' := LL i (some (aI kk)) (some (aI v)) none) (st' := [aI kk, aI ((md A (a 16) F) 11 0 6)]) (σ' := (md A (a 16) F)) rq_278 rfl True.intro (i' := 173) rfl ?_
  refine wp_icmp rq_278 rfl (fun _ => ?_) (fun hne => absurd (show (md A (a 16) F) 11 0 6 = kk from (md_o (by decide) (by decide)).trans hkk) hne)
  refine wp_seg 1 (P := none) (ls' := LL i (some (aI kk)) (some (aI v)) none) (st' := [aI kk]) (σ' := (md A (a 16) F)) rq_278 rfl True.intro (i' := 177) rfl ?_
  refine wp_if rq_278 rfl (fun _ => ?_) (fun h0 => ?_)
  · exact wp_goto rq_278 rfl (wp_weak LL_w (nx _ N _ _ (J_md hJF) (by omega) (by omega) (h17b.trans h17) (by omega) (by omega)))
  · have h0 : kk = 0 := Decidable.of_not_not h0
    refine wp_seg 6 (P := some ((0 : Int) = 0)) (ls' := LL i (some (aI kk)) (some (aI v)) none) (st' := [aI (lcmpI ((md A (a 16) F) 15 0 0) v)]) (σ' := (md A (a 16) F)) rq_278 rfl rfl (i' := 184) rfl ?_
    refine wp_if rq_278 rfl (fun _ => ?_) (fun h1 => absurd (show lcmpI ((md A (a 16) F) 15 0 0) v = 0 from lcmp_0 (hA h0)) h1)
    exact wp_goto rq_278 rfl (wp_weak LL_w (nx _ N _ _ (J_md hJF) (by omega) (by omega) (h17b.trans h17) (by omega) (by omega)))
set_option maxRecDepth 100000 in
theorem ls_meet (hJ : J N σ σ) (hN : 0 ≤ N ∧ N < 2147483647) (hi : 0 ≤ i) (hL : i + 5 ≤ σ 17 0 (-1)) (hM : σ 17 0 (-1) < 2147483648) (hc : c + 5 ≤ 603072) (hs : s + 30 ≤ 7198826) (nx : Nxt i c s N σ Q) : wp true 278 188 (LL i none none none) [] σ c s Q := by
  refine wp_wf (fun hw hl => ?_)
  have hg := G_wf hw
  have e1 : wr (i + 1) = i + 1 := wr_eq (by omega) (by omega)
  obtain ⟨o, a, hev, ⟨v, F, hF, hJF, hag⟩, hE⟩ := pr_meet (b := σ 17 0 (wr (i + 1))) hJ
  refine wp_seg 7 (P := some ((0 ≤ wr (i + 1) ∧ wr (i + 1) < alen σ 17 0))) (ls' := LL i none none none) (st' := [aR 15 0, aI (σ 17 0 (wr (i + 1))), aR 10 0]) (σ' := σ) rq_278 rfl ?_ (i' := 195) rfl ?_
  · show (0 ≤ wr (i + 1) ∧ wr (i + 1) < σ 17 0 (-1))
    omega
  have k1 := mh_at (k := 248) (by decide)
  refine wp_callQ (C := 0) (As := [aR 10 0, aI (σ 17 0 (wr (i + 1))), aR 15 0]) (rest := []) rq_278 rfl rfl (clOK_of (show clQw 278 248 2 3 0 = true by decide +kernel) (by rw [m278.1]; omega) (by rw [m278.2]; omega)) rfl (show 0 ≤ 4 by decide) (fun z => absurd rfl z) rfl (wp_17 (hl_meet hev hg (Ho_of hag hE))) (fun v2 τ hq => ?_) (fun E τ hq => by obtain ⟨-, _, _, z, -⟩ := hq; cases z)
  obtain ⟨h17, kk, A, e9, rfl, hsm, hk⟩ := hq
  cases e9
  obtain ⟨hkk, hA⟩ := agr_k hag hk
  refine wp_seg 7 (P := some ((0 ≤ wr (i + 1) ∧ wr (i + 1) < alen (md A (a 16) a) 17 0))) (ls' := LL i (some (aI kk)) none none) (st' := [aI ((md A (a 16) a) 17 0 (wr (i + 1))), aR 11 0]) (σ' := (md A (a 16) a)) rq_278 rfl ?_ (i' := 203) rfl ?_
  · show (0 ≤ wr (i + 1) ∧ wr (i + 1) < (md A (a 16) a) 17 0 (-1))
    rw [h17]
    omega
  rw [h17]
  have k2 := mm_at (k := 178) (by decide)
  refine wp_callQ (C := 11) (As := [aR 11 0, aI (σ 17 0 (wr (i + 1)))]) (rest := []) rq_278 rfl rfl (clOK_of (show clQw 278 178 0 2 11 = true by decide +kernel) (by rw [m278.1]; omega) (by rw [m278.2]; omega)) rfl (show 0 ≤ 4 by decide) (fun _ => ⟨_, rfl⟩) rfl (wp_17 (ev_frame (A := A) (B := a 16) hF (noS_of rfl) (G_same hsm hg))) (fun v2 τ hq => ?_) (fun E τ hq => by cases hq.2.1)
  obtain ⟨h17b, e9, rfl⟩ := hq
  cases e9
  refine wp_seg 2 (P := none) (ls' := LL i (some (aI kk)) (some (aI v)) none) (st' := [aR 11 0]) (σ' := (md A (a 16) F)) rq_278 rfl True.intro (i' := 206) rfl ?_
  have k3 := mm_at (k := 152) (by decide)
  refine wp_call (C := 11) (As := [aR 11 0]) (rest := []) rq_278 (ev_mthrown _) rfl rfl (clOK_of (show clQw 278 152 0 1 11 = true by decide +kernel) (by rw [m278.1]; omega) (by rw [m278.2]; omega)) rfl (show 0 ≤ 4 by decide) (fun _ => ⟨_, rfl⟩) rfl rfl rfl ?_
  refine wp_seg 1 (P := none) (ls' := LL i (some (aI kk)) (some (aI v)) none) (st' := [aI kk, aI ((md A (a 16) F) 11 0 6)]) (σ' := (md A (a 16) F)) rq_278 rfl True.intro (i' := 208) rfl ?_
  refine wp_icmp rq_278 rfl (fun _ => ?_) (fun hne => absurd (show (md A (a 16) F) 11 0 6 = kk from (md_o (by decide) (by decide)).trans hkk) hne)
  refine wp_seg 1 (P := none) (ls' := LL i (some (aI kk)) (some (aI v)) none) (st' := [aI kk]) (σ' := (md A (a 16) F)) rq_278 rfl True.intro (i' := 212) rfl ?_
  refine wp_if rq_278 rfl (fun _ => ?_) (fun h0 => ?_)
  · exact wp_goto rq_278 rfl (wp_weak LL_w (nx _ N _ _ (J_md hJF) (by omega) (by omega) (h17b.trans h17) (by omega) (by omega)))
  · have h0 : kk = 0 := Decidable.of_not_not h0
    refine wp_seg 6 (P := some ((0 : Int) = 0)) (ls' := LL i (some (aI kk)) (some (aI v)) none) (st' := [aI (lcmpI ((md A (a 16) F) 15 0 0) v)]) (σ' := (md A (a 16) F)) rq_278 rfl rfl (i' := 219) rfl ?_
    refine wp_if rq_278 rfl (fun _ => ?_) (fun h1 => absurd (show lcmpI ((md A (a 16) F) 15 0 0) v = 0 from lcmp_0 (hA h0)) h1)
    exact wp_goto rq_278 rfl (wp_weak LL_w (nx _ N _ _ (J_md hJF) (by omega) (by omega) (h17b.trans h17) (by omega) (by omega)))
set_option maxRecDepth 100000 in
theorem ls_members (hJ : J N σ σ) (hN : 0 ≤ N ∧ N < 2147483647) (hi : 0 ≤ i) (hL : i + 5 ≤ σ 17 0 (-1)) (hM : σ 17 0 (-1) < 2147483648) (hc : c + 5 ≤ 603072) (hs : s + 30 ≤ 7198826) (nx : Nxt i c s N σ Q) : wp true 278 223 (LL i none none none) [] σ c s Q := by
  refine wp_wf (fun hw hl => ?_)
  have hg := G_wf hw
  have e1 : wr (i + 1) = i + 1 := wr_eq (by omega) (by omega)
  obtain ⟨o, a, hev, ⟨v, F, hF, hJF, hag⟩, hE⟩ := pr_members (b := σ 17 0 (wr (i + 1))) hJ
  refine wp_seg 7 (P := some ((0 ≤ wr (i + 1) ∧ wr (i + 1) < alen σ 17 0))) (ls' := LL i none none none) (st' := [aR 15 0, aI (σ 17 0 (wr (i + 1))), aR 10 0]) (σ' := σ) rq_278 rfl ?_ (i' := 230) rfl ?_
  · show (0 ≤ wr (i + 1) ∧ wr (i + 1) < σ 17 0 (-1))
    omega
  have k1 := mh_at (k := 249) (by decide)
  refine wp_callQ (C := 0) (As := [aR 10 0, aI (σ 17 0 (wr (i + 1))), aR 15 0]) (rest := []) rq_278 rfl rfl (clOK_of (show clQw 278 249 2 3 0 = true by decide +kernel) (by rw [m278.1]; omega) (by rw [m278.2]; omega)) rfl (show 0 ≤ 4 by decide) (fun z => absurd rfl z) rfl (wp_17 (hl_members hev hg (Ho_of hag hE))) (fun v2 τ hq => ?_) (fun E τ hq => by obtain ⟨-, _, _, z, -⟩ := hq; cases z)
  obtain ⟨h17, kk, A, e9, rfl, hsm, hk⟩ := hq
  cases e9
  obtain ⟨hkk, hA⟩ := agr_k hag hk
  refine wp_seg 7 (P := some ((0 ≤ wr (i + 1) ∧ wr (i + 1) < alen (md A (a 16) a) 17 0))) (ls' := LL i (some (aI kk)) none none) (st' := [aI ((md A (a 16) a) 17 0 (wr (i + 1))), aR 11 0]) (σ' := (md A (a 16) a)) rq_278 rfl ?_ (i' := 238) rfl ?_
  · show (0 ≤ wr (i + 1) ∧ wr (i + 1) < (md A (a 16) a) 17 0 (-1))
    rw [h17]
    omega
  rw [h17]
  have k2 := mm_at (k := 180) (by decide)
  refine wp_callQ (C := 11) (As := [aR 11 0, aI (σ 17 0 (wr (i + 1)))]) (rest := []) rq_278 rfl rfl (clOK_of (show clQw 278 180 0 2 11 = true by decide +kernel) (by rw [m278.1]; omega) (by rw [m278.2]; omega)) rfl (show 0 ≤ 4 by decide) (fun _ => ⟨_, rfl⟩) rfl (wp_17 (ev_frame (A := A) (B := a 16) hF (noS_of rfl) (G_same hsm hg))) (fun v2 τ hq => ?_) (fun E τ hq => by cases hq.2.1)
  obtain ⟨h17b, e9, rfl⟩ := hq
  cases e9
  refine wp_seg 2 (P := none) (ls' := LL i (some (aI kk)) (some (aI v)) none) (st' := [aR 11 0]) (σ' := (md A (a 16) F)) rq_278 rfl True.intro (i' := 241) rfl ?_
  have k3 := mm_at (k := 152) (by decide)
  refine wp_call (C := 11) (As := [aR 11 0]) (rest := []) rq_278 (ev_mthrown _) rfl rfl (clOK_of (show clQw 278 152 0 1 11 = true by decide +kernel) (by rw [m278.1]; omega) (by rw [m278.2]; omega)) rfl (show 0 ≤ 4 by decide) (fun _ => ⟨_, rfl⟩) rfl rfl rfl ?_
  refine wp_seg 1 (P := none) (ls' := LL i (some (aI kk)) (some (aI v)) none) (st' := [aI kk, aI ((md A (a 16) F) 11 0 6)]) (σ' := (md A (a 16) F)) rq_278 rfl True.intro (i' := 243) rfl ?_
  refine wp_icmp rq_278 rfl (fun _ => ?_) (fun hne => absurd (show (md A (a 16) F) 11 0 6 = kk from (md_o (by decide) (by decide)).trans hkk) hne)
  refine wp_seg 1 (P := none) (ls' := LL i (some (aI kk)) (some (aI v)) none) (st' := [aI kk]) (σ' := (md A (a 16) F)) rq_278 rfl True.intro (i' := 247) rfl ?_
  refine wp_if rq_278 rfl (fun _ => ?_) (fun h0 => ?_)
  · exact wp_goto rq_278 rfl (wp_weak LL_w (nx _ N _ _ (J_md hJF) (by omega) (by omega) (h17b.trans h17) (by omega) (by omega)))
  · have h0 : kk = 0 := Decidable.of_not_not h0
    refine wp_seg 6 (P := some ((0 : Int) = 0)) (ls' := LL i (some (aI kk)) (some (aI v)) none) (st' := [aI (lcmpI ((md A (a 16) F) 15 0 0) v)]) (σ' := (md A (a 16) F)) rq_278 rfl rfl (i' := 254) rfl ?_
    refine wp_if rq_278 rfl (fun _ => ?_) (fun h1 => absurd (show lcmpI ((md A (a 16) F) 15 0 0) v = 0 from lcmp_0 (hA h0)) h1)
    exact wp_goto rq_278 rfl (wp_weak LL_w (nx _ N _ _ (J_md hJF) (by omega) (by omega) (h17b.trans h17) (by omega) (by omega)))
set_option maxRecDepth 100000 in
theorem ls_member (hJ : J N σ σ) (hN : 0 ≤ N ∧ N < 2147483647) (hi : 0 ≤ i) (hL : i + 5 ≤ σ 17 0 (-1)) (hM : σ 17 0 (-1) < 2147483648) (hc : c + 5 ≤ 603072) (hs : s + 30 ≤ 7198826) (nx : Nxt i c s N σ Q) : wp true 278 258 (LL i none none none) [] σ c s Q := by
  refine wp_wf (fun hw hl => ?_)
  have hg := G_wf hw
  have e1 : wr (i + 1) = i + 1 := wr_eq (by omega) (by omega)
  have e2 : wr (i + 2) = i + 2 := wr_eq (by omega) (by omega)
  obtain ⟨o, a, hev, ⟨v, F, hF, hJF, hag⟩, hE⟩ := pr_member (b := σ 17 0 (wr (i + 1))) (x := σ 17 0 (wr (i + 2))) hJ
  refine wp_seg 12 (P := some ((0 ≤ wr (i + 1) ∧ wr (i + 1) < alen σ 17 0) ∧ (0 ≤ wr (i + 2) ∧ wr (i + 2) < alen σ 17 0))) (ls' := LL i none none none) (st' := [aR 15 0, aI (σ 17 0 (wr (i + 2))), aI (σ 17 0 (wr (i + 1))), aR 10 0]) (σ' := σ) rq_278 rfl ?_ (i' := 270) rfl ?_
  · show (0 ≤ wr (i + 1) ∧ wr (i + 1) < σ 17 0 (-1)) ∧ (0 ≤ wr (i + 2) ∧ wr (i + 2) < σ 17 0 (-1))
    omega
  have k1 := mh_at (k := 250) (by decide)
  refine wp_callQ (C := 0) (As := [aR 10 0, aI (σ 17 0 (wr (i + 1))), aI (σ 17 0 (wr (i + 2))), aR 15 0]) (rest := []) rq_278 rfl rfl (clOK_of (show clQw 278 250 2 4 0 = true by decide +kernel) (by rw [m278.1]; omega) (by rw [m278.2]; omega)) rfl (show 0 ≤ 4 by decide) (fun z => absurd rfl z) rfl (wp_17 (hl_member hev hg (Ho_of hag hE))) (fun v2 τ hq => ?_) (fun E τ hq => by obtain ⟨-, _, _, z, -⟩ := hq; cases z)
  obtain ⟨h17, kk, A, e9, rfl, hsm, hk⟩ := hq
  cases e9
  obtain ⟨hkk, hA⟩ := agr_k hag hk
  refine wp_seg 12 (P := some ((0 ≤ wr (i + 1) ∧ wr (i + 1) < alen (md A (a 16) a) 17 0) ∧ (0 ≤ wr (i + 2) ∧ wr (i + 2) < alen (md A (a 16) a) 17 0))) (ls' := LL i (some (aI kk)) none none) (st' := [aI ((md A (a 16) a) 17 0 (wr (i + 2))), aI ((md A (a 16) a) 17 0 (wr (i + 1))), aR 11 0]) (σ' := (md A (a 16) a)) rq_278 rfl ?_ (i' := 283) rfl ?_
  · show (0 ≤ wr (i + 1) ∧ wr (i + 1) < (md A (a 16) a) 17 0 (-1)) ∧ (0 ≤ wr (i + 2) ∧ wr (i + 2) < (md A (a 16) a) 17 0 (-1))
    rw [h17]
    omega
  rw [h17]
  have k2 := mm_at (k := 181) (by decide)
  refine wp_callQ (C := 11) (As := [aR 11 0, aI (σ 17 0 (wr (i + 1))), aI (σ 17 0 (wr (i + 2)))]) (rest := []) rq_278 rfl rfl (clOK_of (show clQw 278 181 0 3 11 = true by decide +kernel) (by rw [m278.1]; omega) (by rw [m278.2]; omega)) rfl (show 0 ≤ 4 by decide) (fun _ => ⟨_, rfl⟩) rfl (wp_17 (ev_frame (A := A) (B := a 16) hF (noS_of rfl) (G_same hsm hg))) (fun v2 τ hq => ?_) (fun E τ hq => by cases hq.2.1)
  obtain ⟨h17b, e9, rfl⟩ := hq
  cases e9
  refine wp_seg 2 (P := none) (ls' := LL i (some (aI kk)) (some (aI v)) none) (st' := [aR 11 0]) (σ' := (md A (a 16) F)) rq_278 rfl True.intro (i' := 286) rfl ?_
  have k3 := mm_at (k := 152) (by decide)
  refine wp_call (C := 11) (As := [aR 11 0]) (rest := []) rq_278 (ev_mthrown _) rfl rfl (clOK_of (show clQw 278 152 0 1 11 = true by decide +kernel) (by rw [m278.1]; omega) (by rw [m278.2]; omega)) rfl (show 0 ≤ 4 by decide) (fun _ => ⟨_, rfl⟩) rfl rfl rfl ?_
  refine wp_seg 1 (P := none) (ls' := LL i (some (aI kk)) (some (aI v)) none) (st' := [aI kk, aI ((md A (a 16) F) 11 0 6)]) (σ' := (md A (a 16) F)) rq_278 rfl True.intro (i' := 288) rfl ?_
  refine wp_icmp rq_278 rfl (fun _ => ?_) (fun hne => absurd (show (md A (a 16) F) 11 0 6 = kk from (md_o (by decide) (by decide)).trans hkk) hne)
  refine wp_seg 1 (P := none) (ls' := LL i (some (aI kk)) (some (aI v)) none) (st' := [aI kk]) (σ' := (md A (a 16) F)) rq_278 rfl True.intro (i' := 292) rfl ?_
  refine wp_if rq_278 rfl (fun _ => ?_) (fun h0 => ?_)
  · exact wp_goto rq_278 rfl (wp_weak LL_w (nx _ N _ _ (J_md hJF) (by omega) (by omega) (h17b.trans h17) (by omega) (by omega)))
  · have h0 : kk = 0 := Decidable.of_not_not h0
    refine wp_seg 6 (P := some ((0 : Int) = 0)) (ls' := LL i (some (aI kk)) (some (aI v)) none) (st' := [aI (lcmpI ((md A (a 16) F) 15 0 0) v)]) (σ' := (md A (a 16) F)) rq_278 rfl rfl (i' := 299) rfl ?_
    refine wp_if rq_278 rfl (fun _ => ?_) (fun h1 => absurd (show lcmpI ((md A (a 16) F) 15 0 0) v = 0 from lcmp_0 (hA h0)) h1)
    exact wp_goto rq_278 rfl (wp_weak LL_w (nx _ N _ _ (J_md hJF) (by omega) (by omega) (h17b.trans h17) (by omega) (by omega)))
set_option maxRecDepth 100000 in
theorem ls_bout (hJ : J N σ σ) (hN : 0 ≤ N ∧ N < 2147483647) (hi : 0 ≤ i) (hL : i + 5 ≤ σ 17 0 (-1)) (hM : σ 17 0 (-1) < 2147483648) (hc : c + 5 ≤ 603072) (hs : s + 30 ≤ 7198826) (nx : Nxt i c s N σ Q) : wp true 278 310 (LL i none none none) [] σ c s Q := by
  refine wp_wf (fun hw hl => ?_)
  have hg := G_wf hw
  have e1 : wr (i + 1) = i + 1 := wr_eq (by omega) (by omega)
  have e2 : wr (i + 2) = i + 2 := wr_eq (by omega) (by omega)
  obtain ⟨o, a, hev, ⟨v, F, hF, hJF, hag⟩, hE⟩ := pr_bout (b := σ 17 0 (wr (i + 1))) (x := σ 17 0 (wr (i + 2))) hJ
  refine wp_seg 12 (P := some ((0 ≤ wr (i + 1) ∧ wr (i + 1) < alen σ 17 0) ∧ (0 ≤ wr (i + 2) ∧ wr (i + 2) < alen σ 17 0))) (ls' := LL i none none none) (st' := [aR 15 0, aI (σ 17 0 (wr (i + 2))), aI (σ 17 0 (wr (i + 1))), aR 10 0]) (σ' := σ) rq_278 rfl ?_ (i' := 322) rfl ?_
  · show (0 ≤ wr (i + 1) ∧ wr (i + 1) < σ 17 0 (-1)) ∧ (0 ≤ wr (i + 2) ∧ wr (i + 2) < σ 17 0 (-1))
    omega
  have k1 := mh_at (k := 251) (by decide)
  refine wp_callQ (C := 0) (As := [aR 10 0, aI (σ 17 0 (wr (i + 1))), aI (σ 17 0 (wr (i + 2))), aR 15 0]) (rest := []) rq_278 rfl rfl (clOK_of (show clQw 278 251 2 4 0 = true by decide +kernel) (by rw [m278.1]; omega) (by rw [m278.2]; omega)) rfl (show 0 ≤ 4 by decide) (fun z => absurd rfl z) rfl (wp_17 (hl_bout hev hg (Ho_of hag hE))) (fun v2 τ hq => ?_) (fun E τ hq => by obtain ⟨-, _, _, z, -⟩ := hq; cases z)
  obtain ⟨h17, kk, A, e9, rfl, hsm, hk⟩ := hq
  cases e9
  obtain ⟨hkk, hA⟩ := agr_k hag hk
  refine wp_seg 12 (P := some ((0 ≤ wr (i + 1) ∧ wr (i + 1) < alen (md A (a 16) a) 17 0) ∧ (0 ≤ wr (i + 2) ∧ wr (i + 2) < alen (md A (a 16) a) 17 0))) (ls' := LL i (some (aI kk)) none none) (st' := [aI ((md A (a 16) a) 17 0 (wr (i + 2))), aI ((md A (a 16) a) 17 0 (wr (i + 1))), aR 11 0]) (σ' := (md A (a 16) a)) rq_278 rfl ?_ (i' := 335) rfl ?_
  · show (0 ≤ wr (i + 1) ∧ wr (i + 1) < (md A (a 16) a) 17 0 (-1)) ∧ (0 ≤ wr (i + 2) ∧ wr (i + 2) < (md A (a 16) a) 17 0 (-1))
    rw [h17]
    omega
  rw [h17]
  have k2 := mm_at (k := 186) (by decide)
  refine wp_callQ (C := 11) (As := [aR 11 0, aI (σ 17 0 (wr (i + 1))), aI (σ 17 0 (wr (i + 2)))]) (rest := []) rq_278 rfl rfl (clOK_of (show clQw 278 186 0 3 11 = true by decide +kernel) (by rw [m278.1]; omega) (by rw [m278.2]; omega)) rfl (show 0 ≤ 4 by decide) (fun _ => ⟨_, rfl⟩) rfl (wp_17 (ev_frame (A := A) (B := a 16) hF (noS_of rfl) (G_same hsm hg))) (fun v2 τ hq => ?_) (fun E τ hq => by cases hq.2.1)
  obtain ⟨h17b, e9, rfl⟩ := hq
  cases e9
  refine wp_seg 2 (P := none) (ls' := LL i (some (aI kk)) (some (aI v)) none) (st' := [aR 11 0]) (σ' := (md A (a 16) F)) rq_278 rfl True.intro (i' := 338) rfl ?_
  have k3 := mm_at (k := 152) (by decide)
  refine wp_call (C := 11) (As := [aR 11 0]) (rest := []) rq_278 (ev_mthrown _) rfl rfl (clOK_of (show clQw 278 152 0 1 11 = true by decide +kernel) (by rw [m278.1]; omega) (by rw [m278.2]; omega)) rfl (show 0 ≤ 4 by decide) (fun _ => ⟨_, rfl⟩) rfl rfl rfl ?_
  refine wp_seg 1 (P := none) (ls' := LL i (some (aI kk)) (some (aI v)) none) (st' := [aI kk, aI ((md A (a 16) F) 11 0 6)]) (σ' := (md A (a 16) F)) rq_278 rfl True.intro (i' := 340) rfl ?_
  refine wp_icmp rq_278 rfl (fun _ => ?_) (fun hne => absurd (show (md A (a 16) F) 11 0 6 = kk from (md_o (by decide) (by decide)).trans hkk) hne)
  refine wp_seg 1 (P := none) (ls' := LL i (some (aI kk)) (some (aI v)) none) (st' := [aI kk]) (σ' := (md A (a 16) F)) rq_278 rfl True.intro (i' := 344) rfl ?_
  refine wp_if rq_278 rfl (fun _ => ?_) (fun h0 => ?_)
  · exact wp_goto rq_278 rfl (wp_weak LL_w (nx _ N _ _ (J_md hJF) (by omega) (by omega) (h17b.trans h17) (by omega) (by omega)))
  · have h0 : kk = 0 := Decidable.of_not_not h0
    refine wp_seg 6 (P := some ((0 : Int) = 0)) (ls' := LL i (some (aI kk)) (some (aI v)) none) (st' := [aI (lcmpI ((md A (a 16) F) 15 0 0) v)]) (σ' := (md A (a 16) F)) rq_278 rfl rfl (i' := 351) rfl ?_
    refine wp_if rq_278 rfl (fun _ => ?_) (fun h1 => absurd (show lcmpI ((md A (a 16) F) 15 0 0) v = 0 from lcmp_0 (hA h0)) h1)
    exact wp_goto rq_278 rfl (wp_weak LL_w (nx _ N _ _ (J_md hJF) (by omega) (by omega) (h17b.trans h17) (by omega) (by omega)))
set_option maxRecDepth 100000 in
theorem ls_current (hJ : J N σ σ) (hN : 0 ≤ N ∧ N < 2147483647) (hi : 0 ≤ i) (hL : i + 5 ≤ σ 17 0 (-1)) (hM : σ 17 0 (-1) < 2147483648) (hc : c + 5 ≤ 603072) (hs : s + 30 ≤ 7198826) (nx : Nxt i c s N σ Q) : wp true 278 355 (LL i none none none) [] σ c s Q := by
  refine wp_wf (fun hw hl => ?_)
  have hg := G_wf hw
  obtain ⟨o, a, hev, ⟨v, F, hF, hJF, hag⟩, hE⟩ := pr_current  hJ
  refine wp_seg 2 (P := none) (ls' := LL i none none none) (st' := [aR 15 0, aR 10 0]) (σ' := σ) rq_278 rfl True.intro (i' := 357) rfl ?_
  have k1 := mh_at (k := 252) (by decide)
  refine wp_callQ (C := 0) (As := [aR 10 0, aR 15 0]) (rest := []) rq_278 rfl rfl (clOK_of (show clQw 278 252 2 2 0 = true by decide +kernel) (by rw [m278.1]; omega) (by rw [m278.2]; omega)) rfl (show 0 ≤ 4 by decide) (fun z => absurd rfl z) rfl (wp_17 (hl_current hev hg (Ho_of hag hE))) (fun v2 τ hq => ?_) (fun E τ hq => by obtain ⟨-, _, _, z, -⟩ := hq; cases z)
  obtain ⟨h17, kk, A, e9, rfl, hsm, hk⟩ := hq
  cases e9
  obtain ⟨hkk, hA⟩ := agr_k hag hk
  refine wp_seg 2 (P := none) (ls' := LL i (some (aI kk)) none none) (st' := [aR 11 0]) (σ' := (md A (a 16) a)) rq_278 rfl True.intro (i' := 360) rfl ?_
  have k2 := mm_at (k := 187) (by decide)
  refine wp_callQ (C := 11) (As := [aR 11 0]) (rest := []) rq_278 rfl rfl (clOK_of (show clQw 278 187 0 1 11 = true by decide +kernel) (by rw [m278.1]; omega) (by rw [m278.2]; omega)) rfl (show 0 ≤ 4 by decide) (fun _ => ⟨_, rfl⟩) rfl (wp_17 (ev_frame (A := A) (B := a 16) hF (noS_of rfl) (G_same hsm hg))) (fun v2 τ hq => ?_) (fun E τ hq => by cases hq.2.1)
  obtain ⟨h17b, e9, rfl⟩ := hq
  cases e9
  refine wp_seg 2 (P := none) (ls' := LL i (some (aI kk)) (some (aI v)) none) (st' := [aR 11 0]) (σ' := (md A (a 16) F)) rq_278 rfl True.intro (i' := 363) rfl ?_
  have k3 := mm_at (k := 152) (by decide)
  refine wp_call (C := 11) (As := [aR 11 0]) (rest := []) rq_278 (ev_mthrown _) rfl rfl (clOK_of (show clQw 278 152 0 1 11 = true by decide +kernel) (by rw [m278.1]; omega) (by rw [m278.2]; omega)) rfl (show 0 ≤ 4 by decide) (fun _ => ⟨_, rfl⟩) rfl rfl rfl ?_
  refine wp_seg 1 (P := none) (ls' := LL i (some (aI kk)) (some (aI v)) none) (st' := [aI kk, aI ((md A (a 16) F) 11 0 6)]) (σ' := (md A (a 16) F)) rq_278 rfl True.intro (i' := 365) rfl ?_
  refine wp_icmp rq_278 rfl (fun _ => ?_) (fun hne => absurd (show (md A (a 16) F) 11 0 6 = kk from (md_o (by decide) (by decide)).trans hkk) hne)
  refine wp_seg 1 (P := none) (ls' := LL i (some (aI kk)) (some (aI v)) none) (st' := [aI kk]) (σ' := (md A (a 16) F)) rq_278 rfl True.intro (i' := 369) rfl ?_
  refine wp_if rq_278 rfl (fun _ => ?_) (fun h0 => ?_)
  · exact wp_goto rq_278 rfl (wp_weak LL_w (nx _ N _ _ (J_md hJF) (by omega) (by omega) (h17b.trans h17) (by omega) (by omega)))
  · have h0 : kk = 0 := Decidable.of_not_not h0
    refine wp_seg 6 (P := some ((0 : Int) = 0)) (ls' := LL i (some (aI kk)) (some (aI v)) none) (st' := [aI (lcmpI ((md A (a 16) F) 15 0 0) v)]) (σ' := (md A (a 16) F)) rq_278 rfl rfl (i' := 376) rfl ?_
    refine wp_if rq_278 rfl (fun _ => ?_) (fun h1 => absurd (show lcmpI ((md A (a 16) F) 15 0 0) v = 0 from lcmp_0 (hA h0)) h1)
    exact wp_goto rq_278 rfl (wp_weak LL_w (nx _ N _ _ (J_md hJF) (by omega) (by omega) (h17b.trans h17) (by omega) (by omega)))
set_option maxRecDepth 100000 in
theorem ls_poolBout (hJ : J N σ σ) (hN : 0 ≤ N ∧ N < 2147483647) (hi : 0 ≤ i) (hL : i + 5 ≤ σ 17 0 (-1)) (hM : σ 17 0 (-1) < 2147483648) (hc : c + 5 ≤ 603072) (hs : s + 30 ≤ 7198826) (nx : Nxt i c s N σ Q) : wp true 278 380 (LL i none none none) [] σ c s Q := by
  refine wp_wf (fun hw hl => ?_)
  have hg := G_wf hw
  have e1 : wr (i + 1) = i + 1 := wr_eq (by omega) (by omega)
  have e2 : wr (i + 2) = i + 2 := wr_eq (by omega) (by omega)
  obtain ⟨o, a, hev, ⟨v, F, hF, hJF, hag⟩, hE⟩ := pr_poolBout (b := σ 17 0 (wr (i + 1))) (x := σ 17 0 (wr (i + 2))) hJ
  refine wp_seg 12 (P := some ((0 ≤ wr (i + 1) ∧ wr (i + 1) < alen σ 17 0) ∧ (0 ≤ wr (i + 2) ∧ wr (i + 2) < alen σ 17 0))) (ls' := LL i none none none) (st' := [aR 15 0, aI (σ 17 0 (wr (i + 2))), aI (σ 17 0 (wr (i + 1))), aR 10 0]) (σ' := σ) rq_278 rfl ?_ (i' := 392) rfl ?_
  · show (0 ≤ wr (i + 1) ∧ wr (i + 1) < σ 17 0 (-1)) ∧ (0 ≤ wr (i + 2) ∧ wr (i + 2) < σ 17 0 (-1))
    omega
  have k1 := mh_at (k := 253) (by decide)
  refine wp_callQ (C := 0) (As := [aR 10 0, aI (σ 17 0 (wr (i + 1))), aI (σ 17 0 (wr (i + 2))), aR 15 0]) (rest := []) rq_278 rfl rfl (clOK_of (show clQw 278 253 2 4 0 = true by decide +kernel) (by rw [m278.1]; omega) (by rw [m278.2]; omega)) rfl (show 0 ≤ 4 by decide) (fun z => absurd rfl z) rfl (wp_17 (hl_poolBout hev hg (Ho_of hag hE))) (fun v2 τ hq => ?_) (fun E τ hq => by obtain ⟨-, _, _, z, -⟩ := hq; cases z)
  obtain ⟨h17, kk, A, e9, rfl, hsm, hk⟩ := hq
  cases e9
  obtain ⟨hkk, hA⟩ := agr_k hag hk
  refine wp_seg 12 (P := some ((0 ≤ wr (i + 1) ∧ wr (i + 1) < alen (md A (a 16) a) 17 0) ∧ (0 ≤ wr (i + 2) ∧ wr (i + 2) < alen (md A (a 16) a) 17 0))) (ls' := LL i (some (aI kk)) none none) (st' := [aI ((md A (a 16) a) 17 0 (wr (i + 2))), aI ((md A (a 16) a) 17 0 (wr (i + 1))), aR 11 0]) (σ' := (md A (a 16) a)) rq_278 rfl ?_ (i' := 405) rfl ?_
  · show (0 ≤ wr (i + 1) ∧ wr (i + 1) < (md A (a 16) a) 17 0 (-1)) ∧ (0 ≤ wr (i + 2) ∧ wr (i + 2) < (md A (a 16) a) 17 0 (-1))
    rw [h17]
    omega
  rw [h17]
  have k2 := mm_at (k := 188) (by decide)
  refine wp_callQ (C := 11) (As := [aR 11 0, aI (σ 17 0 (wr (i + 1))), aI (σ 17 0 (wr (i + 2)))]) (rest := []) rq_278 rfl rfl (clOK_of (show clQw 278 188 0 3 11 = true by decide +kernel) (by rw [m278.1]; omega) (by rw [m278.2]; omega)) rfl (show 0 ≤ 4 by decide) (fun _ => ⟨_, rfl⟩) rfl (wp_17 (ev_frame (A := A) (B := a 16) hF (noS_of rfl) (G_same hsm hg))) (fun v2 τ hq => ?_) (fun E τ hq => by cases hq.2.1)
  obtain ⟨h17b, e9, rfl⟩ := hq
  cases e9
  refine wp_seg 2 (P := none) (ls' := LL i (some (aI kk)) (some (aI v)) none) (st' := [aR 11 0]) (σ' := (md A (a 16) F)) rq_278 rfl True.intro (i' := 408) rfl ?_
  have k3 := mm_at (k := 152) (by decide)
  refine wp_call (C := 11) (As := [aR 11 0]) (rest := []) rq_278 (ev_mthrown _) rfl rfl (clOK_of (show clQw 278 152 0 1 11 = true by decide +kernel) (by rw [m278.1]; omega) (by rw [m278.2]; omega)) rfl (show 0 ≤ 4 by decide) (fun _ => ⟨_, rfl⟩) rfl rfl rfl ?_
  refine wp_seg 1 (P := none) (ls' := LL i (some (aI kk)) (some (aI v)) none) (st' := [aI kk, aI ((md A (a 16) F) 11 0 6)]) (σ' := (md A (a 16) F)) rq_278 rfl True.intro (i' := 410) rfl ?_
  refine wp_icmp rq_278 rfl (fun _ => ?_) (fun hne => absurd (show (md A (a 16) F) 11 0 6 = kk from (md_o (by decide) (by decide)).trans hkk) hne)
  refine wp_seg 1 (P := none) (ls' := LL i (some (aI kk)) (some (aI v)) none) (st' := [aI kk]) (σ' := (md A (a 16) F)) rq_278 rfl True.intro (i' := 414) rfl ?_
  refine wp_if rq_278 rfl (fun _ => ?_) (fun h0 => ?_)
  · exact wp_goto rq_278 rfl (wp_weak LL_w (nx _ N _ _ (J_md hJF) (by omega) (by omega) (h17b.trans h17) (by omega) (by omega)))
  · have h0 : kk = 0 := Decidable.of_not_not h0
    refine wp_seg 6 (P := some ((0 : Int) = 0)) (ls' := LL i (some (aI kk)) (some (aI v)) none) (st' := [aI (lcmpI ((md A (a 16) F) 15 0 0) v)]) (σ' := (md A (a 16) F)) rq_278 rfl rfl (i' := 421) rfl ?_
    refine wp_if rq_278 rfl (fun _ => ?_) (fun h1 => absurd (show lcmpI ((md A (a 16) F) 15 0 0) v = 0 from lcmp_0 (hA h0)) h1)
    exact wp_goto rq_278 rfl (wp_weak LL_w (nx _ N _ _ (J_md hJF) (by omega) (by omega) (h17b.trans h17) (by omega) (by omega)))
set_option maxRecDepth 100000 in
theorem ls_begin (hJ : J N σ σ) (hN : 0 ≤ N ∧ N < 2147483647) (hi : 0 ≤ i) (hL : i + 5 ≤ σ 17 0 (-1)) (hM : σ 17 0 (-1) < 2147483648) (hc : c + 5 ≤ 603072) (hs : s + 30 ≤ 7198826) (nx : Nxt i c s N σ Q) : wp true 278 425 (LL i none none none) [] σ c s Q := by
  refine wp_wf (fun hw hl => ?_)
  have hg := G_wf hw
  have e1 : wr (i + 1) = i + 1 := wr_eq (by omega) (by omega)
  obtain ⟨o, a, hev, ⟨v, F, hF, hJF, hag⟩, hE⟩ := pr_begin (b := σ 17 0 (wr (i + 1))) hJ hN.1
  refine wp_seg 7 (P := some ((0 ≤ wr (i + 1) ∧ wr (i + 1) < alen σ 17 0))) (ls' := LL i none none none) (st' := [aR 15 0, aI (σ 17 0 (wr (i + 1))), aR 10 0]) (σ' := σ) rq_278 rfl ?_ (i' := 432) rfl ?_
  · show (0 ≤ wr (i + 1) ∧ wr (i + 1) < σ 17 0 (-1))
    omega
  have k1 := mh_at (k := 254) (by decide)
  refine wp_callQ (C := 0) (As := [aR 10 0, aI (σ 17 0 (wr (i + 1))), aR 15 0]) (rest := []) rq_278 rfl rfl (clOK_of (show clQw 278 254 2 3 0 = true by decide +kernel) (by rw [m278.1]; omega) (by rw [m278.2]; omega)) rfl (show 0 ≤ 4 by decide) (fun z => absurd rfl z) rfl (wp_17 (hl_begin hev hg (Ho_of hag hE))) (fun v2 τ hq => ?_) (fun E τ hq => by obtain ⟨-, _, _, z, -⟩ := hq; cases z)
  obtain ⟨h17, kk, A, e9, rfl, hsm, hk⟩ := hq
  cases e9
  obtain ⟨hkk, hA⟩ := agr_k hag hk
  refine wp_seg 7 (P := some ((0 ≤ wr (i + 1) ∧ wr (i + 1) < alen (md A (a 16) a) 17 0))) (ls' := LL i (some (aI kk)) none none) (st' := [aI ((md A (a 16) a) 17 0 (wr (i + 1))), aR 11 0]) (σ' := (md A (a 16) a)) rq_278 rfl ?_ (i' := 440) rfl ?_
  · show (0 ≤ wr (i + 1) ∧ wr (i + 1) < (md A (a 16) a) 17 0 (-1))
    rw [h17]
    omega
  rw [h17]
  have k2 := mm_at (k := 190) (by decide)
  refine wp_callQ (C := 11) (As := [aR 11 0, aI (σ 17 0 (wr (i + 1)))]) (rest := []) rq_278 rfl rfl (clOK_of (show clQw 278 190 0 2 11 = true by decide +kernel) (by rw [m278.1]; omega) (by rw [m278.2]; omega)) rfl (show 0 ≤ 4 by decide) (fun _ => ⟨_, rfl⟩) rfl (wp_17 (ev_frame (A := A) (B := a 16) hF (noS_of rfl) (G_same hsm hg))) (fun v2 τ hq => ?_) (fun E τ hq => by cases hq.2.1)
  obtain ⟨h17b, e9, rfl⟩ := hq
  cases e9
  refine wp_seg 2 (P := none) (ls' := LL i (some (aI kk)) (some (aI v)) none) (st' := [aR 11 0]) (σ' := (md A (a 16) F)) rq_278 rfl True.intro (i' := 443) rfl ?_
  have k3 := mm_at (k := 152) (by decide)
  refine wp_call (C := 11) (As := [aR 11 0]) (rest := []) rq_278 (ev_mthrown _) rfl rfl (clOK_of (show clQw 278 152 0 1 11 = true by decide +kernel) (by rw [m278.1]; omega) (by rw [m278.2]; omega)) rfl (show 0 ≤ 4 by decide) (fun _ => ⟨_, rfl⟩) rfl rfl rfl ?_
  refine wp_seg 1 (P := none) (ls' := LL i (some (aI kk)) (some (aI v)) none) (st' := [aI kk, aI ((md A (a 16) F) 11 0 6)]) (σ' := (md A (a 16) F)) rq_278 rfl True.intro (i' := 445) rfl ?_
  refine wp_icmp rq_278 rfl (fun _ => ?_) (fun hne => absurd (show (md A (a 16) F) 11 0 6 = kk from (md_o (by decide) (by decide)).trans hkk) hne)
  refine wp_seg 1 (P := none) (ls' := LL i (some (aI kk)) (some (aI v)) none) (st' := [aI kk]) (σ' := (md A (a 16) F)) rq_278 rfl True.intro (i' := 449) rfl ?_
  refine wp_if rq_278 rfl (fun _ => ?_) (fun h0 => ?_)
  · exact wp_goto rq_278 rfl (wp_weak LL_w (nx _ N _ _ (J_md hJF) (by omega) (by omega) (h17b.trans h17) (by omega) (by omega)))
  · have h0 : kk = 0 := Decidable.of_not_not h0
    refine wp_seg 6 (P := some ((0 : Int) = 0)) (ls' := LL i (some (aI kk)) (some (aI v)) none) (st' := [aI (lcmpI ((md A (a 16) F) 15 0 0) v)]) (σ' := (md A (a 16) F)) rq_278 rfl rfl (i' := 456) rfl ?_
    refine wp_if rq_278 rfl (fun _ => ?_) (fun h1 => absurd (show lcmpI ((md A (a 16) F) 15 0 0) v = 0 from lcmp_0 (hA h0)) h1)
    exact wp_goto rq_278 rfl (wp_weak LL_w (nx _ N _ _ (J_md hJF) (by omega) (by omega) (h17b.trans h17) (by omega) (by omega)))
set_option maxRecDepth 100000 in
theorem ls_touch (hJ : J N σ σ) (hN : 0 ≤ N ∧ N < 2147483647) (hi : 0 ≤ i) (hL : i + 5 ≤ σ 17 0 (-1)) (hM : σ 17 0 (-1) < 2147483648) (hc : c + 5 ≤ 603072) (hs : s + 30 ≤ 7198826) (nx : Nxt i c s N σ Q) : wp true 278 460 (LL i none none none) [] σ c s Q := by
  refine wp_wf (fun hw hl => ?_)
  have hg := G_wf hw
  have e1 : wr (i + 1) = i + 1 := wr_eq (by omega) (by omega)
  obtain ⟨o, a, hev, ⟨v, F, hF, hJF, hag⟩, hE⟩ := pr_touch (b := σ 17 0 (wr (i + 1))) hJ
  refine wp_seg 7 (P := some ((0 ≤ wr (i + 1) ∧ wr (i + 1) < alen σ 17 0))) (ls' := LL i none none none) (st' := [aR 15 0, aI (σ 17 0 (wr (i + 1))), aR 10 0]) (σ' := σ) rq_278 rfl ?_ (i' := 467) rfl ?_
  · show (0 ≤ wr (i + 1) ∧ wr (i + 1) < σ 17 0 (-1))
    omega
  have k1 := mh_at (k := 255) (by decide)
  refine wp_callQ (C := 0) (As := [aR 10 0, aI (σ 17 0 (wr (i + 1))), aR 15 0]) (rest := []) rq_278 rfl rfl (clOK_of (show clQw 278 255 2 3 0 = true by decide +kernel) (by rw [m278.1]; omega) (by rw [m278.2]; omega)) rfl (show 0 ≤ 4 by decide) (fun z => absurd rfl z) rfl (wp_17 (hl_touch hev hg (Ho_of hag hE))) (fun v2 τ hq => ?_) (fun E τ hq => by obtain ⟨-, _, _, z, -⟩ := hq; cases z)
  obtain ⟨h17, kk, A, e9, rfl, hsm, hk⟩ := hq
  cases e9
  obtain ⟨hkk, hA⟩ := agr_k hag hk
  refine wp_seg 7 (P := some ((0 ≤ wr (i + 1) ∧ wr (i + 1) < alen (md A (a 16) a) 17 0))) (ls' := LL i (some (aI kk)) none none) (st' := [aI ((md A (a 16) a) 17 0 (wr (i + 1))), aR 11 0]) (σ' := (md A (a 16) a)) rq_278 rfl ?_ (i' := 475) rfl ?_
  · show (0 ≤ wr (i + 1) ∧ wr (i + 1) < (md A (a 16) a) 17 0 (-1))
    rw [h17]
    omega
  rw [h17]
  have k2 := mm_at (k := 196) (by decide)
  refine wp_callQ (C := 11) (As := [aR 11 0, aI (σ 17 0 (wr (i + 1)))]) (rest := []) rq_278 rfl rfl (clOK_of (show clQw 278 196 0 2 11 = true by decide +kernel) (by rw [m278.1]; omega) (by rw [m278.2]; omega)) rfl (show 0 ≤ 4 by decide) (fun _ => ⟨_, rfl⟩) rfl (wp_17 (ev_frame (A := A) (B := a 16) hF (noS_of rfl) (G_same hsm hg))) (fun v2 τ hq => ?_) (fun E τ hq => by cases hq.2.1)
  obtain ⟨h17b, e9, rfl⟩ := hq
  cases e9
  refine wp_seg 2 (P := none) (ls' := LL i (some (aI kk)) (some (aI v)) none) (st' := [aR 11 0]) (σ' := (md A (a 16) F)) rq_278 rfl True.intro (i' := 478) rfl ?_
  have k3 := mm_at (k := 152) (by decide)
  refine wp_call (C := 11) (As := [aR 11 0]) (rest := []) rq_278 (ev_mthrown _) rfl rfl (clOK_of (show clQw 278 152 0 1 11 = true by decide +kernel) (by rw [m278.1]; omega) (by rw [m278.2]; omega)) rfl (show 0 ≤ 4 by decide) (fun _ => ⟨_, rfl⟩) rfl rfl rfl ?_
  refine wp_seg 1 (P := none) (ls' := LL i (some (aI kk)) (some (aI v)) none) (st' := [aI kk, aI ((md A (a 16) F) 11 0 6)]) (σ' := (md A (a 16) F)) rq_278 rfl True.intro (i' := 480) rfl ?_
  refine wp_icmp rq_278 rfl (fun _ => ?_) (fun hne => absurd (show (md A (a 16) F) 11 0 6 = kk from (md_o (by decide) (by decide)).trans hkk) hne)
  refine wp_seg 1 (P := none) (ls' := LL i (some (aI kk)) (some (aI v)) none) (st' := [aI kk]) (σ' := (md A (a 16) F)) rq_278 rfl True.intro (i' := 484) rfl ?_
  refine wp_if rq_278 rfl (fun _ => ?_) (fun h0 => ?_)
  · exact wp_goto rq_278 rfl (wp_weak LL_w (nx _ N _ _ (J_md hJF) (by omega) (by omega) (h17b.trans h17) (by omega) (by omega)))
  · have h0 : kk = 0 := Decidable.of_not_not h0
    refine wp_seg 6 (P := some ((0 : Int) = 0)) (ls' := LL i (some (aI kk)) (some (aI v)) none) (st' := [aI (lcmpI ((md A (a 16) F) 15 0 0) v)]) (σ' := (md A (a 16) F)) rq_278 rfl rfl (i' := 491) rfl ?_
    refine wp_if rq_278 rfl (fun _ => ?_) (fun h1 => absurd (show lcmpI ((md A (a 16) F) 15 0 0) v = 0 from lcmp_0 (hA h0)) h1)
    exact wp_goto rq_278 rfl (wp_weak LL_w (nx _ N _ _ (J_md hJF) (by omega) (by omega) (h17b.trans h17) (by omega) (by omega)))
set_option maxRecDepth 100000 in
theorem ls_time (hJ : J N σ σ) (hN : 0 ≤ N ∧ N < 2147483647) (hi : 0 ≤ i) (hL : i + 5 ≤ σ 17 0 (-1)) (hM : σ 17 0 (-1) < 2147483648) (hc : c + 5 ≤ 603072) (hs : s + 30 ≤ 7198826) (nx : Nxt i c s N σ Q) : wp true 278 495 (LL i none none none) [] σ c s Q := by
  refine wp_wf (fun hw hl => ?_)
  have hg := G_wf hw
  obtain ⟨o, a, hev, ⟨v, F, hF, hJF, hag⟩, hE⟩ := pr_time  hJ
  refine wp_seg 2 (P := none) (ls' := LL i none none none) (st' := [aR 15 0, aR 10 0]) (σ' := σ) rq_278 rfl True.intro (i' := 497) rfl ?_
  have k1 := mh_at (k := 256) (by decide)
  refine wp_callQ (C := 0) (As := [aR 10 0, aR 15 0]) (rest := []) rq_278 rfl rfl (clOK_of (show clQw 278 256 2 2 0 = true by decide +kernel) (by rw [m278.1]; omega) (by rw [m278.2]; omega)) rfl (show 0 ≤ 4 by decide) (fun z => absurd rfl z) rfl (wp_17 (hl_time hev hg (Ho_of hag hE))) (fun v2 τ hq => ?_) (fun E τ hq => by obtain ⟨-, _, _, z, -⟩ := hq; cases z)
  obtain ⟨h17, kk, A, e9, rfl, hsm, hk⟩ := hq
  cases e9
  obtain ⟨hkk, hA⟩ := agr_k hag hk
  refine wp_seg 2 (P := none) (ls' := LL i (some (aI kk)) none none) (st' := [aR 11 0]) (σ' := (md A (a 16) a)) rq_278 rfl True.intro (i' := 500) rfl ?_
  have k2 := mm_at (k := 197) (by decide)
  refine wp_callQ (C := 11) (As := [aR 11 0]) (rest := []) rq_278 rfl rfl (clOK_of (show clQw 278 197 0 1 11 = true by decide +kernel) (by rw [m278.1]; omega) (by rw [m278.2]; omega)) rfl (show 0 ≤ 4 by decide) (fun _ => ⟨_, rfl⟩) rfl (wp_17 (ev_frame (A := A) (B := a 16) hF (noS_of rfl) (G_same hsm hg))) (fun v2 τ hq => ?_) (fun E τ hq => by cases hq.2.1)
  obtain ⟨h17b, e9, rfl⟩ := hq
  cases e9
  refine wp_seg 2 (P := none) (ls' := LL i (some (aI kk)) (some (aI v)) none) (st' := [aR 11 0]) (σ' := (md A (a 16) F)) rq_278 rfl True.intro (i' := 503) rfl ?_
  have k3 := mm_at (k := 152) (by decide)
  refine wp_call (C := 11) (As := [aR 11 0]) (rest := []) rq_278 (ev_mthrown _) rfl rfl (clOK_of (show clQw 278 152 0 1 11 = true by decide +kernel) (by rw [m278.1]; omega) (by rw [m278.2]; omega)) rfl (show 0 ≤ 4 by decide) (fun _ => ⟨_, rfl⟩) rfl rfl rfl ?_
  refine wp_seg 1 (P := none) (ls' := LL i (some (aI kk)) (some (aI v)) none) (st' := [aI kk, aI ((md A (a 16) F) 11 0 6)]) (σ' := (md A (a 16) F)) rq_278 rfl True.intro (i' := 505) rfl ?_
  refine wp_icmp rq_278 rfl (fun _ => ?_) (fun hne => absurd (show (md A (a 16) F) 11 0 6 = kk from (md_o (by decide) (by decide)).trans hkk) hne)
  refine wp_seg 1 (P := none) (ls' := LL i (some (aI kk)) (some (aI v)) none) (st' := [aI kk]) (σ' := (md A (a 16) F)) rq_278 rfl True.intro (i' := 509) rfl ?_
  refine wp_if rq_278 rfl (fun _ => ?_) (fun h0 => ?_)
  · exact wp_goto rq_278 rfl (wp_weak LL_w (nx _ N _ _ (J_md hJF) (by omega) (by omega) (h17b.trans h17) (by omega) (by omega)))
  · have h0 : kk = 0 := Decidable.of_not_not h0
    refine wp_seg 6 (P := some ((0 : Int) = 0)) (ls' := LL i (some (aI kk)) (some (aI v)) none) (st' := [aI (lcmpI ((md A (a 16) F) 15 0 0) v)]) (σ' := (md A (a 16) F)) rq_278 rfl rfl (i' := 516) rfl ?_
    refine wp_if rq_278 rfl (fun _ => ?_) (fun h1 => absurd (show lcmpI ((md A (a 16) F) 15 0 0) v = 0 from lcmp_0 (hA h0)) h1)
    exact wp_goto rq_278 rfl (wp_weak LL_w (nx _ N _ _ (J_md hJF) (by omega) (by omega) (h17b.trans h17) (by omega) (by omega)))
set_option maxRecDepth 100000 in
theorem ls_card (hJ : J N σ σ) (hN : 0 ≤ N ∧ N < 2147483647) (hi : 0 ≤ i) (hL : i + 5 ≤ σ 17 0 (-1)) (hM : σ 17 0 (-1) < 2147483648) (hc : c + 5 ≤ 603072) (hs : s + 30 ≤ 7198826) (nx : Nxt i c s N σ Q) : wp true 278 520 (LL i none none none) [] σ c s Q := by
  refine wp_wf (fun hw hl => ?_)
  have hg := G_wf hw
  have e1 : wr (i + 1) = i + 1 := wr_eq (by omega) (by omega)
  have e2 : wr (i + 2) = i + 2 := wr_eq (by omega) (by omega)
  obtain ⟨o, a, hev, ⟨v, F, hF, hJF, hag⟩, hE⟩ := pr_card (b := σ 17 0 (wr (i + 1))) (x := σ 17 0 (wr (i + 2))) hJ hN
  refine wp_seg 12 (P := some ((0 ≤ wr (i + 1) ∧ wr (i + 1) < alen σ 17 0) ∧ (0 ≤ wr (i + 2) ∧ wr (i + 2) < alen σ 17 0))) (ls' := LL i none none none) (st' := [aR 15 0, aI (σ 17 0 (wr (i + 2))), aI (σ 17 0 (wr (i + 1))), aR 10 0]) (σ' := σ) rq_278 rfl ?_ (i' := 532) rfl ?_
  · show (0 ≤ wr (i + 1) ∧ wr (i + 1) < σ 17 0 (-1)) ∧ (0 ≤ wr (i + 2) ∧ wr (i + 2) < σ 17 0 (-1))
    omega
  have k1 := mh_at (k := 257) (by decide)
  refine wp_callQ (C := 0) (As := [aR 10 0, aI (σ 17 0 (wr (i + 1))), aI (σ 17 0 (wr (i + 2))), aR 15 0]) (rest := []) rq_278 rfl rfl (clOK_of (show clQw 278 257 2 4 0 = true by decide +kernel) (by rw [m278.1]; omega) (by rw [m278.2]; omega)) rfl (show 0 ≤ 4 by decide) (fun z => absurd rfl z) rfl (wp_17 (hl_card hev hg (Ho_of hag hE))) (fun v2 τ hq => ?_) (fun E τ hq => by obtain ⟨-, _, _, z, -⟩ := hq; cases z)
  obtain ⟨h17, kk, A, e9, rfl, hsm, hk⟩ := hq
  cases e9
  obtain ⟨hkk, hA⟩ := agr_k hag hk
  refine wp_seg 12 (P := some ((0 ≤ wr (i + 1) ∧ wr (i + 1) < alen (md A (a 16) a) 17 0) ∧ (0 ≤ wr (i + 2) ∧ wr (i + 2) < alen (md A (a 16) a) 17 0))) (ls' := LL i (some (aI kk)) none none) (st' := [aI ((md A (a 16) a) 17 0 (wr (i + 2))), aI ((md A (a 16) a) 17 0 (wr (i + 1))), aR 11 0]) (σ' := (md A (a 16) a)) rq_278 rfl ?_ (i' := 545) rfl ?_
  · show (0 ≤ wr (i + 1) ∧ wr (i + 1) < (md A (a 16) a) 17 0 (-1)) ∧ (0 ≤ wr (i + 2) ∧ wr (i + 2) < (md A (a 16) a) 17 0 (-1))
    rw [h17]
    omega
  rw [h17]
  have k2 := mm_at (k := 199) (by decide)
  refine wp_callQ (C := 11) (As := [aR 11 0, aI (σ 17 0 (wr (i + 1))), aI (σ 17 0 (wr (i + 2)))]) (rest := []) rq_278 rfl rfl (clOK_of (show clQw 278 199 0 3 11 = true by decide +kernel) (by rw [m278.1]; omega) (by rw [m278.2]; omega)) rfl (show 0 ≤ 4 by decide) (fun _ => ⟨_, rfl⟩) rfl (wp_17 (ev_frame (A := A) (B := a 16) hF (noS_of rfl) (G_same hsm hg))) (fun v2 τ hq => ?_) (fun E τ hq => by cases hq.2.1)
  obtain ⟨h17b, e9, rfl⟩ := hq
  cases e9
  refine wp_seg 2 (P := none) (ls' := LL i (some (aI kk)) (some (aI v)) none) (st' := [aR 11 0]) (σ' := (md A (a 16) F)) rq_278 rfl True.intro (i' := 548) rfl ?_
  have k3 := mm_at (k := 152) (by decide)
  refine wp_call (C := 11) (As := [aR 11 0]) (rest := []) rq_278 (ev_mthrown _) rfl rfl (clOK_of (show clQw 278 152 0 1 11 = true by decide +kernel) (by rw [m278.1]; omega) (by rw [m278.2]; omega)) rfl (show 0 ≤ 4 by decide) (fun _ => ⟨_, rfl⟩) rfl rfl rfl ?_
  refine wp_seg 1 (P := none) (ls' := LL i (some (aI kk)) (some (aI v)) none) (st' := [aI kk, aI ((md A (a 16) F) 11 0 6)]) (σ' := (md A (a 16) F)) rq_278 rfl True.intro (i' := 550) rfl ?_
  refine wp_icmp rq_278 rfl (fun _ => ?_) (fun hne => absurd (show (md A (a 16) F) 11 0 6 = kk from (md_o (by decide) (by decide)).trans hkk) hne)
  refine wp_seg 1 (P := none) (ls' := LL i (some (aI kk)) (some (aI v)) none) (st' := [aI kk]) (σ' := (md A (a 16) F)) rq_278 rfl True.intro (i' := 554) rfl ?_
  refine wp_if rq_278 rfl (fun _ => ?_) (fun h0 => ?_)
  · exact wp_goto rq_278 rfl (wp_weak LL_w (nx _ (N + 1) _ _ (J_md hJF) (by omega) (by omega) (h17b.trans h17) (by omega) (by omega)))
  · have h0 : kk = 0 := Decidable.of_not_not h0
    refine wp_seg 6 (P := some ((0 : Int) = 0)) (ls' := LL i (some (aI kk)) (some (aI v)) none) (st' := [aI (lcmpI ((md A (a 16) F) 15 0 0) v)]) (σ' := (md A (a 16) F)) rq_278 rfl rfl (i' := 561) rfl ?_
    refine wp_if rq_278 rfl (fun _ => ?_) (fun h1 => absurd (show lcmpI ((md A (a 16) F) 15 0 0) v = 0 from lcmp_0 (hA h0)) h1)
    exact wp_goto rq_278 rfl (wp_weak LL_w (nx _ (N + 1) _ _ (J_md hJF) (by omega) (by omega) (h17b.trans h17) (by omega) (by omega)))
set_option maxRecDepth 100000 in
theorem ls_enter (hJ : J N σ σ) (hN : 0 ≤ N ∧ N < 2147483647) (hi : 0 ≤ i) (hL : i + 5 ≤ σ 17 0 (-1)) (hM : σ 17 0 (-1) < 2147483648) (hc : c + 5 ≤ 603072) (hs : s + 30 ≤ 7198826) (nx : Nxt i c s N σ Q) : wp true 278 565 (LL i none none none) [] σ c s Q := by
  refine wp_wf (fun hw hl => ?_)
  have hg := G_wf hw
  have e1 : wr (i + 1) = i + 1 := wr_eq (by omega) (by omega)
  have e2 : wr (i + 2) = i + 2 := wr_eq (by omega) (by omega)
  have e3 : wr (i + 3) = i + 3 := wr_eq (by omega) (by omega)
  have e4 : wr (i + 4) = i + 4 := wr_eq (by omega) (by omega)
  obtain ⟨o, a, hev, ⟨v, F, hF, hJF, hag⟩, hE⟩ := pr_enter (b := σ 17 0 (wr (i + 1))) (x := σ 17 0 (wr (i + 2))) (y := σ 17 0 (wr (i + 3))) (w := σ 17 0 (wr (i + 4))) hJ
  refine wp_seg 22 (P := some ((0 ≤ wr (i + 1) ∧ wr (i + 1) < alen σ 17 0) ∧ (0 ≤ wr (i + 2) ∧ wr (i + 2) < alen σ 17 0) ∧ (0 ≤ wr (i + 3) ∧ wr (i + 3) < alen σ 17 0) ∧ (0 ≤ wr (i + 4) ∧ wr (i + 4) < alen σ 17 0))) (ls' := LL i none none none) (st' := [aR 15 0, aI (σ 17 0 (wr (i + 4))), aI (σ 17 0 (wr (i + 3))), aI (σ 17 0 (wr (i + 2))), aI (σ 17 0 (wr (i + 1))), aR 10 0]) (σ' := σ) rq_278 rfl ?_ (i' := 587) rfl ?_
  · show (0 ≤ wr (i + 1) ∧ wr (i + 1) < σ 17 0 (-1)) ∧ (0 ≤ wr (i + 2) ∧ wr (i + 2) < σ 17 0 (-1)) ∧ (0 ≤ wr (i + 3) ∧ wr (i + 3) < σ 17 0 (-1)) ∧ (0 ≤ wr (i + 4) ∧ wr (i + 4) < σ 17 0 (-1))
    omega
  have k1 := mh_at (k := 258) (by decide)
  refine wp_callQ (C := 0) (As := [aR 10 0, aI (σ 17 0 (wr (i + 1))), aI (σ 17 0 (wr (i + 2))), aI (σ 17 0 (wr (i + 3))), aI (σ 17 0 (wr (i + 4))), aR 15 0]) (rest := []) rq_278 rfl rfl (clOK_of (show clQw 278 258 2 6 0 = true by decide +kernel) (by rw [m278.1]; omega) (by rw [m278.2]; omega)) rfl (show 0 ≤ 4 by decide) (fun z => absurd rfl z) rfl (wp_17 (hl_enter hev hg (Ho_of hag hE))) (fun v2 τ hq => ?_) (fun E τ hq => by obtain ⟨-, _, _, z, -⟩ := hq; cases z)
  obtain ⟨h17, kk, A, e9, rfl, hsm, hk⟩ := hq
  cases e9
  obtain ⟨hkk, hA⟩ := agr_k hag hk
  refine wp_seg 22 (P := some ((0 ≤ wr (i + 1) ∧ wr (i + 1) < alen (md A (a 16) a) 17 0) ∧ (0 ≤ wr (i + 2) ∧ wr (i + 2) < alen (md A (a 16) a) 17 0) ∧ (0 ≤ wr (i + 3) ∧ wr (i + 3) < alen (md A (a 16) a) 17 0) ∧ (0 ≤ wr (i + 4) ∧ wr (i + 4) < alen (md A (a 16) a) 17 0))) (ls' := LL i (some (aI kk)) none none) (st' := [aI ((md A (a 16) a) 17 0 (wr (i + 4))), aI ((md A (a 16) a) 17 0 (wr (i + 3))), aI ((md A (a 16) a) 17 0 (wr (i + 2))), aI ((md A (a 16) a) 17 0 (wr (i + 1))), aR 11 0]) (σ' := (md A (a 16) a)) rq_278 rfl ?_ (i' := 610) rfl ?_
  · show (0 ≤ wr (i + 1) ∧ wr (i + 1) < (md A (a 16) a) 17 0 (-1)) ∧ (0 ≤ wr (i + 2) ∧ wr (i + 2) < (md A (a 16) a) 17 0 (-1)) ∧ (0 ≤ wr (i + 3) ∧ wr (i + 3) < (md A (a 16) a) 17 0 (-1)) ∧ (0 ≤ wr (i + 4) ∧ wr (i + 4) < (md A (a 16) a) 17 0 (-1))
    rw [h17]
    omega
  rw [h17]
  have k2 := mm_at (k := 202) (by decide)
  refine wp_callQ (C := 11) (As := [aR 11 0, aI (σ 17 0 (wr (i + 1))), aI (σ 17 0 (wr (i + 2))), aI (σ 17 0 (wr (i + 3))), aI (σ 17 0 (wr (i + 4)))]) (rest := []) rq_278 rfl rfl (clOK_of (show clQw 278 202 0 5 11 = true by decide +kernel) (by rw [m278.1]; omega) (by rw [m278.2]; omega)) rfl (show 0 ≤ 4 by decide) (fun _ => ⟨_, rfl⟩) rfl (wp_17 (ev_frame (A := A) (B := a 16) hF (noS_of rfl) (G_same hsm hg))) (fun v2 τ hq => ?_) (fun E τ hq => by cases hq.2.1)
  obtain ⟨h17b, e9, rfl⟩ := hq
  cases e9
  refine wp_seg 2 (P := none) (ls' := LL i (some (aI kk)) (some (aI v)) none) (st' := [aR 11 0]) (σ' := (md A (a 16) F)) rq_278 rfl True.intro (i' := 613) rfl ?_
  have k3 := mm_at (k := 152) (by decide)
  refine wp_call (C := 11) (As := [aR 11 0]) (rest := []) rq_278 (ev_mthrown _) rfl rfl (clOK_of (show clQw 278 152 0 1 11 = true by decide +kernel) (by rw [m278.1]; omega) (by rw [m278.2]; omega)) rfl (show 0 ≤ 4 by decide) (fun _ => ⟨_, rfl⟩) rfl rfl rfl ?_
  refine wp_seg 1 (P := none) (ls' := LL i (some (aI kk)) (some (aI v)) none) (st' := [aI kk, aI ((md A (a 16) F) 11 0 6)]) (σ' := (md A (a 16) F)) rq_278 rfl True.intro (i' := 615) rfl ?_
  refine wp_icmp rq_278 rfl (fun _ => ?_) (fun hne => absurd (show (md A (a 16) F) 11 0 6 = kk from (md_o (by decide) (by decide)).trans hkk) hne)
  refine wp_seg 1 (P := none) (ls' := LL i (some (aI kk)) (some (aI v)) none) (st' := [aI kk]) (σ' := (md A (a 16) F)) rq_278 rfl True.intro (i' := 619) rfl ?_
  refine wp_if rq_278 rfl (fun _ => ?_) (fun h0 => ?_)
  · exact wp_goto rq_278 rfl (wp_weak LL_w (nx _ N _ _ (J_md hJF) (by omega) (by omega) (h17b.trans h17) (by omega) (by omega)))
  · have h0 : kk = 0 := Decidable.of_not_not h0
    refine wp_seg 6 (P := some ((0 : Int) = 0)) (ls' := LL i (some (aI kk)) (some (aI v)) none) (st' := [aI (lcmpI ((md A (a 16) F) 15 0 0) v)]) (σ' := (md A (a 16) F)) rq_278 rfl rfl (i' := 626) rfl ?_
    refine wp_if rq_278 rfl (fun _ => ?_) (fun h1 => absurd (show lcmpI ((md A (a 16) F) 15 0 0) v = 0 from lcmp_0 (hA h0)) h1)
    exact wp_goto rq_278 rfl (wp_weak LL_w (nx _ N _ _ (J_md hJF) (by omega) (by omega) (h17b.trans h17) (by omega) (by omega)))
set_option maxRecDepth 100000 in
theorem ls_refusal (hJ : J N σ σ) (hN : 0 ≤ N ∧ N < 2147483647) (hi : 0 ≤ i) (hL : i + 5 ≤ σ 17 0 (-1)) (hM : σ 17 0 (-1) < 2147483648) (hc : c + 5 ≤ 603072) (hs : s + 30 ≤ 7198826) (nx : Nxt i c s N σ Q) : wp true 278 630 (LL i none none none) [] σ c s Q := by
  refine wp_wf (fun hw hl => ?_)
  have hg := G_wf hw
  obtain ⟨o, a, hev, ⟨v, F, hF, hJF, hag⟩, hE⟩ := pr_refusal  hJ
  refine wp_seg 2 (P := none) (ls' := LL i none none none) (st' := [aR 15 0, aR 10 0]) (σ' := σ) rq_278 rfl True.intro (i' := 632) rfl ?_
  have k1 := mh_at (k := 259) (by decide)
  refine wp_callQ (C := 0) (As := [aR 10 0, aR 15 0]) (rest := []) rq_278 rfl rfl (clOK_of (show clQw 278 259 2 2 0 = true by decide +kernel) (by rw [m278.1]; omega) (by rw [m278.2]; omega)) rfl (show 0 ≤ 4 by decide) (fun z => absurd rfl z) rfl (wp_17 (hl_refusal hev hg (Ho_of hag hE))) (fun v2 τ hq => ?_) (fun E τ hq => by obtain ⟨-, _, _, z, -⟩ := hq; cases z)
  obtain ⟨h17, kk, A, e9, rfl, hsm, hk⟩ := hq
  cases e9
  obtain ⟨hkk, hA⟩ := agr_k hag hk
  refine wp_seg 2 (P := none) (ls' := LL i (some (aI kk)) none none) (st' := [aR 11 0]) (σ' := (md A (a 16) a)) rq_278 rfl True.intro (i' := 635) rfl ?_
  have k2 := mm_at (k := 203) (by decide)
  refine wp_callQ (C := 11) (As := [aR 11 0]) (rest := []) rq_278 rfl rfl (clOK_of (show clQw 278 203 0 1 11 = true by decide +kernel) (by rw [m278.1]; omega) (by rw [m278.2]; omega)) rfl (show 0 ≤ 4 by decide) (fun _ => ⟨_, rfl⟩) rfl (wp_17 (ev_frame (A := A) (B := a 16) hF (noS_of rfl) (G_same hsm hg))) (fun v2 τ hq => ?_) (fun E τ hq => by cases hq.2.1)
  obtain ⟨h17b, e9, rfl⟩ := hq
  cases e9
  refine wp_seg 2 (P := none) (ls' := LL i (some (aI kk)) (some (aI v)) none) (st' := [aR 11 0]) (σ' := (md A (a 16) F)) rq_278 rfl True.intro (i' := 638) rfl ?_
  have k3 := mm_at (k := 152) (by decide)
  refine wp_call (C := 11) (As := [aR 11 0]) (rest := []) rq_278 (ev_mthrown _) rfl rfl (clOK_of (show clQw 278 152 0 1 11 = true by decide +kernel) (by rw [m278.1]; omega) (by rw [m278.2]; omega)) rfl (show 0 ≤ 4 by decide) (fun _ => ⟨_, rfl⟩) rfl rfl rfl ?_
  refine wp_seg 1 (P := none) (ls' := LL i (some (aI kk)) (some (aI v)) none) (st' := [aI kk, aI ((md A (a 16) F) 11 0 6)]) (σ' := (md A (a 16) F)) rq_278 rfl True.intro (i' := 640) rfl ?_
  refine wp_icmp rq_278 rfl (fun _ => ?_) (fun hne => absurd (show (md A (a 16) F) 11 0 6 = kk from (md_o (by decide) (by decide)).trans hkk) hne)
  refine wp_seg 1 (P := none) (ls' := LL i (some (aI kk)) (some (aI v)) none) (st' := [aI kk]) (σ' := (md A (a 16) F)) rq_278 rfl True.intro (i' := 644) rfl ?_
  refine wp_if rq_278 rfl (fun _ => ?_) (fun h0 => ?_)
  · exact wp_goto rq_278 rfl (wp_weak LL_w (nx _ N _ _ (J_md hJF) (by omega) (by omega) (h17b.trans h17) (by omega) (by omega)))
  · have h0 : kk = 0 := Decidable.of_not_not h0
    refine wp_seg 6 (P := some ((0 : Int) = 0)) (ls' := LL i (some (aI kk)) (some (aI v)) none) (st' := [aI (lcmpI ((md A (a 16) F) 15 0 0) v)]) (σ' := (md A (a 16) F)) rq_278 rfl rfl (i' := 651) rfl ?_
    refine wp_if rq_278 rfl (fun _ => ?_) (fun h1 => absurd (show lcmpI ((md A (a 16) F) 15 0 0) v = 0 from lcmp_0 (hA h0)) h1)
    exact wp_goto rq_278 rfl (wp_weak LL_w (nx _ N _ _ (J_md hJF) (by omega) (by omega) (h17b.trans h17) (by omega) (by omega)))
end LawC
