/-! The law's cases, further. -/
section LawC
variable {N i : Int} {c s : Nat} {σ : Mem} {Q : Out → Mem → Prop}
set_option maxRecDepth 100000 in
theorem ls_result (hJ : J N σ σ) (hN : 0 ≤ N ∧ N < 2147483647) (hi : 0 ≤ i) (hL : i + 5 ≤ σ 17 0 (-1)) (hM : σ 17 0 (-1) < 2147483648) (hc : c + 5 ≤ 603072) (hs : s + 30 ≤ 7198826) (nx : Nxt i c s N σ Q) : wp true 278 655 (LL i none none none) [] σ c s Q := by
  refine wp_wf (fun hw hl => ?_)
  have hg := G_wf hw
  have e1 : wr (i + 1) = i + 1 := wr_eq (by omega) (by omega)
  have e2 : wr (i + 2) = i + 2 := wr_eq (by omega) (by omega)
  obtain ⟨o, a, hev, ⟨v, F, hF, hJF, hag⟩, hE⟩ := pr_result (b := σ 17 0 (wr (i + 1))) (x := σ 17 0 (wr (i + 2))) hJ
  refine wp_seg 12 (P := some ((0 ≤ wr (i + 1) ∧ wr (i + 1) < alen σ 17 0) ∧ (0 ≤ wr (i + 2) ∧ wr (i + 2) < alen σ 17 0))) (ls' := LL i none none none) (st' := [aR 15 0, aI (σ 17 0 (wr (i + 2))), aI (σ 17 0 (wr (i + 1))), aR 10 0]) (σ' := σ) rq_278 rfl ?_ (i' := 667) rfl ?_
  · show (0 ≤ wr (i + 1) ∧ wr (i + 1) < σ 17 0 (-1)) ∧ (0 ≤ wr (i + 2) ∧ wr (i + 2) < σ 17 0 (-1))
    omega
  have k1 := mh_at (k := 260) (by decide)
  refine wp_callQ (C := 0) (As := [aR 10 0, aI (σ 17 0 (wr (i + 1))), aI (σ 17 0 (wr (i + 2))), aR 15 0]) (rest := []) rq_278 rfl rfl (clOK_of (show clQw 278 260 2 4 0 = true by decide +kernel) (by rw [m278.1]; omega) (by rw [m278.2]; omega)) rfl (show 0 ≤ 4 by decide) (fun z => absurd rfl z) rfl (wp_17 (hl_result hev hg (Ho_of hag hE))) (fun v2 τ hq => ?_) (fun E τ hq => by obtain ⟨-, _, _, z, -⟩ := hq; cases z)
  obtain ⟨h17, kk, A, e9, rfl, hsm, hk⟩ := hq
  cases e9
  obtain ⟨hkk, hA⟩ := agr_k hag hk
  refine wp_seg 12 (P := some ((0 ≤ wr (i + 1) ∧ wr (i + 1) < alen (md A (a 16) a) 17 0) ∧ (0 ≤ wr (i + 2) ∧ wr (i + 2) < alen (md A (a 16) a) 17 0))) (ls' := LL i (some (aI kk)) none none) (st' := [aI ((md A (a 16) a) 17 0 (wr (i + 2))), aI ((md A (a 16) a) 17 0 (wr (i + 1))), aR 11 0]) (σ' := (md A (a 16) a)) rq_278 rfl ?_ (i' := 680) rfl ?_
  · show (0 ≤ wr (i + 1) ∧ wr (i + 1) < (md A (a 16) a) 17 0 (-1)) ∧ (0 ≤ wr (i + 2) ∧ wr (i + 2) < (md A (a 16) a) 17 0 (-1))
    rw [h17]
    omega
  rw [h17]
  have k2 := mm_at (k := 206) (by decide)
  refine wp_callQ (C := 11) (As := [aR 11 0, aI (σ 17 0 (wr (i + 1))), aI (σ 17 0 (wr (i + 2)))]) (rest := []) rq_278 rfl rfl (clOK_of (show clQw 278 206 0 3 11 = true by decide +kernel) (by rw [m278.1]; omega) (by rw [m278.2]; omega)) rfl (show 0 ≤ 4 by decide) (fun _ => ⟨_, rfl⟩) rfl (wp_17 (ev_frame (A := A) (B := a 16) hF (noS_of rfl) (G_same hsm hg))) (fun v2 τ hq => ?_) (fun E τ hq => by cases hq.2.1)
  obtain ⟨h17b, e9, rfl⟩ := hq
  cases e9
  refine wp_seg 2 (P := none) (ls' := LL i (some (aI kk)) (some (aI v)) none) (st' := [aR 11 0]) (σ' := (md A (a 16) F)) rq_278 rfl True.intro (i' := 683) rfl ?_
  have k3 := mm_at (k := 152) (by decide)
  refine wp_call (C := 11) (As := [aR 11 0]) (rest := []) rq_278 (ev_mthrown _) rfl rfl (clOK_of (show clQw 278 152 0 1 11 = true by decide +kernel) (by rw [m278.1]; omega) (by rw [m278.2]; omega)) rfl (show 0 ≤ 4 by decide) (fun _ => ⟨_, rfl⟩) rfl rfl rfl ?_
  refine wp_seg 1 (P := none) (ls' := LL i (some (aI kk)) (some (aI v)) none) (st' := [aI kk, aI ((md A (a 16) F) 11 0 6)]) (σ' := (md A (a 16) F)) rq_278 rfl True.intro (i' := 685) rfl ?_
  refine wp_icmp rq_278 rfl (fun _ => ?_) (fun hne => absurd (show (md A (a 16) F) 11 0 6 = kk from (md_o (by decide) (by decide)).trans hkk) hne)
  refine wp_seg 1 (P := none) (ls' := LL i (some (aI kk)) (some (aI v)) none) (st' := [aI kk]) (σ' := (md A (a 16) F)) rq_278 rfl True.intro (i' := 689) rfl ?_
  refine wp_if rq_278 rfl (fun _ => ?_) (fun h0 => ?_)
  · exact wp_goto rq_278 rfl (wp_weak LL_w (nx _ N _ _ (J_md hJF) (by omega) (by omega) (h17b.trans h17) (by omega) (by omega)))
  · have h0 : kk = 0 := Decidable.of_not_not h0
    refine wp_seg 6 (P := some ((0 : Int) = 0)) (ls' := LL i (some (aI kk)) (some (aI v)) none) (st' := [aI (lcmpI ((md A (a 16) F) 15 0 0) v)]) (σ' := (md A (a 16) F)) rq_278 rfl rfl (i' := 696) rfl ?_
    refine wp_if rq_278 rfl (fun _ => ?_) (fun h1 => absurd (show lcmpI ((md A (a 16) F) 15 0 0) v = 0 from lcmp_0 (hA h0)) h1)
    exact wp_goto rq_278 rfl (wp_weak LL_w (nx _ N _ _ (J_md hJF) (by omega) (by omega) (h17b.trans h17) (by omega) (by omega)))
set_option maxRecDepth 100000 in
theorem ls_ranked (hJ : J N σ σ) (hN : 0 ≤ N ∧ N < 2147483647) (hi : 0 ≤ i) (hL : i + 5 ≤ σ 17 0 (-1)) (hM : σ 17 0 (-1) < 2147483648) (hc : c + 5 ≤ 603072) (hs : s + 30 ≤ 7198826) (nx : Nxt i c s N σ Q) : wp true 278 746 (LL i none none none) [] σ c s Q := by
  refine wp_wf (fun hw hl => ?_)
  have hg := G_wf hw
  have e1 : wr (i + 1) = i + 1 := wr_eq (by omega) (by omega)
  obtain ⟨o, a, hev, ⟨v, F, hF, hJF, hag⟩, hE⟩ := pr_ranked (b := σ 17 0 (wr (i + 1))) hJ
  refine wp_seg 7 (P := some ((0 ≤ wr (i + 1) ∧ wr (i + 1) < alen σ 17 0))) (ls' := LL i none none none) (st' := [aR 15 0, aI (σ 17 0 (wr (i + 1))), aR 10 0]) (σ' := σ) rq_278 rfl ?_ (i' := 753) rfl ?_
  · show (0 ≤ wr (i + 1) ∧ wr (i + 1) < σ 17 0 (-1))
    omega
  have k1 := mh_at (k := 262) (by decide)
  refine wp_callQ (C := 0) (As := [aR 10 0, aI (σ 17 0 (wr (i + 1))), aR 15 0]) (rest := []) rq_278 rfl rfl (clOK_of (show clQw 278 262 2 3 0 = true by decide +kernel) (by rw [m278.1]; omega) (by rw [m278.2]; omega)) rfl (show 0 ≤ 4 by decide) (fun z => absurd rfl z) rfl (wp_17 (hl_ranked hev hg (Ho_of hag hE))) (fun v2 τ hq => ?_) (fun E τ hq => by obtain ⟨-, _, _, z, -⟩ := hq; cases z)
  obtain ⟨h17, kk, A, e9, rfl, hsm, hk⟩ := hq
  cases e9
  obtain ⟨hkk, hA⟩ := agr_k hag hk
  refine wp_seg 7 (P := some ((0 ≤ wr (i + 1) ∧ wr (i + 1) < alen (md A (a 16) a) 17 0))) (ls' := LL i (some (aI kk)) none none) (st' := [aI ((md A (a 16) a) 17 0 (wr (i + 1))), aR 11 0]) (σ' := (md A (a 16) a)) rq_278 rfl ?_ (i' := 761) rfl ?_
  · show (0 ≤ wr (i + 1) ∧ wr (i + 1) < (md A (a 16) a) 17 0 (-1))
    rw [h17]
    omega
  rw [h17]
  have k2 := mm_at (k := 211) (by decide)
  refine wp_callQ (C := 11) (As := [aR 11 0, aI (σ 17 0 (wr (i + 1)))]) (rest := []) rq_278 rfl rfl (clOK_of (show clQw 278 211 0 2 11 = true by decide +kernel) (by rw [m278.1]; omega) (by rw [m278.2]; omega)) rfl (show 0 ≤ 4 by decide) (fun _ => ⟨_, rfl⟩) rfl (wp_17 (ev_frame (A := A) (B := a 16) hF (noS_of rfl) (G_same hsm hg))) (fun v2 τ hq => ?_) (fun E τ hq => by cases hq.2.1)
  obtain ⟨h17b, e9, rfl⟩ := hq
  cases e9
  refine wp_seg 2 (P := none) (ls' := LL i (some (aI kk)) (some (aI v)) none) (st' := [aR 11 0]) (σ' := (md A (a 16) F)) rq_278 rfl True.intro (i' := 764) rfl ?_
  have k3 := mm_at (k := 152) (by decide)
  refine wp_call (C := 11) (As := [aR 11 0]) (rest := []) rq_278 (ev_mthrown _) rfl rfl (clOK_of (show clQw 278 152 0 1 11 = true by decide +kernel) (by rw [m278.1]; omega) (by rw [m278.2]; omega)) rfl (show 0 ≤ 4 by decide) (fun _ => ⟨_, rfl⟩) rfl rfl rfl ?_
  refine wp_seg 1 (P := none) (ls' := LL i (some (aI kk)) (some (aI v)) none) (st' := [aI kk, aI ((md A (a 16) F) 11 0 6)]) (σ' := (md A (a 16) F)) rq_278 rfl True.intro (i' := 766) rfl ?_
  refine wp_icmp rq_278 rfl (fun _ => ?_) (fun hne => absurd (show (md A (a 16) F) 11 0 6 = kk from (md_o (by decide) (by decide)).trans hkk) hne)
  refine wp_seg 1 (P := none) (ls' := LL i (some (aI kk)) (some (aI v)) none) (st' := [aI kk]) (σ' := (md A (a 16) F)) rq_278 rfl True.intro (i' := 770) rfl ?_
  refine wp_if rq_278 rfl (fun _ => ?_) (fun h0 => ?_)
  · exact wp_goto rq_278 rfl (wp_weak LL_w (nx _ N _ _ (J_md hJF) (by omega) (by omega) (h17b.trans h17) (by omega) (by omega)))
  · have h0 : kk = 0 := Decidable.of_not_not h0
    refine wp_seg 6 (P := some ((0 : Int) = 0)) (ls' := LL i (some (aI kk)) (some (aI v)) none) (st' := [aI (lcmpI ((md A (a 16) F) 15 0 0) v)]) (σ' := (md A (a 16) F)) rq_278 rfl rfl (i' := 777) rfl ?_
    refine wp_if rq_278 rfl (fun _ => ?_) (fun h1 => absurd (show lcmpI ((md A (a 16) F) 15 0 0) v = 0 from lcmp_0 (hA h0)) h1)
    exact wp_goto rq_278 rfl (wp_weak LL_w (nx _ N _ _ (J_md hJF) (by omega) (by omega) (h17b.trans h17) (by omega) (by omega)))
set_option maxRecDepth 100000 in
theorem ls_place (hJ : J N σ σ) (hN : 0 ≤ N ∧ N < 2147483647) (hi : 0 ≤ i) (hL : i + 5 ≤ σ 17 0 (-1)) (hM : σ 17 0 (-1) < 2147483648) (hc : c + 5 ≤ 603072) (hs : s + 30 ≤ 7198826) (nx : Nxt i c s N σ Q) : wp true 278 781 (LL i none none none) [] σ c s Q := by
  refine wp_wf (fun hw hl => ?_)
  have hg := G_wf hw
  have e1 : wr (i + 1) = i + 1 := wr_eq (by omega) (by omega)
  obtain ⟨o, a, hev, ⟨v, F, hF, hJF, hag⟩, hE⟩ := pr_place (b := σ 17 0 (wr (i + 1))) hJ
  refine wp_seg 7 (P := some ((0 ≤ wr (i + 1) ∧ wr (i + 1) < alen σ 17 0))) (ls' := LL i none none none) (st' := [aR 15 0, aI (σ 17 0 (wr (i + 1))), aR 10 0]) (σ' := σ) rq_278 rfl ?_ (i' := 788) rfl ?_
  · show (0 ≤ wr (i + 1) ∧ wr (i + 1) < σ 17 0 (-1))
    omega
  have k1 := mh_at (k := 263) (by decide)
  refine wp_callQ (C := 0) (As := [aR 10 0, aI (σ 17 0 (wr (i + 1))), aR 15 0]) (rest := []) rq_278 rfl rfl (clOK_of (show clQw 278 263 2 3 0 = true by decide +kernel) (by rw [m278.1]; omega) (by rw [m278.2]; omega)) rfl (show 0 ≤ 4 by decide) (fun z => absurd rfl z) rfl (wp_17 (hl_place hev hg (Ho_of hag hE))) (fun v2 τ hq => ?_) (fun E τ hq => by obtain ⟨-, _, _, z, -⟩ := hq; cases z)
  obtain ⟨h17, kk, A, e9, rfl, hsm, hk⟩ := hq
  cases e9
  obtain ⟨hkk, hA⟩ := agr_k hag hk
  refine wp_seg 7 (P := some ((0 ≤ wr (i + 1) ∧ wr (i + 1) < alen (md A (a 16) a) 17 0))) (ls' := LL i (some (aI kk)) none none) (st' := [aI ((md A (a 16) a) 17 0 (wr (i + 1))), aR 11 0]) (σ' := (md A (a 16) a)) rq_278 rfl ?_ (i' := 796) rfl ?_
  · show (0 ≤ wr (i + 1) ∧ wr (i + 1) < (md A (a 16) a) 17 0 (-1))
    rw [h17]
    omega
  rw [h17]
  have k2 := mm_at (k := 212) (by decide)
  refine wp_callQ (C := 11) (As := [aR 11 0, aI (σ 17 0 (wr (i + 1)))]) (rest := []) rq_278 rfl rfl (clOK_of (show clQw 278 212 0 2 11 = true by decide +kernel) (by rw [m278.1]; omega) (by rw [m278.2]; omega)) rfl (show 0 ≤ 4 by decide) (fun _ => ⟨_, rfl⟩) rfl (wp_17 (ev_frame (A := A) (B := a 16) hF (noS_of rfl) (G_same hsm hg))) (fun v2 τ hq => ?_) (fun E τ hq => by cases hq.2.1)
  obtain ⟨h17b, e9, rfl⟩ := hq
  cases e9
  refine wp_seg 2 (P := none) (ls' := LL i (some (aI kk)) (some (aI v)) none) (st' := [aR 11 0]) (σ' := (md A (a 16) F)) rq_278 rfl True.intro (i' := 799) rfl ?_
  have k3 := mm_at (k := 152) (by decide)
  refine wp_call (C := 11) (As := [aR 11 0]) (rest := []) rq_278 (ev_mthrown _) rfl rfl (clOK_of (show clQw 278 152 0 1 11 = true by decide +kernel) (by rw [m278.1]; omega) (by rw [m278.2]; omega)) rfl (show 0 ≤ 4 by decide) (fun _ => ⟨_, rfl⟩) rfl rfl rfl ?_
  refine wp_seg 1 (P := none) (ls' := LL i (some (aI kk)) (some (aI v)) none) (st' := [aI kk, aI ((md A (a 16) F) 11 0 6)]) (σ' := (md A (a 16) F)) rq_278 rfl True.intro (i' := 801) rfl ?_
  refine wp_icmp rq_278 rfl (fun _ => ?_) (fun hne => absurd (show (md A (a 16) F) 11 0 6 = kk from (md_o (by decide) (by decide)).trans hkk) hne)
  refine wp_seg 1 (P := none) (ls' := LL i (some (aI kk)) (some (aI v)) none) (st' := [aI kk]) (σ' := (md A (a 16) F)) rq_278 rfl True.intro (i' := 805) rfl ?_
  refine wp_if rq_278 rfl (fun _ => ?_) (fun h0 => ?_)
  · exact wp_goto rq_278 rfl (wp_weak LL_w (nx _ N _ _ (J_md hJF) (by omega) (by omega) (h17b.trans h17) (by omega) (by omega)))
  · have h0 : kk = 0 := Decidable.of_not_not h0
    refine wp_seg 6 (P := some ((0 : Int) = 0)) (ls' := LL i (some (aI kk)) (some (aI v)) none) (st' := [aI (lcmpI ((md A (a 16) F) 15 0 0) v)]) (σ' := (md A (a 16) F)) rq_278 rfl rfl (i' := 812) rfl ?_
    refine wp_if rq_278 rfl (fun _ => ?_) (fun h1 => absurd (show lcmpI ((md A (a 16) F) 15 0 0) v = 0 from lcmp_0 (hA h0)) h1)
    exact wp_goto rq_278 rfl (wp_weak LL_w (nx _ N _ _ (J_md hJF) (by omega) (by omega) (h17b.trans h17) (by omega) (by omega)))
set_option maxRecDepth 100000 in
theorem ls_why (hJ : J N σ σ) (hN : 0 ≤ N ∧ N < 2147483647) (hi : 0 ≤ i) (hL : i + 5 ≤ σ 17 0 (-1)) (hM : σ 17 0 (-1) < 2147483648) (hc : c + 5 ≤ 603072) (hs : s + 30 ≤ 7198826) (nx : Nxt i c s N σ Q) : wp true 278 816 (LL i none none none) [] σ c s Q := by
  refine wp_wf (fun hw hl => ?_)
  have hg := G_wf hw
  have e1 : wr (i + 1) = i + 1 := wr_eq (by omega) (by omega)
  have e2 : wr (i + 2) = i + 2 := wr_eq (by omega) (by omega)
  obtain ⟨o, a, hev, ⟨v, F, hF, hJF, hag⟩, hE⟩ := pr_why (b := σ 17 0 (wr (i + 1))) (x := σ 17 0 (wr (i + 2))) hJ
  refine wp_seg 12 (P := some ((0 ≤ wr (i + 1) ∧ wr (i + 1) < alen σ 17 0) ∧ (0 ≤ wr (i + 2) ∧ wr (i + 2) < alen σ 17 0))) (ls' := LL i none none none) (st' := [aR 15 0, aI (σ 17 0 (wr (i + 2))), aI (σ 17 0 (wr (i + 1))), aR 10 0]) (σ' := σ) rq_278 rfl ?_ (i' := 828) rfl ?_
  · show (0 ≤ wr (i + 1) ∧ wr (i + 1) < σ 17 0 (-1)) ∧ (0 ≤ wr (i + 2) ∧ wr (i + 2) < σ 17 0 (-1))
    omega
  have k1 := mh_at (k := 264) (by decide)
  refine wp_callQ (C := 0) (As := [aR 10 0, aI (σ 17 0 (wr (i + 1))), aI (σ 17 0 (wr (i + 2))), aR 15 0]) (rest := []) rq_278 rfl rfl (clOK_of (show clQw 278 264 2 4 0 = true by decide +kernel) (by rw [m278.1]; omega) (by rw [m278.2]; omega)) rfl (show 0 ≤ 4 by decide) (fun z => absurd rfl z) rfl (wp_17 (hl_why hev hg (Ho_of hag hE))) (fun v2 τ hq => ?_) (fun E τ hq => by obtain ⟨-, _, _, z, -⟩ := hq; cases z)
  obtain ⟨h17, kk, A, e9, rfl, hsm, hk⟩ := hq
  cases e9
  obtain ⟨hkk, hA⟩ := agr_k hag hk
  refine wp_seg 12 (P := some ((0 ≤ wr (i + 1) ∧ wr (i + 1) < alen (md A (a 16) a) 17 0) ∧ (0 ≤ wr (i + 2) ∧ wr (i + 2) < alen (md A (a 16) a) 17 0))) (ls' := LL i (some (aI kk)) none none) (st' := [aI ((md A (a 16) a) 17 0 (wr (i + 2))), aI ((md A (a 16) a) 17 0 (wr (i + 1))), aR 11 0]) (σ' := (md A (a 16) a)) rq_278 rfl ?_ (i' := 841) rfl ?_
  · show (0 ≤ wr (i + 1) ∧ wr (i + 1) < (md A (a 16) a) 17 0 (-1)) ∧ (0 ≤ wr (i + 2) ∧ wr (i + 2) < (md A (a 16) a) 17 0 (-1))
    rw [h17]
    omega
  rw [h17]
  have k2 := mm_at (k := 213) (by decide)
  refine wp_callQ (C := 11) (As := [aR 11 0, aI (σ 17 0 (wr (i + 1))), aI (σ 17 0 (wr (i + 2)))]) (rest := []) rq_278 rfl rfl (clOK_of (show clQw 278 213 0 3 11 = true by decide +kernel) (by rw [m278.1]; omega) (by rw [m278.2]; omega)) rfl (show 0 ≤ 4 by decide) (fun _ => ⟨_, rfl⟩) rfl (wp_17 (ev_frame (A := A) (B := a 16) hF (noS_of rfl) (G_same hsm hg))) (fun v2 τ hq => ?_) (fun E τ hq => by cases hq.2.1)
  obtain ⟨h17b, e9, rfl⟩ := hq
  cases e9
  refine wp_seg 2 (P := none) (ls' := LL i (some (aI kk)) (some (aI v)) none) (st' := [aR 11 0]) (σ' := (md A (a 16) F)) rq_278 rfl True.intro (i' := 844) rfl ?_
  have k3 := mm_at (k := 152) (by decide)
  refine wp_call (C := 11) (As := [aR 11 0]) (rest := []) rq_278 (ev_mthrown _) rfl rfl (clOK_of (show clQw 278 152 0 1 11 = true by decide +kernel) (by rw [m278.1]; omega) (by rw [m278.2]; omega)) rfl (show 0 ≤ 4 by decide) (fun _ => ⟨_, rfl⟩) rfl rfl rfl ?_
  refine wp_seg 1 (P := none) (ls' := LL i (some (aI kk)) (some (aI v)) none) (st' := [aI kk, aI ((md A (a 16) F) 11 0 6)]) (σ' := (md A (a 16) F)) rq_278 rfl True.intro (i' := 846) rfl ?_
  refine wp_icmp rq_278 rfl (fun _ => ?_) (fun hne => absurd (show (md A (a 16) F) 11 0 6 = kk from (md_o (by decide) (by decide)).trans hkk) hne)
  refine wp_seg 1 (P := none) (ls' := LL i (some (aI kk)) (some (aI v)) none) (st' := [aI kk]) (σ' := (md A (a 16) F)) rq_278 rfl True.intro (i' := 850) rfl ?_
  refine wp_if rq_278 rfl (fun _ => ?_) (fun h0 => ?_)
  · exact wp_goto rq_278 rfl (wp_weak LL_w (nx _ N _ _ (J_md hJF) (by omega) (by omega) (h17b.trans h17) (by omega) (by omega)))
  · have h0 : kk = 0 := Decidable.of_not_not h0
    refine wp_seg 6 (P := some ((0 : Int) = 0)) (ls' := LL i (some (aI kk)) (some (aI v)) none) (st' := [aI (lcmpI ((md A (a 16) F) 15 0 0) v)]) (σ' := (md A (a 16) F)) rq_278 rfl rfl (i' := 857) rfl ?_
    refine wp_if rq_278 rfl (fun _ => ?_) (fun h1 => absurd (show lcmpI ((md A (a 16) F) 15 0 0) v = 0 from lcmp_0 (hA h0)) h1)
    exact wp_goto rq_278 rfl (wp_weak LL_w (nx _ N _ _ (J_md hJF) (by omega) (by omega) (h17b.trans h17) (by omega) (by omega)))
set_option maxRecDepth 100000 in
theorem ls_drawTable (hJ : J N σ σ) (hN : 0 ≤ N ∧ N < 2147483647) (hi : 0 ≤ i) (hL : i + 5 ≤ σ 17 0 (-1)) (hM : σ 17 0 (-1) < 2147483648) (hc : c + 5 ≤ 603072) (hs : s + 30 ≤ 7198826) (nx : Nxt i c s N σ Q) : wp true 278 861 (LL i none none none) [] σ c s Q := by
  refine wp_wf (fun hw hl => ?_)
  have hg := G_wf hw
  obtain ⟨o, a, hev, ⟨v, F, hF, hJF, hag⟩, hE⟩ := pr_drawTable  hJ
  refine wp_seg 2 (P := none) (ls' := LL i none none none) (st' := [aR 15 0, aR 10 0]) (σ' := σ) rq_278 rfl True.intro (i' := 863) rfl ?_
  have k1 := mh_at (k := 265) (by decide)
  refine wp_callQ (C := 0) (As := [aR 10 0, aR 15 0]) (rest := []) rq_278 rfl rfl (clOK_of (show clQw 278 265 2 2 0 = true by decide +kernel) (by rw [m278.1]; omega) (by rw [m278.2]; omega)) rfl (show 0 ≤ 4 by decide) (fun z => absurd rfl z) rfl (wp_17 (hl_drawTable hev hg (Ho_of hag hE))) (fun v2 τ hq => ?_) (fun E τ hq => by obtain ⟨-, _, _, z, -⟩ := hq; cases z)
  obtain ⟨h17, kk, A, e9, rfl, hsm, hk⟩ := hq
  cases e9
  obtain ⟨hkk, hA⟩ := agr_k hag hk
  refine wp_seg 2 (P := none) (ls' := LL i (some (aI kk)) none none) (st' := [aR 11 0]) (σ' := (md A (a 16) a)) rq_278 rfl True.intro (i' := 866) rfl ?_
  have k2 := mm_at (k := 217) (by decide)
  refine wp_callQ (C := 11) (As := [aR 11 0]) (rest := []) rq_278 rfl rfl (clOK_of (show clQw 278 217 0 1 11 = true by decide +kernel) (by rw [m278.1]; omega) (by rw [m278.2]; omega)) rfl (show 0 ≤ 4 by decide) (fun _ => ⟨_, rfl⟩) rfl (wp_17 (ev_frame (A := A) (B := a 16) hF (noS_of rfl) (G_same hsm hg))) (fun v2 τ hq => ?_) (fun E τ hq => by cases hq.2.1)
  obtain ⟨h17b, e9, rfl⟩ := hq
  cases e9
  refine wp_seg 2 (P := none) (ls' := LL i (some (aI kk)) (some (aI v)) none) (st' := [aR 11 0]) (σ' := (md A (a 16) F)) rq_278 rfl True.intro (i' := 869) rfl ?_
  have k3 := mm_at (k := 152) (by decide)
  refine wp_call (C := 11) (As := [aR 11 0]) (rest := []) rq_278 (ev_mthrown _) rfl rfl (clOK_of (show clQw 278 152 0 1 11 = true by decide +kernel) (by rw [m278.1]; omega) (by rw [m278.2]; omega)) rfl (show 0 ≤ 4 by decide) (fun _ => ⟨_, rfl⟩) rfl rfl rfl ?_
  refine wp_seg 1 (P := none) (ls' := LL i (some (aI kk)) (some (aI v)) none) (st' := [aI kk, aI ((md A (a 16) F) 11 0 6)]) (σ' := (md A (a 16) F)) rq_278 rfl True.intro (i' := 871) rfl ?_
  refine wp_icmp rq_278 rfl (fun _ => ?_) (fun hne => absurd (show (md A (a 16) F) 11 0 6 = kk from (md_o (by decide) (by decide)).trans hkk) hne)
  refine wp_seg 1 (P := none) (ls' := LL i (some (aI kk)) (some (aI v)) none) (st' := [aI kk]) (σ' := (md A (a 16) F)) rq_278 rfl True.intro (i' := 875) rfl ?_
  refine wp_if rq_278 rfl (fun _ => ?_) (fun h0 => ?_)
  · exact wp_goto rq_278 rfl (wp_weak LL_w (nx _ N _ _ (J_md hJF) (by omega) (by omega) (h17b.trans h17) (by omega) (by omega)))
  · have h0 : kk = 0 := Decidable.of_not_not h0
    refine wp_seg 6 (P := some ((0 : Int) = 0)) (ls' := LL i (some (aI kk)) (some (aI v)) none) (st' := [aI (lcmpI ((md A (a 16) F) 15 0 0) v)]) (σ' := (md A (a 16) F)) rq_278 rfl rfl (i' := 882) rfl ?_
    refine wp_if rq_278 rfl (fun _ => ?_) (fun h1 => absurd (show lcmpI ((md A (a 16) F) 15 0 0) v = 0 from lcmp_0 (hA h0)) h1)
    exact wp_goto rq_278 rfl (wp_weak LL_w (nx _ N _ _ (J_md hJF) (by omega) (by omega) (h17b.trans h17) (by omega) (by omega)))
set_option maxRecDepth 100000 in
theorem ls_seeded (hJ : J N σ σ) (hN : 0 ≤ N ∧ N < 2147483647) (hi : 0 ≤ i) (hL : i + 5 ≤ σ 17 0 (-1)) (hM : σ 17 0 (-1) < 2147483648) (hc : c + 5 ≤ 603072) (hs : s + 30 ≤ 7198826) (nx : Nxt i c s N σ Q) : wp true 278 886 (LL i none none none) [] σ c s Q := by
  refine wp_wf (fun hw hl => ?_)
  have hg := G_wf hw
  have e1 : wr (i + 1) = i + 1 := wr_eq (by omega) (by omega)
  obtain ⟨o, a, hev, ⟨v, F, hF, hJF, hag⟩, hE⟩ := pr_seeded (b := σ 17 0 (wr (i + 1))) hJ
  refine wp_seg 7 (P := some ((0 ≤ wr (i + 1) ∧ wr (i + 1) < alen σ 17 0))) (ls' := LL i none none none) (st' := [aR 15 0, aI (σ 17 0 (wr (i + 1))), aR 10 0]) (σ' := σ) rq_278 rfl ?_ (i' := 893) rfl ?_
  · show (0 ≤ wr (i + 1) ∧ wr (i + 1) < σ 17 0 (-1))
    omega
  have k1 := mh_at (k := 266) (by decide)
  refine wp_callQ (C := 0) (As := [aR 10 0, aI (σ 17 0 (wr (i + 1))), aR 15 0]) (rest := []) rq_278 rfl rfl (clOK_of (show clQw 278 266 2 3 0 = true by decide +kernel) (by rw [m278.1]; omega) (by rw [m278.2]; omega)) rfl (show 0 ≤ 4 by decide) (fun z => absurd rfl z) rfl (wp_17 (hl_seeded hev hg (Ho_of hag hE))) (fun v2 τ hq => ?_) (fun E τ hq => by obtain ⟨-, _, _, z, -⟩ := hq; cases z)
  obtain ⟨h17, kk, A, e9, rfl, hsm, hk⟩ := hq
  cases e9
  obtain ⟨hkk, hA⟩ := agr_k hag hk
  refine wp_seg 7 (P := some ((0 ≤ wr (i + 1) ∧ wr (i + 1) < alen (md A (a 16) a) 17 0))) (ls' := LL i (some (aI kk)) none none) (st' := [aI ((md A (a 16) a) 17 0 (wr (i + 1))), aR 11 0]) (σ' := (md A (a 16) a)) rq_278 rfl ?_ (i' := 901) rfl ?_
  · show (0 ≤ wr (i + 1) ∧ wr (i + 1) < (md A (a 16) a) 17 0 (-1))
    rw [h17]
    omega
  rw [h17]
  have k2 := mm_at (k := 218) (by decide)
  refine wp_callQ (C := 11) (As := [aR 11 0, aI (σ 17 0 (wr (i + 1)))]) (rest := []) rq_278 rfl rfl (clOK_of (show clQw 278 218 0 2 11 = true by decide +kernel) (by rw [m278.1]; omega) (by rw [m278.2]; omega)) rfl (show 0 ≤ 4 by decide) (fun _ => ⟨_, rfl⟩) rfl (wp_17 (ev_frame (A := A) (B := a 16) hF (noS_of rfl) (G_same hsm hg))) (fun v2 τ hq => ?_) (fun E τ hq => by cases hq.2.1)
  obtain ⟨h17b, e9, rfl⟩ := hq
  cases e9
  refine wp_seg 2 (P := none) (ls' := LL i (some (aI kk)) (some (aI v)) none) (st' := [aR 11 0]) (σ' := (md A (a 16) F)) rq_278 rfl True.intro (i' := 904) rfl ?_
  have k3 := mm_at (k := 152) (by decide)
  refine wp_call (C := 11) (As := [aR 11 0]) (rest := []) rq_278 (ev_mthrown _) rfl rfl (clOK_of (show clQw 278 152 0 1 11 = true by decide +kernel) (by rw [m278.1]; omega) (by rw [m278.2]; omega)) rfl (show 0 ≤ 4 by decide) (fun _ => ⟨_, rfl⟩) rfl rfl rfl ?_
  refine wp_seg 1 (P := none) (ls' := LL i (some (aI kk)) (some (aI v)) none) (st' := [aI kk, aI ((md A (a 16) F) 11 0 6)]) (σ' := (md A (a 16) F)) rq_278 rfl True.intro (i' := 906) rfl ?_
  refine wp_icmp rq_278 rfl (fun _ => ?_) (fun hne => absurd (show (md A (a 16) F) 11 0 6 = kk from (md_o (by decide) (by decide)).trans hkk) hne)
  refine wp_seg 1 (P := none) (ls' := LL i (some (aI kk)) (some (aI v)) none) (st' := [aI kk]) (σ' := (md A (a 16) F)) rq_278 rfl True.intro (i' := 910) rfl ?_
  refine wp_if rq_278 rfl (fun _ => ?_) (fun h0 => ?_)
  · exact wp_goto rq_278 rfl (wp_weak LL_w (nx _ N _ _ (J_md hJF) (by omega) (by omega) (h17b.trans h17) (by omega) (by omega)))
  · have h0 : kk = 0 := Decidable.of_not_not h0
    refine wp_seg 6 (P := some ((0 : Int) = 0)) (ls' := LL i (some (aI kk)) (some (aI v)) none) (st' := [aI (lcmpI ((md A (a 16) F) 15 0 0) v)]) (σ' := (md A (a 16) F)) rq_278 rfl rfl (i' := 917) rfl ?_
    refine wp_if rq_278 rfl (fun _ => ?_) (fun h1 => absurd (show lcmpI ((md A (a 16) F) 15 0 0) v = 0 from lcmp_0 (hA h0)) h1)
    exact wp_goto rq_278 rfl (wp_weak LL_w (nx _ N _ _ (J_md hJF) (by omega) (by omega) (h17b.trans h17) (by omega) (by omega)))
set_option maxRecDepth 100000 in
theorem ls_tableBout (hJ : J N σ σ) (hN : 0 ≤ N ∧ N < 2147483647) (hi : 0 ≤ i) (hL : i + 5 ≤ σ 17 0 (-1)) (hM : σ 17 0 (-1) < 2147483648) (hc : c + 5 ≤ 603072) (hs : s + 30 ≤ 7198826) (nx : Nxt i c s N σ Q) : wp true 278 921 (LL i none none none) [] σ c s Q := by
  refine wp_wf (fun hw hl => ?_)
  have hg := G_wf hw
  have e1 : wr (i + 1) = i + 1 := wr_eq (by omega) (by omega)
  have e2 : wr (i + 2) = i + 2 := wr_eq (by omega) (by omega)
  obtain ⟨o, a, hev, ⟨v, F, hF, hJF, hag⟩, hE⟩ := pr_tableBout (b := σ 17 0 (wr (i + 1))) (x := σ 17 0 (wr (i + 2))) hJ
  refine wp_seg 12 (P := some ((0 ≤ wr (i + 1) ∧ wr (i + 1) < alen σ 17 0) ∧ (0 ≤ wr (i + 2) ∧ wr (i + 2) < alen σ 17 0))) (ls' := LL i none none none) (st' := [aR 15 0, aI (σ 17 0 (wr (i + 2))), aI (σ 17 0 (wr (i + 1))), aR 10 0]) (σ' := σ) rq_278 rfl ?_ (i' := 933) rfl ?_
  · show (0 ≤ wr (i + 1) ∧ wr (i + 1) < σ 17 0 (-1)) ∧ (0 ≤ wr (i + 2) ∧ wr (i + 2) < σ 17 0 (-1))
    omega
  have k1 := mh_at (k := 267) (by decide)
  refine wp_callQ (C := 0) (As := [aR 10 0, aI (σ 17 0 (wr (i + 1))), aI (σ 17 0 (wr (i + 2))), aR 15 0]) (rest := []) rq_278 rfl rfl (clOK_of (show clQw 278 267 2 4 0 = true by decide +kernel) (by rw [m278.1]; omega) (by rw [m278.2]; omega)) rfl (show 0 ≤ 4 by decide) (fun z => absurd rfl z) rfl (wp_17 (hl_tableBout hev hg (Ho_of hag hE))) (fun v2 τ hq => ?_) (fun E τ hq => by obtain ⟨-, _, _, z, -⟩ := hq; cases z)
  obtain ⟨h17, kk, A, e9, rfl, hsm, hk⟩ := hq
  cases e9
  obtain ⟨hkk, hA⟩ := agr_k hag hk
  refine wp_seg 12 (P := some ((0 ≤ wr (i + 1) ∧ wr (i + 1) < alen (md A (a 16) a) 17 0) ∧ (0 ≤ wr (i + 2) ∧ wr (i + 2) < alen (md A (a 16) a) 17 0))) (ls' := LL i (some (aI kk)) none none) (st' := [aI ((md A (a 16) a) 17 0 (wr (i + 2))), aI ((md A (a 16) a) 17 0 (wr (i + 1))), aR 11 0]) (σ' := (md A (a 16) a)) rq_278 rfl ?_ (i' := 946) rfl ?_
  · show (0 ≤ wr (i + 1) ∧ wr (i + 1) < (md A (a 16) a) 17 0 (-1)) ∧ (0 ≤ wr (i + 2) ∧ wr (i + 2) < (md A (a 16) a) 17 0 (-1))
    rw [h17]
    omega
  rw [h17]
  have k2 := mm_at (k := 220) (by decide)
  refine wp_callQ (C := 11) (As := [aR 11 0, aI (σ 17 0 (wr (i + 1))), aI (σ 17 0 (wr (i + 2)))]) (rest := []) rq_278 rfl rfl (clOK_of (show clQw 278 220 0 3 11 = true by decide +kernel) (by rw [m278.1]; omega) (by rw [m278.2]; omega)) rfl (show 0 ≤ 4 by decide) (fun _ => ⟨_, rfl⟩) rfl (wp_17 (ev_frame (A := A) (B := a 16) hF (noS_of rfl) (G_same hsm hg))) (fun v2 τ hq => ?_) (fun E τ hq => by cases hq.2.1)
  obtain ⟨h17b, e9, rfl⟩ := hq
  cases e9
  refine wp_seg 2 (P := none) (ls' := LL i (some (aI kk)) (some (aI v)) none) (st' := [aR 11 0]) (σ' := (md A (a 16) F)) rq_278 rfl True.intro (i' := 949) rfl ?_
  have k3 := mm_at (k := 152) (by decide)
  refine wp_call (C := 11) (As := [aR 11 0]) (rest := []) rq_278 (ev_mthrown _) rfl rfl (clOK_of (show clQw 278 152 0 1 11 = true by decide +kernel) (by rw [m278.1]; omega) (by rw [m278.2]; omega)) rfl (show 0 ≤ 4 by decide) (fun _ => ⟨_, rfl⟩) rfl rfl rfl ?_
  refine wp_seg 1 (P := none) (ls' := LL i (some (aI kk)) (some (aI v)) none) (st' := [aI kk, aI ((md A (a 16) F) 11 0 6)]) (σ' := (md A (a 16) F)) rq_278 rfl True.intro (i' := 951) rfl ?_
  refine wp_icmp rq_278 rfl (fun _ => ?_) (fun hne => absurd (show (md A (a 16) F) 11 0 6 = kk from (md_o (by decide) (by decide)).trans hkk) hne)
  refine wp_seg 1 (P := none) (ls' := LL i (some (aI kk)) (some (aI v)) none) (st' := [aI kk]) (σ' := (md A (a 16) F)) rq_278 rfl True.intro (i' := 955) rfl ?_
  refine wp_if rq_278 rfl (fun _ => ?_) (fun h0 => ?_)
  · exact wp_goto rq_278 rfl (wp_weak LL_w (nx _ N _ _ (J_md hJF) (by omega) (by omega) (h17b.trans h17) (by omega) (by omega)))
  · have h0 : kk = 0 := Decidable.of_not_not h0
    refine wp_seg 6 (P := some ((0 : Int) = 0)) (ls' := LL i (some (aI kk)) (some (aI v)) none) (st' := [aI (lcmpI ((md A (a 16) F) 15 0 0) v)]) (σ' := (md A (a 16) F)) rq_278 rfl rfl (i' := 962) rfl ?_
    refine wp_if rq_278 rfl (fun _ => ?_) (fun h1 => absurd (show lcmpI ((md A (a 16) F) 15 0 0) v = 0 from lcmp_0 (hA h0)) h1)
    exact wp_goto rq_278 rfl (wp_weak LL_w (nx _ N _ _ (J_md hJF) (by omega) (by omega) (h17b.trans h17) (by omega) (by omega)))
set_option maxRecDepth 100000 in
theorem ls_finalist (hJ : J N σ σ) (hN : 0 ≤ N ∧ N < 2147483647) (hi : 0 ≤ i) (hL : i + 5 ≤ σ 17 0 (-1)) (hM : σ 17 0 (-1) < 2147483648) (hc : c + 5 ≤ 603072) (hs : s + 30 ≤ 7198826) (nx : Nxt i c s N σ Q) : wp true 278 966 (LL i none none none) [] σ c s Q := by
  refine wp_wf (fun hw hl => ?_)
  have hg := G_wf hw
  have e1 : wr (i + 1) = i + 1 := wr_eq (by omega) (by omega)
  obtain ⟨o, a, hev, ⟨v, F, hF, hJF, hag⟩, hE⟩ := pr_finalist (b := σ 17 0 (wr (i + 1))) hJ
  refine wp_seg 7 (P := some ((0 ≤ wr (i + 1) ∧ wr (i + 1) < alen σ 17 0))) (ls' := LL i none none none) (st' := [aR 15 0, aI (σ 17 0 (wr (i + 1))), aR 10 0]) (σ' := σ) rq_278 rfl ?_ (i' := 973) rfl ?_
  · show (0 ≤ wr (i + 1) ∧ wr (i + 1) < σ 17 0 (-1))
    omega
  have k1 := mh_at (k := 268) (by decide)
  refine wp_callQ (C := 0) (As := [aR 10 0, aI (σ 17 0 (wr (i + 1))), aR 15 0]) (rest := []) rq_278 rfl rfl (clOK_of (show clQw 278 268 2 3 0 = true by decide +kernel) (by rw [m278.1]; omega) (by rw [m278.2]; omega)) rfl (show 0 ≤ 4 by decide) (fun z => absurd rfl z) rfl (wp_17 (hl_finalist hev hg (Ho_of hag hE))) (fun v2 τ hq => ?_) (fun E τ hq => by obtain ⟨-, _, _, z, -⟩ := hq; cases z)
  obtain ⟨h17, kk, A, e9, rfl, hsm, hk⟩ := hq
  cases e9
  obtain ⟨hkk, hA⟩ := agr_k hag hk
  refine wp_seg 7 (P := some ((0 ≤ wr (i + 1) ∧ wr (i + 1) < alen (md A (a 16) a) 17 0))) (ls' := LL i (some (aI kk)) none none) (st' := [aI ((md A (a 16) a) 17 0 (wr (i + 1))), aR 11 0]) (σ' := (md A (a 16) a)) rq_278 rfl ?_ (i' := 981) rfl ?_
  · show (0 ≤ wr (i + 1) ∧ wr (i + 1) < (md A (a 16) a) 17 0 (-1))
    rw [h17]
    omega
  rw [h17]
  have k2 := mm_at (k := 222) (by decide)
  refine wp_callQ (C := 11) (As := [aR 11 0, aI (σ 17 0 (wr (i + 1)))]) (rest := []) rq_278 rfl rfl (clOK_of (show clQw 278 222 0 2 11 = true by decide +kernel) (by rw [m278.1]; omega) (by rw [m278.2]; omega)) rfl (show 0 ≤ 4 by decide) (fun _ => ⟨_, rfl⟩) rfl (wp_17 (ev_frame (A := A) (B := a 16) hF (noS_of rfl) (G_same hsm hg))) (fun v2 τ hq => ?_) (fun E τ hq => by cases hq.2.1)
  obtain ⟨h17b, e9, rfl⟩ := hq
  cases e9
  refine wp_seg 2 (P := none) (ls' := LL i (some (aI kk)) (some (aI v)) none) (st' := [aR 11 0]) (σ' := (md A (a 16) F)) rq_278 rfl True.intro (i' := 984) rfl ?_
  have k3 := mm_at (k := 152) (by decide)
  refine wp_call (C := 11) (As := [aR 11 0]) (rest := []) rq_278 (ev_mthrown _) rfl rfl (clOK_of (show clQw 278 152 0 1 11 = true by decide +kernel) (by rw [m278.1]; omega) (by rw [m278.2]; omega)) rfl (show 0 ≤ 4 by decide) (fun _ => ⟨_, rfl⟩) rfl rfl rfl ?_
  refine wp_seg 1 (P := none) (ls' := LL i (some (aI kk)) (some (aI v)) none) (st' := [aI kk, aI ((md A (a 16) F) 11 0 6)]) (σ' := (md A (a 16) F)) rq_278 rfl True.intro (i' := 986) rfl ?_
  refine wp_icmp rq_278 rfl (fun _ => ?_) (fun hne => absurd (show (md A (a 16) F) 11 0 6 = kk from (md_o (by decide) (by decide)).trans hkk) hne)
  refine wp_seg 1 (P := none) (ls' := LL i (some (aI kk)) (some (aI v)) none) (st' := [aI kk]) (σ' := (md A (a 16) F)) rq_278 rfl True.intro (i' := 990) rfl ?_
  refine wp_if rq_278 rfl (fun _ => ?_) (fun h0 => ?_)
  · exact wp_goto rq_278 rfl (wp_weak LL_w (nx _ N _ _ (J_md hJF) (by omega) (by omega) (h17b.trans h17) (by omega) (by omega)))
  · have h0 : kk = 0 := Decidable.of_not_not h0
    refine wp_seg 6 (P := some ((0 : Int) = 0)) (ls' := LL i (some (aI kk)) (some (aI v)) none) (st' := [aI (lcmpI ((md A (a 16) F) 15 0 0) v)]) (σ' := (md A (a 16) F)) rq_278 rfl rfl (i' := 997) rfl ?_
    refine wp_if rq_278 rfl (fun _ => ?_) (fun h1 => absurd (show lcmpI ((md A (a 16) F) 15 0 0) v = 0 from lcmp_0 (hA h0)) h1)
    exact wp_goto rq_278 rfl (wp_weak LL_w (nx _ N _ _ (J_md hJF) (by omega) (by omega) (h17b.trans h17) (by omega) (by omega)))
set_option maxRecDepth 100000 in
theorem ls_toGo (hJ : J N σ σ) (hN : 0 ≤ N ∧ N < 2147483647) (hi : 0 ≤ i) (hL : i + 5 ≤ σ 17 0 (-1)) (hM : σ 17 0 (-1) < 2147483648) (hc : c + 5 ≤ 603072) (hs : s + 30 ≤ 7198826) (nx : Nxt i c s N σ Q) : wp true 278 1001 (LL i none none none) [] σ c s Q := by
  refine wp_wf (fun hw hl => ?_)
  have hg := G_wf hw
  have e1 : wr (i + 1) = i + 1 := wr_eq (by omega) (by omega)
  obtain ⟨o, a, hev, ⟨v, F, hF, hJF, hag⟩, hE⟩ := pr_toGo (b := σ 17 0 (wr (i + 1))) hJ
  refine wp_seg 7 (P := some ((0 ≤ wr (i + 1) ∧ wr (i + 1) < alen σ 17 0))) (ls' := LL i none none none) (st' := [aR 15 0, aI (σ 17 0 (wr (i + 1))), aR 10 0]) (σ' := σ) rq_278 rfl ?_ (i' := 1008) rfl ?_
  · show (0 ≤ wr (i + 1) ∧ wr (i + 1) < σ 17 0 (-1))
    omega
  have k1 := mh_at (k := 269) (by decide)
  refine wp_callQ (C := 0) (As := [aR 10 0, aI (σ 17 0 (wr (i + 1))), aR 15 0]) (rest := []) rq_278 rfl rfl (clOK_of (show clQw 278 269 2 3 0 = true by decide +kernel) (by rw [m278.1]; omega) (by rw [m278.2]; omega)) rfl (show 0 ≤ 4 by decide) (fun z => absurd rfl z) rfl (wp_17 (hl_toGo hev hg (Ho_of hag hE))) (fun v2 τ hq => ?_) (fun E τ hq => by obtain ⟨-, _, _, z, -⟩ := hq; cases z)
  obtain ⟨h17, kk, A, e9, rfl, hsm, hk⟩ := hq
  cases e9
  obtain ⟨hkk, hA⟩ := agr_k hag hk
  refine wp_seg 7 (P := some ((0 ≤ wr (i + 1) ∧ wr (i + 1) < alen (md A (a 16) a) 17 0))) (ls' := LL i (some (aI kk)) none none) (st' := [aI ((md A (a 16) a) 17 0 (wr (i + 1))), aR 11 0]) (σ' := (md A (a 16) a)) rq_278 rfl ?_ (i' := 1016) rfl ?_
  · show (0 ≤ wr (i + 1) ∧ wr (i + 1) < (md A (a 16) a) 17 0 (-1))
    rw [h17]
    omega
  rw [h17]
  have k2 := mm_at (k := 224) (by decide)
  refine wp_callQ (C := 11) (As := [aR 11 0, aI (σ 17 0 (wr (i + 1)))]) (rest := []) rq_278 rfl rfl (clOK_of (show clQw 278 224 0 2 11 = true by decide +kernel) (by rw [m278.1]; omega) (by rw [m278.2]; omega)) rfl (show 0 ≤ 4 by decide) (fun _ => ⟨_, rfl⟩) rfl (wp_17 (ev_frame (A := A) (B := a 16) hF (noS_of rfl) (G_same hsm hg))) (fun v2 τ hq => ?_) (fun E τ hq => by cases hq.2.1)
  obtain ⟨h17b, e9, rfl⟩ := hq
  cases e9
  refine wp_seg 2 (P := none) (ls' := LL i (some (aI kk)) (some (aI v)) none) (st' := [aR 11 0]) (σ' := (md A (a 16) F)) rq_278 rfl True.intro (i' := 1019) rfl ?_
  have k3 := mm_at (k := 152) (by decide)
  refine wp_call (C := 11) (As := [aR 11 0]) (rest := []) rq_278 (ev_mthrown _) rfl rfl (clOK_of (show clQw 278 152 0 1 11 = true by decide +kernel) (by rw [m278.1]; omega) (by rw [m278.2]; omega)) rfl (show 0 ≤ 4 by decide) (fun _ => ⟨_, rfl⟩) rfl rfl rfl ?_
  refine wp_seg 1 (P := none) (ls' := LL i (some (aI kk)) (some (aI v)) none) (st' := [aI kk, aI ((md A (a 16) F) 11 0 6)]) (σ' := (md A (a 16) F)) rq_278 rfl True.intro (i' := 1021) rfl ?_
  refine wp_icmp rq_278 rfl (fun _ => ?_) (fun hne => absurd (show (md A (a 16) F) 11 0 6 = kk from (md_o (by decide) (by decide)).trans hkk) hne)
  refine wp_seg 1 (P := none) (ls' := LL i (some (aI kk)) (some (aI v)) none) (st' := [aI kk]) (σ' := (md A (a 16) F)) rq_278 rfl True.intro (i' := 1025) rfl ?_
  refine wp_if rq_278 rfl (fun _ => ?_) (fun h0 => ?_)
  · exact wp_goto rq_278 rfl (wp_weak LL_w (nx _ N _ _ (J_md hJF) (by omega) (by omega) (h17b.trans h17) (by omega) (by omega)))
  · have h0 : kk = 0 := Decidable.of_not_not h0
    refine wp_seg 6 (P := some ((0 : Int) = 0)) (ls' := LL i (some (aI kk)) (some (aI v)) none) (st' := [aI (lcmpI ((md A (a 16) F) 15 0 0) v)]) (σ' := (md A (a 16) F)) rq_278 rfl rfl (i' := 1032) rfl ?_
    refine wp_if rq_278 rfl (fun _ => ?_) (fun h1 => absurd (show lcmpI ((md A (a 16) F) 15 0 0) v = 0 from lcmp_0 (hA h0)) h1)
    exact wp_goto rq_278 rfl (wp_weak LL_w (nx _ N _ _ (J_md hJF) (by omega) (by omega) (h17b.trans h17) (by omega) (by omega)))
set_option maxRecDepth 100000 in
theorem ls_beginRelay (hJ : J N σ σ) (hN : 0 ≤ N ∧ N < 2147483647) (hi : 0 ≤ i) (hL : i + 5 ≤ σ 17 0 (-1)) (hM : σ 17 0 (-1) < 2147483648) (hc : c + 5 ≤ 603072) (hs : s + 30 ≤ 7198826) (nx : Nxt i c s N σ Q) : wp true 278 1036 (LL i none none none) [] σ c s Q := by
  refine wp_wf (fun hw hl => ?_)
  have hg := G_wf hw
  have e1 : wr (i + 1) = i + 1 := wr_eq (by omega) (by omega)
  have e2 : wr (i + 2) = i + 2 := wr_eq (by omega) (by omega)
  obtain ⟨o, a, hev, ⟨v, F, hF, hJF, hag⟩, hE⟩ := pr_beginRelay (b := σ 17 0 (wr (i + 1))) (x := σ 17 0 (wr (i + 2))) hJ
  refine wp_seg 12 (P := some ((0 ≤ wr (i + 1) ∧ wr (i + 1) < alen σ 17 0) ∧ (0 ≤ wr (i + 2) ∧ wr (i + 2) < alen σ 17 0))) (ls' := LL i none none none) (st' := [aR 15 0, aI (σ 17 0 (wr (i + 2))), aI (σ 17 0 (wr (i + 1))), aR 10 0]) (σ' := σ) rq_278 rfl ?_ (i' := 1048) rfl ?_
  · show (0 ≤ wr (i + 1) ∧ wr (i + 1) < σ 17 0 (-1)) ∧ (0 ≤ wr (i + 2) ∧ wr (i + 2) < σ 17 0 (-1))
    omega
  have k1 := mh_at (k := 270) (by decide)
  refine wp_callQ (C := 0) (As := [aR 10 0, aI (σ 17 0 (wr (i + 1))), aI (σ 17 0 (wr (i + 2))), aR 15 0]) (rest := []) rq_278 rfl rfl (clOK_of (show clQw 278 270 2 4 0 = true by decide +kernel) (by rw [m278.1]; omega) (by rw [m278.2]; omega)) rfl (show 0 ≤ 4 by decide) (fun z => absurd rfl z) rfl (wp_17 (hl_beginRelay hev hg (Ho_of hag hE))) (fun v2 τ hq => ?_) (fun E τ hq => by obtain ⟨-, _, _, z, -⟩ := hq; cases z)
  obtain ⟨h17, kk, A, e9, rfl, hsm, hk⟩ := hq
  cases e9
  obtain ⟨hkk, hA⟩ := agr_k hag hk
  refine wp_seg 12 (P := some ((0 ≤ wr (i + 1) ∧ wr (i + 1) < alen (md A (a 16) a) 17 0) ∧ (0 ≤ wr (i + 2) ∧ wr (i + 2) < alen (md A (a 16) a) 17 0))) (ls' := LL i (some (aI kk)) none none) (st' := [aI ((md A (a 16) a) 17 0 (wr (i + 2))), aI ((md A (a 16) a) 17 0 (wr (i + 1))), aR 11 0]) (σ' := (md A (a 16) a)) rq_278 rfl ?_ (i' := 1061) rfl ?_
  · show (0 ≤ wr (i + 1) ∧ wr (i + 1) < (md A (a 16) a) 17 0 (-1)) ∧ (0 ≤ wr (i + 2) ∧ wr (i + 2) < (md A (a 16) a) 17 0 (-1))
    rw [h17]
    omega
  rw [h17]
  have k2 := mm_at (k := 228) (by decide)
  refine wp_callQ (C := 11) (As := [aR 11 0, aI (σ 17 0 (wr (i + 1))), aI (σ 17 0 (wr (i + 2)))]) (rest := []) rq_278 rfl rfl (clOK_of (show clQw 278 228 0 3 11 = true by decide +kernel) (by rw [m278.1]; omega) (by rw [m278.2]; omega)) rfl (show 0 ≤ 4 by decide) (fun _ => ⟨_, rfl⟩) rfl (wp_17 (ev_frame (A := A) (B := a 16) hF (noS_of rfl) (G_same hsm hg))) (fun v2 τ hq => ?_) (fun E τ hq => by cases hq.2.1)
  obtain ⟨h17b, e9, rfl⟩ := hq
  cases e9
  refine wp_seg 2 (P := none) (ls' := LL i (some (aI kk)) (some (aI v)) none) (st' := [aR 11 0]) (σ' := (md A (a 16) F)) rq_278 rfl True.intro (i' := 1064) rfl ?_
  have k3 := mm_at (k := 152) (by decide)
  refine wp_call (C := 11) (As := [aR 11 0]) (rest := []) rq_278 (ev_mthrown _) rfl rfl (clOK_of (show clQw 278 152 0 1 11 = true by decide +kernel) (by rw [m278.1]; omega) (by rw [m278.2]; omega)) rfl (show 0 ≤ 4 by decide) (fun _ => ⟨_, rfl⟩) rfl rfl rfl ?_
  refine wp_seg 1 (P := none) (ls' := LL i (some (aI kk)) (some (aI v)) none) (st' := [aI kk, aI ((md A (a 16) F) 11 0 6)]) (σ' := (md A (a 16) F)) rq_278 rfl True.intro (i' := 1066) rfl ?_
  refine wp_icmp rq_278 rfl (fun _ => ?_) (fun hne => absurd (show (md A (a 16) F) 11 0 6 = kk from (md_o (by decide) (by decide)).trans hkk) hne)
  refine wp_seg 1 (P := none) (ls' := LL i (some (aI kk)) (some (aI v)) none) (st' := [aI kk]) (σ' := (md A (a 16) F)) rq_278 rfl True.intro (i' := 1070) rfl ?_
  refine wp_if rq_278 rfl (fun _ => ?_) (fun h0 => ?_)
  · exact wp_goto rq_278 rfl (wp_weak LL_w (nx _ N _ _ (J_md hJF) (by omega) (by omega) (h17b.trans h17) (by omega) (by omega)))
  · have h0 : kk = 0 := Decidable.of_not_not h0
    refine wp_seg 6 (P := some ((0 : Int) = 0)) (ls' := LL i (some (aI kk)) (some (aI v)) none) (st' := [aI (lcmpI ((md A (a 16) F) 15 0 0) v)]) (σ' := (md A (a 16) F)) rq_278 rfl rfl (i' := 1077) rfl ?_
    refine wp_if rq_278 rfl (fun _ => ?_) (fun h1 => absurd (show lcmpI ((md A (a 16) F) 15 0 0) v = 0 from lcmp_0 (hA h0)) h1)
    exact wp_goto rq_278 rfl (wp_weak LL_w (nx _ N _ _ (J_md hJF) (by omega) (by omega) (h17b.trans h17) (by omega) (by omega)))
set_option maxRecDepth 100000 in
theorem ls_leg (hJ : J N σ σ) (hN : 0 ≤ N ∧ N < 2147483647) (hi : 0 ≤ i) (hL : i + 5 ≤ σ 17 0 (-1)) (hM : σ 17 0 (-1) < 2147483648) (hc : c + 5 ≤ 603072) (hs : s + 30 ≤ 7198826) (nx : Nxt i c s N σ Q) : wp true 278 1081 (LL i none none none) [] σ c s Q := by
  refine wp_wf (fun hw hl => ?_)
  have hg := G_wf hw
  have e1 : wr (i + 1) = i + 1 := wr_eq (by omega) (by omega)
  have e2 : wr (i + 2) = i + 2 := wr_eq (by omega) (by omega)
  obtain ⟨o, a, hev, ⟨v, F, hF, hJF, hag⟩, hE⟩ := pr_leg (b := σ 17 0 (wr (i + 1))) (x := σ 17 0 (wr (i + 2))) hJ
  refine wp_seg 12 (P := some ((0 ≤ wr (i + 1) ∧ wr (i + 1) < alen σ 17 0) ∧ (0 ≤ wr (i + 2) ∧ wr (i + 2) < alen σ 17 0))) (ls' := LL i none none none) (st' := [aR 15 0, aI (σ 17 0 (wr (i + 2))), aI (σ 17 0 (wr (i + 1))), aR 10 0]) (σ' := σ) rq_278 rfl ?_ (i' := 1093) rfl ?_
  · show (0 ≤ wr (i + 1) ∧ wr (i + 1) < σ 17 0 (-1)) ∧ (0 ≤ wr (i + 2) ∧ wr (i + 2) < σ 17 0 (-1))
    omega
  have k1 := mh_at (k := 271) (by decide)
  refine wp_callQ (C := 0) (As := [aR 10 0, aI (σ 17 0 (wr (i + 1))), aI (σ 17 0 (wr (i + 2))), aR 15 0]) (rest := []) rq_278 rfl rfl (clOK_of (show clQw 278 271 2 4 0 = true by decide +kernel) (by rw [m278.1]; omega) (by rw [m278.2]; omega)) rfl (show 0 ≤ 4 by decide) (fun z => absurd rfl z) rfl (wp_17 (hl_leg hev hg (Ho_of hag hE))) (fun v2 τ hq => ?_) (fun E τ hq => by obtain ⟨-, _, _, z, -⟩ := hq; cases z)
  obtain ⟨h17, kk, A, e9, rfl, hsm, hk⟩ := hq
  cases e9
  obtain ⟨hkk, hA⟩ := agr_k hag hk
  refine wp_seg 12 (P := some ((0 ≤ wr (i + 1) ∧ wr (i + 1) < alen (md A (a 16) a) 17 0) ∧ (0 ≤ wr (i + 2) ∧ wr (i + 2) < alen (md A (a 16) a) 17 0))) (ls' := LL i (some (aI kk)) none none) (st' := [aI ((md A (a 16) a) 17 0 (wr (i + 2))), aI ((md A (a 16) a) 17 0 (wr (i + 1))), aR 11 0]) (σ' := (md A (a 16) a)) rq_278 rfl ?_ (i' := 1106) rfl ?_
  · show (0 ≤ wr (i + 1) ∧ wr (i + 1) < (md A (a 16) a) 17 0 (-1)) ∧ (0 ≤ wr (i + 2) ∧ wr (i + 2) < (md A (a 16) a) 17 0 (-1))
    rw [h17]
    omega
  rw [h17]
  have k2 := mm_at (k := 230) (by decide)
  refine wp_callQ (C := 11) (As := [aR 11 0, aI (σ 17 0 (wr (i + 1))), aI (σ 17 0 (wr (i + 2)))]) (rest := []) rq_278 rfl rfl (clOK_of (show clQw 278 230 0 3 11 = true by decide +kernel) (by rw [m278.1]; omega) (by rw [m278.2]; omega)) rfl (show 0 ≤ 4 by decide) (fun _ => ⟨_, rfl⟩) rfl (wp_17 (ev_frame (A := A) (B := a 16) hF (noS_of rfl) (G_same hsm hg))) (fun v2 τ hq => ?_) (fun E τ hq => by cases hq.2.1)
  obtain ⟨h17b, e9, rfl⟩ := hq
  cases e9
  refine wp_seg 2 (P := none) (ls' := LL i (some (aI kk)) (some (aI v)) none) (st' := [aR 11 0]) (σ' := (md A (a 16) F)) rq_278 rfl True.intro (i' := 1109) rfl ?_
  have k3 := mm_at (k := 152) (by decide)
  refine wp_call (C := 11) (As := [aR 11 0]) (rest := []) rq_278 (ev_mthrown _) rfl rfl (clOK_of (show clQw 278 152 0 1 11 = true by decide +kernel) (by rw [m278.1]; omega) (by rw [m278.2]; omega)) rfl (show 0 ≤ 4 by decide) (fun _ => ⟨_, rfl⟩) rfl rfl rfl ?_
  refine wp_seg 1 (P := none) (ls' := LL i (some (aI kk)) (some (aI v)) none) (st' := [aI kk, aI ((md A (a 16) F) 11 0 6)]) (σ' := (md A (a 16) F)) rq_278 rfl True.intro (i' := 1111) rfl ?_
  refine wp_icmp rq_278 rfl (fun _ => ?_) (fun hne => absurd (show (md A (a 16) F) 11 0 6 = kk from (md_o (by decide) (by decide)).trans hkk) hne)
  refine wp_seg 1 (P := none) (ls' := LL i (some (aI kk)) (some (aI v)) none) (st' := [aI kk]) (σ' := (md A (a 16) F)) rq_278 rfl True.intro (i' := 1115) rfl ?_
  refine wp_if rq_278 rfl (fun _ => ?_) (fun h0 => ?_)
  · exact wp_goto rq_278 rfl (wp_weak LL_w (nx _ N _ _ (J_md hJF) (by omega) (by omega) (h17b.trans h17) (by omega) (by omega)))
  · have h0 : kk = 0 := Decidable.of_not_not h0
    refine wp_seg 6 (P := some ((0 : Int) = 0)) (ls' := LL i (some (aI kk)) (some (aI v)) none) (st' := [aI (lcmpI ((md A (a 16) F) 15 0 0) v)]) (σ' := (md A (a 16) F)) rq_278 rfl rfl (i' := 1122) rfl ?_
    refine wp_if rq_278 rfl (fun _ => ?_) (fun h1 => absurd (show lcmpI ((md A (a 16) F) 15 0 0) v = 0 from lcmp_0 (hA h0)) h1)
    exact wp_goto rq_278 rfl (wp_weak LL_w (nx _ N _ _ (J_md hJF) (by omega) (by omega) (h17b.trans h17) (by omega) (by omega)))
set_option maxRecDepth 100000 in
theorem ls_relay (hJ : J N σ σ) (hN : 0 ≤ N ∧ N < 2147483647) (hi : 0 ≤ i) (hL : i + 5 ≤ σ 17 0 (-1)) (hM : σ 17 0 (-1) < 2147483648) (hc : c + 5 ≤ 603072) (hs : s + 30 ≤ 7198826) (nx : Nxt i c s N σ Q) : wp true 278 1126 (LL i none none none) [] σ c s Q := by
  refine wp_wf (fun hw hl => ?_)
  have hg := G_wf hw
  have e1 : wr (i + 1) = i + 1 := wr_eq (by omega) (by omega)
  obtain ⟨o, a, hev, ⟨v, F, hF, hJF, hag⟩, hE⟩ := pr_relay (b := σ 17 0 (wr (i + 1))) hJ
  refine wp_seg 7 (P := some ((0 ≤ wr (i + 1) ∧ wr (i + 1) < alen σ 17 0))) (ls' := LL i none none none) (st' := [aR 15 0, aI (σ 17 0 (wr (i + 1))), aR 10 0]) (σ' := σ) rq_278 rfl ?_ (i' := 1133) rfl ?_
  · show (0 ≤ wr (i + 1) ∧ wr (i + 1) < σ 17 0 (-1))
    omega
  have k1 := mh_at (k := 272) (by decide)
  refine wp_callQ (C := 0) (As := [aR 10 0, aI (σ 17 0 (wr (i + 1))), aR 15 0]) (rest := []) rq_278 rfl rfl (clOK_of (show clQw 278 272 2 3 0 = true by decide +kernel) (by rw [m278.1]; omega) (by rw [m278.2]; omega)) rfl (show 0 ≤ 4 by decide) (fun z => absurd rfl z) rfl (wp_17 (hl_relay hev hg (Ho_of hag hE))) (fun v2 τ hq => ?_) (fun E τ hq => by obtain ⟨-, _, _, z, -⟩ := hq; cases z)
  obtain ⟨h17, kk, A, e9, rfl, hsm, hk⟩ := hq
  cases e9
  obtain ⟨hkk, hA⟩ := agr_k hag hk
  refine wp_seg 7 (P := some ((0 ≤ wr (i + 1) ∧ wr (i + 1) < alen (md A (a 16) a) 17 0))) (ls' := LL i (some (aI kk)) none none) (st' := [aI ((md A (a 16) a) 17 0 (wr (i + 1))), aR 11 0]) (σ' := (md A (a 16) a)) rq_278 rfl ?_ (i' := 1141) rfl ?_
  · show (0 ≤ wr (i + 1) ∧ wr (i + 1) < (md A (a 16) a) 17 0 (-1))
    rw [h17]
    omega
  rw [h17]
  have k2 := mm_at (k := 232) (by decide)
  refine wp_callQ (C := 11) (As := [aR 11 0, aI (σ 17 0 (wr (i + 1)))]) (rest := []) rq_278 rfl rfl (clOK_of (show clQw 278 232 0 2 11 = true by decide +kernel) (by rw [m278.1]; omega) (by rw [m278.2]; omega)) rfl (show 0 ≤ 4 by decide) (fun _ => ⟨_, rfl⟩) rfl (wp_17 (ev_frame (A := A) (B := a 16) hF (noS_of rfl) (G_same hsm hg))) (fun v2 τ hq => ?_) (fun E τ hq => by cases hq.2.1)
  obtain ⟨h17b, e9, rfl⟩ := hq
  cases e9
  refine wp_seg 2 (P := none) (ls' := LL i (some (aI kk)) (some (aI v)) none) (st' := [aR 11 0]) (σ' := (md A (a 16) F)) rq_278 rfl True.intro (i' := 1144) rfl ?_
  have k3 := mm_at (k := 152) (by decide)
  refine wp_call (C := 11) (As := [aR 11 0]) (rest := []) rq_278 (ev_mthrown _) rfl rfl (clOK_of (show clQw 278 152 0 1 11 = true by decide +kernel) (by rw [m278.1]; omega) (by rw [m278.2]; omega)) rfl (show 0 ≤ 4 by decide) (fun _ => ⟨_, rfl⟩) rfl rfl rfl ?_
  refine wp_seg 1 (P := none) (ls' := LL i (some (aI kk)) (some (aI v)) none) (st' := [aI kk, aI ((md A (a 16) F) 11 0 6)]) (σ' := (md A (a 16) F)) rq_278 rfl True.intro (i' := 1146) rfl ?_
  refine wp_icmp rq_278 rfl (fun _ => ?_) (fun hne => absurd (show (md A (a 16) F) 11 0 6 = kk from (md_o (by decide) (by decide)).trans hkk) hne)
  refine wp_seg 1 (P := none) (ls' := LL i (some (aI kk)) (some (aI v)) none) (st' := [aI kk]) (σ' := (md A (a 16) F)) rq_278 rfl True.intro (i' := 1150) rfl ?_
  refine wp_if rq_278 rfl (fun _ => ?_) (fun h0 => ?_)
  · exact wp_goto rq_278 rfl (wp_weak LL_w (nx _ N _ _ (J_md hJF) (by omega) (by omega) (h17b.trans h17) (by omega) (by omega)))
  · have h0 : kk = 0 := Decidable.of_not_not h0
    refine wp_seg 6 (P := some ((0 : Int) = 0)) (ls' := LL i (some (aI kk)) (some (aI v)) none) (st' := [aI (lcmpI ((md A (a 16) F) 15 0 0) v)]) (σ' := (md A (a 16) F)) rq_278 rfl rfl (i' := 1157) rfl ?_
    refine wp_if rq_278 rfl (fun _ => ?_) (fun h1 => absurd (show lcmpI ((md A (a 16) F) 15 0 0) v = 0 from lcmp_0 (hA h0)) h1)
    exact wp_goto rq_278 rfl (wp_weak LL_w (nx _ N _ _ (J_md hJF) (by omega) (by omega) (h17b.trans h17) (by omega) (by omega)))
set_option maxRecDepth 100000 in
theorem ls_account (hJ : J N σ σ) (hN : 0 ≤ N ∧ N < 2147483647) (hi : 0 ≤ i) (hL : i + 5 ≤ σ 17 0 (-1)) (hM : σ 17 0 (-1) < 2147483648) (hc : c + 5 ≤ 603072) (hs : s + 30 ≤ 7198826) (nx : Nxt i c s N σ Q) : wp true 278 1161 (LL i none none none) [] σ c s Q := by
  refine wp_wf (fun hw hl => ?_)
  have hg := G_wf hw
  have e1 : wr (i + 1) = i + 1 := wr_eq (by omega) (by omega)
  obtain ⟨o, a, hev, ⟨v, F, hF, hJF, hag⟩, hE⟩ := pr_account (b := σ 17 0 (wr (i + 1))) hJ
  refine wp_seg 7 (P := some ((0 ≤ wr (i + 1) ∧ wr (i + 1) < alen σ 17 0))) (ls' := LL i none none none) (st' := [aR 15 0, aI (σ 17 0 (wr (i + 1))), aR 10 0]) (σ' := σ) rq_278 rfl ?_ (i' := 1168) rfl ?_
  · show (0 ≤ wr (i + 1) ∧ wr (i + 1) < σ 17 0 (-1))
    omega
  have k1 := mh_at (k := 273) (by decide)
  refine wp_callQ (C := 0) (As := [aR 10 0, aI (σ 17 0 (wr (i + 1))), aR 15 0]) (rest := []) rq_278 rfl rfl (clOK_of (show clQw 278 273 2 3 0 = true by decide +kernel) (by rw [m278.1]; omega) (by rw [m278.2]; omega)) rfl (show 0 ≤ 4 by decide) (fun z => absurd rfl z) rfl (wp_17 (hl_account hev hg (Ho_of hag hE))) (fun v2 τ hq => ?_) (fun E τ hq => by obtain ⟨-, _, _, z, -⟩ := hq; cases z)
  obtain ⟨h17, kk, A, e9, rfl, hsm, hk⟩ := hq
  cases e9
  obtain ⟨hkk, hA⟩ := agr_k hag hk
  refine wp_seg 7 (P := some ((0 ≤ wr (i + 1) ∧ wr (i + 1) < alen (md A (a 16) a) 17 0))) (ls' := LL i (some (aI kk)) none none) (st' := [aI ((md A (a 16) a) 17 0 (wr (i + 1))), aR 11 0]) (σ' := (md A (a 16) a)) rq_278 rfl ?_ (i' := 1176) rfl ?_
  · show (0 ≤ wr (i + 1) ∧ wr (i + 1) < (md A (a 16) a) 17 0 (-1))
    rw [h17]
    omega
  rw [h17]
  have k2 := mm_at (k := 234) (by decide)
  refine wp_callQ (C := 11) (As := [aR 11 0, aI (σ 17 0 (wr (i + 1)))]) (rest := []) rq_278 rfl rfl (clOK_of (show clQw 278 234 0 2 11 = true by decide +kernel) (by rw [m278.1]; omega) (by rw [m278.2]; omega)) rfl (show 0 ≤ 4 by decide) (fun _ => ⟨_, rfl⟩) rfl (wp_17 (ev_frame (A := A) (B := a 16) hF (noS_of rfl) (G_same hsm hg))) (fun v2 τ hq => ?_) (fun E τ hq => by cases hq.2.1)
  obtain ⟨h17b, e9, rfl⟩ := hq
  cases e9
  refine wp_seg 2 (P := none) (ls' := LL i (some (aI kk)) (some (aI v)) none) (st' := [aR 11 0]) (σ' := (md A (a 16) F)) rq_278 rfl True.intro (i' := 1179) rfl ?_
  have k3 := mm_at (k := 152) (by decide)
  refine wp_call (C := 11) (As := [aR 11 0]) (rest := []) rq_278 (ev_mthrown _) rfl rfl (clOK_of (show clQw 278 152 0 1 11 = true by decide +kernel) (by rw [m278.1]; omega) (by rw [m278.2]; omega)) rfl (show 0 ≤ 4 by decide) (fun _ => ⟨_, rfl⟩) rfl rfl rfl ?_
  refine wp_seg 1 (P := none) (ls' := LL i (some (aI kk)) (some (aI v)) none) (st' := [aI kk, aI ((md A (a 16) F) 11 0 6)]) (σ' := (md A (a 16) F)) rq_278 rfl True.intro (i' := 1181) rfl ?_
  refine wp_icmp rq_278 rfl (fun _ => ?_) (fun hne => absurd (show (md A (a 16) F) 11 0 6 = kk from (md_o (by decide) (by decide)).trans hkk) hne)
  refine wp_seg 1 (P := none) (ls' := LL i (some (aI kk)) (some (aI v)) none) (st' := [aI kk]) (σ' := (md A (a 16) F)) rq_278 rfl True.intro (i' := 1185) rfl ?_
  refine wp_if rq_278 rfl (fun _ => ?_) (fun h0 => ?_)
  · exact wp_goto rq_278 rfl (wp_weak LL_w (nx _ N _ _ (J_md hJF) (by omega) (by omega) (h17b.trans h17) (by omega) (by omega)))
  · have h0 : kk = 0 := Decidable.of_not_not h0
    refine wp_seg 6 (P := some ((0 : Int) = 0)) (ls' := LL i (some (aI kk)) (some (aI v)) none) (st' := [aI (lcmpI ((md A (a 16) F) 15 0 0) v)]) (σ' := (md A (a 16) F)) rq_278 rfl rfl (i' := 1192) rfl ?_
    refine wp_if rq_278 rfl (fun _ => ?_) (fun h1 => absurd (show lcmpI ((md A (a 16) F) 15 0 0) v = 0 from lcmp_0 (hA h0)) h1)
    exact wp_goto rq_278 rfl (wp_weak LL_w (nx _ N _ _ (J_md hJF) (by omega) (by omega) (h17b.trans h17) (by omega) (by omega)))
set_option maxRecDepth 100000 in
theorem ls_readResults (hJ : J N σ σ) (hN : 0 ≤ N ∧ N < 2147483647) (hi : 0 ≤ i) (hL : i + 5 ≤ σ 17 0 (-1)) (hM : σ 17 0 (-1) < 2147483648) (hc : c + 5 ≤ 603072) (hs : s + 30 ≤ 7198826) (nx : Nxt i c s N σ Q) : wp true 278 1220 (LL i none none none) [] σ c s Q := by
  refine wp_wf (fun hw hl => ?_)
  have hg := G_wf hw
  obtain ⟨o, a, hev, ⟨v, F, hF, hJF, hag⟩, hE⟩ := pr_readResults  hJ
  refine wp_seg 2 (P := none) (ls' := LL i none none none) (st' := [aR 15 0, aR 10 0]) (σ' := σ) rq_278 rfl True.intro (i' := 1222) rfl ?_
  have k1 := mh_at (k := 275) (by decide)
  refine wp_callQ (C := 0) (As := [aR 10 0, aR 15 0]) (rest := []) rq_278 rfl rfl (clOK_of (show clQw 278 275 2 2 0 = true by decide +kernel) (by rw [m278.1]; omega) (by rw [m278.2]; omega)) rfl (show 0 ≤ 4 by decide) (fun z => absurd rfl z) rfl (wp_17 (hl_readResults hev hg (Ho_of hag hE))) (fun v2 τ hq => ?_) (fun E τ hq => by obtain ⟨-, _, _, z, -⟩ := hq; cases z)
  obtain ⟨h17, kk, A, e9, rfl, hsm, hk⟩ := hq
  cases e9
  obtain ⟨hkk, hA⟩ := agr_k hag hk
  refine wp_seg 2 (P := none) (ls' := LL i (some (aI kk)) none none) (st' := [aR 11 0]) (σ' := (md A (a 16) a)) rq_278 rfl True.intro (i' := 1225) rfl ?_
  have k2 := mm_at (k := 241) (by decide)
  refine wp_callQ (C := 11) (As := [aR 11 0]) (rest := []) rq_278 rfl rfl (clOK_of (show clQw 278 241 0 1 11 = true by decide +kernel) (by rw [m278.1]; omega) (by rw [m278.2]; omega)) rfl (show 0 ≤ 4 by decide) (fun _ => ⟨_, rfl⟩) rfl (wp_17 (ev_frame (A := A) (B := a 16) hF (noS_of rfl) (G_same hsm hg))) (fun v2 τ hq => ?_) (fun E τ hq => by cases hq.2.1)
  obtain ⟨h17b, e9, rfl⟩ := hq
  cases e9
  refine wp_seg 2 (P := none) (ls' := LL i (some (aI kk)) (some (aI v)) none) (st' := [aR 11 0]) (σ' := (md A (a 16) F)) rq_278 rfl True.intro (i' := 1228) rfl ?_
  have k3 := mm_at (k := 152) (by decide)
  refine wp_call (C := 11) (As := [aR 11 0]) (rest := []) rq_278 (ev_mthrown _) rfl rfl (clOK_of (show clQw 278 152 0 1 11 = true by decide +kernel) (by rw [m278.1]; omega) (by rw [m278.2]; omega)) rfl (show 0 ≤ 4 by decide) (fun _ => ⟨_, rfl⟩) rfl rfl rfl ?_
  refine wp_seg 1 (P := none) (ls' := LL i (some (aI kk)) (some (aI v)) none) (st' := [aI kk, aI ((md A (a 16) F) 11 0 6)]) (σ' := (md A (a 16) F)) rq_278 rfl True.intro (i' := 1230) rfl ?_
  refine wp_icmp rq_278 rfl (fun _ => ?_) (fun hne => absurd (show (md A (a 16) F) 11 0 6 = kk from (md_o (by decide) (by decide)).trans hkk) hne)
  refine wp_seg 1 (P := none) (ls' := LL i (some (aI kk)) (some (aI v)) none) (st' := [aI kk]) (σ' := (md A (a 16) F)) rq_278 rfl True.intro (i' := 1234) rfl ?_
  refine wp_if rq_278 rfl (fun _ => ?_) (fun h0 => ?_)
  · exact wp_goto rq_278 rfl (wp_weak LL_w (nx _ N _ _ (J_md hJF) (by omega) (by omega) (h17b.trans h17) (by omega) (by omega)))
  · have h0 : kk = 0 := Decidable.of_not_not h0
    refine wp_seg 6 (P := some ((0 : Int) = 0)) (ls' := LL i (some (aI kk)) (some (aI v)) none) (st' := [aI (lcmpI ((md A (a 16) F) 15 0 0) v)]) (σ' := (md A (a 16) F)) rq_278 rfl rfl (i' := 1241) rfl ?_
    refine wp_if rq_278 rfl (fun _ => ?_) (fun h1 => absurd (show lcmpI ((md A (a 16) F) 15 0 0) v = 0 from lcmp_0 (hA h0)) h1)
    exact wp_goto rq_278 rfl (wp_weak LL_w (nx _ N _ _ (J_md hJF) (by omega) (by omega) (h17b.trans h17) (by omega) (by omega)))
set_option maxRecDepth 100000 in
theorem ls_undo (hJ : J N σ σ) (hN : 0 ≤ N ∧ N < 2147483647) (hi : 0 ≤ i) (hL : i + 5 ≤ σ 17 0 (-1)) (hM : σ 17 0 (-1) < 2147483648) (hc : c + 5 ≤ 603072) (hs : s + 30 ≤ 7198826) (nx : Nxt i c s N σ Q) : wp true 278 1252 (LL i none none none) [] σ c s Q := by
  refine wp_wf (fun hw hl => ?_)
  have hg := G_wf hw
  obtain ⟨o, a, hev, ⟨v, F, hF, hJF, hag⟩, hE⟩ := pr_undo  hJ
  refine wp_seg 2 (P := none) (ls' := LL i none none none) (st' := [aR 15 0, aR 10 0]) (σ' := σ) rq_278 rfl True.intro (i' := 1254) rfl ?_
  have k1 := mh_at (k := 276) (by decide)
  refine wp_callQ (C := 0) (As := [aR 10 0, aR 15 0]) (rest := []) rq_278 rfl rfl (clOK_of (show clQw 278 276 2 2 0 = true by decide +kernel) (by rw [m278.1]; omega) (by rw [m278.2]; omega)) rfl (show 0 ≤ 4 by decide) (fun z => absurd rfl z) rfl (wp_17 (hl_undo hev hg (Ho_of hag hE))) (fun v2 τ hq => ?_) (fun E τ hq => by obtain ⟨-, _, _, z, -⟩ := hq; cases z)
  obtain ⟨h17, kk, A, e9, rfl, hsm, hk⟩ := hq
  cases e9
  obtain ⟨hkk, hA⟩ := agr_k hag hk
  refine wp_seg 2 (P := none) (ls' := LL i (some (aI kk)) none none) (st' := [aR 11 0]) (σ' := (md A (a 16) a)) rq_278 rfl True.intro (i' := 1257) rfl ?_
  have k2 := mm_at (k := 161) (by decide)
  refine wp_callQ (C := 11) (As := [aR 11 0]) (rest := []) rq_278 rfl rfl (clOK_of (show clQw 278 161 0 1 11 = true by decide +kernel) (by rw [m278.1]; omega) (by rw [m278.2]; omega)) rfl (show 0 ≤ 4 by decide) (fun _ => ⟨_, rfl⟩) rfl (wp_17 (ev_frame (A := A) (B := a 16) hF (noS_of rfl) (G_same hsm hg))) (fun v2 τ hq => ?_) (fun E τ hq => by cases hq.2.1)
  obtain ⟨h17b, e9, rfl⟩ := hq
  cases e9
  refine wp_seg 2 (P := none) (ls' := LL i (some (aI kk)) (some (aI v)) none) (st' := [aR 11 0]) (σ' := (md A (a 16) F)) rq_278 rfl True.intro (i' := 1260) rfl ?_
  have k3 := mm_at (k := 152) (by decide)
  refine wp_call (C := 11) (As := [aR 11 0]) (rest := []) rq_278 (ev_mthrown _) rfl rfl (clOK_of (show clQw 278 152 0 1 11 = true by decide +kernel) (by rw [m278.1]; omega) (by rw [m278.2]; omega)) rfl (show 0 ≤ 4 by decide) (fun _ => ⟨_, rfl⟩) rfl rfl rfl ?_
  refine wp_seg 1 (P := none) (ls' := LL i (some (aI kk)) (some (aI v)) none) (st' := [aI kk, aI ((md A (a 16) F) 11 0 6)]) (σ' := (md A (a 16) F)) rq_278 rfl True.intro (i' := 1262) rfl ?_
  refine wp_icmp rq_278 rfl (fun _ => ?_) (fun hne => absurd (show (md A (a 16) F) 11 0 6 = kk from (md_o (by decide) (by decide)).trans hkk) hne)
  refine wp_seg 1 (P := none) (ls' := LL i (some (aI kk)) (some (aI v)) none) (st' := [aI kk]) (σ' := (md A (a 16) F)) rq_278 rfl True.intro (i' := 1266) rfl ?_
  refine wp_if rq_278 rfl (fun _ => ?_) (fun h0 => ?_)
  · exact wp_goto rq_278 rfl (wp_weak LL_w (nx _ N _ _ (J_md hJF) (by omega) (by omega) (h17b.trans h17) (by omega) (by omega)))
  · have h0 : kk = 0 := Decidable.of_not_not h0
    refine wp_seg 6 (P := some ((0 : Int) = 0)) (ls' := LL i (some (aI kk)) (some (aI v)) none) (st' := [aI (lcmpI ((md A (a 16) F) 15 0 0) v)]) (σ' := (md A (a 16) F)) rq_278 rfl rfl (i' := 1273) rfl ?_
    refine wp_if rq_278 rfl (fun _ => ?_) (fun h1 => absurd (show lcmpI ((md A (a 16) F) 15 0 0) v = 0 from lcmp_0 (hA h0)) h1)
    exact wp_goto rq_278 rfl (wp_weak LL_w (nx _ N _ _ (J_md hJF) (by omega) (by omega) (h17b.trans h17) (by omega) (by omega)))
end LawC
