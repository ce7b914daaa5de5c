/-! The law's cases: from a case's first row to the loop's step. -/
abbrev LL (i : Int) (p q r : Option AV) : Vls := [some (aR 17 0), some (aR 10 0), some (aR 11 0), some (aR 15 0), some (aR 16 0), some (aI i), p, q, r]
theorem LL_w {i : Int} {p q r : Option AV} : lessL (LL i none none none) (LL i p q r) := ⟨rfl, fun j a h => by
  match j, h with
  | 0, h => exact h
  | 1, h => exact h
  | 2, h => exact h
  | 3, h => exact h
  | 4, h => exact h
  | 5, h => exact h
  | 6, h => cases h
  | 7, h => cases h
  | 8, h => cases h
  | n + 9, h => cases h⟩
def clQw (k k' n L C : Nat) : Bool := cfOK k' n && decide (L = argc k' n) && decide (L ≤ mxl k') && (decide (n = 2) || decide (tagO (own k') = C)) && decide (frm k' + 1 ≤ frm k) && decide (8 + (mxl k' + 11) + lcl k' ≤ lcl k)
theorem clOK_of {k k' n c s L C : Nat} (h : clQw k k' n L C = true) (h1 : c + mcs k' ≤ mcs k) (h2 : s + mss k' ≤ mss k) : clOK k k' n c s L C = true := by
  unfold clOK
  rw [Bool.and_eq_true, Bool.and_eq_true]
  exact ⟨⟨h, decide_eq_true h1⟩, decide_eq_true h2⟩
theorem m278 : mcs 278 = 603072 ∧ mss 278 = 7198826 := by decide +kernel
theorem mhB : (List.range 34).all (fun q => decide (mcs (244 + q) ≤ 5) && decide (mss (244 + q) ≤ 30)) = true := by decide +kernel
theorem mmB : (List.range 91).all (fun q => decide (mcs (152 + q) = 0) && decide (mss (152 + q) = 0)) = true := by decide +kernel
theorem mh_at {k : Nat} (h : 244 ≤ k ∧ k < 278) : mcs k ≤ 5 ∧ mss k ≤ 30 := by
  have z := List.all_eq_true.mp mhB (k - 244) (List.mem_range.mpr (by omega))
  rw [Bool.and_eq_true, decide_eq_true_eq, decide_eq_true_eq, show 244 + (k - 244) = k by omega] at z
  exact z
theorem mm_at {k : Nat} (h : 152 ≤ k ∧ k < 243) : mcs k = 0 ∧ mss k = 0 := by
  have z := List.all_eq_true.mp mmB (k - 152) (List.mem_range.mpr (by omega))
  rw [Bool.and_eq_true, decide_eq_true_eq, decide_eq_true_eq, show 152 + (k - 152) = k by omega] at z
  exact z
/-- what goes on behind a case -/
def Nxt (i : Int) (c s : Nat) (N : Int) (σ : Mem) (Q : Out → Mem → Prop) : Prop := ∀ (τ : Mem) (N' : Int) (c' s' : Nat), J N' τ τ → 0 ≤ N' → N' ≤ N + 1 → τ 17 = σ 17 → c' ≤ c + 5 → s' ≤ s + 30 → wp true 278 1294 (LL i none none none) [] τ c' s' Q
theorem J_md {N : Int} {A B : Int → Int → Int} {F : Mem} (h : J N F F) : J N (md A B F) (md A B F) := J_mod (J_cls h (fun C r k hc => md_o (by unfold clsP at hc; omega) (by unfold clsP at hc; omega))) (fun C r k hc => md_o (by unfold modP at hc; omega) (by unfold modP at hc; omega))
theorem Ho_of {o : Out} {v : Int} {F : Mem} {cd : Nat → Int} {Es : List Nat} (h : Agr o v F cd) (hE : ∀ E, o = .inr E → E ∈ Es) : Ho o Es := by
  rcases h with ⟨x, e, -⟩ | ⟨E, e, -⟩
  · exact Or.inl ⟨x, e⟩
  · exact Or.inr ⟨E, e, hE E e⟩
theorem agr_k {o : Out} {v kk : Int} {F : Mem} {cd : Nat → Int} {A : Int → Int → Int} (h : Agr o v F cd) (hk : (kk = 0 ∧ ∃ x, o = .inl (some (aI x)) ∧ A 0 0 = x) ∨ ∃ E, o = .inr E ∧ kk = cd E) : F 11 0 6 = kk ∧ (kk = 0 → A 0 0 = v) := by
  rcases h with ⟨x, e, h1, h2⟩ | ⟨E, e, h1, h2⟩
  · rcases hk with ⟨k0, y, e2, h3⟩ | ⟨E2, e2, -⟩
    · rw [e] at e2
      cases e2
      exact ⟨by omega, fun _ => by omega⟩
    · rw [e] at e2
      cases e2
  · rcases hk with ⟨k0, y, e2, h3⟩ | ⟨E2, e2, h3⟩
    · rw [e] at e2
      cases e2
    · rw [e] at e2
      cases e2
      exact ⟨by omega, fun k0 => by omega⟩
theorem lcmp_0 {x y : Int} (h : x = y) : lcmpI x y = 0 := by
  subst h
  unfold lcmpI
  rw [if_neg (by omega), if_pos rfl]
section LawC
variable {N i : Int} {c s : Nat} {σ : Mem} {Q : Out → Mem → Prop}
theorem ls_addFencer (hJ : J N σ σ) (hN : 0 ≤ N ∧ N < 2147483647) (hi : 0 ≤ i) (hL : i + 5 ≤ σ 17 0 (-1)) (hM : σ 17 0 (-1) < 2147483648) (hc : c + 5 ≤ 603072) (hs : s + 30 ≤ 7198826) (nx : Nxt i c s N σ Q) : wp true 278 28 (LL i none none none) [] σ c s Q := by
  refine wp_wf (fun hw hl => ?_)
  have hg := G_wf hw
  have e1 : wr (i + 1) = i + 1 := wr_eq (by omega) (by omega)
  have e2 : wr (i + 2) = i + 2 := wr_eq (by omega) (by omega)
  obtain ⟨o, a, hev, ⟨v, F, hF, hJF, hag⟩, hE⟩ := pr_addFencer (b := σ 17 0 (wr (i + 1))) (x := σ 17 0 (wr (i + 2))) hJ
  refine wp_seg 12 (P := some ((0 ≤ wr (i + 1) ∧ wr (i + 1) < alen σ 17 0) ∧ (0 ≤ wr (i + 2) ∧ wr (i + 2) < alen σ 17 0))) (ls' := LL i none none none) (st' := [aR 15 0, aI (σ 17 0 (wr (i + 2))), aI (σ 17 0 (wr (i + 1))), aR 10 0]) (σ' := σ) rq_278 rfl ?_ (i' := 40) rfl ?_
  · show (0 ≤ wr (i + 1) ∧ wr (i + 1) < σ 17 0 (-1)) ∧ (0 ≤ wr (i + 2) ∧ wr (i + 2) < σ 17 0 (-1))
    omega
  have k1 := mh_at (k := 244) (by decide)
  refine wp_callQ (C := 0) (As := [aR 10 0, aI (σ 17 0 (wr (i + 1))), aI (σ 17 0 (wr (i + 2))), aR 15 0]) (rest := []) rq_278 rfl rfl (clOK_of (show clQw 278 244 2 4 0 = true by decide +kernel) (by rw [m278.1]; omega) (by rw [m278.2]; omega)) rfl (show 0 ≤ 4 by decide) (fun z => absurd rfl z) rfl (wp_17 (hl_addFencer hev hg (Ho_of hag hE))) (fun v2 τ hq => ?_) (fun E τ hq => by obtain ⟨-, _, _, z, -⟩ := hq; cases z)
  obtain ⟨h17, kk, A, e9, rfl, hsm, hk⟩ := hq
  cases e9
  obtain ⟨hkk, hA⟩ := agr_k hag hk
  refine wp_seg 12 (P := some ((0 ≤ wr (i + 1) ∧ wr (i + 1) < alen (md A (a 16) a) 17 0) ∧ (0 ≤ wr (i + 2) ∧ wr (i + 2) < alen (md A (a 16) a) 17 0))) (ls' := LL i (some (aI kk)) none none) (st' := [aI ((md A (a 16) a) 17 0 (wr (i + 2))), aI ((md A (a 16) a) 17 0 (wr (i + 1))), aR 11 0]) (σ' := (md A (a 16) a)) rq_278 rfl ?_ (i' := 53) rfl ?_
  · show (0 ≤ wr (i + 1) ∧ wr (i + 1) < (md A (a 16) a) 17 0 (-1)) ∧ (0 ≤ wr (i + 2) ∧ wr (i + 2) < (md A (a 16) a) 17 0 (-1))
    rw [h17]
    omega
  rw [h17]
  have k2 := mm_at (k := 166) (by decide)
  refine wp_callQ (C := 11) (As := [aR 11 0, aI (σ 17 0 (wr (i + 1))), aI (σ 17 0 (wr (i + 2)))]) (rest := []) rq_278 rfl rfl (clOK_of (show clQw 278 166 0 3 11 = true by decide +kernel) (by rw [m278.1]; omega) (by rw [m278.2]; omega)) rfl (show 0 ≤ 4 by decide) (fun _ => ⟨_, rfl⟩) rfl (wp_17 (ev_frame (A := A) (B := a 16) hF (noS_of rfl) (G_same hsm hg))) (fun v2 τ hq => ?_) (fun E τ hq => by cases hq.2.1)
  obtain ⟨h17b, e9, rfl⟩ := hq
  cases e9
  refine wp_seg 2 (P := none) (ls' := LL i (some (aI kk)) (some (aI v)) none) (st' := [aR 11 0]) (σ' := (md A (a 16) F)) rq_278 rfl True.intro (i' := 56) rfl ?_
  have k3 := mm_at (k := 152) (by decide)
  refine wp_call (C := 11) (As := [aR 11 0]) (rest := []) rq_278 (ev_mthrown _) rfl rfl (clOK_of (show clQw 278 152 0 1 11 = true by decide +kernel) (by rw [m278.1]; omega) (by rw [m278.2]; omega)) rfl (show 0 ≤ 4 by decide) (fun _ => ⟨_, rfl⟩) rfl rfl rfl ?_
  refine wp_seg 1 (P := none) (ls' := LL i (some (aI kk)) (some (aI v)) none) (st' := [aI kk, aI ((md A (a 16) F) 11 0 6)]) (σ' := (md A (a 16) F)) rq_278 rfl True.intro (i' := 58) rfl ?_
  refine wp_icmp rq_278 rfl (fun _ => ?_) (fun hne => absurd (show (md A (a 16) F) 11 0 6 = kk from (md_o (by decide) (by decide)).trans hkk) hne)
  refine wp_seg 1 (P := none) (ls' := LL i (some (aI kk)) (some (aI v)) none) (st' := [aI kk]) (σ' := (md A (a 16) F)) rq_278 rfl True.intro (i' := 62) rfl ?_
  refine wp_if rq_278 rfl (fun _ => ?_) (fun h0 => ?_)
  · exact wp_goto rq_278 rfl (wp_weak LL_w (nx _ N _ _ (J_md hJF) (by omega) (by omega) (h17b.trans h17) (by omega) (by omega)))
  · have h0 : kk = 0 := Decidable.of_not_not h0
    refine wp_seg 6 (P := some ((0 : Int) = 0)) (ls' := LL i (some (aI kk)) (some (aI v)) none) (st' := [aI (lcmpI ((md A (a 16) F) 15 0 0) v)]) (σ' := (md A (a 16) F)) rq_278 rfl rfl (i' := 69) rfl ?_
    refine wp_if rq_278 rfl (fun _ => ?_) (fun h1 => absurd (show lcmpI ((md A (a 16) F) 15 0 0) v = 0 from lcmp_0 (hA h0)) h1)
    exact wp_goto rq_278 rfl (wp_weak LL_w (nx _ N _ _ (J_md hJF) (by omega) (by omega) (h17b.trans h17) (by omega) (by omega)))
end LawC
