/-! The final places: the model's methods. -/
def plM (M : Mem) (r i : Int) : Bool := decide (¬ zo_mlostIn r (M 13 186 (222 + i)) M = 0)
def sdM (M : Mem) (i : Int) : Int := M 13 186 (222 + i)
section FinM
variable {y n r z G w q i : Int} {σ M : Mem}

theorem fm_done (Q : Out → Mem → Prop) (hq : wp true 222 104 [some (aR 11 (0)), some (aI (y)), some (aI (y)), some (aI (w)), some (aI (r)), none, none] [] M 0 0 Q) : wp true 222 64 [some (aR 11 (0)), some (aI (y)), some (aI (y)), some (aI (w)), some (aI (r)), some (aI (i)), some (aI (q))] [] M 0 0 Q := by
  refine wp_seg 5 (P := some (0 ≤ (8) ∧ (8) < alen M 13 (186))) (ls' := [some (aR 11 (0)), some (aI (y)), some (aI (y)), some (aI (w)), some (aI (r)), some (aI (i)), some (aI (q))]) (st' := [aI (M 13 (186) (8)), aI (i)]) (σ' := M) rq_222 rfl ?_ (i' := 69) rfl ?_
  · show 0 ≤ (8) ∧ (8) < alen M 13 (186)
    (first | decide | exact Or.inl rfl | exact Or.inr rfl | ((try simp only [al_g, al_k, al_p, al_c, al_r, al_t, al_o, rl_g, rl_k, rl_p, rl_c, rl_r, rl_t, rl_o]); (try simp (disch := omega) only [wr_eq]); omega))
  refine wp_icmp rq_222 rfl (fun (h1 : (M 13 (186) (8)) ≤ (i)) => ?_) (fun (h1 : ¬ ((M 13 (186) (8)) ≤ (i))) => ?_)
  · exact wp_weak (lessL_c (lessL_c (lessL_c (lessL_c (lessL_c (lessL_n (lessL_n lessL_0))))))) hq
  · refine wp_seg 2 (P := none) (ls' := [some (aR 11 (0)), some (aI (y)), some (aI (y)), some (aI (w)), some (aI (r)), some (aI (i)), some (aI (q))]) (st' := [aI (y), aI (y)]) (σ' := M) rq_222 rfl True.intro (i' := 72) rfl ?_
    refine wp_icmp rq_222 rfl (fun _ => ?_) (fun (h2 : ¬ ((y) ≤ (y))) => absurd (show (y) ≤ (y) from Int.le_refl _) h2)
    exact wp_weak (lessL_c (lessL_c (lessL_c (lessL_c (lessL_c (lessL_n (lessL_n lessL_0))))))) hq

theorem fm_in (h8 : M 13 186 8 = n) (hn : 0 ≤ n ∧ n ≤ 24) (hG : 0 ≤ G ∧ G ≤ 1000) (hlo : ∀ i, 0 ≤ i → i < n → Ev true 223 [aR 11 0, aI r, aI (M 13 186 (222 + i))] M (.inl (some (aI (zo_mlostIn r (M 13 186 (222 + i)) M)))) M) (Q : Out → Mem → Prop) (hFnd : ∀ i, 0 ≤ i → i < n → kthp (plM M r) (y - 1 - G) i = true → wp true 222 104 [some (aR 11 (0)), some (aI (y)), some (aI (y)), some (aI ((sdM M i))), some (aI (r)), none, none] [] M 0 0 Q) (hN : (∀ k, 0 ≤ k → k < n → ¬ kthp (plM M r) (y - 1 - G) k = true) → ∀ w, wp true 222 104 [some (aR 11 (0)), some (aI (y)), some (aI ((G + cntP (plM M r) n))), some (aI (w)), some (aI (r)), none, none] [] M 0 0 Q) : ∀ (u : Nat) (i w : Int), 0 ≤ i → i + u = n → G + cntP (plM M r) i < y → (∀ k, 0 ≤ k → k < i → ¬ kthp (plM M r) (y - 1 - G) k = true) → wp true 222 64 [some (aR 11 (0)), some (aI (y)), some (aI ((G + cntP (plM M r) i))), some (aI (w)), some (aI (r)), some (aI (i)), none] [] M 0 0 Q := by
  intro u
  induction u with
  | zero =>
    intro i w i0 e hlt hno
    refine wp_seg 5 (P := some (0 ≤ (8) ∧ (8) < alen M 13 (186))) (ls' := [some (aR 11 (0)), some (aI (y)), some (aI ((G + cntP (plM M r) i))), some (aI (w)), some (aI (r)), some (aI (i)), none]) (st' := [aI (M 13 (186) (8)), aI (i)]) (σ' := M) rq_222 rfl ?_ (i' := 69) rfl ?_
    · show 0 ≤ (8) ∧ (8) < alen M 13 (186)
      (first | decide | exact Or.inl rfl | exact Or.inr rfl | ((try simp only [al_g, al_k, al_p, al_c, al_r, al_t, al_o, rl_g, rl_k, rl_p, rl_c, rl_r, rl_t, rl_o]); (try simp (disch := omega) only [wr_eq]); omega))
    refine wp_icmp rq_222 rfl (fun _ => ?_) (fun (h1 : ¬ ((M 13 (186) (8)) ≤ (i))) => absurd (show (M 13 (186) (8)) ≤ (i) from by omega) h1)
    have e9 : i = n := by omega
    rw [e9]
    rw [e9] at hno
    exact wp_weak (lessL_c (lessL_c (lessL_c (lessL_c (lessL_c (lessL_n (lessL_n lessL_0))))))) (hN hno _)
  | succ u ih =>
    intro i w i0 e hlt hno
    have w2 : wr (222 + i) = 222 + i := wr_eq (by omega) (by omega)
    have hl0 := hlo i i0 (by omega)
    rw [← w2] at hl0
    refine wp_seg 5 (P := some (0 ≤ (8) ∧ (8) < alen M 13 (186))) (ls' := [some (aR 11 (0)), some (aI (y)), some (aI ((G + cntP (plM M r) i))), some (aI (w)), some (aI (r)), some (aI (i)), none]) (st' := [aI (M 13 (186) (8)), aI (i)]) (σ' := M) rq_222 rfl ?_ (i' := 69) rfl ?_
    · show 0 ≤ (8) ∧ (8) < alen M 13 (186)
      (first | decide | exact Or.inl rfl | exact Or.inr rfl | ((try simp only [al_g, al_k, al_p, al_c, al_r, al_t, al_o, rl_g, rl_k, rl_p, rl_c, rl_r, rl_t, rl_o]); (try simp (disch := omega) only [wr_eq]); omega))
    refine wp_icmp rq_222 rfl (fun (h1 : (M 13 (186) (8)) ≤ (i)) => absurd h1 (show ¬ ((M 13 (186) (8)) ≤ (i)) from by omega)) (fun _ => ?_)
    refine wp_seg 2 (P := none) (ls' := [some (aR 11 (0)), some (aI (y)), some (aI ((G + cntP (plM M r) i))), some (aI (w)), some (aI (r)), some (aI (i)), none]) (st' := [aI (y), aI ((G + cntP (plM M r) i))]) (σ' := M) rq_222 rfl True.intro (i' := 72) rfl ?_
    refine wp_icmp rq_222 rfl (fun (h2 : (y) ≤ ((G + cntP (plM M r) i))) => absurd h2 (show ¬ ((y) ≤ ((G + cntP (plM M r) i))) from by omega)) (fun _ => ?_)
    refine wp_seg 8 (P := some (0 ≤ (wr ((222) + (i))) ∧ (wr ((222) + (i))) < alen M 13 (186))) (ls' := [some (aR 11 (0)), some (aI (y)), some (aI ((G + cntP (plM M r) i))), some (aI (w)), some (aI (r)), some (aI (i)), none]) (st' := [aI (M 13 (186) (wr ((222) + (i)))), aI (r), aR 11 (0)]) (σ' := M) rq_222 rfl ?_ (i' := 81) rfl ?_
    · show 0 ≤ (wr ((222) + (i))) ∧ (wr ((222) + (i))) < alen M 13 (186)
      (first | decide | exact Or.inl rfl | exact Or.inr rfl | ((try simp only [al_g, al_k, al_p, al_c, al_r, al_t, al_o, rl_g, rl_k, rl_p, rl_c, rl_r, rl_t, rl_o]); (try simp (disch := omega) only [wr_eq]); omega))
    refine wp_call (C := 11) (As := [aR 11 (0), aI (r), aI (M 13 (186) (wr ((222) + (i))))]) (rest := []) rq_222 hl0 rfl rfl (show clOK 222 223 0 0 0 3 11 = true by decide +kernel) rfl (show 0 ≤ 4 by decide) (fun _ => ⟨_, rfl⟩) rfl (c' := 0) (s' := 0) rfl rfl ?_
    refine wp_seg 2 (P := none) (ls' := [some (aR 11 (0)), some (aI (y)), some (aI ((G + cntP (plM M r) i))), some (aI (w)), some (aI (r)), some (aI (i)), some (aI (zo_mlostIn (r) (M 13 (186) (wr ((222) + (i)))) M))]) (st' := [aI (zo_mlostIn (r) (M 13 (186) (wr ((222) + (i)))) M)]) (σ' := M) rq_222 rfl True.intro (i' := 84) rfl ?_
    refine wp_if rq_222 rfl (fun (h3 : (zo_mlostIn (r) (M 13 (186) (wr ((222) + (i)))) M) = 0) => ?_) (fun (h3 : ¬ ((zo_mlostIn (r) (M 13 (186) (wr ((222) + (i)))) M) = 0)) => ?_)
    · refine wp_seg 4 (P := none) (ls' := [some (aR 11 (0)), some (aI (y)), some (aI ((G + cntP (plM M r) i))), some (aI (w)), some (aI (r)), some (aI (i)), some (aI (zo_mlostIn (r) (M 13 (186) (wr ((222) + (i)))) M))]) (st' := [aI (zo_mlostIn (r) (M 13 (186) (wr ((222) + (i)))) M), aI ((G + cntP (plM M r) i))]) (σ' := M) rq_222 rfl True.intro (i' := 96) rfl ?_
      refine wp_if rq_222 rfl (fun (h4 : (zo_mlostIn (r) (M 13 (186) (wr ((222) + (i)))) M) = 0) => ?_) (fun (h4 : ¬ ((zo_mlostIn (r) (M 13 (186) (wr ((222) + (i)))) M) = 0)) => ?_)
      · refine wp_seg 4 (P := none) (ls' := [some (aR 11 (0)), some (aI (y)), some (aI (wr (((G + cntP (plM M r) i)) + (0)))), some (aI (w)), some (aI (r)), some (aI (wr (i + 1))), some (aI (zo_mlostIn (r) (M 13 (186) (wr ((222) + (i)))) M))]) (st' := []) (σ' := M) rq_222 rfl True.intro (i' := 103) rfl ?_
        refine wp_goto rq_222 rfl ?_
        have es := cntP_s (P := plM M r) i0
        have cb := cntP_b (P := plM M r) i0
        rw [wr_eq (z := i + 1) (by omega) (by omega)]
        have ep : ¬ plM M r i = true := fun z8 => by (have z7 := of_decide_eq_true z8; have z9 := h3; rw [w2] at z9; exact z7 (by omega))
        rw [if_neg ep] at es
        have ev9 : wr (((G + cntP (plM M r) i)) + (0)) = G + cntP (plM M r) (i + 1) := by (rw [wr_eq (by omega) (by omega)]; omega)
        have ek : ¬ kthp (plM M r) (y - 1 - G) i = true := by (unfold kthp; rw [if_neg ep]; decide)
        rw [ev9]
        exact wp_weak (lessL_c (lessL_c (lessL_c (lessL_c (lessL_c (lessL_c (lessL_n lessL_0))))))) (ih (i + 1) _ (by omega) (by omega) (by omega) (fun k k0 k1 => by (by_cases e9 : k = i; (rw [e9]; exact ek); exact hno k k0 (by omega))))
      · refine wp_seg 1 (P := none) (ls' := [some (aR 11 (0)), some (aI (y)), some (aI ((G + cntP (plM M r) i))), some (aI (w)), some (aI (r)), some (aI (i)), some (aI (zo_mlostIn (r) (M 13 (186) (wr ((222) + (i)))) M))]) (st' := [aI (1), aI ((G + cntP (plM M r) i))]) (σ' := M) rq_222 rfl True.intro (i' := 98) rfl ?_
        refine wp_goto rq_222 rfl ?_
        refine wp_seg 3 (P := none) (ls' := [some (aR 11 (0)), some (aI (y)), some (aI (wr (((G + cntP (plM M r) i)) + (1)))), some (aI (w)), some (aI (r)), some (aI (wr (i + 1))), some (aI (zo_mlostIn (r) (M 13 (186) (wr ((222) + (i)))) M))]) (st' := []) (σ' := M) rq_222 rfl True.intro (i' := 103) rfl ?_
        refine wp_goto rq_222 rfl ?_
        exact absurd (h4) (by omega)
    · refine wp_seg 6 (P := some (0 ≤ (wr ((222) + (i))) ∧ (wr ((222) + (i))) < alen M 13 (186))) (ls' := [some (aR 11 (0)), some (aI (y)), some (aI ((G + cntP (plM M r) i))), some (aI (w)), some (aI (r)), some (aI (i)), some (aI (zo_mlostIn (r) (M 13 (186) (wr ((222) + (i)))) M))]) (st' := [aI (M 13 (186) (wr ((222) + (i))))]) (σ' := M) rq_222 rfl ?_ (i' := 91) rfl ?_
      · show 0 ≤ (wr ((222) + (i))) ∧ (wr ((222) + (i))) < alen M 13 (186)
        (first | decide | exact Or.inl rfl | exact Or.inr rfl | ((try simp only [al_g, al_k, al_p, al_c, al_r, al_t, al_o, rl_g, rl_k, rl_p, rl_c, rl_r, rl_t, rl_o]); (try simp (disch := omega) only [wr_eq]); omega))
      refine wp_goto rq_222 rfl ?_
      refine wp_seg 3 (P := none) (ls' := [some (aR 11 (0)), some (aI (y)), some (aI ((G + cntP (plM M r) i))), some (aI (M 13 (186) (wr ((222) + (i))))), some (aI (r)), some (aI (i)), some (aI (zo_mlostIn (r) (M 13 (186) (wr ((222) + (i)))) M))]) (st' := [aI (zo_mlostIn (r) (M 13 (186) (wr ((222) + (i)))) M), aI ((G + cntP (plM M r) i))]) (σ' := M) rq_222 rfl True.intro (i' := 96) rfl ?_
      refine wp_if rq_222 rfl (fun (h5 : (zo_mlostIn (r) (M 13 (186) (wr ((222) + (i)))) M) = 0) => ?_) (fun (h5 : ¬ ((zo_mlostIn (r) (M 13 (186) (wr ((222) + (i)))) M) = 0)) => ?_)
      · refine wp_seg 4 (P := none) (ls' := [some (aR 11 (0)), some (aI (y)), some (aI (wr (((G + cntP (plM M r) i)) + (0)))), some (aI (M 13 (186) (wr ((222) + (i))))), some (aI (r)), some (aI (wr (i + 1))), some (aI (zo_mlostIn (r) (M 13 (186) (wr ((222) + (i)))) M))]) (st' := []) (σ' := M) rq_222 rfl True.intro (i' := 103) rfl ?_
        refine wp_goto rq_222 rfl ?_
        exact absurd (h5) (by omega)
      · refine wp_seg 1 (P := none) (ls' := [some (aR 11 (0)), some (aI (y)), some (aI ((G + cntP (plM M r) i))), some (aI (M 13 (186) (wr ((222) + (i))))), some (aI (r)), some (aI (i)), some (aI (zo_mlostIn (r) (M 13 (186) (wr ((222) + (i)))) M))]) (st' := [aI (1), aI ((G + cntP (plM M r) i))]) (σ' := M) rq_222 rfl True.intro (i' := 98) rfl ?_
        refine wp_goto rq_222 rfl ?_
        refine wp_seg 3 (P := none) (ls' := [some (aR 11 (0)), some (aI (y)), some (aI (wr (((G + cntP (plM M r) i)) + (1)))), some (aI (M 13 (186) (wr ((222) + (i))))), some (aI (r)), some (aI (wr (i + 1))), some (aI (zo_mlostIn (r) (M 13 (186) (wr ((222) + (i)))) M))]) (st' := []) (σ' := M) rq_222 rfl True.intro (i' := 103) rfl ?_
        refine wp_goto rq_222 rfl ?_
        have es := cntP_s (P := plM M r) i0
        have cb := cntP_b (P := plM M r) i0
        rw [wr_eq (z := i + 1) (by omega) (by omega)]
        have ep : plM M r i = true := decide_eq_true (by (have z9 := h3; rw [w2] at z9; exact z9))
        rw [if_pos ep] at es
        have ev9 : wr (((G + cntP (plM M r) i)) + (1)) = G + cntP (plM M r) (i + 1) := by (rw [wr_eq (by omega) (by omega)]; omega)
        by_cases e8 : cntP (plM M r) i = y - 1 - G
        · have ek : kthp (plM M r) (y - 1 - G) i = true := by (unfold kthp; rw [if_pos ep]; exact decide_eq_true e8)
          rw [ev9, show G + cntP (plM M r) (i + 1) = y by omega, w2]
          exact fm_done _ (hFnd i i0 (by omega) ek)
        · have ek : ¬ kthp (plM M r) (y - 1 - G) i = true := by (unfold kthp; rw [if_pos ep]; intro z8; exact e8 (of_decide_eq_true z8))
          rw [ev9]
          exact wp_weak (lessL_c (lessL_c (lessL_c (lessL_c (lessL_c (lessL_c (lessL_n lessL_0))))))) (ih (i + 1) _ (by omega) (by omega) (by omega) (fun k k0 k1 => by (by_cases e9 : k = i; (rw [e9]; exact ek); exact hno k k0 (by omega))))

theorem fm_ret : wp true 222 109 [some (aR 11 (0)), some (aI (y)), some (aI (q)), some (aI (w)), some (aI (r)), none, none] [] M 0 0 (fun o' σ2 => o' = .inl (some (aI w)) ∧ σ2 = M) := by
  refine wp_seg 1 (P := none) (ls' := [some (aR 11 (0)), some (aI (y)), some (aI (q)), some (aI (w)), some (aI (r)), none, none]) (st' := [aI (w)]) (σ' := M) rq_222 rfl True.intro (i' := 110) rfl ?_
  refine wp_iret rq_222 rfl rt_222 ⟨?_, ?_⟩
  · rfl
  · rfl
theorem fm_end : wp true 222 53 [some (aR 11 (0)), some (aI (y)), some (aI (y)), some (aI (w)), some (aI (r)), none, none] [] M 0 0 (fun o' σ2 => o' = .inl (some (aI w)) ∧ σ2 = M) := by
  refine wp_seg 5 (P := some (0 ≤ (4) ∧ (4) < alen M 13 (186))) (ls' := [some (aR 11 (0)), some (aI (y)), some (aI (y)), some (aI (w)), some (aI (r)), none, none]) (st' := [aI (M 13 (186) (4)), aI (r)]) (σ' := M) rq_222 rfl ?_ (i' := 58) rfl ?_
  · show 0 ≤ (4) ∧ (4) < alen M 13 (186)
    (first | decide | exact Or.inl rfl | exact Or.inr rfl | ((try simp only [al_g, al_k, al_p, al_c, al_r, al_t, al_o, rl_g, rl_k, rl_p, rl_c, rl_r, rl_t, rl_o]); (try simp (disch := omega) only [wr_eq]); omega))
  refine wp_icmp rq_222 rfl (fun (h1 : (M 13 (186) (4)) < (r)) => ?_) (fun (h1 : ¬ ((M 13 (186) (4)) < (r))) => ?_)
  · exact fm_ret
  · refine wp_seg 2 (P := none) (ls' := [some (aR 11 (0)), some (aI (y)), some (aI (y)), some (aI (w)), some (aI (r)), none, none]) (st' := [aI (y), aI (y)]) (σ' := M) rq_222 rfl True.intro (i' := 61) rfl ?_
    refine wp_icmp rq_222 rfl (fun _ => ?_) (fun (h2 : ¬ ((y) ≤ (y))) => absurd (show (y) ≤ (y) from Int.le_refl _) h2)
    exact fm_ret

theorem fm_out (h8 : M 13 186 8 = n) (hn : 0 ≤ n ∧ n ≤ 24) {K9 : Nat} (hK : K9 < 6) (hz : M 13 186 4 = 2 ^ K9) (hlo : ∀ m : Nat, 1 ≤ m → m ≤ K9 → ∀ i, 0 ≤ i → i < n → Ev true 223 [aR 11 0, aI ((2 : Int) ^ m), aI (M 13 186 (222 + i))] M (.inl (some (aI (zo_mlostIn ((2 : Int) ^ m) (M 13 186 (222 + i)) M)))) M) : ∀ (u m : Nat) (G w : Int), 1 ≤ m → m + u = K9 + 1 → (0 ≤ G ∧ G ≤ 24 * (m : Int)) → G < y → faR (plM M) (sdM M) n y u m G ≠ -1 → wp true 222 53 [some (aR 11 (0)), some (aI (y)), some (aI (G)), some (aI (w)), some (aI (((2 : Int) ^ m))), none, none] [] M 0 0 (fun o' σ2 => o' = .inl (some (aI (faR (plM M) (sdM M) n y u m G))) ∧ σ2 = M) := by
  intro u
  induction u with
  | zero =>
    intro m G w m1 e hG hy hne
    exact absurd rfl hne
  | succ u ih =>
    intro m G w m1 e hG hy hne
    have hr2 : (2 : Int) ^ (m + 1) = 2 ^ m * 2 := Int.pow_succ 2 m
    have hl := p2le m K9 (by omega)
    have hp := p2u K9 hK
    have hg1 := p2p m
    have cb := cntP_b (P := plM M ((2 : Int) ^ m)) hn.1
    have kf := kth_f (P := plM M ((2 : Int) ^ m)) (j := y - 1 - G) hn.1
    have eR : faR (plM M) (sdM M) n y (u + 1) m G = if kth (plM M ((2 : Int) ^ m)) (y - 1 - G) n = -1 then faR (plM M) (sdM M) n y u (m + 1) (G + cntP (plM M ((2 : Int) ^ m)) n) else sdM M (kth (plM M ((2 : Int) ^ m)) (y - 1 - G) n) := rfl
    rw [eR] at hne ⊢
    have hi : kth (plM M ((2 : Int) ^ m)) (y - 1 - G) n = -1 → ∀ w, wp true 222 53 [some (aR 11 (0)), some (aI (y)), some (aI ((G + cntP (plM M ((2 : Int) ^ m)) n))), some (aI (w)), some (aI (((2 : Int) ^ m * 2))), none, none] [] M 0 0 (fun o' σ2 => o' = .inl (some (aI (faR (plM M) (sdM M) n y u (m + 1) (G + cntP (plM M ((2 : Int) ^ m)) n)))) ∧ σ2 = M) := fun hk w => by
      rw [if_pos hk] at hne
      have h9 := ih (m + 1) (G + cntP (plM M ((2 : Int) ^ m)) n) w (by omega) (by omega) (by omega) (by omega) hne
      rw [hr2] at h9
      exact h9
    have hlo1 := hlo m m1 (by omega)
    generalize faR (plM M) (sdM M) n y u (m + 1) (G + cntP (plM M ((2 : Int) ^ m)) n) = V at hi hne ⊢
    clear eR ih
    generalize (2 : Int) ^ m = r at hi hl hg1 cb hlo1 hne kf ⊢
    generalize (2 : Int) ^ K9 = w9 at hl hp hz
    have er : wr (r * 2) = r * 2 := wr_eq (by omega) (by omega)
    have hin := fm_in (y := y) (r := r) (G := G) h8 hn (by omega) hlo1 (fun o' σ2 => o' = .inl (some (aI (if kth (plM M r) (y - 1 - G) n = -1 then V else sdM M (kth (plM M r) (y - 1 - G) n)))) ∧ σ2 = M) (fun i i0 i1 ek => by
      have ff := kth_is (P := plM M r) (n := n) i0 i1 (by (unfold kthp at ek; by_cases q : plM M r i = true; exact q; (rw [if_neg q] at ek; cases ek)))
      have ec : cntP (plM M r) i = y - 1 - G := by (unfold kthp at ek; by_cases q : plM M r i = true; (rw [if_pos q] at ek; exact of_decide_eq_true ek); (rw [if_neg q] at ek; cases ek))
      rw [ec] at ff
      rw [ff, if_neg (by omega)]
      refine wp_seg 4 (P := none) (ls' := [some (aR 11 (0)), some (aI (y)), some (aI (y)), some (aI ((sdM M i))), some (aI (wr ((r) * (2)))), none, none]) (st' := []) (σ' := M) rq_222 rfl True.intro (i' := 108) rfl ?_
      refine wp_goto rq_222 rfl ?_
      exact fm_end) (fun hno w => by
      have ek : kth (plM M r) (y - 1 - G) n = -1 := by
        have ff := fnd_facts (p := kthp (plM M r) (y - 1 - G)) (n := n) _ 0 rfl
        rcases ff with ⟨f1, -⟩ | ⟨f1, f2, f3, -⟩
        · exact f1
        · exact absurd f3 (hno _ f1 f2)
      have hi := hi ek
      rw [ek, if_pos rfl]
      generalize G + cntP (plM M r) n = G9 at hi ⊢
      refine wp_seg 4 (P := none) (ls' := [some (aR 11 (0)), some (aI (y)), some (aI (G9)), some (aI (w)), some (aI (wr ((r) * (2)))), none, none]) (st' := []) (σ' := M) rq_222 rfl True.intro (i' := 108) rfl ?_
      refine wp_goto rq_222 rfl ?_
      rw [er]
      exact hi w) n.toNat 0 w (by decide) (by omega) (by rw [cntP_0]; omega) (fun k k0 k1 => by omega)
    rw [cntP_0, Int.add_zero] at hin
    refine wp_seg 5 (P := some (0 ≤ (4) ∧ (4) < alen M 13 (186))) (ls' := [some (aR 11 (0)), some (aI (y)), some (aI (G)), some (aI (w)), some (aI (r)), none, none]) (st' := [aI (M 13 (186) (4)), aI (r)]) (σ' := M) rq_222 rfl ?_ (i' := 58) rfl ?_
    · show 0 ≤ (4) ∧ (4) < alen M 13 (186)
      (first | decide | exact Or.inl rfl | exact Or.inr rfl | ((try simp only [al_g, al_k, al_p, al_c, al_r, al_t, al_o, rl_g, rl_k, rl_p, rl_c, rl_r, rl_t, rl_o]); (try simp (disch := omega) only [wr_eq]); omega))
    refine wp_icmp rq_222 rfl (fun (h1 : (M 13 (186) (4)) < (r)) => absurd h1 (show ¬ ((M 13 (186) (4)) < (r)) from by omega)) (fun _ => ?_)
    refine wp_seg 2 (P := none) (ls' := [some (aR 11 (0)), some (aI (y)), some (aI (G)), some (aI (w)), some (aI (r)), none, none]) (st' := [aI (y), aI (G)]) (σ' := M) rq_222 rfl True.intro (i' := 61) rfl ?_
    refine wp_icmp rq_222 rfl (fun (h2 : (y) ≤ (G)) => absurd h2 (show ¬ ((y) ≤ (G)) from by omega)) (fun _ => ?_)
    refine wp_seg 2 (P := none) (ls' := [some (aR 11 (0)), some (aI (y)), some (aI (G)), some (aI (w)), some (aI (r)), some (aI (0)), none]) (st' := []) (σ' := M) rq_222 rfl True.intro (i' := 64) rfl ?_
    exact hin

theorem fm_n (y : Int) (σ : Mem) (hok : ¬ (σ 13 186 0 = 3 ∧ 1 ≤ y ∧ y ≤ σ 13 186 8)) : Ev true 222 [aR 11 0, aI y] σ (.inl (some (aI 0))) (up σ 11 0 6 (if σ 13 186 0 = 3 then 2 else 1)) := by
  show wp true 222 0 [some (aR 11 (0)), some (aI (y)), none, none, none, none, none] [] σ 0 0 _
  refine wp_seg 6 (P := some (0 ≤ (0) ∧ (0) < alen σ 13 (186))) (ls' := [some (aR 11 (0)), some (aI (y)), none, none, none, none, none]) (st' := [aI (3), aI (σ 13 (186) (0)), aR 11 (0)]) (σ' := σ) rq_222 rfl ?_ (i' := 6) rfl ?_
  · show 0 ≤ (0) ∧ (0) < alen σ 13 (186)
    (first | decide | exact Or.inl rfl | exact Or.inr rfl | ((try simp only [al_g, al_k, al_p, al_c, al_r, al_t, al_o, rl_g, rl_k, rl_p, rl_c, rl_r, rl_t, rl_o]); (try simp (disch := omega) only [wr_eq]); omega))
  refine wp_icmp rq_222 rfl (fun (h1 : (σ 13 (186) (0)) = 3) => ?_) (fun (h1 : ¬ ((σ 13 (186) (0)) = 3)) => ?_)
  · refine wp_seg 6 (P := some (0 ≤ (8) ∧ (8) < alen σ 13 (186))) (ls' := [some (aR 11 (0)), some (aI (y)), none, none, none, none, none]) (st' := [aI (σ 13 (186) (8)), aI (1), aI (y), aR 11 (0)]) (σ' := σ) rq_222 rfl ?_ (i' := 15) rfl ?_
    · show 0 ≤ (8) ∧ (8) < alen σ 13 (186)
      (first | decide | exact Or.inl rfl | exact Or.inr rfl | ((try simp only [al_g, al_k, al_p, al_c, al_r, al_t, al_o, rl_g, rl_k, rl_p, rl_c, rl_r, rl_t, rl_o]); (try simp (disch := omega) only [wr_eq]); omega))
    by_cases h2 : (1) ≤ (y) ∧ (y) ≤ (σ 13 (186) (8))
    · refine wp_call (C := 0) (As := [aI (y), aI (1), aI (σ 13 (186) (8))]) (rest := [aR 11 (0)]) rq_222 (ev_min_y (y) (1) (σ 13 (186) (8)) σ  h2) rfl rfl (show clOK 222 154 2 0 0 3 0 = true by decide +kernel) rfl (show 1 ≤ 4 by decide) (fun h => absurd rfl h) rfl (c' := 0) (s' := 0) rfl rfl ?_
      refine wp_if rq_222 rfl (fun (h3 : (1 : Int) = (0 : Int)) => absurd h3 (show ¬ ((1 : Int) = (0 : Int)) from by decide)) (fun _ => ?_)
      refine wp_seg 1 (P := none) (ls' := [some (aR 11 (0)), some (aI (y)), none, none, none, none, none]) (st' := [aI (0), aR 11 (0)]) (σ' := σ) rq_222 rfl True.intro (i' := 18) rfl ?_
      refine wp_goto rq_222 rfl ?_
      refine wp_seg 3 (P := none) (ls' := [some (aR 11 (0)), some (aI (y)), none, none, none, none, none]) (st' := [aI (0)]) (σ' := (up σ 11 (0) 6 (0))) rq_222 rfl True.intro (i' := 23) rfl ?_
      refine wp_if rq_222 rfl (fun _ => ?_) (fun (h4 : ¬ ((0 : Int) ≤ (0 : Int))) => absurd (show (0 : Int) ≤ (0 : Int) from by decide) h4)
      exact absurd (show σ 13 186 0 = 3 ∧ 1 ≤ y ∧ y ≤ σ 13 186 8 by omega) hok
    · refine wp_call (C := 0) (As := [aI (y), aI (1), aI (σ 13 (186) (8))]) (rest := [aR 11 (0)]) rq_222 (ev_min_n (y) (1) (σ 13 (186) (8)) σ  h2) rfl rfl (show clOK 222 154 2 0 0 3 0 = true by decide +kernel) rfl (show 1 ≤ 4 by decide) (fun h => absurd rfl h) rfl (c' := 0) (s' := 0) rfl rfl ?_
      refine wp_if rq_222 rfl (fun _ => ?_) (fun (h5 : ¬ ((0 : Int) = (0 : Int))) => absurd (show (0 : Int) = (0 : Int) from by decide) h5)
      refine wp_seg 4 (P := none) (ls' := [some (aR 11 (0)), some (aI (y)), none, none, none, none, none]) (st' := [aI (2)]) (σ' := (up σ 11 (0) 6 (2))) rq_222 rfl True.intro (i' := 23) rfl ?_
      refine wp_if rq_222 rfl (fun (h6 : (2 : Int) ≤ (0 : Int)) => absurd h6 (show ¬ ((2 : Int) ≤ (0 : Int)) from by decide)) (fun _ => ?_)
      refine wp_seg 1 (P := none) (ls' := [some (aR 11 (0)), some (aI (y)), none, none, none, none, none]) (st' := [aI (0)]) (σ' := (up σ 11 (0) 6 (2))) rq_222 rfl True.intro (i' := 25) rfl ?_
      refine wp_iret rq_222 rfl rt_222 ⟨?_, ?_⟩
      · rfl
      · (first | (rw [if_neg (by assumption)]; done) | (rw [if_neg (by omega)]; done) | (rw [if_pos (by omega)]; done))
  · refine wp_seg 1 (P := none) (ls' := [some (aR 11 (0)), some (aI (y)), none, none, none, none, none]) (st' := [aI (1), aR 11 (0)]) (σ' := σ) rq_222 rfl True.intro (i' := 8) rfl ?_
    refine wp_goto rq_222 rfl ?_
    refine wp_seg 3 (P := none) (ls' := [some (aR 11 (0)), some (aI (y)), none, none, none, none, none]) (st' := [aI (1)]) (σ' := (up σ 11 (0) 6 (1))) rq_222 rfl True.intro (i' := 23) rfl ?_
    refine wp_if rq_222 rfl (fun (h7 : (1 : Int) ≤ (0 : Int)) => absurd h7 (show ¬ ((1 : Int) ≤ (0 : Int)) from by decide)) (fun _ => ?_)
    refine wp_seg 1 (P := none) (ls' := [some (aR 11 (0)), some (aI (y)), none, none, none, none, none]) (st' := [aI (0)]) (σ' := (up σ 11 (0) 6 (1))) rq_222 rfl True.intro (i' := 25) rfl ?_
    refine wp_iret rq_222 rfl rt_222 ⟨?_, ?_⟩
    · rfl
    · (first | (rw [if_neg (by assumption)]; done) | (rw [if_neg (by omega)]; done) | (rw [if_pos (by omega)]; done))

theorem fm_0 (y : Int) (σ : Mem) (hp3 : σ 13 186 0 = 3) (hy9 : 1 ≤ y ∧ y ≤ σ 13 186 8) (Q : Out → Mem → Prop) (hq : wp true 222 26 [some (aR 11 (0)), some (aI (y)), none, none, none, none, none] [] (up σ 11 0 6 0) 0 0 Q) : wp true 222 0 [some (aR 11 (0)), some (aI (y)), none, none, none, none, none] [] σ 0 0 Q := by
  refine wp_seg 6 (P := some (0 ≤ (0) ∧ (0) < alen σ 13 (186))) (ls' := [some (aR 11 (0)), some (aI (y)), none, none, none, none, none]) (st' := [aI (3), aI (σ 13 (186) (0)), aR 11 (0)]) (σ' := σ) rq_222 rfl ?_ (i' := 6) rfl ?_
  · show 0 ≤ (0) ∧ (0) < alen σ 13 (186)
    (first | decide | exact Or.inl rfl | exact Or.inr rfl | ((try simp only [al_g, al_k, al_p, al_c, al_r, al_t, al_o, rl_g, rl_k, rl_p, rl_c, rl_r, rl_t, rl_o]); (try simp (disch := omega) only [wr_eq]); omega))
  refine wp_icmp rq_222 rfl (fun (h1 : (σ 13 (186) (0)) = 3) => ?_) (fun (h1 : ¬ ((σ 13 (186) (0)) = 3)) => ?_)
  · refine wp_seg 6 (P := some (0 ≤ (8) ∧ (8) < alen σ 13 (186))) (ls' := [some (aR 11 (0)), some (aI (y)), none, none, none, none, none]) (st' := [aI (σ 13 (186) (8)), aI (1), aI (y), aR 11 (0)]) (σ' := σ) rq_222 rfl ?_ (i' := 15) rfl ?_
    · show 0 ≤ (8) ∧ (8) < alen σ 13 (186)
      (first | decide | exact Or.inl rfl | exact Or.inr rfl | ((try simp only [al_g, al_k, al_p, al_c, al_r, al_t, al_o, rl_g, rl_k, rl_p, rl_c, rl_r, rl_t, rl_o]); (try simp (disch := omega) only [wr_eq]); omega))
    by_cases h2 : (1) ≤ (y) ∧ (y) ≤ (σ 13 (186) (8))
    · refine wp_call (C := 0) (As := [aI (y), aI (1), aI (σ 13 (186) (8))]) (rest := [aR 11 (0)]) rq_222 (ev_min_y (y) (1) (σ 13 (186) (8)) σ  h2) rfl rfl (show clOK 222 154 2 0 0 3 0 = true by decide +kernel) rfl (show 1 ≤ 4 by decide) (fun h => absurd rfl h) rfl (c' := 0) (s' := 0) rfl rfl ?_
      refine wp_if rq_222 rfl (fun (h3 : (1 : Int) = (0 : Int)) => absurd h3 (show ¬ ((1 : Int) = (0 : Int)) from by decide)) (fun _ => ?_)
      refine wp_seg 1 (P := none) (ls' := [some (aR 11 (0)), some (aI (y)), none, none, none, none, none]) (st' := [aI (0), aR 11 (0)]) (σ' := σ) rq_222 rfl True.intro (i' := 18) rfl ?_
      refine wp_goto rq_222 rfl ?_
      refine wp_seg 3 (P := none) (ls' := [some (aR 11 (0)), some (aI (y)), none, none, none, none, none]) (st' := [aI (0)]) (σ' := (up σ 11 (0) 6 (0))) rq_222 rfl True.intro (i' := 23) rfl ?_
      refine wp_if rq_222 rfl (fun _ => ?_) (fun (h4 : ¬ ((0 : Int) ≤ (0 : Int))) => absurd (show (0 : Int) ≤ (0 : Int) from by decide) h4)
      exact hq
    · refine wp_call (C := 0) (As := [aI (y), aI (1), aI (σ 13 (186) (8))]) (rest := [aR 11 (0)]) rq_222 (ev_min_n (y) (1) (σ 13 (186) (8)) σ  h2) rfl rfl (show clOK 222 154 2 0 0 3 0 = true by decide +kernel) rfl (show 1 ≤ 4 by decide) (fun h => absurd rfl h) rfl (c' := 0) (s' := 0) rfl rfl ?_
      refine wp_if rq_222 rfl (fun _ => ?_) (fun (h5 : ¬ ((0 : Int) = (0 : Int))) => absurd (show (0 : Int) = (0 : Int) from by decide) h5)
      exact absurd hy9 (by omega)
  · exact absurd hp3 (by omega)

theorem fm_1 (hy1 : y = 1) (hg3 : 1 ≤ M 13 186 3 ∧ M 13 186 3 ≤ 307) (hw9 : 0 ≤ mat M (M 13 186 3 - 1) 5 ∧ mat M (M 13 186 3 - 1) 5 < 10) : wp true 222 26 [some (aR 11 (0)), some (aI (y)), none, none, none, none, none] [] M 0 0 (fun o' σ2 => o' = .inl (some (aI (mat M (M 13 186 3 - 1) (mat M (M 13 186 3 - 1) 5)))) ∧ σ2 = M) := by
  have hwr : wr (M 13 186 3 - 1) = M 13 186 3 - 1 := wr_eq (by omega) (by omega)
  have hb9 : 0 ≤ M 13 186 3 - 1 ∧ M 13 186 3 - 1 < 307 := by omega
  refine wp_seg 2 (P := none) (ls' := [some (aR 11 (0)), some (aI (y)), none, none, none, none, none]) (st' := [aI (1), aI (y)]) (σ' := M) rq_222 rfl True.intro (i' := 28) rfl ?_
  refine wp_icmp rq_222 rfl (fun (h1 : ¬ (y) = 1) => ?_) (fun (h1 : ¬ (¬ (y) = 1)) => ?_)
  · exact absurd hy1 (by omega)
  · refine wp_seg 15 (P := some ((0 ≤ (3) ∧ (3) < alen M 13 (186)) ∧ (0 ≤ (3) ∧ (3) < alen M 13 (186)))) (ls' := [some (aR 11 (0)), some (aI (y)), none, none, none, none, none]) (st' := [aI (5), aI (wr ((M 13 (186) (3)) - (1))), aR 11 (0), aI (wr ((M 13 (186) (3)) - (1))), aR 11 (0)]) (σ' := M) rq_222 rfl ?_ (i' := 44) rfl ?_
    · show (0 ≤ (3) ∧ (3) < alen M 13 (186)) ∧ (0 ≤ (3) ∧ (3) < alen M 13 (186))
      (first | decide | exact Or.inl rfl | exact Or.inr rfl | ((try simp only [al_g, al_k, al_p, al_c, al_r, al_t, al_o, rl_g, rl_k, rl_p, rl_c, rl_r, rl_t, rl_o]); (try simp (disch := omega) only [wr_eq]); omega))
    refine wp_call (C := 11) (As := [aR 11 (0), aI (wr ((M 13 (186) (3)) - (1))), aI (5)]) (rest := [aI (wr ((M 13 (186) (3)) - (1))), aR 11 (0)]) rq_222 (ev_mat (wr ((M 13 (186) (3)) - (1))) (5) M (by rw [hwr]; exact hb9) (by first | decide | (rw [hwr]; exact hw9))) rfl rfl (show clOK 222 158 0 0 0 3 11 = true by decide +kernel) rfl (show 2 ≤ 4 by decide) (fun _ => ⟨_, rfl⟩) rfl (c' := 0) (s' := 0) rfl rfl ?_
    refine wp_call (C := 11) (As := [aR 11 (0), aI (wr ((M 13 (186) (3)) - (1))), aI (mat M (wr ((M 13 (186) (3)) - (1))) (5))]) (rest := []) rq_222 (ev_mat (wr ((M 13 (186) (3)) - (1))) (mat M (wr ((M 13 (186) (3)) - (1))) (5)) M (by rw [hwr]; exact hb9) (by first | decide | (rw [hwr]; exact hw9))) rfl rfl (show clOK 222 158 0 0 0 3 11 = true by decide +kernel) rfl (show 0 ≤ 4 by decide) (fun _ => ⟨_, rfl⟩) rfl (c' := 0) (s' := 0) rfl rfl ?_
    refine wp_iret rq_222 rfl rt_222 ⟨?_, ?_⟩
    · (rw [hwr])
    · rfl

theorem fm_2 (hy1 : ¬ y = 1) (Q : Out → Mem → Prop) (hq : wp true 222 53 [some (aR 11 (0)), some (aI (y)), some (aI (1)), some (aI (-1)), some (aI (2)), none, none] [] M 0 0 Q) : wp true 222 26 [some (aR 11 (0)), some (aI (y)), none, none, none, none, none] [] M 0 0 Q := by
  refine wp_seg 2 (P := none) (ls' := [some (aR 11 (0)), some (aI (y)), none, none, none, none, none]) (st' := [aI (1), aI (y)]) (σ' := M) rq_222 rfl True.intro (i' := 28) rfl ?_
  refine wp_icmp rq_222 rfl (fun (h1 : ¬ (y) = 1) => ?_) (fun (h1 : ¬ (¬ (y) = 1)) => ?_)
  · refine wp_seg 6 (P := none) (ls' := [some (aR 11 (0)), some (aI (y)), some (aI (1)), some (aI (-1)), some (aI (2)), none, none]) (st' := []) (σ' := M) rq_222 rfl True.intro (i' := 53) rfl ?_
    exact hq
  · exact absurd (by omega) hy1
end FinM
