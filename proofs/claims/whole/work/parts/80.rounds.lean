/-! The model's rounds. -/
def irN (r : Int) : Nat → Int → Int → Int
  | 0, e, _ => e
  | n + 1, e, u => if u < 2 then e else irN r n (if ¬ e = 0 then 1 else if ¬ u = r then 0 else 1) (wr (u.tdiv 2))

theorem lp_misRound (r : Int) (σ : Mem) : ∀ (n : Nat) (e u : Int), (e = 0 ∨ e = 1) → u < 2 ^ n → u ≤ 2147483647 → wp true 219 7 [some (aR 11 (0)), some (aI (r)), some (aI (e)), some (aI (u))] [] σ 0 0 (fun o' σ2 => o' = .inl (some (aI (irN r n e u))) ∧ σ2 = σ) := by
  intro n
  induction n with
  | zero =>
    intro e u he hu hv
    refine wp_seg 2 (P := none) (ls' := [some (aR 11 (0)), some (aI (r)), some (aI (e)), some (aI (u))]) (st' := [aI (2), aI (u)]) (σ' := σ) rq_219 rfl True.intro (i' := 9) rfl ?_
    refine wp_icmp rq_219 rfl (fun (h1 : (u) < 2) => ?_) (fun (h1 : ¬ ((u) < 2)) => ?_)
    · refine wp_seg 1 (P := none) (ls' := [some (aR 11 (0)), some (aI (r)), some (aI (e)), some (aI (u))]) (st' := [aI (e)]) (σ' := σ) rq_219 rfl True.intro (i' := 25) rfl ?_
      refine wp_zret rq_219 rfl rt_219 ?_ ⟨?_, ?_⟩
      · first | assumption | exact bit01 _ | (split <;> simp)
      · rfl
      · rfl
    · refine wp_seg 1 (P := none) (ls' := [some (aR 11 (0)), some (aI (r)), some (aI (e)), some (aI (u))]) (st' := [aI (e)]) (σ' := σ) rq_219 rfl True.intro (i' := 11) rfl ?_
      refine wp_if rq_219 rfl (fun (h2 : ¬ (e) = 0) => ?_) (fun (h2 : ¬ (¬ (e) = 0)) => ?_)
      · refine wp_seg 1 (P := none) (ls' := [some (aR 11 (0)), some (aI (r)), some (aI (e)), some (aI (u))]) (st' := [aI (1)]) (σ' := σ) rq_219 rfl True.intro (i' := 16) rfl ?_
        refine wp_goto rq_219 rfl ?_
        refine wp_seg 5 (P := some ((2 : Int) ≠ 0)) (ls' := [some (aR 11 (0)), some (aI (r)), some (aI (1)), some (aI (wr ((u).tdiv (2))))]) (st' := []) (σ' := σ) rq_219 rfl ?_ (i' := 23) rfl ?_
        · show (2 : Int) ≠ 0
          decide
        refine wp_goto rq_219 rfl ?_
        exfalso; simp at hu; omega
      · refine wp_seg 2 (P := none) (ls' := [some (aR 11 (0)), some (aI (r)), some (aI (e)), some (aI (u))]) (st' := [aI (r), aI (u)]) (σ' := σ) rq_219 rfl True.intro (i' := 14) rfl ?_
        refine wp_icmp rq_219 rfl (fun (h3 : ¬ (u) = (r)) => ?_) (fun (h3 : ¬ (¬ (u) = (r))) => ?_)
        · refine wp_seg 6 (P := some ((2 : Int) ≠ 0)) (ls' := [some (aR 11 (0)), some (aI (r)), some (aI (0)), some (aI (wr ((u).tdiv (2))))]) (st' := []) (σ' := σ) rq_219 rfl ?_ (i' := 23) rfl ?_
          · show (2 : Int) ≠ 0
            decide
          refine wp_goto rq_219 rfl ?_
          exfalso; simp at hu; omega
        · refine wp_seg 1 (P := none) (ls' := [some (aR 11 (0)), some (aI (r)), some (aI (e)), some (aI (u))]) (st' := [aI (1)]) (σ' := σ) rq_219 rfl True.intro (i' := 16) rfl ?_
          refine wp_goto rq_219 rfl ?_
          refine wp_seg 5 (P := some ((2 : Int) ≠ 0)) (ls' := [some (aR 11 (0)), some (aI (r)), some (aI (1)), some (aI (wr ((u).tdiv (2))))]) (st' := []) (σ' := σ) rq_219 rfl ?_ (i' := 23) rfl ?_
          · show (2 : Int) ≠ 0
            decide
          refine wp_goto rq_219 rfl ?_
          exfalso; simp at hu; omega
  | succ n ih =>
    intro e u he hu hv
    refine wp_seg 2 (P := none) (ls' := [some (aR 11 (0)), some (aI (r)), some (aI (e)), some (aI (u))]) (st' := [aI (2), aI (u)]) (σ' := σ) rq_219 rfl True.intro (i' := 9) rfl ?_
    refine wp_icmp rq_219 rfl (fun (h1 : (u) < 2) => ?_) (fun (h1 : ¬ ((u) < 2)) => ?_)
    · refine wp_seg 1 (P := none) (ls' := [some (aR 11 (0)), some (aI (r)), some (aI (e)), some (aI (u))]) (st' := [aI (e)]) (σ' := σ) rq_219 rfl True.intro (i' := 25) rfl ?_
      refine wp_zret rq_219 rfl rt_219 ?_ ⟨?_, ?_⟩
      · first | assumption | exact bit01 _ | (split <;> simp)
      · (show (Sum.inl (some (aI e)) : Out) = .inl (some (aI (irN r (n + 1) e u))); rw [irN, if_pos h1])
      · rfl
    · refine wp_seg 1 (P := none) (ls' := [some (aR 11 (0)), some (aI (r)), some (aI (e)), some (aI (u))]) (st' := [aI (e)]) (σ' := σ) rq_219 rfl True.intro (i' := 11) rfl ?_
      refine wp_if rq_219 rfl (fun (h2 : ¬ (e) = 0) => ?_) (fun (h2 : ¬ (¬ (e) = 0)) => ?_)
      · refine wp_seg 1 (P := none) (ls' := [some (aR 11 (0)), some (aI (r)), some (aI (e)), some (aI (u))]) (st' := [aI (1)]) (σ' := σ) rq_219 rfl True.intro (i' := 16) rfl ?_
        refine wp_goto rq_219 rfl ?_
        refine wp_seg 5 (P := some ((2 : Int) ≠ 0)) (ls' := [some (aR 11 (0)), some (aI (r)), some (aI (1)), some (aI (wr ((u).tdiv (2))))]) (st' := []) (σ' := σ) rq_219 rfl ?_ (i' := 23) rfl ?_
        · show (2 : Int) ≠ 0
          decide
        refine wp_goto rq_219 rfl ?_
        have h9 := half (by omega) hu hv
        have h8 := ih (1) (wr (u.tdiv 2)) (by decide) h9.1 h9.2
        have e8 : irN r (n + 1) e u = irN r n (1) (wr (u.tdiv 2)) := by rw [irN, if_neg h1, if_pos h2]
        rw [e8]
        exact h8
      · refine wp_seg 2 (P := none) (ls' := [some (aR 11 (0)), some (aI (r)), some (aI (e)), some (aI (u))]) (st' := [aI (r), aI (u)]) (σ' := σ) rq_219 rfl True.intro (i' := 14) rfl ?_
        refine wp_icmp rq_219 rfl (fun (h3 : ¬ (u) = (r)) => ?_) (fun (h3 : ¬ (¬ (u) = (r))) => ?_)
        · refine wp_seg 6 (P := some ((2 : Int) ≠ 0)) (ls' := [some (aR 11 (0)), some (aI (r)), some (aI (0)), some (aI (wr ((u).tdiv (2))))]) (st' := []) (σ' := σ) rq_219 rfl ?_ (i' := 23) rfl ?_
          · show (2 : Int) ≠ 0
            decide
          refine wp_goto rq_219 rfl ?_
          have h9 := half (by omega) hu hv
          have h8 := ih (0) (wr (u.tdiv 2)) (by decide) h9.1 h9.2
          have e8 : irN r (n + 1) e u = irN r n (0) (wr (u.tdiv 2)) := by rw [irN, if_neg h1, if_neg h2, if_pos h3]
          rw [e8]
          exact h8
        · refine wp_seg 1 (P := none) (ls' := [some (aR 11 (0)), some (aI (r)), some (aI (e)), some (aI (u))]) (st' := [aI (1)]) (σ' := σ) rq_219 rfl True.intro (i' := 16) rfl ?_
          refine wp_goto rq_219 rfl ?_
          refine wp_seg 5 (P := some ((2 : Int) ≠ 0)) (ls' := [some (aR 11 (0)), some (aI (r)), some (aI (1)), some (aI (wr ((u).tdiv (2))))]) (st' := []) (σ' := σ) rq_219 rfl ?_ (i' := 23) rfl ?_
          · show (2 : Int) ≠ 0
            decide
          refine wp_goto rq_219 rfl ?_
          have h9 := half (by omega) hu hv
          have h8 := ih (1) (wr (u.tdiv 2)) (by decide) h9.1 h9.2
          have e8 : irN r (n + 1) e u = irN r n (1) (wr (u.tdiv 2)) := by rw [irN, if_neg h1, if_neg h2, if_neg h3]
          rw [e8]
          exact h8
def zo_misRound (r : Int) (σ : Mem) : Int := irN r 6 0 (σ 13 186 4)
theorem ev_misRound (r : Int) (σ : Mem) (hS : σ 13 186 4 ≤ 32) : Ev true 219 [aR 11 0, aI r] σ (.inl (some (aI (zo_misRound r σ)))) σ := by
  show wp true 219 0 [some (aR 11 (0)), some (aI (r)), none, none] [] σ 0 0 _
  refine wp_seg 7 (P := some (0 ≤ (4) ∧ (4) < alen σ 13 (186))) (ls' := [some (aR 11 (0)), some (aI (r)), some (aI (0)), some (aI (σ 13 (186) (4)))]) (st' := []) (σ' := σ) rq_219 rfl ?_ (i' := 7) rfl ?_
  · show 0 ≤ (4) ∧ (4) < alen σ 13 (186)
    (first | decide | exact Or.inl rfl | exact Or.inr rfl | ((try simp only [mch_g, up6_g, al_g, al_k, al_p, al_c, al_r, al_t, al_o, rl_g, rl_k, rl_p, rl_c, rl_r, rl_t, rl_o]); (try simp (disch := omega) only [wr_eq, up_g_o, mput_g_o, mch_g, up6_g, al_g, al_k, al_p, al_c, al_r, al_t, al_o, rl_g, rl_k, rl_p, rl_c, rl_r, rl_t, rl_o]); omega))
  exact lp_misRound r σ 6 _ _ (by decide) (by omega) (by omega)

def zo_ytableBout (r i0 : Int) (σ : Mem) : Int := if ¬ (σ 13 (186) (4)) = 0 then (if (zo_misRound (r) σ) = 0 then 0 else if (0) ≤ (i0) ∧ (i0) ≤ (wr ((wr ((r).tdiv (2))) - (1))) then wr ((zo_mfirstOf (r) σ) + (i0)) else 0) else 0
def zm_ytableBout (r i0 : Int) (σ : Mem) : Mem := if ¬ (σ 13 (186) (4)) = 0 then (if (zo_misRound (r) σ) = 0 then (up σ 11 (0) 6 (2)) else if (0) ≤ (i0) ∧ (i0) ≤ (wr ((wr ((r).tdiv (2))) - (1))) then (up σ 11 (0) 6 (0)) else (up σ 11 (0) 6 (2))) else (up σ 11 (0) 6 (1))
theorem ev_ytableBout (r i0 : Int) (σ : Mem) (hS : σ 13 186 4 ≤ 32) (hr : ¬ zo_misRound r σ = 0 → 0 ≤ r) : Ev true 220 [aR 11 (0), aI (r), aI (i0)] σ (.inl (some (aI (zo_ytableBout r i0 σ)))) (zm_ytableBout r i0 σ) := by
  show wp true 220 0 [some (aR 11 (0)), some (aI (r)), some (aI (i0))] [] σ 0 0 _
  refine wp_seg 5 (P := some (0 ≤ (4) ∧ (4) < alen σ 13 (186))) (ls' := [some (aR 11 (0)), some (aI (r)), some (aI (i0))]) (st' := [aI (σ 13 (186) (4)), aR 11 (0)]) (σ' := σ) rq_220 rfl ?_ (i' := 5) rfl ?_
  · show 0 ≤ (4) ∧ (4) < alen σ 13 (186)
    (first | decide | exact Or.inl rfl | exact Or.inr rfl | ((try simp (disch := omega) only [wr_eq, td2, tm2, mat_mput, mat_up, fo_mput, up_g_o, mput_g_o, mat_mch, mch_g, up6_g, al_g, al_k, al_p, al_c, al_r, al_t, al_o, rl_g, rl_k, rl_p, rl_c, rl_r, rl_t, rl_o, fo_mch, fo_up11, mat_up11] at *); (try simp (disch := omega) only [wr_eq, td2, tm2, mat_mput, mat_up, fo_mput, up_g_o, mput_g_o, mat_mch, mch_g, up6_g, al_g, al_k, al_p, al_c, al_r, al_t, al_o, rl_g, rl_k, rl_p, rl_c, rl_r, rl_t, rl_o, fo_mch, fo_up11, mat_up11]); (try simp (disch := omega) only [wr_eq, td2, tm2, mat_mput, mat_up, fo_mput, up_g_o, mput_g_o, mat_mch, mch_g, up6_g, al_g, al_k, al_p, al_c, al_r, al_t, al_o, rl_g, rl_k, rl_p, rl_c, rl_r, rl_t, rl_o, fo_mch, fo_up11, mat_up11] at *); (try simp (disch := omega) only [wr_eq, td2, tm2, mat_mput, mat_up, fo_mput, up_g_o, mput_g_o, mat_mch, mch_g, up6_g, al_g, al_k, al_p, al_c, al_r, al_t, al_o, rl_g, rl_k, rl_p, rl_c, rl_r, rl_t, rl_o, fo_mch, fo_up11, mat_up11]); (try simp (disch := omega) only [wr_eq, td2, tm2, mat_mput, mat_up, fo_mput, up_g_o, mput_g_o, mat_mch, mch_g, up6_g, al_g, al_k, al_p, al_c, al_r, al_t, al_o, rl_g, rl_k, rl_p, rl_c, rl_r, rl_t, rl_o, fo_mch, fo_up11, mat_up11]); omega))
  refine wp_if rq_220 rfl (fun (h1 : ¬ (σ 13 (186) (4)) = 0) => ?_) (fun (h1 : ¬ (¬ (σ 13 (186) (4)) = 0)) => ?_)
  · refine wp_seg 2 (P := none) (ls' := [some (aR 11 (0)), some (aI (r)), some (aI (i0))]) (st' := [aI (r), aR 11 (0), aR 11 (0)]) (σ' := σ) rq_220 rfl True.intro (i' := 10) rfl ?_
    refine wp_call (C := 11) (As := [aR 11 (0), aI (r)]) (rest := [aR 11 (0)]) rq_220 (ev_misRound (r) σ (by first | omega | ((try simp only [mch_g, up6_g, al_g, al_k, al_p, al_c, al_r, al_t, al_o, rl_g, rl_k, rl_p, rl_c, rl_r, rl_t, rl_o]); (try simp (disch := omega) only [wr_eq, up_g_o, mput_g_o, mch_g, up6_g, al_g, al_k, al_p, al_c, al_r, al_t, al_o, rl_g, rl_k, rl_p, rl_c, rl_r, rl_t, rl_o]); omega))) rfl rfl (show clOK 220 219 0 0 0 2 11 = true by decide +kernel) rfl (show 1 ≤ 4 by decide) (fun _ => ⟨_, rfl⟩) rfl (c' := 0) (s' := 0) rfl rfl ?_
    refine wp_if rq_220 rfl (fun (h2 : (zo_misRound (r) σ) = 0) => ?_) (fun (h2 : ¬ ((zo_misRound (r) σ) = 0)) => ?_)
    · refine wp_seg 4 (P := none) (ls' := [some (aR 11 (0)), some (aI (r)), some (aI (i0))]) (st' := [aI (2)]) (σ' := (up σ 11 (0) 6 (2))) rq_220 rfl True.intro (i' := 27) rfl ?_
      refine wp_if rq_220 rfl (fun (h3 : (2 : Int) ≤ (0 : Int)) => absurd h3 (show ¬ ((2 : Int) ≤ (0 : Int)) from by decide)) (fun _ => ?_)
      refine wp_seg 1 (P := none) (ls' := [some (aR 11 (0)), some (aI (r)), some (aI (i0))]) (st' := [aI (0)]) (σ' := (up σ 11 (0) 6 (2))) rq_220 rfl True.intro (i' := 29) rfl ?_
      refine wp_goto rq_220 rfl ?_
      refine wp_iret rq_220 rfl rt_220 ⟨?_, ?_⟩
      · (rw [zo_ytableBout, if_pos h1, if_pos h2]; try rfl)
      · (rw [zm_ytableBout, if_pos h1, if_pos h2]; try rfl)
    · refine wp_seg 7 (P := some ((2 : Int) ≠ 0)) (ls' := [some (aR 11 (0)), some (aI (r)), some (aI (i0))]) (st' := [aI (wr ((wr ((r).tdiv (2))) - (1))), aI (0), aI (i0), aR 11 (0)]) (σ' := σ) rq_220 rfl ?_ (i' := 19) rfl ?_
      · show (2 : Int) ≠ 0
        (first | decide | exact Or.inl rfl | exact Or.inr rfl | ((try simp (disch := omega) only [wr_eq, td2, tm2, mat_mput, mat_up, fo_mput, up_g_o, mput_g_o, mat_mch, mch_g, up6_g, al_g, al_k, al_p, al_c, al_r, al_t, al_o, rl_g, rl_k, rl_p, rl_c, rl_r, rl_t, rl_o, fo_mch, fo_up11, mat_up11] at *); (try simp (disch := omega) only [wr_eq, td2, tm2, mat_mput, mat_up, fo_mput, up_g_o, mput_g_o, mat_mch, mch_g, up6_g, al_g, al_k, al_p, al_c, al_r, al_t, al_o, rl_g, rl_k, rl_p, rl_c, rl_r, rl_t, rl_o, fo_mch, fo_up11, mat_up11]); (try simp (disch := omega) only [wr_eq, td2, tm2, mat_mput, mat_up, fo_mput, up_g_o, mput_g_o, mat_mch, mch_g, up6_g, al_g, al_k, al_p, al_c, al_r, al_t, al_o, rl_g, rl_k, rl_p, rl_c, rl_r, rl_t, rl_o, fo_mch, fo_up11, mat_up11] at *); (try simp (disch := omega) only [wr_eq, td2, tm2, mat_mput, mat_up, fo_mput, up_g_o, mput_g_o, mat_mch, mch_g, up6_g, al_g, al_k, al_p, al_c, al_r, al_t, al_o, rl_g, rl_k, rl_p, rl_c, rl_r, rl_t, rl_o, fo_mch, fo_up11, mat_up11]); (try simp (disch := omega) only [wr_eq, td2, tm2, mat_mput, mat_up, fo_mput, up_g_o, mput_g_o, mat_mch, mch_g, up6_g, al_g, al_k, al_p, al_c, al_r, al_t, al_o, rl_g, rl_k, rl_p, rl_c, rl_r, rl_t, rl_o, fo_mch, fo_up11, mat_up11]); omega))
      by_cases h4 : (0) ≤ (i0) ∧ (i0) ≤ (wr ((wr ((r).tdiv (2))) - (1)))
      · refine wp_call (C := 0) (As := [aI (i0), aI (0), aI (wr ((wr ((r).tdiv (2))) - (1)))]) (rest := [aR 11 (0)]) rq_220 (ev_min_y (i0) (0) (wr ((wr ((r).tdiv (2))) - (1))) σ  h4) rfl rfl (show clOK 220 154 2 0 0 3 0 = true by decide +kernel) rfl (show 1 ≤ 4 by decide) (fun h => absurd rfl h) rfl (c' := 0) (s' := 0) rfl rfl ?_
        refine wp_if rq_220 rfl (fun (h5 : (1 : Int) = (0 : Int)) => absurd h5 (show ¬ ((1 : Int) = (0 : Int)) from by decide)) (fun _ => ?_)
        refine wp_seg 1 (P := none) (ls' := [some (aR 11 (0)), some (aI (r)), some (aI (i0))]) (st' := [aI (0), aR 11 (0)]) (σ' := σ) rq_220 rfl True.intro (i' := 22) rfl ?_
        refine wp_goto rq_220 rfl ?_
        refine wp_seg 3 (P := none) (ls' := [some (aR 11 (0)), some (aI (r)), some (aI (i0))]) (st' := [aI (0)]) (σ' := (up σ 11 (0) 6 (0))) rq_220 rfl True.intro (i' := 27) rfl ?_
        refine wp_if rq_220 rfl (fun _ => ?_) (fun (h6 : ¬ ((0 : Int) ≤ (0 : Int))) => absurd (show (0 : Int) ≤ (0 : Int) from by decide) h6)
        refine wp_seg 2 (P := none) (ls' := [some (aR 11 (0)), some (aI (r)), some (aI (i0))]) (st' := [aI (r), aR 11 (0)]) (σ' := (up σ 11 (0) 6 (0))) rq_220 rfl True.intro (i' := 32) rfl ?_
        refine wp_call (C := 11) (As := [aR 11 (0), aI (r)]) (rest := []) rq_220 (ev_mfirstOf (r) (up σ 11 (0) 6 (0)) (by first | omega | (exact hr (by assumption))) (by first | omega | ((try simp (disch := omega) only [wr_eq, td2, tm2, mat_mput, mat_up, fo_mput, up_g_o, mput_g_o, mat_mch, mch_g, up6_g, al_g, al_k, al_p, al_c, al_r, al_t, al_o, rl_g, rl_k, rl_p, rl_c, rl_r, rl_t, rl_o, fo_mch, fo_up11, mat_up11] at *); (try simp (disch := omega) only [wr_eq, td2, tm2, mat_mput, mat_up, fo_mput, up_g_o, mput_g_o, mat_mch, mch_g, up6_g, al_g, al_k, al_p, al_c, al_r, al_t, al_o, rl_g, rl_k, rl_p, rl_c, rl_r, rl_t, rl_o, fo_mch, fo_up11, mat_up11]); (try simp (disch := omega) only [wr_eq, td2, tm2, mat_mput, mat_up, fo_mput, up_g_o, mput_g_o, mat_mch, mch_g, up6_g, al_g, al_k, al_p, al_c, al_r, al_t, al_o, rl_g, rl_k, rl_p, rl_c, rl_r, rl_t, rl_o, fo_mch, fo_up11, mat_up11] at *); (try simp (disch := omega) only [wr_eq, td2, tm2, mat_mput, mat_up, fo_mput, up_g_o, mput_g_o, mat_mch, mch_g, up6_g, al_g, al_k, al_p, al_c, al_r, al_t, al_o, rl_g, rl_k, rl_p, rl_c, rl_r, rl_t, rl_o, fo_mch, fo_up11, mat_up11]); (try simp (disch := omega) only [wr_eq, td2, tm2, mat_mput, mat_up, fo_mput, up_g_o, mput_g_o, mat_mch, mch_g, up6_g, al_g, al_k, al_p, al_c, al_r, al_t, al_o, rl_g, rl_k, rl_p, rl_c, rl_r, rl_t, rl_o, fo_mch, fo_up11, mat_up11]); omega))) rfl rfl (show clOK 220 192 0 0 0 2 11 = true by decide +kernel) rfl (show 0 ≤ 4 by decide) (fun _ => ⟨_, rfl⟩) rfl (c' := 0) (s' := 0) rfl rfl ?_
        refine wp_seg 2 (P := none) (ls' := [some (aR 11 (0)), some (aI (r)), some (aI (i0))]) (st' := [aI (wr ((zo_mfirstOf (r) σ) + (i0)))]) (σ' := (up σ 11 (0) 6 (0))) rq_220 rfl True.intro (i' := 35) rfl ?_
        refine wp_iret rq_220 rfl rt_220 ⟨?_, ?_⟩
        · (rw [zo_ytableBout, if_pos h1, if_neg h2, if_pos h4]; try rfl)
        · (rw [zm_ytableBout, if_pos h1, if_neg h2, if_pos h4]; try rfl)
      · refine wp_call (C := 0) (As := [aI (i0), aI (0), aI (wr ((wr ((r).tdiv (2))) - (1)))]) (rest := [aR 11 (0)]) rq_220 (ev_min_n (i0) (0) (wr ((wr ((r).tdiv (2))) - (1))) σ  h4) rfl rfl (show clOK 220 154 2 0 0 3 0 = true by decide +kernel) rfl (show 1 ≤ 4 by decide) (fun h => absurd rfl h) rfl (c' := 0) (s' := 0) rfl rfl ?_
        refine wp_if rq_220 rfl (fun _ => ?_) (fun (h7 : ¬ ((0 : Int) = (0 : Int))) => absurd (show (0 : Int) = (0 : Int) from by decide) h7)
        refine wp_seg 4 (P := none) (ls' := [some (aR 11 (0)), some (aI (r)), some (aI (i0))]) (st' := [aI (2)]) (σ' := (up σ 11 (0) 6 (2))) rq_220 rfl True.intro (i' := 27) rfl ?_
        refine wp_if rq_220 rfl (fun (h8 : (2 : Int) ≤ (0 : Int)) => absurd h8 (show ¬ ((2 : Int) ≤ (0 : Int)) from by decide)) (fun _ => ?_)
        refine wp_seg 1 (P := none) (ls' := [some (aR 11 (0)), some (aI (r)), some (aI (i0))]) (st' := [aI (0)]) (σ' := (up σ 11 (0) 6 (2))) rq_220 rfl True.intro (i' := 29) rfl ?_
        refine wp_goto rq_220 rfl ?_
        refine wp_iret rq_220 rfl rt_220 ⟨?_, ?_⟩
        · (rw [zo_ytableBout, if_pos h1, if_neg h2, if_neg h4]; try rfl)
        · (rw [zm_ytableBout, if_pos h1, if_neg h2, if_neg h4]; try rfl)
  · refine wp_seg 1 (P := none) (ls' := [some (aR 11 (0)), some (aI (r)), some (aI (i0))]) (st' := [aI (1), aR 11 (0)]) (σ' := σ) rq_220 rfl True.intro (i' := 7) rfl ?_
    refine wp_goto rq_220 rfl ?_
    refine wp_seg 3 (P := none) (ls' := [some (aR 11 (0)), some (aI (r)), some (aI (i0))]) (st' := [aI (1)]) (σ' := (up σ 11 (0) 6 (1))) rq_220 rfl True.intro (i' := 27) rfl ?_
    refine wp_if rq_220 rfl (fun (h9 : (1 : Int) ≤ (0 : Int)) => absurd h9 (show ¬ ((1 : Int) ≤ (0 : Int)) from by decide)) (fun _ => ?_)
    refine wp_seg 1 (P := none) (ls' := [some (aR 11 (0)), some (aI (r)), some (aI (i0))]) (st' := [aI (0)]) (σ' := (up σ 11 (0) 6 (1))) rq_220 rfl True.intro (i' := 29) rfl ?_
    refine wp_goto rq_220 rfl ?_
    refine wp_iret rq_220 rfl rt_220 ⟨?_, ?_⟩
    · (rw [zo_ytableBout, if_neg h1]; try rfl)
    · (rw [zm_ytableBout, if_neg h1]; try rfl)

