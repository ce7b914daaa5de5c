/-! The model's rounds and touches. -/
def fiN (r : Int) : Nat → Int → Int → Int
  | 0, b, _ => b
  | n + 1, b, u => if u ≤ r then b else fiN r n (wr (b + wr (u.tdiv 2))) (wr (u.tdiv 2))
theorem half {u : Int} {n : Nat} (h0 : 0 < u) (h : u < 2 ^ (n + 1)) (h2 : u ≤ 2147483647) : wr (u.tdiv 2) < 2 ^ n ∧ wr (u.tdiv 2) ≤ 2147483647 := by
  rw [Int.tdiv_eq_ediv_of_nonneg (by omega), wr_eq (by omega) (by omega)]
  rw [Int.pow_succ] at h
  omega

theorem lp_mfirstOf (r : Int) (σ : Mem) (hr : 0 ≤ r) : ∀ (n : Nat) (b u : Int), u < 2 ^ n → u ≤ 2147483647 → wp true 192 10 [some (aR 11 (0)), some (aI (r)), some (aI (b)), some (aI (u))] [] σ 0 0 (fun o' σ2 => o' = .inl (some (aI (fiN r n b u))) ∧ σ2 = σ) := by
  intro n
  induction n with
  | zero =>
    intro b u hu hv
    refine wp_seg 2 (P := none) (ls' := [some (aR 11 (0)), some (aI (r)), some (aI (b)), some (aI (u))]) (st' := [aI (r), aI (u)]) (σ' := σ) rq_192 rfl True.intro (i' := 12) rfl ?_
    refine wp_icmp rq_192 rfl (fun (h1 : (u) ≤ (r)) => ?_) (fun (h1 : ¬ ((u) ≤ (r))) => ?_)
    · refine wp_seg 1 (P := none) (ls' := [some (aR 11 (0)), some (aI (r)), some (aI (b)), some (aI (u))]) (st' := [aI (b)]) (σ' := σ) rq_192 rfl True.intro (i' := 25) rfl ?_
      refine wp_iret rq_192 rfl rt_192 ⟨?_, ?_⟩
      · rfl
      · rfl
    · refine wp_seg 10 (P := some (((2 : Int) ≠ 0) ∧ ((2 : Int) ≠ 0))) (ls' := [some (aR 11 (0)), some (aI (r)), some (aI (wr ((b) + (wr ((u).tdiv (2)))))), some (aI (wr ((u).tdiv (2))))]) (st' := []) (σ' := σ) rq_192 rfl ?_ (i' := 23) rfl ?_
      · show ((2 : Int) ≠ 0) ∧ ((2 : Int) ≠ 0)
        decide
      refine wp_goto rq_192 rfl ?_
      exfalso; simp at hu; omega
  | succ n ih =>
    intro b u hu hv
    refine wp_seg 2 (P := none) (ls' := [some (aR 11 (0)), some (aI (r)), some (aI (b)), some (aI (u))]) (st' := [aI (r), aI (u)]) (σ' := σ) rq_192 rfl True.intro (i' := 12) rfl ?_
    refine wp_icmp rq_192 rfl (fun (h1 : (u) ≤ (r)) => ?_) (fun (h1 : ¬ ((u) ≤ (r))) => ?_)
    · refine wp_seg 1 (P := none) (ls' := [some (aR 11 (0)), some (aI (r)), some (aI (b)), some (aI (u))]) (st' := [aI (b)]) (σ' := σ) rq_192 rfl True.intro (i' := 25) rfl ?_
      refine wp_iret rq_192 rfl rt_192 ⟨?_, ?_⟩
      · (show (Sum.inl (some (aI b)) : Out) = .inl (some (aI (fiN r (n + 1) b u))); rw [fiN, if_pos h1])
      · rfl
    · refine wp_seg 10 (P := some (((2 : Int) ≠ 0) ∧ ((2 : Int) ≠ 0))) (ls' := [some (aR 11 (0)), some (aI (r)), some (aI (wr ((b) + (wr ((u).tdiv (2)))))), some (aI (wr ((u).tdiv (2))))]) (st' := []) (σ' := σ) rq_192 rfl ?_ (i' := 23) rfl ?_
      · show ((2 : Int) ≠ 0) ∧ ((2 : Int) ≠ 0)
        decide
      refine wp_goto rq_192 rfl ?_
      have h9 := half (by omega) hu hv
      have h8 := ih (wr (b + wr (u.tdiv 2))) (wr (u.tdiv 2)) h9.1 h9.2
      have e : fiN r (n + 1) b u = fiN r n (wr (b + wr (u.tdiv 2))) (wr (u.tdiv 2)) := by rw [fiN, if_neg h1]
      rw [e]
      exact h8
def zo_mfirstOf (r : Int) (σ : Mem) : Int := fiN r 6 (σ 13 186 5) (σ 13 186 4)
theorem ev_mfirstOf (r : Int) (σ : Mem) (hr : 0 ≤ r) (hS : σ 13 186 4 ≤ 32) : Ev true 192 [aR 11 0, aI r] σ (.inl (some (aI (zo_mfirstOf r σ)))) σ := by
  show wp true 192 0 [some (aR 11 (0)), some (aI (r)), none, none] [] σ 0 0 _
  refine wp_seg 10 (P := some ((0 ≤ (5) ∧ (5) < alen σ 13 (186)) ∧ (0 ≤ (4) ∧ (4) < alen σ 13 (186)))) (ls' := [some (aR 11 (0)), some (aI (r)), some (aI (σ 13 (186) (5))), some (aI (σ 13 (186) (4)))]) (st' := []) (σ' := σ) rq_192 rfl ?_ (i' := 10) rfl ?_
  · show (0 ≤ (5) ∧ (5) < alen σ 13 (186)) ∧ (0 ≤ (4) ∧ (4) < alen σ 13 (186))
    (first | decide | exact Or.inl rfl | exact Or.inr rfl | ((try simp only [mch_g, up6_g, al_g, al_k, al_p, al_c, al_r, al_t, al_o, rl_g, rl_k, rl_p, rl_c, rl_r, rl_t, rl_o]); (try simp (disch := omega) only [wr_eq, up_g_o, mput_g_o, mch_g, up6_g, al_g, al_k, al_p, al_c, al_r, al_t, al_o, rl_g, rl_k, rl_p, rl_c, rl_r, rl_t, rl_o]); omega))
  exact lp_mfirstOf r σ hr 6 _ _ (by omega) (by omega)

