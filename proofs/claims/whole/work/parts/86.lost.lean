/-! Who lost in a round. -/
def fp_mlostIn (x : Int) (σ : Mem) (b : Int) : Bool := decide (zo_mloser b σ = x)
def lastOf (r : Int) (σ : Mem) : Int := wr (zo_mfirstOf r σ + wr (r.tdiv 2))
def zo_mlostIn (r x : Int) (σ : Mem) : Int := if fnd (fp_mlostIn x σ) (zo_mfirstOf r σ) (lastOf r σ) = -1 then 0 else 1
theorem lp_mlostIn (r x : Int) (σ : Mem) (hr : 0 ≤ r) (hS : σ 13 186 4 ≤ 32) (hE : lastOf r σ ≤ 307) (hW : ∀ b, 0 ≤ b → b < lastOf r σ → mat σ b 4 = 2 → 0 ≤ mat σ b 5 ∧ mat σ b 5 < 2) : ∀ (n : Nat) (b : Int), 0 ≤ b → (lastOf r σ - b).toNat < n → wp true 223 4 [some (aR 11 (0)), some (aI (r)), some (aI (x)), some (aI (b))] [] σ 0 0 (fun o' σ2 => o' = .inl (some (aI (if fnd (fp_mlostIn x σ) b (lastOf r σ) = -1 then 0 else 1))) ∧ σ2 = σ) := by
  intro n
  induction n with
  | zero =>
    intro b hb0 hn9
    exact absurd hn9 (by omega)
  | succ n ih =>
    intro b hb0 hn9
    refine wp_seg 3 (P := none) (ls' := [some (aR 11 (0)), some (aI (r)), some (aI (x)), some (aI (b))]) (st' := [aI (r), aR 11 (0), aI (b)]) (σ' := σ) rq_223 rfl True.intro (i' := 7) rfl ?_
    refine wp_call (C := 11) (As := [aR 11 (0), aI (r)]) (rest := [aI (b)]) rq_223 (ev_mfirstOf (r) σ (by exact hr) (by exact hS)) rfl rfl (show clOK 223 192 0 0 0 2 11 = true by decide +kernel) rfl (show 1 ≤ 4 by decide) (fun _ => ⟨_, rfl⟩) rfl (c' := 0) (s' := 0) rfl rfl ?_
    refine wp_seg 4 (P := some ((2 : Int) ≠ 0)) (ls' := [some (aR 11 (0)), some (aI (r)), some (aI (x)), some (aI (b))]) (st' := [aI (wr ((zo_mfirstOf (r) σ) + (wr ((r).tdiv (2))))), aI (b)]) (σ' := σ) rq_223 rfl ?_ (i' := 12) rfl ?_
    · show (2 : Int) ≠ 0
      (first | decide | exact Or.inl rfl | exact Or.inr rfl | ((try simp (disch := omega) only [wr_eq, td2, tm2, mat_mput, mat_up, fo_mput, up_g_o, mput_g_o, mat_mch, mch_g, up6_g, al_g, al_k, al_p, al_c, al_r, al_t, al_o, rl_g, rl_k, rl_p, rl_c, rl_r, rl_t, rl_o, fo_mch, fo_up11, mat_up11] at *); (try simp (disch := omega) only [wr_eq, td2, tm2, mat_mput, mat_up, fo_mput, up_g_o, mput_g_o, mat_mch, mch_g, up6_g, al_g, al_k, al_p, al_c, al_r, al_t, al_o, rl_g, rl_k, rl_p, rl_c, rl_r, rl_t, rl_o, fo_mch, fo_up11, mat_up11]); (try simp (disch := omega) only [wr_eq, td2, tm2, mat_mput, mat_up, fo_mput, up_g_o, mput_g_o, mat_mch, mch_g, up6_g, al_g, al_k, al_p, al_c, al_r, al_t, al_o, rl_g, rl_k, rl_p, rl_c, rl_r, rl_t, rl_o, fo_mch, fo_up11, mat_up11] at *); (try simp (disch := omega) only [wr_eq, td2, tm2, mat_mput, mat_up, fo_mput, up_g_o, mput_g_o, mat_mch, mch_g, up6_g, al_g, al_k, al_p, al_c, al_r, al_t, al_o, rl_g, rl_k, rl_p, rl_c, rl_r, rl_t, rl_o, fo_mch, fo_up11, mat_up11]); (try simp (disch := omega) only [wr_eq, td2, tm2, mat_mput, mat_up, fo_mput, up_g_o, mput_g_o, mat_mch, mch_g, up6_g, al_g, al_k, al_p, al_c, al_r, al_t, al_o, rl_g, rl_k, rl_p, rl_c, rl_r, rl_t, rl_o, fo_mch, fo_up11, mat_up11]); omega))
    refine wp_icmp rq_223 rfl (fun (h1 : (wr ((zo_mfirstOf (r) σ) + (wr ((r).tdiv (2))))) ≤ (b)) => ?_) (fun (h1 : ¬ ((wr ((zo_mfirstOf (r) σ) + (wr ((r).tdiv (2))))) ≤ (b))) => ?_)
    · refine wp_seg 1 (P := none) (ls' := [some (aR 11 (0)), some (aI (r)), some (aI (x)), some (aI (b))]) (st' := [aI (0)]) (σ' := σ) rq_223 rfl True.intro (i' := 23) rfl ?_
      refine wp_zret rq_223 rfl rt_223 ?_ ⟨?_, ?_⟩
      · first | exact Or.inl rfl | exact Or.inr rfl
      · (show (Sum.inl (some (aI 0)) : Out) = .inl (some (aI (if fnd (fp_mlostIn x σ) b (lastOf r σ) = -1 then 0 else 1))); rw [fnd_end (by unfold lastOf; omega), if_pos rfl])
      · rfl
    · refine wp_seg 2 (P := none) (ls' := [some (aR 11 (0)), some (aI (r)), some (aI (x)), some (aI (b))]) (st' := [aI (b), aR 11 (0)]) (σ' := σ) rq_223 rfl True.intro (i' := 15) rfl ?_
      refine wp_call (C := 11) (As := [aR 11 (0), aI (b)]) (rest := []) rq_223 (ev_mloser (b) σ (by first | omega | (unfold lastOf at *; omega)) (by exact hW b hb0 (by unfold lastOf; omega))) rfl rfl (show clOK 223 221 0 0 0 2 11 = true by decide +kernel) rfl (show 0 ≤ 4 by decide) (fun _ => ⟨_, rfl⟩) rfl (c' := 0) (s' := 0) rfl rfl ?_
      refine wp_seg 1 (P := none) (ls' := [some (aR 11 (0)), some (aI (r)), some (aI (x)), some (aI (b))]) (st' := [aI (x), aI (zo_mloser (b) σ)]) (σ' := σ) rq_223 rfl True.intro (i' := 17) rfl ?_
      refine wp_icmp rq_223 rfl (fun (h2 : ¬ (zo_mloser (b) σ) = (x)) => ?_) (fun (h2 : ¬ (¬ (zo_mloser (b) σ) = (x))) => ?_)
      · refine wp_seg 1 (P := none) (ls' := [some (aR 11 (0)), some (aI (r)), some (aI (x)), some (aI (wr (b + 1)))]) (st' := []) (σ' := σ) rq_223 rfl True.intro (i' := 21) rfl ?_
        refine wp_goto rq_223 rfl ?_
        have e9 : b < lastOf r σ := by (unfold lastOf; omega)
        have e8 := ih (b + 1) (by omega) (by omega)
        rw [wr_eq (z := b + 1) (by omega) (by omega), fnd_n e9 (by (unfold fp_mlostIn; intro q; have := of_decide_eq_true q; omega))]
        exact e8
      · refine wp_seg 1 (P := none) (ls' := [some (aR 11 (0)), some (aI (r)), some (aI (x)), some (aI (b))]) (st' := [aI (1)]) (σ' := σ) rq_223 rfl True.intro (i' := 19) rfl ?_
        refine wp_zret rq_223 rfl rt_223 ?_ ⟨?_, ?_⟩
        · first | exact Or.inl rfl | exact Or.inr rfl
        · (show (Sum.inl (some (aI 1)) : Out) = .inl (some (aI (if fnd (fp_mlostIn x σ) b (lastOf r σ) = -1 then 0 else 1))); rw [fnd_y (by unfold lastOf; omega) (by unfold fp_mlostIn; exact decide_eq_true (by omega)), if_neg (by omega)])
        · rfl
theorem ev_mlostIn (r x : Int) (σ : Mem) (hr : 0 ≤ r) (hS : σ 13 186 4 ≤ 32) (h0 : 0 ≤ zo_mfirstOf r σ) (hE : lastOf r σ ≤ 307) (hW : ∀ b, 0 ≤ b → b < lastOf r σ → mat σ b 4 = 2 → 0 ≤ mat σ b 5 ∧ mat σ b 5 < 2) : Ev true 223 [aR 11 0, aI r, aI x] σ (.inl (some (aI (zo_mlostIn r x σ)))) σ := by
  show wp true 223 0 [some (aR 11 (0)), some (aI (r)), some (aI (x)), none] [] σ 0 0 _
  refine wp_seg 2 (P := none) (ls' := [some (aR 11 (0)), some (aI (r)), some (aI (x)), none]) (st' := [aI (r), aR 11 (0)]) (σ' := σ) rq_223 rfl True.intro (i' := 2) rfl ?_
  refine wp_call (C := 11) (As := [aR 11 (0), aI (r)]) (rest := []) rq_223 (ev_mfirstOf (r) σ (by exact hr) (by exact hS)) rfl rfl (show clOK 223 192 0 0 0 2 11 = true by decide +kernel) rfl (show 0 ≤ 4 by decide) (fun _ => ⟨_, rfl⟩) rfl (c' := 0) (s' := 0) rfl rfl ?_
  refine wp_seg 1 (P := none) (ls' := [some (aR 11 (0)), some (aI (r)), some (aI (x)), some (aI (zo_mfirstOf (r) σ))]) (st' := []) (σ' := σ) rq_223 rfl True.intro (i' := 4) rfl ?_
  exact lp_mlostIn r x σ hr hS hE hW ((lastOf r σ - zo_mfirstOf r σ).toNat + 1) (zo_mfirstOf r σ) h0 (by omega)

