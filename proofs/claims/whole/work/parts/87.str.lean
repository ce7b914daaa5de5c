/-! Who is so many places down in strength. -/
def fstr (σ : Mem) (x y : Int) : Int := if zo_misStronger y x σ = 0 then 0 else 1
def fp_mstrongest (q : Int) (σ : Mem) (x : Int) : Bool := decide (wr (sumTo (fstr σ x) (σ 13 186 1)) = q)
def zo_mstrongest (q : Int) (σ : Mem) : Int := fnd (fp_mstrongest q σ) 0 (σ 13 186 1)
theorem lp_msin (x q : Int) (σ : Mem) (Q : Out → Mem → Prop) (hF : 0 ≤ σ 13 186 1 ∧ σ 13 186 1 ≤ 24) (hx : 0 ≤ x ∧ x < σ 13 186 1) (hE1 : wr (sumTo (fstr σ x) (σ 13 186 1)) = q → wp true 167 34 [some (aR 11 (0)), some (aI (q)), some (aI (x)), none, none] [] σ 0 0 Q) (hE2 : ¬ wr (sumTo (fstr σ x) (σ 13 186 1)) = q → wp true 167 2 [some (aR 11 (0)), some (aI (q)), some (aI (x + 1)), none, none] [] σ 0 0 Q) : ∀ (n : Nat) (y a : Int), a = wr (sumTo (fstr σ x) y) → 0 ≤ y → y ≤ σ 13 186 1 → (σ 13 186 1 - y).toNat < n → wp true 167 12 [some (aR 11 (0)), some (aI (q)), some (aI (x)), some (aI (a)), some (aI (y))] [] σ 0 0 Q := by
  intro n
  induction n with
  | zero =>
    intro y a ha hy0 hyx hn9
    exact absurd hn9 (by omega)
  | succ n ih =>
    intro y a ha hy0 hyx hn9
    refine wp_seg 5 (P := some (0 ≤ (1) ∧ (1) < alen σ 13 (186))) (ls' := [some (aR 11 (0)), some (aI (q)), some (aI (x)), some (aI (a)), some (aI (y))]) (st' := [aI (σ 13 (186) (1)), aI (y)]) (σ' := σ) rq_167 rfl ?_ (i' := 17) rfl ?_
    · show 0 ≤ (1) ∧ (1) < alen σ 13 (186)
      (first | decide | exact Or.inl rfl | exact Or.inr rfl | ((try simp (disch := omega) only [wr_eq, td2, tm2, mat_mput, mat_up, fo_mput, up_g_o, mput_g_o, mat_mch, mch_g, up6_g, al_g, al_k, al_p, al_c, al_r, al_t, al_o, rl_g, rl_k, rl_p, rl_c, rl_r, rl_t, rl_o, fo_mch, fo_up11, mat_up11] at *); (try simp (disch := omega) only [wr_eq, td2, tm2, mat_mput, mat_up, fo_mput, up_g_o, mput_g_o, mat_mch, mch_g, up6_g, al_g, al_k, al_p, al_c, al_r, al_t, al_o, rl_g, rl_k, rl_p, rl_c, rl_r, rl_t, rl_o, fo_mch, fo_up11, mat_up11]); (try simp (disch := omega) only [wr_eq, td2, tm2, mat_mput, mat_up, fo_mput, up_g_o, mput_g_o, mat_mch, mch_g, up6_g, al_g, al_k, al_p, al_c, al_r, al_t, al_o, rl_g, rl_k, rl_p, rl_c, rl_r, rl_t, rl_o, fo_mch, fo_up11, mat_up11] at *); (try simp (disch := omega) only [wr_eq, td2, tm2, mat_mput, mat_up, fo_mput, up_g_o, mput_g_o, mat_mch, mch_g, up6_g, al_g, al_k, al_p, al_c, al_r, al_t, al_o, rl_g, rl_k, rl_p, rl_c, rl_r, rl_t, rl_o, fo_mch, fo_up11, mat_up11]); (try simp (disch := omega) only [wr_eq, td2, tm2, mat_mput, mat_up, fo_mput, up_g_o, mput_g_o, mat_mch, mch_g, up6_g, al_g, al_k, al_p, al_c, al_r, al_t, al_o, rl_g, rl_k, rl_p, rl_c, rl_r, rl_t, rl_o, fo_mch, fo_up11, mat_up11]); omega))
    refine wp_icmp rq_167 rfl (fun (h1 : (σ 13 (186) (1)) ≤ (y)) => ?_) (fun (h1 : ¬ ((σ 13 (186) (1)) ≤ (y))) => ?_)
    · refine wp_seg 2 (P := none) (ls' := [some (aR 11 (0)), some (aI (q)), some (aI (x)), some (aI (a)), some (aI (y))]) (st' := [aI (q), aI (a)]) (σ' := σ) rq_167 rfl True.intro (i' := 33) rfl ?_
      refine wp_icmp rq_167 rfl (fun (h2 : ¬ (a) = (q)) => ?_) (fun (h2 : ¬ (¬ (a) = (q))) => ?_)
      · refine wp_seg 1 (P := none) (ls' := [some (aR 11 (0)), some (aI (q)), some (aI (wr (x + 1))), some (aI (a)), some (aI (y))]) (st' := []) (σ' := σ) rq_167 rfl True.intro (i' := 37) rfl ?_
        refine wp_goto rq_167 rfl ?_
        have e9 : y = σ 13 186 1 := by omega
        rw [wr_eq (z := x + 1) (by omega) (by omega)]
        exact wp_weak (lessL_c (lessL_c (lessL_c (lessL_n (lessL_n lessL_0))))) (hE2 (by rw [← e9, ← ha]; omega))
      · have e9 : y = σ 13 186 1 := by omega
        exact wp_weak (lessL_c (lessL_c (lessL_c (lessL_n (lessL_n lessL_0))))) (hE1 (by rw [← e9, ← ha]; exact (by omega)))
    · refine wp_seg 4 (P := none) (ls' := [some (aR 11 (0)), some (aI (q)), some (aI (x)), some (aI (a)), some (aI (y))]) (st' := [aI (x), aI (y), aR 11 (0), aI (a)]) (σ' := σ) rq_167 rfl True.intro (i' := 22) rfl ?_
      refine wp_call (C := 11) (As := [aR 11 (0), aI (y), aI (x)]) (rest := [aI (a)]) rq_167 (ev_misStronger (y) (x) σ (by omega) (by omega)) rfl rfl (show clOK 167 168 0 0 0 3 11 = true by decide +kernel) rfl (show 1 ≤ 4 by decide) (fun _ => ⟨_, rfl⟩) rfl (c' := 0) (s' := 0) rfl rfl ?_
      refine wp_if rq_167 rfl (fun (h3 : (zo_misStronger (y) (x) σ) = 0) => ?_) (fun (h3 : ¬ ((zo_misStronger (y) (x) σ) = 0)) => ?_)
      · refine wp_seg 4 (P := none) (ls' := [some (aR 11 (0)), some (aI (q)), some (aI (x)), some (aI (wr ((a) + (0)))), some (aI (wr (y + 1)))]) (st' := []) (σ' := σ) rq_167 rfl True.intro (i' := 30) rfl ?_
        refine wp_goto rq_167 rfl ?_
        have e8 : fstr σ x y = 0 := by (unfold fstr; rw [if_pos h3])
        rw [wr_eq (z := y + 1) (by omega) (by omega)]
        refine ih (y + 1) _ ?_ (by omega) (by omega) (by omega)
        rw [ha, wr_wl, sumTo_s _ hy0, e8]
      · refine wp_seg 1 (P := none) (ls' := [some (aR 11 (0)), some (aI (q)), some (aI (x)), some (aI (a)), some (aI (y))]) (st' := [aI (1), aI (a)]) (σ' := σ) rq_167 rfl True.intro (i' := 25) rfl ?_
        refine wp_goto rq_167 rfl ?_
        refine wp_seg 3 (P := none) (ls' := [some (aR 11 (0)), some (aI (q)), some (aI (x)), some (aI (wr ((a) + (1)))), some (aI (wr (y + 1)))]) (st' := []) (σ' := σ) rq_167 rfl True.intro (i' := 30) rfl ?_
        refine wp_goto rq_167 rfl ?_
        have e8 : fstr σ x y = 1 := by (unfold fstr; rw [if_neg h3])
        rw [wr_eq (z := y + 1) (by omega) (by omega)]
        refine ih (y + 1) _ ?_ (by omega) (by omega) (by omega)
        rw [ha, wr_wl, sumTo_s _ hy0, e8]
theorem lp_mstr (q : Int) (σ : Mem) (hF : 0 ≤ σ 13 186 1 ∧ σ 13 186 1 ≤ 24) : ∀ (n : Nat) (x : Int), 0 ≤ x → x ≤ σ 13 186 1 → (σ 13 186 1 - x).toNat < n → wp true 167 2 [some (aR 11 (0)), some (aI (q)), some (aI (x)), none, none] [] σ 0 0 (fun o' σ2 => o' = .inl (some (aI (fnd (fp_mstrongest q σ) x (σ 13 186 1)))) ∧ σ2 = σ) := by
  intro n
  induction n with
  | zero =>
    intro x hx0 hxF hn9
    exact absurd hn9 (by omega)
  | succ n ih =>
    intro x hx0 hxF hn9
    refine wp_seg 5 (P := some (0 ≤ (1) ∧ (1) < alen σ 13 (186))) (ls' := [some (aR 11 (0)), some (aI (q)), some (aI (x)), none, none]) (st' := [aI (σ 13 (186) (1)), aI (x)]) (σ' := σ) rq_167 rfl ?_ (i' := 7) rfl ?_
    · show 0 ≤ (1) ∧ (1) < alen σ 13 (186)
      (first | decide | exact Or.inl rfl | exact Or.inr rfl | ((try simp (disch := omega) only [wr_eq, td2, tm2, mat_mput, mat_up, fo_mput, up_g_o, mput_g_o, mat_mch, mch_g, up6_g, al_g, al_k, al_p, al_c, al_r, al_t, al_o, rl_g, rl_k, rl_p, rl_c, rl_r, rl_t, rl_o, fo_mch, fo_up11, mat_up11] at *); (try simp (disch := omega) only [wr_eq, td2, tm2, mat_mput, mat_up, fo_mput, up_g_o, mput_g_o, mat_mch, mch_g, up6_g, al_g, al_k, al_p, al_c, al_r, al_t, al_o, rl_g, rl_k, rl_p, rl_c, rl_r, rl_t, rl_o, fo_mch, fo_up11, mat_up11]); (try simp (disch := omega) only [wr_eq, td2, tm2, mat_mput, mat_up, fo_mput, up_g_o, mput_g_o, mat_mch, mch_g, up6_g, al_g, al_k, al_p, al_c, al_r, al_t, al_o, rl_g, rl_k, rl_p, rl_c, rl_r, rl_t, rl_o, fo_mch, fo_up11, mat_up11] at *); (try simp (disch := omega) only [wr_eq, td2, tm2, mat_mput, mat_up, fo_mput, up_g_o, mput_g_o, mat_mch, mch_g, up6_g, al_g, al_k, al_p, al_c, al_r, al_t, al_o, rl_g, rl_k, rl_p, rl_c, rl_r, rl_t, rl_o, fo_mch, fo_up11, mat_up11]); (try simp (disch := omega) only [wr_eq, td2, tm2, mat_mput, mat_up, fo_mput, up_g_o, mput_g_o, mat_mch, mch_g, up6_g, al_g, al_k, al_p, al_c, al_r, al_t, al_o, rl_g, rl_k, rl_p, rl_c, rl_r, rl_t, rl_o, fo_mch, fo_up11, mat_up11]); omega))
    refine wp_icmp rq_167 rfl (fun (h1 : (σ 13 (186) (1)) ≤ (x)) => ?_) (fun (h1 : ¬ ((σ 13 (186) (1)) ≤ (x))) => ?_)
    · refine wp_seg 1 (P := none) (ls' := [some (aR 11 (0)), some (aI (q)), some (aI (x)), none, none]) (st' := [aI (-1)]) (σ' := σ) rq_167 rfl True.intro (i' := 39) rfl ?_
      refine wp_iret rq_167 rfl rt_167 ⟨?_, ?_⟩
      · (show (Sum.inl (some (aI (-1))) : Out) = .inl (some (aI (fnd (fp_mstrongest q σ) x (σ 13 186 1)))); rw [fnd_end (by omega)])
      · rfl
    · refine wp_seg 4 (P := none) (ls' := [some (aR 11 (0)), some (aI (q)), some (aI (x)), some (aI (0)), some (aI (0))]) (st' := []) (σ' := σ) rq_167 rfl True.intro (i' := 12) rfl ?_
      refine lp_msin x q σ _ hF (by omega) (fun e => ?_) (fun e => ?_) ((σ 13 186 1 - 0).toNat + 1) 0 0 rfl (by decide) hF.1 (by omega)
      · refine wp_seg 1 (P := none) (ls' := [some (aR 11 (0)), some (aI (q)), some (aI (x)), none, none]) (st' := [aI (x)]) (σ' := σ) rq_167 rfl True.intro (i' := 35) rfl ?_
        refine wp_iret rq_167 rfl rt_167 ⟨?_, ?_⟩
        · (rw [fnd_y (by omega) (by unfold fp_mstrongest; exact decide_eq_true e)])
        · rfl
      · rw [fnd_n (by omega) (by unfold fp_mstrongest; intro z; exact e (of_decide_eq_true z))]
        exact ih (x + 1) (by omega) (by omega) (by omega)
theorem ev_mstrongest (q : Int) (σ : Mem) (hF : 0 ≤ σ 13 186 1 ∧ σ 13 186 1 ≤ 24) : Ev true 167 [aR 11 0, aI q] σ (.inl (some (aI (zo_mstrongest q σ)))) σ := by
  show wp true 167 0 [some (aR 11 (0)), some (aI (q)), none, none, none] [] σ 0 0 _
  refine wp_seg 2 (P := none) (ls' := [some (aR 11 (0)), some (aI (q)), some (aI (0)), none, none]) (st' := []) (σ' := σ) rq_167 rfl True.intro (i' := 2) rfl ?_
  exact lp_mstr q σ hF ((σ 13 186 1 - 0).toNat + 1) 0 (by decide) hF.1 (by omega)

