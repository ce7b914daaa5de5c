/-! The model's sums; entering, touches. -/
def fo_msum5 (σ : Mem) (i : Int) : Int := if ¬ (mat σ (i) (4)) = 2 then (0) else (wr ((mat σ (i) (2)) + (mat σ (i) (3))))
theorem lp_msum5 (σ : Mem) (hB : 0 ≤ σ 13 186 3 ∧ σ 13 186 3 ≤ 307) (hL : σ 13 (186) (3) ≤ 2147483647) : ∀ (n : Nat) (i a : Int), a = wr (sumTo (fo_msum5 σ) i) → 0 ≤ i → (i ≤ σ 13 (186) (3) ∨ i = 0) → (σ 13 (186) (3) - i).toNat < n → wp true 233 6 [some (aR 11 (0)), some (aI (5)), some (aI (a)), some (aI (i))] [] σ 0 0 (fun o' σ2 => o' = .inl (some (aI (wr (sumTo (fo_msum5 σ) (σ 13 (186) (3)))))) ∧ σ2 = σ) := by
  intro n
  induction n with
  | zero => intros; omega
  | succ n ih =>
    intro i a ha h0 hi hm
    refine wp_seg 5 (P := some (0 ≤ (3) ∧ (3) < alen σ 13 (186))) (ls' := [some (aR 11 (0)), some (aI (5)), some (aI (a)), some (aI (i))]) (st' := [aI (σ 13 (186) (3)), aI (i)]) (σ' := σ) rq_233 rfl ?_ (i' := 11) rfl ?_
    · show 0 ≤ (3) ∧ (3) < alen σ 13 (186)
      (first | decide | exact Or.inl rfl | exact Or.inr rfl | ((try simp only [al_g, al_k, al_p, al_c, al_r, al_t, al_o, rl_g, rl_k, rl_p, rl_c, rl_r, rl_t, rl_o]); (try simp (disch := omega) only [wr_eq]); omega))
    refine wp_icmp rq_233 rfl (fun (h1 : (σ 13 (186) (3)) ≤ (i)) => ?_) (fun (h1 : ¬ ((σ 13 (186) (3)) ≤ (i))) => ?_)
    · refine wp_seg 7 (P := some (0 ≤ (1) ∧ (1) < alen σ 13 (186))) (ls' := [some (aR 11 (0)), some (aI (5)), some (aI (a)), some (aI (0))]) (st' := [aI (σ 13 (186) (1)), aI (0)]) (σ' := σ) rq_233 rfl ?_ (i' := 44) rfl ?_
      · show 0 ≤ (1) ∧ (1) < alen σ 13 (186)
        (first | decide | exact Or.inl rfl | exact Or.inr rfl | ((try simp only [al_g, al_k, al_p, al_c, al_r, al_t, al_o, rl_g, rl_k, rl_p, rl_c, rl_r, rl_t, rl_o]); (try simp (disch := omega) only [wr_eq]); omega))
      refine wp_icmp rq_233 rfl (fun (h2 : (σ 13 (186) (1)) ≤ (0)) => ?_) (fun (h2 : ¬ ((σ 13 (186) (1)) ≤ (0))) => ?_)
      · refine wp_seg 1 (P := none) (ls' := [some (aR 11 (0)), some (aI (5)), some (aI (a)), some (aI (0))]) (st' := [aI (a)]) (σ' := σ) rq_233 rfl True.intro (i' := 85) rfl ?_
        refine wp_iret rq_233 rfl rt_233 ⟨?_, ?_⟩
        · show (Sum.inl (some (aI a)) : Out) = _
          rw [ha, sumTo_end _ (by omega) hi]
        · rfl
      · refine wp_seg 2 (P := none) (ls' := [some (aR 11 (0)), some (aI (5)), some (aI (a)), some (aI (0))]) (st' := [aI (5), aI (5)]) (σ' := σ) rq_233 rfl True.intro (i' := 47) rfl ?_
        refine wp_icmp rq_233 rfl (fun _ => ?_) (fun (h3 : ¬ ((5 : Int) ≤ (5 : Int))) => absurd (show (5 : Int) ≤ (5 : Int) from by decide) h3)
        refine wp_seg 1 (P := none) (ls' := [some (aR 11 (0)), some (aI (5)), some (aI (a)), some (aI (0))]) (st' := [aI (a)]) (σ' := σ) rq_233 rfl True.intro (i' := 85) rfl ?_
        refine wp_iret rq_233 rfl rt_233 ⟨?_, ?_⟩
        · show (Sum.inl (some (aI a)) : Out) = _
          rw [ha, sumTo_end _ (by omega) hi]
        · rfl
    · refine wp_seg 2 (P := none) (ls' := [some (aR 11 (0)), some (aI (5)), some (aI (a)), some (aI (i))]) (st' := [aI (5), aI (5)]) (σ' := σ) rq_233 rfl True.intro (i' := 14) rfl ?_
      refine wp_icmp rq_233 rfl (fun (h4 : ¬ (5 : Int) = (5 : Int)) => absurd h4 (show ¬ (¬ (5 : Int) = (5 : Int)) from by decide)) (fun _ => ?_)
      refine wp_seg 4 (P := none) (ls' := [some (aR 11 (0)), some (aI (5)), some (aI (a)), some (aI (i))]) (st' := [aI (4), aI (i), aR 11 (0), aI (a)]) (σ' := σ) rq_233 rfl True.intro (i' := 19) rfl ?_
      refine wp_call (C := 11) (As := [aR 11 (0), aI (i), aI (4)]) (rest := [aI (a)]) rq_233 (ev_mat (i) (4) σ (by omega) (by omega)) rfl rfl (show clOK 233 158 0 0 0 3 11 = true by decide +kernel) rfl (show 1 ≤ 4 by decide) (fun _ => ⟨_, rfl⟩) rfl (c' := 0) (s' := 0) rfl rfl ?_
      refine wp_seg 1 (P := none) (ls' := [some (aR 11 (0)), some (aI (5)), some (aI (a)), some (aI (i))]) (st' := [aI (2), aI (mat σ (i) (4)), aI (a)]) (σ' := σ) rq_233 rfl True.intro (i' := 21) rfl ?_
      refine wp_icmp rq_233 rfl (fun (h5 : ¬ (mat σ (i) (4)) = 2) => ?_) (fun (h5 : ¬ (¬ (mat σ (i) (4)) = 2)) => ?_)
      · refine wp_seg 4 (P := none) (ls' := [some (aR 11 (0)), some (aI (5)), some (aI (wr ((a) + (0)))), some (aI (wr (i + 1)))]) (st' := []) (σ' := σ) rq_233 rfl True.intro (i' := 36) rfl ?_
        refine wp_goto rq_233 rfl ?_
        have e : wr (i + 1) = i + 1 := wr_eq (by omega) (by omega)
        rw [e]
        have eF : fo_msum5 σ i = 0 := by rw [fo_msum5, if_pos h5]
        refine ih (i + 1) _ ?_ (by omega) (by omega) (by omega)
        show wr (a + (0)) = _
        rw [ha, wr_wl, sumTo_s _ h0, eF]
      · refine wp_seg 3 (P := none) (ls' := [some (aR 11 (0)), some (aI (5)), some (aI (a)), some (aI (i))]) (st' := [aI (2), aI (i), aR 11 (0), aI (a)]) (σ' := σ) rq_233 rfl True.intro (i' := 25) rfl ?_
        refine wp_call (C := 11) (As := [aR 11 (0), aI (i), aI (2)]) (rest := [aI (a)]) rq_233 (ev_mat (i) (2) σ (by omega) (by omega)) rfl rfl (show clOK 233 158 0 0 0 3 11 = true by decide +kernel) rfl (show 1 ≤ 4 by decide) (fun _ => ⟨_, rfl⟩) rfl (c' := 0) (s' := 0) rfl rfl ?_
        refine wp_seg 3 (P := none) (ls' := [some (aR 11 (0)), some (aI (5)), some (aI (a)), some (aI (i))]) (st' := [aI (3), aI (i), aR 11 (0), aI (mat σ (i) (2)), aI (a)]) (σ' := σ) rq_233 rfl True.intro (i' := 29) rfl ?_
        refine wp_call (C := 11) (As := [aR 11 (0), aI (i), aI (3)]) (rest := [aI (mat σ (i) (2)), aI (a)]) rq_233 (ev_mat (i) (3) σ (by omega) (by omega)) rfl rfl (show clOK 233 158 0 0 0 3 11 = true by decide +kernel) rfl (show 2 ≤ 4 by decide) (fun _ => ⟨_, rfl⟩) rfl (c' := 0) (s' := 0) rfl rfl ?_
        refine wp_seg 1 (P := none) (ls' := [some (aR 11 (0)), some (aI (5)), some (aI (a)), some (aI (i))]) (st' := [aI (wr ((mat σ (i) (2)) + (mat σ (i) (3)))), aI (a)]) (σ' := σ) rq_233 rfl True.intro (i' := 31) rfl ?_
        refine wp_goto rq_233 rfl ?_
        refine wp_seg 3 (P := none) (ls' := [some (aR 11 (0)), some (aI (5)), some (aI (wr ((a) + (wr ((mat σ (i) (2)) + (mat σ (i) (3))))))), some (aI (wr (i + 1)))]) (st' := []) (σ' := σ) rq_233 rfl True.intro (i' := 36) rfl ?_
        refine wp_goto rq_233 rfl ?_
        have e : wr (i + 1) = i + 1 := wr_eq (by omega) (by omega)
        rw [e]
        have eF : fo_msum5 σ i = wr ((mat σ (i) (2)) + (mat σ (i) (3))) := by rw [fo_msum5, if_neg h5]
        refine ih (i + 1) _ ?_ (by omega) (by omega) (by omega)
        show wr (a + (wr ((mat σ (i) (2)) + (mat σ (i) (3))))) = _
        rw [ha, wr_wl, sumTo_s _ h0, eF]

theorem ev_msummed5 (σ : Mem) (hLay : LayOK σ) (hF : 0 ≤ σ 13 186 1 ∧ σ 13 186 1 ≤ 24) (hB : 0 ≤ σ 13 186 3 ∧ σ 13 186 3 ≤ 307) : Ev true 233 [aR 11 (0), aI (5)] σ (.inl (some (aI (wr (sumTo (fo_msum5 (laid σ)) ((laid σ) 13 (186) (3))))))) (laid σ) := by
  show wp true 233 0 [some (aR 11 (0)), some (aI (5)), none, none] [] σ 0 0 _
  refine wp_seg 1 (P := none) (ls' := [some (aR 11 (0)), some (aI (5)), none, none]) (st' := [aR 11 (0)]) (σ' := σ) rq_233 rfl True.intro (i' := 1) rfl ?_
  refine wp_call (C := 11) (As := [aR 11 (0)]) (rest := []) rq_233 (ev_mlays σ hLay) rfl rfl (show clOK 233 204 0 0 0 1 11 = true by decide +kernel) rfl (show 0 ≤ 4 by decide) (fun _ => ⟨_, rfl⟩) rfl (c' := 0) (s' := 0) rfl rfl ?_
  refine wp_seg 4 (P := none) (ls' := [some (aR 11 (0)), some (aI (5)), some (aI (0)), some (aI (0))]) (st' := []) (σ' := (laid σ)) rq_233 rfl True.intro (i' := 6) rfl ?_
  exact lp_msum5 (laid σ) (by simp only [laid_g]; exact hB) (by simp only [laid_g]; omega) (((laid σ) 13 (186) (3) - 0).toNat + 1) 0 0 (by rw [sumTo_0]; rfl) (by omega) (Or.inr rfl) (by omega)

def fo_msum6 (σ : Mem) (i : Int) : Int := zo_mindicator (i) σ
theorem lp_msum6 (σ : Mem) (hF : 0 ≤ σ 13 186 1 ∧ σ 13 186 1 ≤ 24) (hL : σ 13 (186) (1) ≤ 2147483647) : ∀ (n : Nat) (i a : Int), a = wr (sumTo (fo_msum6 σ) i) → 0 ≤ i → (i ≤ σ 13 (186) (1) ∨ i = 0) → (σ 13 (186) (1) - i).toNat < n → wp true 233 39 [some (aR 11 (0)), some (aI (6)), some (aI (a)), some (aI (i))] [] σ 0 0 (fun o' σ2 => o' = .inl (some (aI (wr (sumTo (fo_msum6 σ) (σ 13 (186) (1)))))) ∧ σ2 = σ) := by
  intro n
  induction n with
  | zero => intros; omega
  | succ n ih =>
    intro i a ha h0 hi hm
    refine wp_seg 5 (P := some (0 ≤ (1) ∧ (1) < alen σ 13 (186))) (ls' := [some (aR 11 (0)), some (aI (6)), some (aI (a)), some (aI (i))]) (st' := [aI (σ 13 (186) (1)), aI (i)]) (σ' := σ) rq_233 rfl ?_ (i' := 44) rfl ?_
    · show 0 ≤ (1) ∧ (1) < alen σ 13 (186)
      (first | decide | exact Or.inl rfl | exact Or.inr rfl | ((try simp only [al_g, al_k, al_p, al_c, al_r, al_t, al_o, rl_g, rl_k, rl_p, rl_c, rl_r, rl_t, rl_o]); (try simp (disch := omega) only [wr_eq]); omega))
    refine wp_icmp rq_233 rfl (fun (h1 : (σ 13 (186) (1)) ≤ (i)) => ?_) (fun (h1 : ¬ ((σ 13 (186) (1)) ≤ (i))) => ?_)
    · refine wp_seg 1 (P := none) (ls' := [some (aR 11 (0)), some (aI (6)), some (aI (a)), some (aI (i))]) (st' := [aI (a)]) (σ' := σ) rq_233 rfl True.intro (i' := 85) rfl ?_
      refine wp_iret rq_233 rfl rt_233 ⟨?_, ?_⟩
      · show (Sum.inl (some (aI a)) : Out) = _
        rw [ha, sumTo_end _ (by omega) hi]
      · rfl
    · refine wp_seg 2 (P := none) (ls' := [some (aR 11 (0)), some (aI (6)), some (aI (a)), some (aI (i))]) (st' := [aI (5), aI (6)]) (σ' := σ) rq_233 rfl True.intro (i' := 47) rfl ?_
      refine wp_icmp rq_233 rfl (fun (h2 : (6 : Int) ≤ (5 : Int)) => absurd h2 (show ¬ ((6 : Int) ≤ (5 : Int)) from by decide)) (fun _ => ?_)
      refine wp_seg 3 (P := none) (ls' := [some (aR 11 (0)), some (aI (6)), some (aI (a)), some (aI (i))]) (st' := [aI (6), aI (6), aI (a)]) (σ' := σ) rq_233 rfl True.intro (i' := 51) rfl ?_
      refine wp_icmp rq_233 rfl (fun (h3 : ¬ (6 : Int) = (6 : Int)) => absurd h3 (show ¬ (¬ (6 : Int) = (6 : Int)) from by decide)) (fun _ => ?_)
      refine wp_seg 2 (P := none) (ls' := [some (aR 11 (0)), some (aI (6)), some (aI (a)), some (aI (i))]) (st' := [aI (i), aR 11 (0), aI (a)]) (σ' := σ) rq_233 rfl True.intro (i' := 54) rfl ?_
      refine wp_call (C := 11) (As := [aR 11 (0), aI (i)]) (rest := [aI (a)]) rq_233 (ev_mindicator (i) σ (by omega)) rfl rfl (show clOK 233 205 0 0 0 2 11 = true by decide +kernel) rfl (show 1 ≤ 4 by decide) (fun _ => ⟨_, rfl⟩) rfl (c' := 0) (s' := 0) rfl rfl ?_
      refine wp_goto rq_233 rfl ?_
      refine wp_seg 3 (P := none) (ls' := [some (aR 11 (0)), some (aI (6)), some (aI (wr ((a) + (zo_mindicator (i) σ)))), some (aI (wr (i + 1)))]) (st' := []) (σ' := σ) rq_233 rfl True.intro (i' := 83) rfl ?_
      refine wp_goto rq_233 rfl ?_
      have e : wr (i + 1) = i + 1 := wr_eq (by omega) (by omega)
      rw [e]
      have eF : fo_msum6 σ i = zo_mindicator (i) σ := by rfl
      refine ih (i + 1) _ ?_ (by omega) (by omega) (by omega)
      show wr (a + (zo_mindicator (i) σ)) = _
      rw [ha, wr_wl, sumTo_s _ h0, eF]

theorem ev_msummed6 (σ : Mem) (hLay : LayOK σ) (hF : 0 ≤ σ 13 186 1 ∧ σ 13 186 1 ≤ 24) (hB : 0 ≤ σ 13 186 3 ∧ σ 13 186 3 ≤ 307) : Ev true 233 [aR 11 (0), aI (6)] σ (.inl (some (aI (wr (sumTo (fo_msum6 (laid σ)) ((laid σ) 13 (186) (1))))))) (laid σ) := by
  show wp true 233 0 [some (aR 11 (0)), some (aI (6)), none, none] [] σ 0 0 _
  refine wp_seg 1 (P := none) (ls' := [some (aR 11 (0)), some (aI (6)), none, none]) (st' := [aR 11 (0)]) (σ' := σ) rq_233 rfl True.intro (i' := 1) rfl ?_
  refine wp_call (C := 11) (As := [aR 11 (0)]) (rest := []) rq_233 (ev_mlays σ hLay) rfl rfl (show clOK 233 204 0 0 0 1 11 = true by decide +kernel) rfl (show 0 ≤ 4 by decide) (fun _ => ⟨_, rfl⟩) rfl (c' := 0) (s' := 0) rfl rfl ?_
  refine wp_seg 9 (P := some (0 ≤ (3) ∧ (3) < alen (laid σ) 13 (186))) (ls' := [some (aR 11 (0)), some (aI (6)), some (aI (0)), some (aI (0))]) (st' := [aI ((laid σ) 13 (186) (3)), aI (0)]) (σ' := (laid σ)) rq_233 rfl ?_ (i' := 11) rfl ?_
  · show 0 ≤ (3) ∧ (3) < alen (laid σ) 13 (186)
    (first | decide | exact Or.inl rfl | exact Or.inr rfl | ((try simp only [al_g, al_k, al_p, al_c, al_r, al_t, al_o, rl_g, rl_k, rl_p, rl_c, rl_r, rl_t, rl_o]); (try simp (disch := omega) only [wr_eq]); omega))
  refine wp_icmp rq_233 rfl (fun (h1 : ((laid σ) 13 (186) (3)) ≤ (0)) => ?_) (fun (h1 : ¬ (((laid σ) 13 (186) (3)) ≤ (0))) => ?_)
  · refine wp_seg 2 (P := none) (ls' := [some (aR 11 (0)), some (aI (6)), some (aI (0)), some (aI (0))]) (st' := []) (σ' := (laid σ)) rq_233 rfl True.intro (i' := 39) rfl ?_
    exact lp_msum6 (laid σ) (by simp only [laid_g]; exact hF) (by simp only [laid_g]; omega) (((laid σ) 13 (186) (1) - 0).toNat + 1) 0 0 (by rw [sumTo_0]; rfl) (by omega) (Or.inr rfl) (by omega)
  · refine wp_seg 2 (P := none) (ls' := [some (aR 11 (0)), some (aI (6)), some (aI (0)), some (aI (0))]) (st' := [aI (5), aI (6)]) (σ' := (laid σ)) rq_233 rfl True.intro (i' := 14) rfl ?_
    refine wp_icmp rq_233 rfl (fun _ => ?_) (fun (h2 : ¬ (¬ (6 : Int) = (5 : Int))) => absurd (show ¬ (6 : Int) = (5 : Int) from by decide) h2)
    refine wp_seg 2 (P := none) (ls' := [some (aR 11 (0)), some (aI (6)), some (aI (0)), some (aI (0))]) (st' := []) (σ' := (laid σ)) rq_233 rfl True.intro (i' := 39) rfl ?_
    exact lp_msum6 (laid σ) (by simp only [laid_g]; exact hF) (by simp only [laid_g]; omega) (((laid σ) 13 (186) (1) - 0).toNat + 1) 0 0 (by rw [sumTo_0]; rfl) (by omega) (Or.inr rfl) (by omega)

def fo_msum7 (σ : Mem) (i : Int) : Int := wr ((wr ((mof σ (i) (3)) + (mof σ (i) (4)))) + (mof σ (i) (5)))
theorem lp_msum7 (σ : Mem) (hF : 0 ≤ σ 13 186 1 ∧ σ 13 186 1 ≤ 24) (hL : σ 13 (186) (1) ≤ 2147483647) : ∀ (n : Nat) (i a : Int), a = wr (sumTo (fo_msum7 σ) i) → 0 ≤ i → (i ≤ σ 13 (186) (1) ∨ i = 0) → (σ 13 (186) (1) - i).toNat < n → wp true 233 39 [some (aR 11 (0)), some (aI (7)), some (aI (a)), some (aI (i))] [] σ 0 0 (fun o' σ2 => o' = .inl (some (aI (wr (sumTo (fo_msum7 σ) (σ 13 (186) (1)))))) ∧ σ2 = σ) := by
  intro n
  induction n with
  | zero => intros; omega
  | succ n ih =>
    intro i a ha h0 hi hm
    refine wp_seg 5 (P := some (0 ≤ (1) ∧ (1) < alen σ 13 (186))) (ls' := [some (aR 11 (0)), some (aI (7)), some (aI (a)), some (aI (i))]) (st' := [aI (σ 13 (186) (1)), aI (i)]) (σ' := σ) rq_233 rfl ?_ (i' := 44) rfl ?_
    · show 0 ≤ (1) ∧ (1) < alen σ 13 (186)
      (first | decide | exact Or.inl rfl | exact Or.inr rfl | ((try simp only [al_g, al_k, al_p, al_c, al_r, al_t, al_o, rl_g, rl_k, rl_p, rl_c, rl_r, rl_t, rl_o]); (try simp (disch := omega) only [wr_eq]); omega))
    refine wp_icmp rq_233 rfl (fun (h1 : (σ 13 (186) (1)) ≤ (i)) => ?_) (fun (h1 : ¬ ((σ 13 (186) (1)) ≤ (i))) => ?_)
    · refine wp_seg 1 (P := none) (ls' := [some (aR 11 (0)), some (aI (7)), some (aI (a)), some (aI (i))]) (st' := [aI (a)]) (σ' := σ) rq_233 rfl True.intro (i' := 85) rfl ?_
      refine wp_iret rq_233 rfl rt_233 ⟨?_, ?_⟩
      · show (Sum.inl (some (aI a)) : Out) = _
        rw [ha, sumTo_end _ (by omega) hi]
      · rfl
    · refine wp_seg 2 (P := none) (ls' := [some (aR 11 (0)), some (aI (7)), some (aI (a)), some (aI (i))]) (st' := [aI (5), aI (7)]) (σ' := σ) rq_233 rfl True.intro (i' := 47) rfl ?_
      refine wp_icmp rq_233 rfl (fun (h2 : (7 : Int) ≤ (5 : Int)) => absurd h2 (show ¬ ((7 : Int) ≤ (5 : Int)) from by decide)) (fun _ => ?_)
      refine wp_seg 3 (P := none) (ls' := [some (aR 11 (0)), some (aI (7)), some (aI (a)), some (aI (i))]) (st' := [aI (6), aI (7), aI (a)]) (σ' := σ) rq_233 rfl True.intro (i' := 51) rfl ?_
      refine wp_icmp rq_233 rfl (fun _ => ?_) (fun (h3 : ¬ (¬ (7 : Int) = (6 : Int))) => absurd (show ¬ (7 : Int) = (6 : Int) from by decide) h3)
      refine wp_seg 2 (P := none) (ls' := [some (aR 11 (0)), some (aI (7)), some (aI (a)), some (aI (i))]) (st' := [aI (7), aI (7), aI (a)]) (σ' := σ) rq_233 rfl True.intro (i' := 58) rfl ?_
      refine wp_icmp rq_233 rfl (fun (h4 : ¬ (7 : Int) = (7 : Int)) => absurd h4 (show ¬ (¬ (7 : Int) = (7 : Int)) from by decide)) (fun _ => ?_)
      refine wp_seg 3 (P := none) (ls' := [some (aR 11 (0)), some (aI (7)), some (aI (a)), some (aI (i))]) (st' := [aI (3), aI (i), aR 11 (0), aI (a)]) (σ' := σ) rq_233 rfl True.intro (i' := 62) rfl ?_
      refine wp_call (C := 11) (As := [aR 11 (0), aI (i), aI (3)]) (rest := [aI (a)]) rq_233 (ev_mof (i) (3) σ (by omega) (by omega)) rfl rfl (show clOK 233 157 0 0 0 3 11 = true by decide +kernel) rfl (show 1 ≤ 4 by decide) (fun _ => ⟨_, rfl⟩) rfl (c' := 0) (s' := 0) rfl rfl ?_
      refine wp_seg 3 (P := none) (ls' := [some (aR 11 (0)), some (aI (7)), some (aI (a)), some (aI (i))]) (st' := [aI (4), aI (i), aR 11 (0), aI (mof σ (i) (3)), aI (a)]) (σ' := σ) rq_233 rfl True.intro (i' := 66) rfl ?_
      refine wp_call (C := 11) (As := [aR 11 (0), aI (i), aI (4)]) (rest := [aI (mof σ (i) (3)), aI (a)]) rq_233 (ev_mof (i) (4) σ (by omega) (by omega)) rfl rfl (show clOK 233 157 0 0 0 3 11 = true by decide +kernel) rfl (show 2 ≤ 4 by decide) (fun _ => ⟨_, rfl⟩) rfl (c' := 0) (s' := 0) rfl rfl ?_
      refine wp_seg 4 (P := none) (ls' := [some (aR 11 (0)), some (aI (7)), some (aI (a)), some (aI (i))]) (st' := [aI (5), aI (i), aR 11 (0), aI (wr ((mof σ (i) (3)) + (mof σ (i) (4)))), aI (a)]) (σ' := σ) rq_233 rfl True.intro (i' := 71) rfl ?_
      refine wp_call (C := 11) (As := [aR 11 (0), aI (i), aI (5)]) (rest := [aI (wr ((mof σ (i) (3)) + (mof σ (i) (4)))), aI (a)]) rq_233 (ev_mof (i) (5) σ (by omega) (by omega)) rfl rfl (show clOK 233 157 0 0 0 3 11 = true by decide +kernel) rfl (show 2 ≤ 4 by decide) (fun _ => ⟨_, rfl⟩) rfl (c' := 0) (s' := 0) rfl rfl ?_
      refine wp_seg 1 (P := none) (ls' := [some (aR 11 (0)), some (aI (7)), some (aI (a)), some (aI (i))]) (st' := [aI (wr ((wr ((mof σ (i) (3)) + (mof σ (i) (4)))) + (mof σ (i) (5)))), aI (a)]) (σ' := σ) rq_233 rfl True.intro (i' := 73) rfl ?_
      refine wp_goto rq_233 rfl ?_
      refine wp_seg 3 (P := none) (ls' := [some (aR 11 (0)), some (aI (7)), some (aI (wr ((a) + (wr ((wr ((mof σ (i) (3)) + (mof σ (i) (4)))) + (mof σ (i) (5))))))), some (aI (wr (i + 1)))]) (st' := []) (σ' := σ) rq_233 rfl True.intro (i' := 83) rfl ?_
      refine wp_goto rq_233 rfl ?_
      have e : wr (i + 1) = i + 1 := wr_eq (by omega) (by omega)
      rw [e]
      have eF : fo_msum7 σ i = wr ((wr ((mof σ (i) (3)) + (mof σ (i) (4)))) + (mof σ (i) (5))) := by rfl
      refine ih (i + 1) _ ?_ (by omega) (by omega) (by omega)
      show wr (a + (wr ((wr ((mof σ (i) (3)) + (mof σ (i) (4)))) + (mof σ (i) (5))))) = _
      rw [ha, wr_wl, sumTo_s _ h0, eF]

theorem ev_msummed7 (σ : Mem) (hLay : LayOK σ) (hF : 0 ≤ σ 13 186 1 ∧ σ 13 186 1 ≤ 24) (hB : 0 ≤ σ 13 186 3 ∧ σ 13 186 3 ≤ 307) : Ev true 233 [aR 11 (0), aI (7)] σ (.inl (some (aI (wr (sumTo (fo_msum7 (laid σ)) ((laid σ) 13 (186) (1))))))) (laid σ) := by
  show wp true 233 0 [some (aR 11 (0)), some (aI (7)), none, none] [] σ 0 0 _
  refine wp_seg 1 (P := none) (ls' := [some (aR 11 (0)), some (aI (7)), none, none]) (st' := [aR 11 (0)]) (σ' := σ) rq_233 rfl True.intro (i' := 1) rfl ?_
  refine wp_call (C := 11) (As := [aR 11 (0)]) (rest := []) rq_233 (ev_mlays σ hLay) rfl rfl (show clOK 233 204 0 0 0 1 11 = true by decide +kernel) rfl (show 0 ≤ 4 by decide) (fun _ => ⟨_, rfl⟩) rfl (c' := 0) (s' := 0) rfl rfl ?_
  refine wp_seg 9 (P := some (0 ≤ (3) ∧ (3) < alen (laid σ) 13 (186))) (ls' := [some (aR 11 (0)), some (aI (7)), some (aI (0)), some (aI (0))]) (st' := [aI ((laid σ) 13 (186) (3)), aI (0)]) (σ' := (laid σ)) rq_233 rfl ?_ (i' := 11) rfl ?_
  · show 0 ≤ (3) ∧ (3) < alen (laid σ) 13 (186)
    (first | decide | exact Or.inl rfl | exact Or.inr rfl | ((try simp only [al_g, al_k, al_p, al_c, al_r, al_t, al_o, rl_g, rl_k, rl_p, rl_c, rl_r, rl_t, rl_o]); (try simp (disch := omega) only [wr_eq]); omega))
  refine wp_icmp rq_233 rfl (fun (h1 : ((laid σ) 13 (186) (3)) ≤ (0)) => ?_) (fun (h1 : ¬ (((laid σ) 13 (186) (3)) ≤ (0))) => ?_)
  · refine wp_seg 2 (P := none) (ls' := [some (aR 11 (0)), some (aI (7)), some (aI (0)), some (aI (0))]) (st' := []) (σ' := (laid σ)) rq_233 rfl True.intro (i' := 39) rfl ?_
    exact lp_msum7 (laid σ) (by simp only [laid_g]; exact hF) (by simp only [laid_g]; omega) (((laid σ) 13 (186) (1) - 0).toNat + 1) 0 0 (by rw [sumTo_0]; rfl) (by omega) (Or.inr rfl) (by omega)
  · refine wp_seg 2 (P := none) (ls' := [some (aR 11 (0)), some (aI (7)), some (aI (0)), some (aI (0))]) (st' := [aI (5), aI (7)]) (σ' := (laid σ)) rq_233 rfl True.intro (i' := 14) rfl ?_
    refine wp_icmp rq_233 rfl (fun _ => ?_) (fun (h2 : ¬ (¬ (7 : Int) = (5 : Int))) => absurd (show ¬ (7 : Int) = (5 : Int) from by decide) h2)
    refine wp_seg 2 (P := none) (ls' := [some (aR 11 (0)), some (aI (7)), some (aI (0)), some (aI (0))]) (st' := []) (σ' := (laid σ)) rq_233 rfl True.intro (i' := 39) rfl ?_
    exact lp_msum7 (laid σ) (by simp only [laid_g]; exact hF) (by simp only [laid_g]; omega) (((laid σ) 13 (186) (1) - 0).toNat + 1) 0 0 (by rw [sumTo_0]; rfl) (by omega) (Or.inr rfl) (by omega)

def fo_msum8 (σ : Mem) (i : Int) : Int := σ 13 (189) (wr ((4) * (i)))
theorem lp_msum8 (σ : Mem) (hF : 0 ≤ σ 13 186 1 ∧ σ 13 186 1 ≤ 24) (hL : σ 13 (186) (1) ≤ 2147483647) : ∀ (n : Nat) (i a : Int), a = wr (sumTo (fo_msum8 σ) i) → 0 ≤ i → (i ≤ σ 13 (186) (1) ∨ i = 0) → (σ 13 (186) (1) - i).toNat < n → wp true 233 39 [some (aR 11 (0)), some (aI (8)), some (aI (a)), some (aI (i))] [] σ 0 0 (fun o' σ2 => o' = .inl (some (aI (wr (sumTo (fo_msum8 σ) (σ 13 (186) (1)))))) ∧ σ2 = σ) := by
  intro n
  induction n with
  | zero => intros; omega
  | succ n ih =>
    intro i a ha h0 hi hm
    refine wp_seg 5 (P := some (0 ≤ (1) ∧ (1) < alen σ 13 (186))) (ls' := [some (aR 11 (0)), some (aI (8)), some (aI (a)), some (aI (i))]) (st' := [aI (σ 13 (186) (1)), aI (i)]) (σ' := σ) rq_233 rfl ?_ (i' := 44) rfl ?_
    · show 0 ≤ (1) ∧ (1) < alen σ 13 (186)
      (first | decide | exact Or.inl rfl | exact Or.inr rfl | ((try simp only [al_g, al_k, al_p, al_c, al_r, al_t, al_o, rl_g, rl_k, rl_p, rl_c, rl_r, rl_t, rl_o]); (try simp (disch := omega) only [wr_eq]); omega))
    refine wp_icmp rq_233 rfl (fun (h1 : (σ 13 (186) (1)) ≤ (i)) => ?_) (fun (h1 : ¬ ((σ 13 (186) (1)) ≤ (i))) => ?_)
    · refine wp_seg 1 (P := none) (ls' := [some (aR 11 (0)), some (aI (8)), some (aI (a)), some (aI (i))]) (st' := [aI (a)]) (σ' := σ) rq_233 rfl True.intro (i' := 85) rfl ?_
      refine wp_iret rq_233 rfl rt_233 ⟨?_, ?_⟩
      · show (Sum.inl (some (aI a)) : Out) = _
        rw [ha, sumTo_end _ (by omega) hi]
      · rfl
    · refine wp_seg 2 (P := none) (ls' := [some (aR 11 (0)), some (aI (8)), some (aI (a)), some (aI (i))]) (st' := [aI (5), aI (8)]) (σ' := σ) rq_233 rfl True.intro (i' := 47) rfl ?_
      refine wp_icmp rq_233 rfl (fun (h2 : (8 : Int) ≤ (5 : Int)) => absurd h2 (show ¬ ((8 : Int) ≤ (5 : Int)) from by decide)) (fun _ => ?_)
      refine wp_seg 3 (P := none) (ls' := [some (aR 11 (0)), some (aI (8)), some (aI (a)), some (aI (i))]) (st' := [aI (6), aI (8), aI (a)]) (σ' := σ) rq_233 rfl True.intro (i' := 51) rfl ?_
      refine wp_icmp rq_233 rfl (fun _ => ?_) (fun (h3 : ¬ (¬ (8 : Int) = (6 : Int))) => absurd (show ¬ (8 : Int) = (6 : Int) from by decide) h3)
      refine wp_seg 2 (P := none) (ls' := [some (aR 11 (0)), some (aI (8)), some (aI (a)), some (aI (i))]) (st' := [aI (7), aI (8), aI (a)]) (σ' := σ) rq_233 rfl True.intro (i' := 58) rfl ?_
      refine wp_icmp rq_233 rfl (fun _ => ?_) (fun (h4 : ¬ (¬ (8 : Int) = (7 : Int))) => absurd (show ¬ (8 : Int) = (7 : Int) from by decide) h4)
      refine wp_seg 9 (P := some (0 ≤ (wr ((4) * (i))) ∧ (wr ((4) * (i))) < alen σ 13 (189))) (ls' := [some (aR 11 (0)), some (aI (8)), some (aI (wr ((a) + (σ 13 (189) (wr ((4) * (i))))))), some (aI (wr (i + 1)))]) (st' := []) (σ' := σ) rq_233 rfl ?_ (i' := 83) rfl ?_
      · show 0 ≤ (wr ((4) * (i))) ∧ (wr ((4) * (i))) < alen σ 13 (189)
        (first | decide | exact Or.inl rfl | exact Or.inr rfl | ((try simp only [al_g, al_k, al_p, al_c, al_r, al_t, al_o, rl_g, rl_k, rl_p, rl_c, rl_r, rl_t, rl_o]); (try simp (disch := omega) only [wr_eq]); omega))
      refine wp_goto rq_233 rfl ?_
      have e : wr (i + 1) = i + 1 := wr_eq (by omega) (by omega)
      rw [e]
      have eF : fo_msum8 σ i = σ 13 (189) (wr ((4) * (i))) := by rfl
      refine ih (i + 1) _ ?_ (by omega) (by omega) (by omega)
      show wr (a + (σ 13 (189) (wr ((4) * (i))))) = _
      rw [ha, wr_wl, sumTo_s _ h0, eF]

theorem ev_msummed8 (σ : Mem) (hLay : LayOK σ) (hF : 0 ≤ σ 13 186 1 ∧ σ 13 186 1 ≤ 24) (hB : 0 ≤ σ 13 186 3 ∧ σ 13 186 3 ≤ 307) : Ev true 233 [aR 11 (0), aI (8)] σ (.inl (some (aI (wr (sumTo (fo_msum8 (laid σ)) ((laid σ) 13 (186) (1))))))) (laid σ) := by
  show wp true 233 0 [some (aR 11 (0)), some (aI (8)), none, none] [] σ 0 0 _
  refine wp_seg 1 (P := none) (ls' := [some (aR 11 (0)), some (aI (8)), none, none]) (st' := [aR 11 (0)]) (σ' := σ) rq_233 rfl True.intro (i' := 1) rfl ?_
  refine wp_call (C := 11) (As := [aR 11 (0)]) (rest := []) rq_233 (ev_mlays σ hLay) rfl rfl (show clOK 233 204 0 0 0 1 11 = true by decide +kernel) rfl (show 0 ≤ 4 by decide) (fun _ => ⟨_, rfl⟩) rfl (c' := 0) (s' := 0) rfl rfl ?_
  refine wp_seg 9 (P := some (0 ≤ (3) ∧ (3) < alen (laid σ) 13 (186))) (ls' := [some (aR 11 (0)), some (aI (8)), some (aI (0)), some (aI (0))]) (st' := [aI ((laid σ) 13 (186) (3)), aI (0)]) (σ' := (laid σ)) rq_233 rfl ?_ (i' := 11) rfl ?_
  · show 0 ≤ (3) ∧ (3) < alen (laid σ) 13 (186)
    (first | decide | exact Or.inl rfl | exact Or.inr rfl | ((try simp only [al_g, al_k, al_p, al_c, al_r, al_t, al_o, rl_g, rl_k, rl_p, rl_c, rl_r, rl_t, rl_o]); (try simp (disch := omega) only [wr_eq]); omega))
  refine wp_icmp rq_233 rfl (fun (h1 : ((laid σ) 13 (186) (3)) ≤ (0)) => ?_) (fun (h1 : ¬ (((laid σ) 13 (186) (3)) ≤ (0))) => ?_)
  · refine wp_seg 2 (P := none) (ls' := [some (aR 11 (0)), some (aI (8)), some (aI (0)), some (aI (0))]) (st' := []) (σ' := (laid σ)) rq_233 rfl True.intro (i' := 39) rfl ?_
    exact lp_msum8 (laid σ) (by simp only [laid_g]; exact hF) (by simp only [laid_g]; omega) (((laid σ) 13 (186) (1) - 0).toNat + 1) 0 0 (by rw [sumTo_0]; rfl) (by omega) (Or.inr rfl) (by omega)
  · refine wp_seg 2 (P := none) (ls' := [some (aR 11 (0)), some (aI (8)), some (aI (0)), some (aI (0))]) (st' := [aI (5), aI (8)]) (σ' := (laid σ)) rq_233 rfl True.intro (i' := 14) rfl ?_
    refine wp_icmp rq_233 rfl (fun _ => ?_) (fun (h2 : ¬ (¬ (8 : Int) = (5 : Int))) => absurd (show ¬ (8 : Int) = (5 : Int) from by decide) h2)
    refine wp_seg 2 (P := none) (ls' := [some (aR 11 (0)), some (aI (8)), some (aI (0)), some (aI (0))]) (st' := []) (σ' := (laid σ)) rq_233 rfl True.intro (i' := 39) rfl ?_
    exact lp_msum8 (laid σ) (by simp only [laid_g]; exact hF) (by simp only [laid_g]; omega) (((laid σ) 13 (186) (1) - 0).toNat + 1) 0 0 (by rw [sumTo_0]; rfl) (by omega) (Or.inr rfl) (by omega)

/-- the accounts that are summed up -/
def zo_msum (w : Int) (σ : Mem) : Int := if w = 5 then wr (sumTo (fo_msum5 (laid σ)) (laid σ 13 186 3)) else if w = 6 then wr (sumTo (fo_msum6 (laid σ)) (laid σ 13 186 1)) else if w = 7 then wr (sumTo (fo_msum7 (laid σ)) (laid σ 13 186 1)) else wr (sumTo (fo_msum8 (laid σ)) (laid σ 13 186 1))
theorem ev_msummed (w : Int) (σ : Mem) (hw : 5 ≤ w ∧ w ≤ 8) (hLay : LayOK σ) (hF : 0 ≤ σ 13 186 1 ∧ σ 13 186 1 ≤ 24) (hB : 0 ≤ σ 13 186 3 ∧ σ 13 186 3 ≤ 307) : Ev true 233 [aR 11 0, aI w] σ (.inl (some (aI (zo_msum w σ)))) (laid σ) := by
  have h : w = 5 ∨ w = 6 ∨ w = 7 ∨ w = 8 := by omega
  rcases h with rfl | rfl | rfl | rfl
  · exact ev_msummed5 σ hLay hF hB
  · exact ev_msummed6 σ hLay hF hB
  · exact ev_msummed7 σ hLay hF hB
  · exact ev_msummed8 σ hLay hF hB

def zo_yaccount (w : Int) (σ : Mem) : Int := if (0) ≤ (w) ∧ (w) ≤ (8) then (if 5 ≤ (w) then zo_msum (w) σ else wr (sumTo (fo_minState (w) σ) (σ 13 (186) (3)))) else 0
def zm_yaccount (w : Int) (σ : Mem) : Mem := if (0) ≤ (w) ∧ (w) ≤ (8) then (if 5 ≤ (w) then (laid (up σ 11 (0) 6 (0))) else (up σ 11 (0) 6 (0))) else (up σ 11 (0) 6 (1))
theorem ev_yaccount (w : Int) (σ : Mem) (hF : 0 ≤ σ 13 186 1 ∧ σ 13 186 1 ≤ 24) (hB : 0 ≤ σ 13 186 3 ∧ σ 13 186 3 ≤ 307) (hLay : LayOK σ) : Ev true 234 [aR 11 (0), aI (w)] σ (.inl (some (aI (zo_yaccount w σ)))) (zm_yaccount w σ) := by
  show wp true 234 0 [some (aR 11 (0)), some (aI (w))] [] σ 0 0 _
  refine wp_seg 4 (P := none) (ls' := [some (aR 11 (0)), some (aI (w))]) (st' := [aI (8), aI (0), aI (w), aR 11 (0)]) (σ' := σ) rq_234 rfl True.intro (i' := 4) rfl ?_
  by_cases h1 : (0) ≤ (w) ∧ (w) ≤ (8)
  · refine wp_call (C := 0) (As := [aI (w), aI (0), aI (8)]) (rest := [aR 11 (0)]) rq_234 (ev_min_y (w) (0) (8) σ  h1) rfl rfl (show clOK 234 154 2 0 0 3 0 = true by decide +kernel) rfl (show 1 ≤ 4 by decide) (fun h => absurd rfl h) rfl (c' := 0) (s' := 0) rfl rfl ?_
    refine wp_if rq_234 rfl (fun (h2 : (1 : Int) = (0 : Int)) => absurd h2 (show ¬ ((1 : Int) = (0 : Int)) from by decide)) (fun _ => ?_)
    refine wp_seg 1 (P := none) (ls' := [some (aR 11 (0)), some (aI (w))]) (st' := [aI (0), aR 11 (0)]) (σ' := σ) rq_234 rfl True.intro (i' := 7) rfl ?_
    refine wp_goto rq_234 rfl ?_
    refine wp_seg 3 (P := none) (ls' := [some (aR 11 (0)), some (aI (w))]) (st' := [aI (0)]) (σ' := (up σ 11 (0) 6 (0))) rq_234 rfl True.intro (i' := 12) rfl ?_
    refine wp_if rq_234 rfl (fun _ => ?_) (fun (h3 : ¬ ((0 : Int) ≤ (0 : Int))) => absurd (show (0 : Int) ≤ (0 : Int) from by decide) h3)
    refine wp_seg 2 (P := none) (ls' := [some (aR 11 (0)), some (aI (w))]) (st' := [aI (5), aI (w)]) (σ' := (up σ 11 (0) 6 (0))) rq_234 rfl True.intro (i' := 17) rfl ?_
    refine wp_icmp rq_234 rfl (fun (h4 : 5 ≤ (w)) => ?_) (fun (h4 : ¬ (5 ≤ (w))) => ?_)
    · refine wp_seg 2 (P := none) (ls' := [some (aR 11 (0)), some (aI (w))]) (st' := [aI (w), aR 11 (0)]) (σ' := (up σ 11 (0) 6 (0))) rq_234 rfl True.intro (i' := 24) rfl ?_
      refine wp_call (C := 11) (As := [aR 11 (0), aI (w)]) (rest := []) rq_234 (ev_msummed (w) (up σ 11 (0) 6 (0)) (by omega) hLay hF hB) rfl rfl (show clOK 234 233 0 0 0 2 11 = true by decide +kernel) rfl (show 0 ≤ 4 by decide) (fun _ => ⟨_, rfl⟩) rfl (c' := 0) (s' := 0) rfl rfl ?_
      refine wp_iret rq_234 rfl rt_234 ⟨?_, ?_⟩
      · (rw [zo_yaccount, if_pos h1, if_pos h4]; try rfl)
      · (rw [zm_yaccount, if_pos h1, if_pos h4]; try rfl)
    · refine wp_seg 2 (P := none) (ls' := [some (aR 11 (0)), some (aI (w))]) (st' := [aI (w), aR 11 (0)]) (σ' := (up σ 11 (0) 6 (0))) rq_234 rfl True.intro (i' := 20) rfl ?_
      refine wp_call (C := 11) (As := [aR 11 (0), aI (w)]) (rest := []) rq_234 (ev_minState (w) (up σ 11 (0) 6 (0)) (by exact hB)) rfl rfl (show clOK 234 214 0 0 0 2 11 = true by decide +kernel) rfl (show 0 ≤ 4 by decide) (fun _ => ⟨_, rfl⟩) rfl (c' := 0) (s' := 0) rfl rfl ?_
      refine wp_goto rq_234 rfl ?_
      refine wp_iret rq_234 rfl rt_234 ⟨?_, ?_⟩
      · (rw [zo_yaccount, if_pos h1, if_neg h4]; try rfl)
      · (rw [zm_yaccount, if_pos h1, if_neg h4]; try rfl)
  · refine wp_call (C := 0) (As := [aI (w), aI (0), aI (8)]) (rest := [aR 11 (0)]) rq_234 (ev_min_n (w) (0) (8) σ  h1) rfl rfl (show clOK 234 154 2 0 0 3 0 = true by decide +kernel) rfl (show 1 ≤ 4 by decide) (fun h => absurd rfl h) rfl (c' := 0) (s' := 0) rfl rfl ?_
    refine wp_if rq_234 rfl (fun _ => ?_) (fun (h5 : ¬ ((0 : Int) = (0 : Int))) => absurd (show (0 : Int) = (0 : Int) from by decide) h5)
    refine wp_seg 4 (P := none) (ls' := [some (aR 11 (0)), some (aI (w))]) (st' := [aI (1)]) (σ' := (up σ 11 (0) 6 (1))) rq_234 rfl True.intro (i' := 12) rfl ?_
    refine wp_if rq_234 rfl (fun (h6 : (1 : Int) ≤ (0 : Int)) => absurd h6 (show ¬ ((1 : Int) ≤ (0 : Int)) from by decide)) (fun _ => ?_)
    refine wp_seg 1 (P := none) (ls' := [some (aR 11 (0)), some (aI (w))]) (st' := [aI (0)]) (σ' := (up σ 11 (0) 6 (1))) rq_234 rfl True.intro (i' := 14) rfl ?_
    refine wp_goto rq_234 rfl ?_
    refine wp_iret rq_234 rfl rt_234 ⟨?_, ?_⟩
    · (rw [zo_yaccount, if_neg h1]; try rfl)
    · (rw [zm_yaccount, if_neg h1]; try rfl)

/-- what winning a bout asks for -/
def WinOK (b : Int) (σ : Mem) : Prop := (0 ≤ b ∧ b < 307) ∧ σ 13 186 4 ≤ 32 ∧ (100 ≤ mat σ b 7 → 102 ≤ mat σ b 7 ∧ mat σ b 7 ≤ 132) ∧ (102 < mat σ b 7 → 0 ≤ b - zo_mfirstOf (mat σ b 7 - 100) σ ∧ b - zo_mfirstOf (mat σ b 7 - 100) σ < 32 ∧ 0 ≤ zo_mfirstOf (mat σ b 7 - 100) σ ∧ 0 ≤ zo_mfirstOf ((mat σ b 7 - 100) / 2) σ ∧ zo_mfirstOf ((mat σ b 7 - 100) / 2) σ + (b - zo_mfirstOf (mat σ b 7 - 100) σ) / 2 < 307)
theorem reason_w {b x y w : Int} {σ : Mem} (h : zo_mreasonFor b x y w σ ≤ 0) (e : x = y) : 0 ≤ w ∧ w < 2 := by
  unfold zo_mreasonFor at h
  repeat' split at h
  all_goals omega
theorem ev_menters2 (b x y w : Int) (σ : Mem) (hp : 0 ≤ σ 11 0 4 ∧ σ 11 0 4 ≤ 8) (hW : WinOK b σ) : Ev true 201 [aR 11 0, aI b, aI x, aI y, aI w] σ (.inl (some (aI (zo_menters b x y w σ)))) (zm_menters b x y w σ) := ev_menters b x y w σ hp hW.1 hW.2.1 hW.2.2.1 hW.2.2.2 (fun h e => reason_w h e)

def zo_yenter (b x y w : Int) (σ : Mem) : Int := if 0 ≤ (b) ∧ (b) < σ 13 186 3 then (if 0 ≤ (zo_menters (b) (x) (y) (w) (up σ 11 (0) 6 (0))) then zo_menters (b) (x) (y) (w) (up σ 11 (0) 6 (0)) else 0) else 0
def zm_yenter (b x y w : Int) (σ : Mem) : Mem := if 0 ≤ (b) ∧ (b) < σ 13 186 3 then (if 0 ≤ (zo_menters (b) (x) (y) (w) (up σ 11 (0) 6 (0))) then (zm_menters (b) (x) (y) (w) (up σ 11 (0) 6 (0))) else (up (zm_menters (b) (x) (y) (w) (up σ 11 (0) 6 (0))) 11 (0) 6 ((2)))) else (up σ 11 (0) 6 (1))
theorem ev_yenter (b x y w : Int) (σ : Mem) (hp : 0 ≤ σ 11 0 4 ∧ σ 11 0 4 ≤ 8) (hB : 0 ≤ σ 13 186 3 ∧ σ 13 186 3 ≤ 307) (hW : 0 ≤ b → b < σ 13 186 3 → WinOK b σ) : Ev true 202 [aR 11 (0), aI (b), aI (x), aI (y), aI (w)] σ (.inl (some (aI (zo_yenter b x y w σ)))) (zm_yenter b x y w σ) := by
  show wp true 202 0 [some (aR 11 (0)), some (aI (b)), some (aI (x)), some (aI (y)), some (aI (w)), none] [] σ 0 0 _
  refine wp_seg 3 (P := none) (ls' := [some (aR 11 (0)), some (aI (b)), some (aI (x)), some (aI (y)), some (aI (w)), none]) (st' := [aI (b), aR 11 (0), aR 11 (0)]) (σ' := σ) rq_202 rfl True.intro (i' := 3) rfl ?_
  by_cases h1 : 0 ≤ (b) ∧ (b) < σ 13 186 3
  · refine wp_call (C := 11) (As := [aR 11 (0), aI (b)]) (rest := [aR 11 (0)]) rq_202 (ev_misBout_y (b) σ (by exact hB) h1) rfl rfl (show clOK 202 156 0 0 0 2 11 = true by decide +kernel) rfl (show 1 ≤ 4 by decide) (fun _ => ⟨_, rfl⟩) rfl (c' := 0) (s' := 0) rfl rfl ?_
    refine wp_if rq_202 rfl (fun (h2 : (1 : Int) = (0 : Int)) => absurd h2 (show ¬ ((1 : Int) = (0 : Int)) from by decide)) (fun _ => ?_)
    refine wp_seg 1 (P := none) (ls' := [some (aR 11 (0)), some (aI (b)), some (aI (x)), some (aI (y)), some (aI (w)), none]) (st' := [aI (0), aR 11 (0)]) (σ' := σ) rq_202 rfl True.intro (i' := 6) rfl ?_
    refine wp_goto rq_202 rfl ?_
    refine wp_seg 3 (P := none) (ls' := [some (aR 11 (0)), some (aI (b)), some (aI (x)), some (aI (y)), some (aI (w)), none]) (st' := [aI (0)]) (σ' := (up σ 11 (0) 6 (0))) rq_202 rfl True.intro (i' := 11) rfl ?_
    refine wp_if rq_202 rfl (fun _ => ?_) (fun (h3 : ¬ ((0 : Int) ≤ (0 : Int))) => absurd (show (0 : Int) ≤ (0 : Int) from by decide) h3)
    refine wp_seg 5 (P := none) (ls' := [some (aR 11 (0)), some (aI (b)), some (aI (x)), some (aI (y)), some (aI (w)), none]) (st' := [aI (w), aI (y), aI (x), aI (b), aR 11 (0)]) (σ' := (up σ 11 (0) 6 (0))) rq_202 rfl True.intro (i' := 19) rfl ?_
    refine wp_call (C := 11) (As := [aR 11 (0), aI (b), aI (x), aI (y), aI (w)]) (rest := []) rq_202 (ev_menters2 (b) (x) (y) (w) (up σ 11 (0) 6 (0)) (by exact hp) (by exact hW (by omega) (by omega))) rfl rfl (show clOK 202 201 0 0 0 5 11 = true by decide +kernel) rfl (show 0 ≤ 4 by decide) (fun _ => ⟨_, rfl⟩) rfl (c' := 0) (s' := 0) rfl rfl ?_
    refine wp_seg 2 (P := none) (ls' := [some (aR 11 (0)), some (aI (b)), some (aI (x)), some (aI (y)), some (aI (w)), some (aI (zo_menters (b) (x) (y) (w) (up σ 11 (0) 6 (0))))]) (st' := [aI (zo_menters (b) (x) (y) (w) (up σ 11 (0) 6 (0)))]) (σ' := (zm_menters (b) (x) (y) (w) (up σ 11 (0) 6 (0)))) rq_202 rfl True.intro (i' := 22) rfl ?_
    refine wp_if rq_202 rfl (fun (h4 : 0 ≤ (zo_menters (b) (x) (y) (w) (up σ 11 (0) 6 (0)))) => ?_) (fun (h4 : ¬ (0 ≤ (zo_menters (b) (x) (y) (w) (up σ 11 (0) 6 (0))))) => ?_)
    · refine wp_seg 1 (P := none) (ls' := [some (aR 11 (0)), some (aI (b)), some (aI (x)), some (aI (y)), some (aI (w)), some (aI (zo_menters (b) (x) (y) (w) (up σ 11 (0) 6 (0))))]) (st' := [aI (zo_menters (b) (x) (y) (w) (up σ 11 (0) 6 (0)))]) (σ' := (zm_menters (b) (x) (y) (w) (up σ 11 (0) 6 (0)))) rq_202 rfl True.intro (i' := 28) rfl ?_
      refine wp_iret rq_202 rfl rt_202 ⟨?_, ?_⟩
      · (rw [zo_yenter, if_pos h1, if_pos h4]; try rfl)
      · (rw [zm_yenter, if_pos h1, if_pos h4]; try rfl)
    · refine wp_seg 2 (P := none) (ls' := [some (aR 11 (0)), some (aI (b)), some (aI (x)), some (aI (y)), some (aI (w)), some (aI (zo_menters (b) (x) (y) (w) (up σ 11 (0) 6 (0))))]) (st' := [aI (2), aR 11 (0)]) (σ' := (zm_menters (b) (x) (y) (w) (up σ 11 (0) 6 (0)))) rq_202 rfl True.intro (i' := 25) rfl ?_
      refine wp_call (C := 11) (As := [aR 11 (0), aI (2)]) (rest := []) rq_202 (ev_mfails (2) (zm_menters (b) (x) (y) (w) (up σ 11 (0) 6 (0))) ) rfl rfl (show clOK 202 153 0 0 0 2 11 = true by decide +kernel) rfl (show 0 ≤ 4 by decide) (fun _ => ⟨_, rfl⟩) rfl (c' := 0) (s' := 0) rfl rfl ?_
      refine wp_goto rq_202 rfl ?_
      refine wp_iret rq_202 rfl rt_202 ⟨?_, ?_⟩
      · (rw [zo_yenter, if_pos h1, if_neg h4]; try rfl)
      · (rw [zm_yenter, if_pos h1, if_neg h4]; try rfl)
  · refine wp_call (C := 11) (As := [aR 11 (0), aI (b)]) (rest := [aR 11 (0)]) rq_202 (ev_misBout_n (b) σ (by exact hB) h1) rfl rfl (show clOK 202 156 0 0 0 2 11 = true by decide +kernel) rfl (show 1 ≤ 4 by decide) (fun _ => ⟨_, rfl⟩) rfl (c' := 0) (s' := 0) rfl rfl ?_
    refine wp_if rq_202 rfl (fun _ => ?_) (fun (h5 : ¬ ((0 : Int) = (0 : Int))) => absurd (show (0 : Int) = (0 : Int) from by decide) h5)
    refine wp_seg 4 (P := none) (ls' := [some (aR 11 (0)), some (aI (b)), some (aI (x)), some (aI (y)), some (aI (w)), none]) (st' := [aI (1)]) (σ' := (up σ 11 (0) 6 (1))) rq_202 rfl True.intro (i' := 11) rfl ?_
    refine wp_if rq_202 rfl (fun (h6 : (1 : Int) ≤ (0 : Int)) => absurd h6 (show ¬ ((1 : Int) ≤ (0 : Int)) from by decide)) (fun _ => ?_)
    refine wp_seg 1 (P := none) (ls' := [some (aR 11 (0)), some (aI (b)), some (aI (x)), some (aI (y)), some (aI (w)), none]) (st' := [aI (0)]) (σ' := (up σ 11 (0) 6 (1))) rq_202 rfl True.intro (i' := 13) rfl ?_
    refine wp_iret rq_202 rfl rt_202 ⟨?_, ?_⟩
    · (rw [zo_yenter, if_neg h1]; try rfl)
    · (rw [zm_yenter, if_neg h1]; try rfl)

