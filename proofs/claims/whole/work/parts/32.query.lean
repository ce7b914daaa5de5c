/-! The model's queries. -/
def mco (σ : Mem) (f w : Int) : Int := σ 13 189 (4 * f + w)
def zo_mfencerTold (f w : Int) (σ : Mem) : Int := if w = 0 then mof σ (f) (0) else if w = 1 then mof σ (f) (1) else if w = 2 then mof σ (f) (6) else if w = 3 then mof σ (f) (7) else if w = 4 then mof σ (f) (2) else mof σ (f) (wr ((wr ((3) + (w))) - (5)))
theorem ev_mfencerTold (f w : Int) (σ : Mem) (hf : 0 ≤ f ∧ f < 24) (hv : 0 ≤ w ∧ w < 8) : Ev true 175 [aR 11 (0), aI (f), aI (w)] σ (.inl (some (aI (zo_mfencerTold f w σ)))) (σ) := by
  show wp true 175 0 [some (aR 11 (0)), some (aI (f)), some (aI (w))] [] σ 0 0 _
  refine wp_seg 1 (P := none) (ls' := [some (aR 11 (0)), some (aI (f)), some (aI (w))]) (st' := [aI (w)]) (σ' := σ) rq_175 rfl True.intro (i' := 1) rfl ?_
  by_cases h1 : w = 0
  · refine wp_switch rq_175 rfl (t := 2) (by rw [h1]; rfl) ?_
    refine wp_seg 3 (P := none) (ls' := [some (aR 11 (0)), some (aI (f)), some (aI (w))]) (st' := [aI (0), aI (f), aR 11 (0)]) (σ' := σ) rq_175 rfl True.intro (i' := 5) rfl ?_
    refine wp_call (C := 11) (As := [aR 11 (0), aI (f), aI (0)]) (rest := []) rq_175 (ev_mof (f) (0) σ (by first | omega | (simp (disch := omega) only [wr_eq]; omega)) (by first | omega | (simp (disch := omega) only [wr_eq]; omega))) rfl rfl (show clOK 175 157 0 0 0 3 11 = true by decide +kernel) rfl (show 0 ≤ 4 by decide) (fun _ => ⟨_, rfl⟩) rfl (c' := 0) (s' := 0) rfl rfl ?_
    refine wp_iret rq_175 rfl rt_175 ⟨?_, ?_⟩
    · (rw [zo_mfencerTold, if_pos h1]; try rfl)
    · rfl
  by_cases h2 : w = 1
  · refine wp_switch rq_175 rfl (t := 7) (by rw [h2]; rfl) ?_
    refine wp_seg 3 (P := none) (ls' := [some (aR 11 (0)), some (aI (f)), some (aI (w))]) (st' := [aI (1), aI (f), aR 11 (0)]) (σ' := σ) rq_175 rfl True.intro (i' := 10) rfl ?_
    refine wp_call (C := 11) (As := [aR 11 (0), aI (f), aI (1)]) (rest := []) rq_175 (ev_mof (f) (1) σ (by first | omega | (simp (disch := omega) only [wr_eq]; omega)) (by first | omega | (simp (disch := omega) only [wr_eq]; omega))) rfl rfl (show clOK 175 157 0 0 0 3 11 = true by decide +kernel) rfl (show 0 ≤ 4 by decide) (fun _ => ⟨_, rfl⟩) rfl (c' := 0) (s' := 0) rfl rfl ?_
    refine wp_iret rq_175 rfl rt_175 ⟨?_, ?_⟩
    · (rw [zo_mfencerTold, if_neg h1, if_pos h2]; try rfl)
    · rfl
  by_cases h3 : w = 2
  · refine wp_switch rq_175 rfl (t := 12) (by rw [h3]; rfl) ?_
    refine wp_seg 3 (P := none) (ls' := [some (aR 11 (0)), some (aI (f)), some (aI (w))]) (st' := [aI (6), aI (f), aR 11 (0)]) (σ' := σ) rq_175 rfl True.intro (i' := 15) rfl ?_
    refine wp_call (C := 11) (As := [aR 11 (0), aI (f), aI (6)]) (rest := []) rq_175 (ev_mof (f) (6) σ (by first | omega | (simp (disch := omega) only [wr_eq]; omega)) (by first | omega | (simp (disch := omega) only [wr_eq]; omega))) rfl rfl (show clOK 175 157 0 0 0 3 11 = true by decide +kernel) rfl (show 0 ≤ 4 by decide) (fun _ => ⟨_, rfl⟩) rfl (c' := 0) (s' := 0) rfl rfl ?_
    refine wp_iret rq_175 rfl rt_175 ⟨?_, ?_⟩
    · (rw [zo_mfencerTold, if_neg h1, if_neg h2, if_pos h3]; try rfl)
    · rfl
  by_cases h4 : w = 3
  · refine wp_switch rq_175 rfl (t := 17) (by rw [h4]; rfl) ?_
    refine wp_seg 3 (P := none) (ls' := [some (aR 11 (0)), some (aI (f)), some (aI (w))]) (st' := [aI (7), aI (f), aR 11 (0)]) (σ' := σ) rq_175 rfl True.intro (i' := 20) rfl ?_
    refine wp_call (C := 11) (As := [aR 11 (0), aI (f), aI (7)]) (rest := []) rq_175 (ev_mof (f) (7) σ (by first | omega | (simp (disch := omega) only [wr_eq]; omega)) (by first | omega | (simp (disch := omega) only [wr_eq]; omega))) rfl rfl (show clOK 175 157 0 0 0 3 11 = true by decide +kernel) rfl (show 0 ≤ 4 by decide) (fun _ => ⟨_, rfl⟩) rfl (c' := 0) (s' := 0) rfl rfl ?_
    refine wp_iret rq_175 rfl rt_175 ⟨?_, ?_⟩
    · (rw [zo_mfencerTold, if_neg h1, if_neg h2, if_neg h3, if_pos h4]; try rfl)
    · rfl
  by_cases h5 : w = 4
  · refine wp_switch rq_175 rfl (t := 22) (by rw [h5]; rfl) ?_
    refine wp_seg 3 (P := none) (ls' := [some (aR 11 (0)), some (aI (f)), some (aI (w))]) (st' := [aI (2), aI (f), aR 11 (0)]) (σ' := σ) rq_175 rfl True.intro (i' := 25) rfl ?_
    refine wp_call (C := 11) (As := [aR 11 (0), aI (f), aI (2)]) (rest := []) rq_175 (ev_mof (f) (2) σ (by first | omega | (simp (disch := omega) only [wr_eq]; omega)) (by first | omega | (simp (disch := omega) only [wr_eq]; omega))) rfl rfl (show clOK 175 157 0 0 0 3 11 = true by decide +kernel) rfl (show 0 ≤ 4 by decide) (fun _ => ⟨_, rfl⟩) rfl (c' := 0) (s' := 0) rfl rfl ?_
    refine wp_iret rq_175 rfl rt_175 ⟨?_, ?_⟩
    · (rw [zo_mfencerTold, if_neg h1, if_neg h2, if_neg h3, if_neg h4, if_pos h5]; try rfl)
    · rfl
  refine wp_switch rq_175 rfl (t := 27) (swD (by show _ ∨ _ ≤ _; simp only [List.length_cons, List.length_nil]; omega)) ?_
  refine wp_seg 7 (P := none) (ls' := [some (aR 11 (0)), some (aI (f)), some (aI (w))]) (st' := [aI (wr ((wr ((3) + (w))) - (5))), aI (f), aR 11 (0)]) (σ' := σ) rq_175 rfl True.intro (i' := 34) rfl ?_
  refine wp_call (C := 11) (As := [aR 11 (0), aI (f), aI (wr ((wr ((3) + (w))) - (5)))]) (rest := []) rq_175 (ev_mof (f) (wr ((wr ((3) + (w))) - (5))) σ (by first | omega | (simp (disch := omega) only [wr_eq]; omega)) (by first | omega | (simp (disch := omega) only [wr_eq]; omega))) rfl rfl (show clOK 175 157 0 0 0 3 11 = true by decide +kernel) rfl (show 0 ≤ 4 by decide) (fun _ => ⟨_, rfl⟩) rfl (c' := 0) (s' := 0) rfl rfl ?_
  refine wp_iret rq_175 rfl rt_175 ⟨?_, ?_⟩
  · (rw [zo_mfencerTold, if_neg h1, if_neg h2, if_neg h3, if_neg h4, if_neg h5]; try rfl)
  · rfl

def zo_yfencer (f w : Int) (σ : Mem) : Int := if 0 ≤ (f) ∧ (f) < σ 13 186 1 then (if (0) ≤ (w) ∧ (w) ≤ (7) then zo_mfencerTold (f) (w) σ else 0) else 0
def zm_yfencer (f w : Int) (σ : Mem) : Mem := if 0 ≤ (f) ∧ (f) < σ 13 186 1 then (if (0) ≤ (w) ∧ (w) ≤ (7) then (up σ 11 (0) 6 (0)) else (up σ 11 (0) 6 (2))) else (up σ 11 (0) 6 (1))
theorem ev_yfencer (f w : Int) (σ : Mem) (hF : 0 ≤ σ 13 186 1 ∧ σ 13 186 1 ≤ 24) : Ev true 176 [aR 11 (0), aI (f), aI (w)] σ (.inl (some (aI (zo_yfencer f w σ)))) (zm_yfencer f w σ) := by
  show wp true 176 0 [some (aR 11 (0)), some (aI (f)), some (aI (w))] [] σ 0 0 _
  refine wp_seg 3 (P := none) (ls' := [some (aR 11 (0)), some (aI (f)), some (aI (w))]) (st' := [aI (f), aR 11 (0), aR 11 (0)]) (σ' := σ) rq_176 rfl True.intro (i' := 3) rfl ?_
  by_cases h1 : 0 ≤ (f) ∧ (f) < σ 13 186 1
  · refine wp_call (C := 11) (As := [aR 11 (0), aI (f)]) (rest := [aR 11 (0)]) rq_176 (ev_misFencer_y (f) σ (by exact hF) h1) rfl rfl (show clOK 176 155 0 0 0 2 11 = true by decide +kernel) rfl (show 1 ≤ 4 by decide) (fun _ => ⟨_, rfl⟩) rfl (c' := 0) (s' := 0) rfl rfl ?_
    refine wp_if rq_176 rfl (fun (h2 : (1 : Int) = (0 : Int)) => absurd h2 (show ¬ ((1 : Int) = (0 : Int)) from by decide)) (fun _ => ?_)
    refine wp_seg 3 (P := none) (ls' := [some (aR 11 (0)), some (aI (f)), some (aI (w))]) (st' := [aI (7), aI (0), aI (w), aR 11 (0)]) (σ' := σ) rq_176 rfl True.intro (i' := 8) rfl ?_
    by_cases h3 : (0) ≤ (w) ∧ (w) ≤ (7)
    · refine wp_call (C := 0) (As := [aI (w), aI (0), aI (7)]) (rest := [aR 11 (0)]) rq_176 (ev_min_y (w) (0) (7) σ  h3) rfl rfl (show clOK 176 154 2 0 0 3 0 = true by decide +kernel) rfl (show 1 ≤ 4 by decide) (fun h => absurd rfl h) rfl (c' := 0) (s' := 0) rfl rfl ?_
      refine wp_if rq_176 rfl (fun (h4 : (1 : Int) = (0 : Int)) => absurd h4 (show ¬ ((1 : Int) = (0 : Int)) from by decide)) (fun _ => ?_)
      refine wp_seg 1 (P := none) (ls' := [some (aR 11 (0)), some (aI (f)), some (aI (w))]) (st' := [aI (0), aR 11 (0)]) (σ' := σ) rq_176 rfl True.intro (i' := 11) rfl ?_
      refine wp_goto rq_176 rfl ?_
      refine wp_seg 3 (P := none) (ls' := [some (aR 11 (0)), some (aI (f)), some (aI (w))]) (st' := [aI (0)]) (σ' := (up σ 11 (0) 6 (0))) rq_176 rfl True.intro (i' := 18) rfl ?_
      refine wp_if rq_176 rfl (fun _ => ?_) (fun (h5 : ¬ ((0 : Int) ≤ (0 : Int))) => absurd (show (0 : Int) ≤ (0 : Int) from by decide) h5)
      refine wp_seg 3 (P := none) (ls' := [some (aR 11 (0)), some (aI (f)), some (aI (w))]) (st' := [aI (w), aI (f), aR 11 (0)]) (σ' := (up σ 11 (0) 6 (0))) rq_176 rfl True.intro (i' := 24) rfl ?_
      refine wp_call (C := 11) (As := [aR 11 (0), aI (f), aI (w)]) (rest := []) rq_176 (ev_mfencerTold (f) (w) (up σ 11 (0) 6 (0)) (by first | omega | (simp (disch := omega) only [wr_eq]; omega)) (by first | omega | (simp (disch := omega) only [wr_eq]; omega))) rfl rfl (show clOK 176 175 0 0 0 3 11 = true by decide +kernel) rfl (show 0 ≤ 4 by decide) (fun _ => ⟨_, rfl⟩) rfl (c' := 0) (s' := 0) rfl rfl ?_
      refine wp_iret rq_176 rfl rt_176 ⟨?_, ?_⟩
      · (rw [zo_yfencer, if_pos h1, if_pos h3]; try rfl)
      · (rw [zm_yfencer, if_pos h1, if_pos h3]; try rfl)
    · refine wp_call (C := 0) (As := [aI (w), aI (0), aI (7)]) (rest := [aR 11 (0)]) rq_176 (ev_min_n (w) (0) (7) σ  h3) rfl rfl (show clOK 176 154 2 0 0 3 0 = true by decide +kernel) rfl (show 1 ≤ 4 by decide) (fun h => absurd rfl h) rfl (c' := 0) (s' := 0) rfl rfl ?_
      refine wp_if rq_176 rfl (fun _ => ?_) (fun (h6 : ¬ ((0 : Int) = (0 : Int))) => absurd (show (0 : Int) = (0 : Int) from by decide) h6)
      refine wp_seg 1 (P := none) (ls' := [some (aR 11 (0)), some (aI (f)), some (aI (w))]) (st' := [aI (2), aR 11 (0)]) (σ' := σ) rq_176 rfl True.intro (i' := 13) rfl ?_
      refine wp_goto rq_176 rfl ?_
      refine wp_seg 3 (P := none) (ls' := [some (aR 11 (0)), some (aI (f)), some (aI (w))]) (st' := [aI (2)]) (σ' := (up σ 11 (0) 6 (2))) rq_176 rfl True.intro (i' := 18) rfl ?_
      refine wp_if rq_176 rfl (fun (h7 : (2 : Int) ≤ (0 : Int)) => absurd h7 (show ¬ ((2 : Int) ≤ (0 : Int)) from by decide)) (fun _ => ?_)
      refine wp_seg 1 (P := none) (ls' := [some (aR 11 (0)), some (aI (f)), some (aI (w))]) (st' := [aI (0)]) (σ' := (up σ 11 (0) 6 (2))) rq_176 rfl True.intro (i' := 20) rfl ?_
      refine wp_goto rq_176 rfl ?_
      refine wp_iret rq_176 rfl rt_176 ⟨?_, ?_⟩
      · (rw [zo_yfencer, if_pos h1, if_neg h3]; try rfl)
      · (rw [zm_yfencer, if_pos h1, if_neg h3]; try rfl)
  · refine wp_call (C := 11) (As := [aR 11 (0), aI (f)]) (rest := [aR 11 (0)]) rq_176 (ev_misFencer_n (f) σ (by exact hF) h1) rfl rfl (show clOK 176 155 0 0 0 2 11 = true by decide +kernel) rfl (show 1 ≤ 4 by decide) (fun _ => ⟨_, rfl⟩) rfl (c' := 0) (s' := 0) rfl rfl ?_
    refine wp_if rq_176 rfl (fun _ => ?_) (fun (h8 : ¬ ((0 : Int) = (0 : Int))) => absurd (show (0 : Int) = (0 : Int) from by decide) h8)
    refine wp_seg 4 (P := none) (ls' := [some (aR 11 (0)), some (aI (f)), some (aI (w))]) (st' := [aI (1)]) (σ' := (up σ 11 (0) 6 (1))) rq_176 rfl True.intro (i' := 18) rfl ?_
    refine wp_if rq_176 rfl (fun (h9 : (1 : Int) ≤ (0 : Int)) => absurd h9 (show ¬ ((1 : Int) ≤ (0 : Int)) from by decide)) (fun _ => ?_)
    refine wp_seg 1 (P := none) (ls' := [some (aR 11 (0)), some (aI (f)), some (aI (w))]) (st' := [aI (0)]) (σ' := (up σ 11 (0) 6 (1))) rq_176 rfl True.intro (i' := 20) rfl ?_
    refine wp_goto rq_176 rfl ?_
    refine wp_iret rq_176 rfl rt_176 ⟨?_, ?_⟩
    · (rw [zo_yfencer, if_neg h1]; try rfl)
    · (rw [zm_yfencer, if_neg h1]; try rfl)

def zo_ymeet (w : Int) (σ : Mem) : Int := if (0) ≤ (w) ∧ (w) ≤ (5) then (if 4 ≤ (w) then (if ¬ (w) = 4 then σ 13 (186) (4) else wr (sumTo (fo_mstaying σ) (σ 13 (186) (1)))) else σ 13 (186) (w)) else 0
def zm_ymeet (w : Int) (σ : Mem) : Mem := if (0) ≤ (w) ∧ (w) ≤ (5) then (if 4 ≤ (w) then (if ¬ (w) = 4 then (up σ 11 (0) 6 (0)) else (up σ 11 (0) 6 (0))) else (up σ 11 (0) 6 (0))) else (up σ 11 (0) 6 (1))
theorem ev_ymeet (w : Int) (σ : Mem) (hF : 0 ≤ σ 13 186 1 ∧ σ 13 186 1 ≤ 24) : Ev true 178 [aR 11 (0), aI (w)] σ (.inl (some (aI (zo_ymeet w σ)))) (zm_ymeet w σ) := by
  show wp true 178 0 [some (aR 11 (0)), some (aI (w))] [] σ 0 0 _
  refine wp_seg 4 (P := none) (ls' := [some (aR 11 (0)), some (aI (w))]) (st' := [aI (5), aI (0), aI (w), aR 11 (0)]) (σ' := σ) rq_178 rfl True.intro (i' := 4) rfl ?_
  by_cases h1 : (0) ≤ (w) ∧ (w) ≤ (5)
  · refine wp_call (C := 0) (As := [aI (w), aI (0), aI (5)]) (rest := [aR 11 (0)]) rq_178 (ev_min_y (w) (0) (5) σ  h1) rfl rfl (show clOK 178 154 2 0 0 3 0 = true by decide +kernel) rfl (show 1 ≤ 4 by decide) (fun h => absurd rfl h) rfl (c' := 0) (s' := 0) rfl rfl ?_
    refine wp_if rq_178 rfl (fun (h2 : (1 : Int) = (0 : Int)) => absurd h2 (show ¬ ((1 : Int) = (0 : Int)) from by decide)) (fun _ => ?_)
    refine wp_seg 1 (P := none) (ls' := [some (aR 11 (0)), some (aI (w))]) (st' := [aI (0), aR 11 (0)]) (σ' := σ) rq_178 rfl True.intro (i' := 7) rfl ?_
    refine wp_goto rq_178 rfl ?_
    refine wp_seg 3 (P := none) (ls' := [some (aR 11 (0)), some (aI (w))]) (st' := [aI (0)]) (σ' := (up σ 11 (0) 6 (0))) rq_178 rfl True.intro (i' := 12) rfl ?_
    refine wp_if rq_178 rfl (fun _ => ?_) (fun (h3 : ¬ ((0 : Int) ≤ (0 : Int))) => absurd (show (0 : Int) ≤ (0 : Int) from by decide) h3)
    refine wp_seg 2 (P := none) (ls' := [some (aR 11 (0)), some (aI (w))]) (st' := [aI (4), aI (w)]) (σ' := (up σ 11 (0) 6 (0))) rq_178 rfl True.intro (i' := 17) rfl ?_
    refine wp_icmp rq_178 rfl (fun (h4 : 4 ≤ (w)) => ?_) (fun (h4 : ¬ (4 ≤ (w))) => ?_)
    · refine wp_seg 2 (P := none) (ls' := [some (aR 11 (0)), some (aI (w))]) (st' := [aI (4), aI (w)]) (σ' := (up σ 11 (0) 6 (0))) rq_178 rfl True.intro (i' := 25) rfl ?_
      refine wp_icmp rq_178 rfl (fun (h5 : ¬ (w) = 4) => ?_) (fun (h5 : ¬ (¬ (w) = 4)) => ?_)
      · refine wp_seg 4 (P := some (0 ≤ (4) ∧ (4) < alen (up σ 11 (0) 6 (0)) 13 (186))) (ls' := [some (aR 11 (0)), some (aI (w))]) (st' := [aI (σ 13 (186) (4))]) (σ' := (up σ 11 (0) 6 (0))) rq_178 rfl ?_ (i' := 33) rfl ?_
        · show 0 ≤ (4) ∧ (4) < alen (up σ 11 (0) 6 (0)) 13 (186)
          (first | decide | exact Or.inl rfl | exact Or.inr rfl | ((try simp only [al_g, al_k, al_p, al_c, al_r, al_t, al_o, rl_g, rl_k, rl_p, rl_c, rl_r, rl_t, rl_o]); (try simp (disch := omega) only [wr_eq]); omega))
        refine wp_iret rq_178 rfl rt_178 ⟨?_, ?_⟩
        · (rw [zo_ymeet, if_pos h1, if_pos h4, if_pos h5]; try rfl)
        · (rw [zm_ymeet, if_pos h1, if_pos h4, if_pos h5]; try rfl)
      · refine wp_seg 1 (P := none) (ls' := [some (aR 11 (0)), some (aI (w))]) (st' := [aR 11 (0)]) (σ' := (up σ 11 (0) 6 (0))) rq_178 rfl True.intro (i' := 27) rfl ?_
        refine wp_call (C := 11) (As := [aR 11 (0)]) (rest := []) rq_178 (ev_mstaying (up σ 11 (0) 6 (0)) (by exact hF)) rfl rfl (show clOK 178 177 0 0 0 1 11 = true by decide +kernel) rfl (show 0 ≤ 4 by decide) (fun _ => ⟨_, rfl⟩) rfl (c' := 0) (s' := 0) rfl rfl ?_
        refine wp_goto rq_178 rfl ?_
        refine wp_iret rq_178 rfl rt_178 ⟨?_, ?_⟩
        · (rw [zo_ymeet, if_pos h1, if_pos h4, if_neg h5]; try rfl)
        · (rw [zm_ymeet, if_pos h1, if_pos h4, if_neg h5]; try rfl)
    · refine wp_seg 4 (P := some (0 ≤ (w) ∧ (w) < alen (up σ 11 (0) 6 (0)) 13 (186))) (ls' := [some (aR 11 (0)), some (aI (w))]) (st' := [aI (σ 13 (186) (w))]) (σ' := (up σ 11 (0) 6 (0))) rq_178 rfl ?_ (i' := 22) rfl ?_
      · show 0 ≤ (w) ∧ (w) < alen (up σ 11 (0) 6 (0)) 13 (186)
        (first | decide | exact Or.inl rfl | exact Or.inr rfl | ((try simp only [al_g, al_k, al_p, al_c, al_r, al_t, al_o, rl_g, rl_k, rl_p, rl_c, rl_r, rl_t, rl_o]); (try simp (disch := omega) only [wr_eq]); omega))
      refine wp_goto rq_178 rfl ?_
      refine wp_iret rq_178 rfl rt_178 ⟨?_, ?_⟩
      · (rw [zo_ymeet, if_pos h1, if_neg h4]; try rfl)
      · (rw [zm_ymeet, if_pos h1, if_neg h4]; try rfl)
  · refine wp_call (C := 0) (As := [aI (w), aI (0), aI (5)]) (rest := [aR 11 (0)]) rq_178 (ev_min_n (w) (0) (5) σ  h1) rfl rfl (show clOK 178 154 2 0 0 3 0 = true by decide +kernel) rfl (show 1 ≤ 4 by decide) (fun h => absurd rfl h) rfl (c' := 0) (s' := 0) rfl rfl ?_
    refine wp_if rq_178 rfl (fun _ => ?_) (fun (h6 : ¬ ((0 : Int) = (0 : Int))) => absurd (show (0 : Int) = (0 : Int) from by decide) h6)
    refine wp_seg 4 (P := none) (ls' := [some (aR 11 (0)), some (aI (w))]) (st' := [aI (1)]) (σ' := (up σ 11 (0) 6 (1))) rq_178 rfl True.intro (i' := 12) rfl ?_
    refine wp_if rq_178 rfl (fun (h7 : (1 : Int) ≤ (0 : Int)) => absurd h7 (show ¬ ((1 : Int) ≤ (0 : Int)) from by decide)) (fun _ => ?_)
    refine wp_seg 1 (P := none) (ls' := [some (aR 11 (0)), some (aI (w))]) (st' := [aI (0)]) (σ' := (up σ 11 (0) 6 (1))) rq_178 rfl True.intro (i' := 14) rfl ?_
    refine wp_goto rq_178 rfl ?_
    refine wp_iret rq_178 rfl rt_178 ⟨?_, ?_⟩
    · (rw [zo_ymeet, if_neg h1]; try rfl)
    · (rw [zm_ymeet, if_neg h1]; try rfl)

def zo_ymembers (p : Int) (σ : Mem) : Int := if 0 ≤ (p) ∧ (p) < σ 13 186 2 then wr (sumTo (fo_mmembersOf (p) σ) (σ 13 (186) (1))) else 0
def zm_ymembers (p : Int) (σ : Mem) : Mem := if 0 ≤ (p) ∧ (p) < σ 13 186 2 then (up σ 11 (0) 6 (0)) else (up σ 11 (0) 6 (1))
theorem ev_ymembers (p : Int) (σ : Mem) (hF : 0 ≤ σ 13 186 1 ∧ σ 13 186 1 ≤ 24) (hP : 0 ≤ σ 13 186 2 ∧ σ 13 186 2 ≤ 6) : Ev true 180 [aR 11 (0), aI (p)] σ (.inl (some (aI (zo_ymembers p σ)))) (zm_ymembers p σ) := by
  show wp true 180 0 [some (aR 11 (0)), some (aI (p))] [] σ 0 0 _
  refine wp_seg 3 (P := none) (ls' := [some (aR 11 (0)), some (aI (p))]) (st' := [aI (p), aR 11 (0), aR 11 (0)]) (σ' := σ) rq_180 rfl True.intro (i' := 3) rfl ?_
  by_cases h1 : 0 ≤ (p) ∧ (p) < σ 13 186 2
  · refine wp_call (C := 11) (As := [aR 11 (0), aI (p)]) (rest := [aR 11 (0)]) rq_180 (ev_misPool_y (p) σ (by exact hP) h1) rfl rfl (show clOK 180 179 0 0 0 2 11 = true by decide +kernel) rfl (show 1 ≤ 4 by decide) (fun _ => ⟨_, rfl⟩) rfl (c' := 0) (s' := 0) rfl rfl ?_
    refine wp_if rq_180 rfl (fun (h2 : (1 : Int) = (0 : Int)) => absurd h2 (show ¬ ((1 : Int) = (0 : Int)) from by decide)) (fun _ => ?_)
    refine wp_seg 1 (P := none) (ls' := [some (aR 11 (0)), some (aI (p))]) (st' := [aI (0), aR 11 (0)]) (σ' := σ) rq_180 rfl True.intro (i' := 6) rfl ?_
    refine wp_goto rq_180 rfl ?_
    refine wp_seg 3 (P := none) (ls' := [some (aR 11 (0)), some (aI (p))]) (st' := [aI (0)]) (σ' := (up σ 11 (0) 6 (0))) rq_180 rfl True.intro (i' := 11) rfl ?_
    refine wp_if rq_180 rfl (fun _ => ?_) (fun (h3 : ¬ ((0 : Int) ≤ (0 : Int))) => absurd (show (0 : Int) ≤ (0 : Int) from by decide) h3)
    refine wp_seg 2 (P := none) (ls' := [some (aR 11 (0)), some (aI (p))]) (st' := [aI (p), aR 11 (0)]) (σ' := (up σ 11 (0) 6 (0))) rq_180 rfl True.intro (i' := 16) rfl ?_
    refine wp_call (C := 11) (As := [aR 11 (0), aI (p)]) (rest := []) rq_180 (ev_mmembersOf (p) (up σ 11 (0) 6 (0)) (by exact hF)) rfl rfl (show clOK 180 169 0 0 0 2 11 = true by decide +kernel) rfl (show 0 ≤ 4 by decide) (fun _ => ⟨_, rfl⟩) rfl (c' := 0) (s' := 0) rfl rfl ?_
    refine wp_iret rq_180 rfl rt_180 ⟨?_, ?_⟩
    · (rw [zo_ymembers, if_pos h1]; try rfl)
    · (rw [zm_ymembers, if_pos h1]; try rfl)
  · refine wp_call (C := 11) (As := [aR 11 (0), aI (p)]) (rest := [aR 11 (0)]) rq_180 (ev_misPool_n (p) σ (by exact hP) h1) rfl rfl (show clOK 180 179 0 0 0 2 11 = true by decide +kernel) rfl (show 1 ≤ 4 by decide) (fun _ => ⟨_, rfl⟩) rfl (c' := 0) (s' := 0) rfl rfl ?_
    refine wp_if rq_180 rfl (fun _ => ?_) (fun (h4 : ¬ ((0 : Int) = (0 : Int))) => absurd (show (0 : Int) = (0 : Int) from by decide) h4)
    refine wp_seg 4 (P := none) (ls' := [some (aR 11 (0)), some (aI (p))]) (st' := [aI (1)]) (σ' := (up σ 11 (0) 6 (1))) rq_180 rfl True.intro (i' := 11) rfl ?_
    refine wp_if rq_180 rfl (fun (h5 : (1 : Int) ≤ (0 : Int)) => absurd h5 (show ¬ ((1 : Int) ≤ (0 : Int)) from by decide)) (fun _ => ?_)
    refine wp_seg 1 (P := none) (ls' := [some (aR 11 (0)), some (aI (p))]) (st' := [aI (0)]) (σ' := (up σ 11 (0) 6 (1))) rq_180 rfl True.intro (i' := 13) rfl ?_
    refine wp_goto rq_180 rfl ?_
    refine wp_iret rq_180 rfl rt_180 ⟨?_, ?_⟩
    · (rw [zo_ymembers, if_neg h1]; try rfl)
    · (rw [zm_ymembers, if_neg h1]; try rfl)

def zo_ymember (p i0 : Int) (σ : Mem) : Int := if 0 ≤ (p) ∧ (p) < σ 13 186 2 then (if (0) ≤ (i0) ∧ (i0) ≤ (wr ((wr (sumTo (fo_mmembersOf (p) σ) (σ 13 (186) (1)))) - (1))) then fnd (fp_mmemberAt (p) (i0) σ) (0) (σ 13 (186) (1)) else 0) else 0
def zm_ymember (p i0 : Int) (σ : Mem) : Mem := if 0 ≤ (p) ∧ (p) < σ 13 186 2 then (if (0) ≤ (i0) ∧ (i0) ≤ (wr ((wr (sumTo (fo_mmembersOf (p) σ) (σ 13 (186) (1)))) - (1))) then (up σ 11 (0) 6 (0)) else (up σ 11 (0) 6 (2))) else (up σ 11 (0) 6 (1))
theorem ev_ymember (p i0 : Int) (σ : Mem) (hF : 0 ≤ σ 13 186 1 ∧ σ 13 186 1 ≤ 24) (hP : 0 ≤ σ 13 186 2 ∧ σ 13 186 2 ≤ 6) : Ev true 181 [aR 11 (0), aI (p), aI (i0)] σ (.inl (some (aI (zo_ymember p i0 σ)))) (zm_ymember p i0 σ) := by
  show wp true 181 0 [some (aR 11 (0)), some (aI (p)), some (aI (i0))] [] σ 0 0 _
  refine wp_seg 3 (P := none) (ls' := [some (aR 11 (0)), some (aI (p)), some (aI (i0))]) (st' := [aI (p), aR 11 (0), aR 11 (0)]) (σ' := σ) rq_181 rfl True.intro (i' := 3) rfl ?_
  by_cases h1 : 0 ≤ (p) ∧ (p) < σ 13 186 2
  · refine wp_call (C := 11) (As := [aR 11 (0), aI (p)]) (rest := [aR 11 (0)]) rq_181 (ev_misPool_y (p) σ (by exact hP) h1) rfl rfl (show clOK 181 179 0 0 0 2 11 = true by decide +kernel) rfl (show 1 ≤ 4 by decide) (fun _ => ⟨_, rfl⟩) rfl (c' := 0) (s' := 0) rfl rfl ?_
    refine wp_if rq_181 rfl (fun (h2 : (1 : Int) = (0 : Int)) => absurd h2 (show ¬ ((1 : Int) = (0 : Int)) from by decide)) (fun _ => ?_)
    refine wp_seg 4 (P := none) (ls' := [some (aR 11 (0)), some (aI (p)), some (aI (i0))]) (st' := [aI (p), aR 11 (0), aI (0), aI (i0), aR 11 (0)]) (σ' := σ) rq_181 rfl True.intro (i' := 9) rfl ?_
    refine wp_call (C := 11) (As := [aR 11 (0), aI (p)]) (rest := [aI (0), aI (i0), aR 11 (0)]) rq_181 (ev_mmembersOf (p) σ (by exact hF)) rfl rfl (show clOK 181 169 0 0 0 2 11 = true by decide +kernel) rfl (show 3 ≤ 4 by decide) (fun _ => ⟨_, rfl⟩) rfl (c' := 0) (s' := 0) rfl rfl ?_
    refine wp_seg 2 (P := none) (ls' := [some (aR 11 (0)), some (aI (p)), some (aI (i0))]) (st' := [aI (wr ((wr (sumTo (fo_mmembersOf (p) σ) (σ 13 (186) (1)))) - (1))), aI (0), aI (i0), aR 11 (0)]) (σ' := σ) rq_181 rfl True.intro (i' := 12) rfl ?_
    by_cases h3 : (0) ≤ (i0) ∧ (i0) ≤ (wr ((wr (sumTo (fo_mmembersOf (p) σ) (σ 13 (186) (1)))) - (1)))
    · refine wp_call (C := 0) (As := [aI (i0), aI (0), aI (wr ((wr (sumTo (fo_mmembersOf (p) σ) (σ 13 (186) (1)))) - (1)))]) (rest := [aR 11 (0)]) rq_181 (ev_min_y (i0) (0) (wr ((wr (sumTo (fo_mmembersOf (p) σ) (σ 13 (186) (1)))) - (1))) σ  h3) rfl rfl (show clOK 181 154 2 0 0 3 0 = true by decide +kernel) rfl (show 1 ≤ 4 by decide) (fun h => absurd rfl h) rfl (c' := 0) (s' := 0) rfl rfl ?_
      refine wp_if rq_181 rfl (fun (h4 : (1 : Int) = (0 : Int)) => absurd h4 (show ¬ ((1 : Int) = (0 : Int)) from by decide)) (fun _ => ?_)
      refine wp_seg 1 (P := none) (ls' := [some (aR 11 (0)), some (aI (p)), some (aI (i0))]) (st' := [aI (0), aR 11 (0)]) (σ' := σ) rq_181 rfl True.intro (i' := 15) rfl ?_
      refine wp_goto rq_181 rfl ?_
      refine wp_seg 3 (P := none) (ls' := [some (aR 11 (0)), some (aI (p)), some (aI (i0))]) (st' := [aI (0)]) (σ' := (up σ 11 (0) 6 (0))) rq_181 rfl True.intro (i' := 22) rfl ?_
      refine wp_if rq_181 rfl (fun _ => ?_) (fun (h5 : ¬ ((0 : Int) ≤ (0 : Int))) => absurd (show (0 : Int) ≤ (0 : Int) from by decide) h5)
      refine wp_seg 3 (P := none) (ls' := [some (aR 11 (0)), some (aI (p)), some (aI (i0))]) (st' := [aI (i0), aI (p), aR 11 (0)]) (σ' := (up σ 11 (0) 6 (0))) rq_181 rfl True.intro (i' := 28) rfl ?_
      refine wp_call (C := 11) (As := [aR 11 (0), aI (p), aI (i0)]) (rest := []) rq_181 (ev_mmemberAt (p) (i0) (up σ 11 (0) 6 (0)) (by exact hF)) rfl rfl (show clOK 181 172 0 0 0 3 11 = true by decide +kernel) rfl (show 0 ≤ 4 by decide) (fun _ => ⟨_, rfl⟩) rfl (c' := 0) (s' := 0) rfl rfl ?_
      refine wp_iret rq_181 rfl rt_181 ⟨?_, ?_⟩
      · (rw [zo_ymember, if_pos h1, if_pos h3]; try rfl)
      · (rw [zm_ymember, if_pos h1, if_pos h3]; try rfl)
    · refine wp_call (C := 0) (As := [aI (i0), aI (0), aI (wr ((wr (sumTo (fo_mmembersOf (p) σ) (σ 13 (186) (1)))) - (1)))]) (rest := [aR 11 (0)]) rq_181 (ev_min_n (i0) (0) (wr ((wr (sumTo (fo_mmembersOf (p) σ) (σ 13 (186) (1)))) - (1))) σ  h3) rfl rfl (show clOK 181 154 2 0 0 3 0 = true by decide +kernel) rfl (show 1 ≤ 4 by decide) (fun h => absurd rfl h) rfl (c' := 0) (s' := 0) rfl rfl ?_
      refine wp_if rq_181 rfl (fun _ => ?_) (fun (h6 : ¬ ((0 : Int) = (0 : Int))) => absurd (show (0 : Int) = (0 : Int) from by decide) h6)
      refine wp_seg 1 (P := none) (ls' := [some (aR 11 (0)), some (aI (p)), some (aI (i0))]) (st' := [aI (2), aR 11 (0)]) (σ' := σ) rq_181 rfl True.intro (i' := 17) rfl ?_
      refine wp_goto rq_181 rfl ?_
      refine wp_seg 3 (P := none) (ls' := [some (aR 11 (0)), some (aI (p)), some (aI (i0))]) (st' := [aI (2)]) (σ' := (up σ 11 (0) 6 (2))) rq_181 rfl True.intro (i' := 22) rfl ?_
      refine wp_if rq_181 rfl (fun (h7 : (2 : Int) ≤ (0 : Int)) => absurd h7 (show ¬ ((2 : Int) ≤ (0 : Int)) from by decide)) (fun _ => ?_)
      refine wp_seg 1 (P := none) (ls' := [some (aR 11 (0)), some (aI (p)), some (aI (i0))]) (st' := [aI (0)]) (σ' := (up σ 11 (0) 6 (2))) rq_181 rfl True.intro (i' := 24) rfl ?_
      refine wp_goto rq_181 rfl ?_
      refine wp_iret rq_181 rfl rt_181 ⟨?_, ?_⟩
      · (rw [zo_ymember, if_pos h1, if_neg h3]; try rfl)
      · (rw [zm_ymember, if_pos h1, if_neg h3]; try rfl)
  · refine wp_call (C := 11) (As := [aR 11 (0), aI (p)]) (rest := [aR 11 (0)]) rq_181 (ev_misPool_n (p) σ (by exact hP) h1) rfl rfl (show clOK 181 179 0 0 0 2 11 = true by decide +kernel) rfl (show 1 ≤ 4 by decide) (fun _ => ⟨_, rfl⟩) rfl (c' := 0) (s' := 0) rfl rfl ?_
    refine wp_if rq_181 rfl (fun _ => ?_) (fun (h8 : ¬ ((0 : Int) = (0 : Int))) => absurd (show (0 : Int) = (0 : Int) from by decide) h8)
    refine wp_seg 4 (P := none) (ls' := [some (aR 11 (0)), some (aI (p)), some (aI (i0))]) (st' := [aI (1)]) (σ' := (up σ 11 (0) 6 (1))) rq_181 rfl True.intro (i' := 22) rfl ?_
    refine wp_if rq_181 rfl (fun (h9 : (1 : Int) ≤ (0 : Int)) => absurd h9 (show ¬ ((1 : Int) ≤ (0 : Int)) from by decide)) (fun _ => ?_)
    refine wp_seg 1 (P := none) (ls' := [some (aR 11 (0)), some (aI (p)), some (aI (i0))]) (st' := [aI (0)]) (σ' := (up σ 11 (0) 6 (1))) rq_181 rfl True.intro (i' := 24) rfl ?_
    refine wp_goto rq_181 rfl ?_
    refine wp_iret rq_181 rfl rt_181 ⟨?_, ?_⟩
    · (rw [zo_ymember, if_neg h1]; try rfl)
    · (rw [zm_ymember, if_neg h1]; try rfl)

def zo_mboutTold (b w : Int) (σ : Mem) : Int := if w = 5 then (if 0 ≤ (mat σ (b) (5)) then mat σ (b) (mat σ (b) (5)) else -1) else if w = 6 then mat σ (b) (7) else if w = 7 then zo_mtarget (b) σ else if w = 8 then mat σ (b) (6) else mat σ (b) (w)
theorem ev_mboutTold (b w : Int) (σ : Mem) (hb : 0 ≤ b ∧ b < 307) (hv : 0 ≤ w ∧ w < 9) (hW : mat σ b 5 < 2) : Ev true 185 [aR 11 (0), aI (b), aI (w)] σ (.inl (some (aI (zo_mboutTold b w σ)))) (σ) := by
  show wp true 185 0 [some (aR 11 (0)), some (aI (b)), some (aI (w))] [] σ 0 0 _
  refine wp_seg 1 (P := none) (ls' := [some (aR 11 (0)), some (aI (b)), some (aI (w))]) (st' := [aI (w)]) (σ' := σ) rq_185 rfl True.intro (i' := 1) rfl ?_
  by_cases h1 : w = 5
  · refine wp_switch rq_185 rfl (t := 2) (by rw [h1]; rfl) ?_
    refine wp_seg 3 (P := none) (ls' := [some (aR 11 (0)), some (aI (b)), some (aI (w))]) (st' := [aI (5), aI (b), aR 11 (0)]) (σ' := σ) rq_185 rfl True.intro (i' := 5) rfl ?_
    refine wp_call (C := 11) (As := [aR 11 (0), aI (b), aI (5)]) (rest := []) rq_185 (ev_mat (b) (5) σ (by first | omega | (simp (disch := omega) only [wr_eq]; omega)) (by first | omega | (simp (disch := omega) only [wr_eq]; omega))) rfl rfl (show clOK 185 158 0 0 0 3 11 = true by decide +kernel) rfl (show 0 ≤ 4 by decide) (fun _ => ⟨_, rfl⟩) rfl (c' := 0) (s' := 0) rfl rfl ?_
    refine wp_if rq_185 rfl (fun (h2 : 0 ≤ (mat σ (b) (5))) => ?_) (fun (h2 : ¬ (0 ≤ (mat σ (b) (5)))) => ?_)
    · refine wp_seg 5 (P := none) (ls' := [some (aR 11 (0)), some (aI (b)), some (aI (w))]) (st' := [aI (5), aI (b), aR 11 (0), aI (b), aR 11 (0)]) (σ' := σ) rq_185 rfl True.intro (i' := 14) rfl ?_
      refine wp_call (C := 11) (As := [aR 11 (0), aI (b), aI (5)]) (rest := [aI (b), aR 11 (0)]) rq_185 (ev_mat (b) (5) σ (by first | omega | (simp (disch := omega) only [wr_eq]; omega)) (by first | omega | (simp (disch := omega) only [wr_eq]; omega))) rfl rfl (show clOK 185 158 0 0 0 3 11 = true by decide +kernel) rfl (show 2 ≤ 4 by decide) (fun _ => ⟨_, rfl⟩) rfl (c' := 0) (s' := 0) rfl rfl ?_
      refine wp_call (C := 11) (As := [aR 11 (0), aI (b), aI (mat σ (b) (5))]) (rest := []) rq_185 (ev_mat (b) (mat σ (b) (5)) σ (by first | omega | (simp (disch := omega) only [wr_eq]; omega)) (by first | omega | (simp (disch := omega) only [wr_eq]; omega))) rfl rfl (show clOK 185 158 0 0 0 3 11 = true by decide +kernel) rfl (show 0 ≤ 4 by decide) (fun _ => ⟨_, rfl⟩) rfl (c' := 0) (s' := 0) rfl rfl ?_
      refine wp_iret rq_185 rfl rt_185 ⟨?_, ?_⟩
      · (rw [zo_mboutTold, if_pos h1, if_pos h2]; try rfl)
      · rfl
    · refine wp_seg 1 (P := none) (ls' := [some (aR 11 (0)), some (aI (b)), some (aI (w))]) (st' := [aI (-1)]) (σ' := σ) rq_185 rfl True.intro (i' := 8) rfl ?_
      refine wp_goto rq_185 rfl ?_
      refine wp_iret rq_185 rfl rt_185 ⟨?_, ?_⟩
      · (rw [zo_mboutTold, if_pos h1, if_neg h2]; try rfl)
      · rfl
  by_cases h3 : w = 6
  · refine wp_switch rq_185 rfl (t := 17) (by rw [h3]; rfl) ?_
    refine wp_seg 3 (P := none) (ls' := [some (aR 11 (0)), some (aI (b)), some (aI (w))]) (st' := [aI (7), aI (b), aR 11 (0)]) (σ' := σ) rq_185 rfl True.intro (i' := 20) rfl ?_
    refine wp_call (C := 11) (As := [aR 11 (0), aI (b), aI (7)]) (rest := []) rq_185 (ev_mat (b) (7) σ (by first | omega | (simp (disch := omega) only [wr_eq]; omega)) (by first | omega | (simp (disch := omega) only [wr_eq]; omega))) rfl rfl (show clOK 185 158 0 0 0 3 11 = true by decide +kernel) rfl (show 0 ≤ 4 by decide) (fun _ => ⟨_, rfl⟩) rfl (c' := 0) (s' := 0) rfl rfl ?_
    refine wp_iret rq_185 rfl rt_185 ⟨?_, ?_⟩
    · (rw [zo_mboutTold, if_neg h1, if_pos h3]; try rfl)
    · rfl
  by_cases h4 : w = 7
  · refine wp_switch rq_185 rfl (t := 22) (by rw [h4]; rfl) ?_
    refine wp_seg 2 (P := none) (ls' := [some (aR 11 (0)), some (aI (b)), some (aI (w))]) (st' := [aI (b), aR 11 (0)]) (σ' := σ) rq_185 rfl True.intro (i' := 24) rfl ?_
    refine wp_call (C := 11) (As := [aR 11 (0), aI (b)]) (rest := []) rq_185 (ev_mtarget (b) σ (by first | omega | (simp (disch := omega) only [wr_eq]; omega))) rfl rfl (show clOK 185 184 0 0 0 2 11 = true by decide +kernel) rfl (show 0 ≤ 4 by decide) (fun _ => ⟨_, rfl⟩) rfl (c' := 0) (s' := 0) rfl rfl ?_
    refine wp_iret rq_185 rfl rt_185 ⟨?_, ?_⟩
    · (rw [zo_mboutTold, if_neg h1, if_neg h3, if_pos h4]; try rfl)
    · rfl
  by_cases h5 : w = 8
  · refine wp_switch rq_185 rfl (t := 26) (by rw [h5]; rfl) ?_
    refine wp_seg 3 (P := none) (ls' := [some (aR 11 (0)), some (aI (b)), some (aI (w))]) (st' := [aI (6), aI (b), aR 11 (0)]) (σ' := σ) rq_185 rfl True.intro (i' := 29) rfl ?_
    refine wp_call (C := 11) (As := [aR 11 (0), aI (b), aI (6)]) (rest := []) rq_185 (ev_mat (b) (6) σ (by first | omega | (simp (disch := omega) only [wr_eq]; omega)) (by first | omega | (simp (disch := omega) only [wr_eq]; omega))) rfl rfl (show clOK 185 158 0 0 0 3 11 = true by decide +kernel) rfl (show 0 ≤ 4 by decide) (fun _ => ⟨_, rfl⟩) rfl (c' := 0) (s' := 0) rfl rfl ?_
    refine wp_iret rq_185 rfl rt_185 ⟨?_, ?_⟩
    · (rw [zo_mboutTold, if_neg h1, if_neg h3, if_neg h4, if_pos h5]; try rfl)
    · rfl
  refine wp_switch rq_185 rfl (t := 31) (swD (by show _ ∨ _ ≤ _; simp only [List.length_cons, List.length_nil]; omega)) ?_
  refine wp_seg 3 (P := none) (ls' := [some (aR 11 (0)), some (aI (b)), some (aI (w))]) (st' := [aI (w), aI (b), aR 11 (0)]) (σ' := σ) rq_185 rfl True.intro (i' := 34) rfl ?_
  refine wp_call (C := 11) (As := [aR 11 (0), aI (b), aI (w)]) (rest := []) rq_185 (ev_mat (b) (w) σ (by first | omega | (simp (disch := omega) only [wr_eq]; omega)) (by first | omega | (simp (disch := omega) only [wr_eq]; omega))) rfl rfl (show clOK 185 158 0 0 0 3 11 = true by decide +kernel) rfl (show 0 ≤ 4 by decide) (fun _ => ⟨_, rfl⟩) rfl (c' := 0) (s' := 0) rfl rfl ?_
  refine wp_iret rq_185 rfl rt_185 ⟨?_, ?_⟩
  · (rw [zo_mboutTold, if_neg h1, if_neg h3, if_neg h4, if_neg h5]; try rfl)
  · rfl

def zo_ycurrent  (σ : Mem) : Int := if 0 ≤ (σ 13 (186) (6)) then σ 13 (186) (6) else 0
def zm_ycurrent  (σ : Mem) : Mem := if 0 ≤ (σ 13 (186) (6)) then (up σ 11 (0) 6 (0)) else (up σ 11 (0) 6 (1))
theorem ev_ycurrent  (σ : Mem) : Ev true 187 [aR 11 (0)] σ (.inl (some (aI (zo_ycurrent  σ)))) (zm_ycurrent  σ) := by
  show wp true 187 0 [some (aR 11 (0))] [] σ 0 0 _
  refine wp_seg 5 (P := some (0 ≤ (6) ∧ (6) < alen σ 13 (186))) (ls' := [some (aR 11 (0))]) (st' := [aI (σ 13 (186) (6)), aR 11 (0)]) (σ' := σ) rq_187 rfl ?_ (i' := 5) rfl ?_
  · show 0 ≤ (6) ∧ (6) < alen σ 13 (186)
    (first | decide | exact Or.inl rfl | exact Or.inr rfl | ((try simp only [al_g, al_k, al_p, al_c, al_r, al_t, al_o, rl_g, rl_k, rl_p, rl_c, rl_r, rl_t, rl_o]); (try simp (disch := omega) only [wr_eq]); omega))
  refine wp_if rq_187 rfl (fun (h1 : 0 ≤ (σ 13 (186) (6))) => ?_) (fun (h1 : ¬ (0 ≤ (σ 13 (186) (6)))) => ?_)
  · refine wp_seg 4 (P := none) (ls' := [some (aR 11 (0))]) (st' := [aI (0)]) (σ' := (up σ 11 (0) 6 (0))) rq_187 rfl True.intro (i' := 12) rfl ?_
    refine wp_if rq_187 rfl (fun _ => ?_) (fun (h2 : ¬ ((0 : Int) ≤ (0 : Int))) => absurd (show (0 : Int) ≤ (0 : Int) from by decide) h2)
    refine wp_seg 4 (P := some (0 ≤ (6) ∧ (6) < alen (up σ 11 (0) 6 (0)) 13 (186))) (ls' := [some (aR 11 (0))]) (st' := [aI (σ 13 (186) (6))]) (σ' := (up σ 11 (0) 6 (0))) rq_187 rfl ?_ (i' := 19) rfl ?_
    · show 0 ≤ (6) ∧ (6) < alen (up σ 11 (0) 6 (0)) 13 (186)
      (first | decide | exact Or.inl rfl | exact Or.inr rfl | ((try simp only [al_g, al_k, al_p, al_c, al_r, al_t, al_o, rl_g, rl_k, rl_p, rl_c, rl_r, rl_t, rl_o]); (try simp (disch := omega) only [wr_eq]); omega))
    refine wp_iret rq_187 rfl rt_187 ⟨?_, ?_⟩
    · (rw [zo_ycurrent, if_pos h1]; try rfl)
    · (rw [zm_ycurrent, if_pos h1]; try rfl)
  · refine wp_seg 1 (P := none) (ls' := [some (aR 11 (0))]) (st' := [aI (1), aR 11 (0)]) (σ' := σ) rq_187 rfl True.intro (i' := 7) rfl ?_
    refine wp_goto rq_187 rfl ?_
    refine wp_seg 3 (P := none) (ls' := [some (aR 11 (0))]) (st' := [aI (1)]) (σ' := (up σ 11 (0) 6 (1))) rq_187 rfl True.intro (i' := 12) rfl ?_
    refine wp_if rq_187 rfl (fun (h3 : (1 : Int) ≤ (0 : Int)) => absurd h3 (show ¬ ((1 : Int) ≤ (0 : Int)) from by decide)) (fun _ => ?_)
    refine wp_seg 1 (P := none) (ls' := [some (aR 11 (0))]) (st' := [aI (0)]) (σ' := (up σ 11 (0) 6 (1))) rq_187 rfl True.intro (i' := 14) rfl ?_
    refine wp_goto rq_187 rfl ?_
    refine wp_iret rq_187 rfl rt_187 ⟨?_, ?_⟩
    · (rw [zo_ycurrent, if_neg h1]; try rfl)
    · (rw [zm_ycurrent, if_neg h1]; try rfl)

def zo_mloser (b : Int) (σ : Mem) : Int := if ¬ (mat σ (b) (4)) = 2 then -1 else mat σ (b) (wr ((1) - (mat σ (b) (5))))
theorem ev_mloser (b : Int) (σ : Mem) (hb : 0 ≤ b ∧ b < 307) (hW : mat σ b 4 = 2 → 0 ≤ mat σ b 5 ∧ mat σ b 5 < 2) : Ev true 221 [aR 11 (0), aI (b)] σ (.inl (some (aI (zo_mloser b σ)))) (σ) := by
  show wp true 221 0 [some (aR 11 (0)), some (aI (b))] [] σ 0 0 _
  refine wp_seg 3 (P := none) (ls' := [some (aR 11 (0)), some (aI (b))]) (st' := [aI (4), aI (b), aR 11 (0)]) (σ' := σ) rq_221 rfl True.intro (i' := 3) rfl ?_
  refine wp_call (C := 11) (As := [aR 11 (0), aI (b), aI (4)]) (rest := []) rq_221 (ev_mat (b) (4) σ (by first | omega | (simp (disch := omega) only [wr_eq]; omega)) (by first | omega | (simp (disch := omega) only [wr_eq]; omega))) rfl rfl (show clOK 221 158 0 0 0 3 11 = true by decide +kernel) rfl (show 0 ≤ 4 by decide) (fun _ => ⟨_, rfl⟩) rfl (c' := 0) (s' := 0) rfl rfl ?_
  refine wp_seg 1 (P := none) (ls' := [some (aR 11 (0)), some (aI (b))]) (st' := [aI (2), aI (mat σ (b) (4))]) (σ' := σ) rq_221 rfl True.intro (i' := 5) rfl ?_
  refine wp_icmp rq_221 rfl (fun (h1 : ¬ (mat σ (b) (4)) = 2) => ?_) (fun (h1 : ¬ (¬ (mat σ (b) (4)) = 2)) => ?_)
  · refine wp_seg 1 (P := none) (ls' := [some (aR 11 (0)), some (aI (b))]) (st' := [aI (-1)]) (σ' := σ) rq_221 rfl True.intro (i' := 17) rfl ?_
    refine wp_iret rq_221 rfl rt_221 ⟨?_, ?_⟩
    · (rw [zo_mloser, if_pos h1]; try rfl)
    · rfl
  · refine wp_seg 6 (P := none) (ls' := [some (aR 11 (0)), some (aI (b))]) (st' := [aI (5), aI (b), aR 11 (0), aI (1), aI (b), aR 11 (0)]) (σ' := σ) rq_221 rfl True.intro (i' := 12) rfl ?_
    refine wp_call (C := 11) (As := [aR 11 (0), aI (b), aI (5)]) (rest := [aI (1), aI (b), aR 11 (0)]) rq_221 (ev_mat (b) (5) σ (by first | omega | (simp (disch := omega) only [wr_eq]; omega)) (by first | omega | (simp (disch := omega) only [wr_eq]; omega))) rfl rfl (show clOK 221 158 0 0 0 3 11 = true by decide +kernel) rfl (show 3 ≤ 4 by decide) (fun _ => ⟨_, rfl⟩) rfl (c' := 0) (s' := 0) rfl rfl ?_
    refine wp_seg 1 (P := none) (ls' := [some (aR 11 (0)), some (aI (b))]) (st' := [aI (wr ((1) - (mat σ (b) (5)))), aI (b), aR 11 (0)]) (σ' := σ) rq_221 rfl True.intro (i' := 14) rfl ?_
    refine wp_call (C := 11) (As := [aR 11 (0), aI (b), aI (wr ((1) - (mat σ (b) (5))))]) (rest := []) rq_221 (ev_mat (b) (wr ((1) - (mat σ (b) (5)))) σ (by first | omega | (simp (disch := omega) only [wr_eq]; omega)) (by first | omega | (simp (disch := omega) only [wr_eq]; omega))) rfl rfl (show clOK 221 158 0 0 0 3 11 = true by decide +kernel) rfl (show 0 ≤ 4 by decide) (fun _ => ⟨_, rfl⟩) rfl (c' := 0) (s' := 0) rfl rfl ?_
    refine wp_goto rq_221 rfl ?_
    refine wp_iret rq_221 rfl rt_221 ⟨?_, ?_⟩
    · (rw [zo_mloser, if_neg h1]; try rfl)
    · rfl

def zo_mreasonFor (b x y w : Int) (σ : Mem) : Int := if (mat σ (b) (4)) = 0 then (if (σ 13 (186) (6)) < 0 then (if 0 ≤ mat σ (b) 0 ∧ 0 ≤ mat σ (b) 1 then (if (0) ≤ (x) ∧ (x) ≤ (zo_mtarget (b) σ) then (if (0) ≤ (y) ∧ (y) ≤ (zo_mtarget (b) σ) then (if ¬ (x) = (zo_mtarget (b) σ) then (if ¬ (x) = (y) then (if ¬ (w) = (-1) then 6 else 0) else if (0) ≤ (w) ∧ (w) ≤ (1) then 0 else 6) else if ¬ (y) = (x) then (if ¬ (x) = (y) then (if ¬ (w) = (-1) then 6 else 0) else if (0) ≤ (w) ∧ (w) ≤ (1) then 0 else 6) else 5) else 4) else 4) else 3) else 2) else 1
theorem ev_mreasonFor (b x y w : Int) (σ : Mem) (hb : 0 ≤ b ∧ b < 307) : Ev true 200 [aR 11 (0), aI (b), aI (x), aI (y), aI (w)] σ (.inl (some (aI (zo_mreasonFor b x y w σ)))) (σ) := by
  show wp true 200 0 [some (aR 11 (0)), some (aI (b)), some (aI (x)), some (aI (y)), some (aI (w))] [] σ 0 0 _
  refine wp_seg 3 (P := none) (ls' := [some (aR 11 (0)), some (aI (b)), some (aI (x)), some (aI (y)), some (aI (w))]) (st' := [aI (4), aI (b), aR 11 (0)]) (σ' := σ) rq_200 rfl True.intro (i' := 3) rfl ?_
  refine wp_call (C := 11) (As := [aR 11 (0), aI (b), aI (4)]) (rest := []) rq_200 (ev_mat (b) (4) σ (by first | omega | (simp (disch := omega) only [wr_eq]; omega)) (by first | omega | (simp (disch := omega) only [wr_eq]; omega))) rfl rfl (show clOK 200 158 0 0 0 3 11 = true by decide +kernel) rfl (show 0 ≤ 4 by decide) (fun _ => ⟨_, rfl⟩) rfl (c' := 0) (s' := 0) rfl rfl ?_
  refine wp_if rq_200 rfl (fun (h1 : (mat σ (b) (4)) = 0) => ?_) (fun (h1 : ¬ ((mat σ (b) (4)) = 0)) => ?_)
  · refine wp_seg 4 (P := some (0 ≤ (6) ∧ (6) < alen σ 13 (186))) (ls' := [some (aR 11 (0)), some (aI (b)), some (aI (x)), some (aI (y)), some (aI (w))]) (st' := [aI (σ 13 (186) (6))]) (σ' := σ) rq_200 rfl ?_ (i' := 11) rfl ?_
    · show 0 ≤ (6) ∧ (6) < alen σ 13 (186)
      (first | decide | exact Or.inl rfl | exact Or.inr rfl | ((try simp only [al_g, al_k, al_p, al_c, al_r, al_t, al_o, rl_g, rl_k, rl_p, rl_c, rl_r, rl_t, rl_o]); (try simp (disch := omega) only [wr_eq]); omega))
    refine wp_if rq_200 rfl (fun (h2 : (σ 13 (186) (6)) < 0) => ?_) (fun (h2 : ¬ ((σ 13 (186) (6)) < 0)) => ?_)
    · refine wp_seg 2 (P := none) (ls' := [some (aR 11 (0)), some (aI (b)), some (aI (x)), some (aI (y)), some (aI (w))]) (st' := [aI (b), aR 11 (0)]) (σ' := σ) rq_200 rfl True.intro (i' := 16) rfl ?_
      by_cases h3 : 0 ≤ mat σ (b) 0 ∧ 0 ≤ mat σ (b) 1
      · refine wp_call (C := 11) (As := [aR 11 (0), aI (b)]) (rest := []) rq_200 (ev_misKnown_y (b) σ (by first | omega | (simp (disch := omega) only [wr_eq]; omega)) h3) rfl rfl (show clOK 200 189 0 0 0 2 11 = true by decide +kernel) rfl (show 0 ≤ 4 by decide) (fun _ => ⟨_, rfl⟩) rfl (c' := 0) (s' := 0) rfl rfl ?_
        refine wp_if rq_200 rfl (fun _ => ?_) (fun (h4 : ¬ (¬ (1 : Int) = (0 : Int))) => absurd (show ¬ (1 : Int) = (0 : Int) from by decide) h4)
        refine wp_seg 4 (P := none) (ls' := [some (aR 11 (0)), some (aI (b)), some (aI (x)), some (aI (y)), some (aI (w))]) (st' := [aI (b), aR 11 (0), aI (0), aI (x)]) (σ' := σ) rq_200 rfl True.intro (i' := 24) rfl ?_
        refine wp_call (C := 11) (As := [aR 11 (0), aI (b)]) (rest := [aI (0), aI (x)]) rq_200 (ev_mtarget (b) σ (by first | omega | (simp (disch := omega) only [wr_eq]; omega))) rfl rfl (show clOK 200 184 0 0 0 2 11 = true by decide +kernel) rfl (show 2 ≤ 4 by decide) (fun _ => ⟨_, rfl⟩) rfl (c' := 0) (s' := 0) rfl rfl ?_
        by_cases h5 : (0) ≤ (x) ∧ (x) ≤ (zo_mtarget (b) σ)
        · refine wp_call (C := 0) (As := [aI (x), aI (0), aI (zo_mtarget (b) σ)]) (rest := []) rq_200 (ev_min_y (x) (0) (zo_mtarget (b) σ) σ  h5) rfl rfl (show clOK 200 154 2 0 0 3 0 = true by decide +kernel) rfl (show 0 ≤ 4 by decide) (fun h => absurd rfl h) rfl (c' := 0) (s' := 0) rfl rfl ?_
          refine wp_if rq_200 rfl (fun (h6 : (1 : Int) = (0 : Int)) => absurd h6 (show ¬ ((1 : Int) = (0 : Int)) from by decide)) (fun _ => ?_)
          refine wp_seg 4 (P := none) (ls' := [some (aR 11 (0)), some (aI (b)), some (aI (x)), some (aI (y)), some (aI (w))]) (st' := [aI (b), aR 11 (0), aI (0), aI (y)]) (σ' := σ) rq_200 rfl True.intro (i' := 31) rfl ?_
          refine wp_call (C := 11) (As := [aR 11 (0), aI (b)]) (rest := [aI (0), aI (y)]) rq_200 (ev_mtarget (b) σ (by first | omega | (simp (disch := omega) only [wr_eq]; omega))) rfl rfl (show clOK 200 184 0 0 0 2 11 = true by decide +kernel) rfl (show 2 ≤ 4 by decide) (fun _ => ⟨_, rfl⟩) rfl (c' := 0) (s' := 0) rfl rfl ?_
          by_cases h7 : (0) ≤ (y) ∧ (y) ≤ (zo_mtarget (b) σ)
          · refine wp_call (C := 0) (As := [aI (y), aI (0), aI (zo_mtarget (b) σ)]) (rest := []) rq_200 (ev_min_y (y) (0) (zo_mtarget (b) σ) σ  h7) rfl rfl (show clOK 200 154 2 0 0 3 0 = true by decide +kernel) rfl (show 0 ≤ 4 by decide) (fun h => absurd rfl h) rfl (c' := 0) (s' := 0) rfl rfl ?_
            refine wp_if rq_200 rfl (fun _ => ?_) (fun (h8 : ¬ (¬ (1 : Int) = (0 : Int))) => absurd (show ¬ (1 : Int) = (0 : Int) from by decide) h8)
            refine wp_seg 3 (P := none) (ls' := [some (aR 11 (0)), some (aI (b)), some (aI (x)), some (aI (y)), some (aI (w))]) (st' := [aI (b), aR 11 (0), aI (x)]) (σ' := σ) rq_200 rfl True.intro (i' := 39) rfl ?_
            refine wp_call (C := 11) (As := [aR 11 (0), aI (b)]) (rest := [aI (x)]) rq_200 (ev_mtarget (b) σ (by first | omega | (simp (disch := omega) only [wr_eq]; omega))) rfl rfl (show clOK 200 184 0 0 0 2 11 = true by decide +kernel) rfl (show 1 ≤ 4 by decide) (fun _ => ⟨_, rfl⟩) rfl (c' := 0) (s' := 0) rfl rfl ?_
            refine wp_icmp rq_200 rfl (fun (h9 : ¬ (x) = (zo_mtarget (b) σ)) => ?_) (fun (h9 : ¬ (¬ (x) = (zo_mtarget (b) σ))) => ?_)
            · refine wp_seg 2 (P := none) (ls' := [some (aR 11 (0)), some (aI (b)), some (aI (x)), some (aI (y)), some (aI (w))]) (st' := [aI (y), aI (x)]) (σ' := σ) rq_200 rfl True.intro (i' := 48) rfl ?_
              refine wp_icmp rq_200 rfl (fun (h10 : ¬ (x) = (y)) => ?_) (fun (h10 : ¬ (¬ (x) = (y))) => ?_)
              · refine wp_seg 2 (P := none) (ls' := [some (aR 11 (0)), some (aI (b)), some (aI (x)), some (aI (y)), some (aI (w))]) (st' := [aI (-1), aI (w)]) (σ' := σ) rq_200 rfl True.intro (i' := 60) rfl ?_
                refine wp_icmp rq_200 rfl (fun (h11 : ¬ (w) = (-1)) => ?_) (fun (h11 : ¬ (¬ (w) = (-1))) => ?_)
                · refine wp_seg 1 (P := none) (ls' := [some (aR 11 (0)), some (aI (b)), some (aI (x)), some (aI (y)), some (aI (w))]) (st' := [aI (6)]) (σ' := σ) rq_200 rfl True.intro (i' := 64) rfl ?_
                  refine wp_iret rq_200 rfl rt_200 ⟨?_, ?_⟩
                  · (rw [zo_mreasonFor, if_pos h1, if_pos h2, if_pos h3, if_pos h5, if_pos h7, if_pos h9, if_pos h10, if_pos h11]; try rfl)
                  · rfl
                · refine wp_seg 1 (P := none) (ls' := [some (aR 11 (0)), some (aI (b)), some (aI (x)), some (aI (y)), some (aI (w))]) (st' := [aI (0)]) (σ' := σ) rq_200 rfl True.intro (i' := 62) rfl ?_
                  refine wp_goto rq_200 rfl ?_
                  refine wp_iret rq_200 rfl rt_200 ⟨?_, ?_⟩
                  · (rw [zo_mreasonFor, if_pos h1, if_pos h2, if_pos h3, if_pos h5, if_pos h7, if_pos h9, if_pos h10, if_neg h11]; try rfl)
                  · rfl
              · refine wp_seg 3 (P := none) (ls' := [some (aR 11 (0)), some (aI (b)), some (aI (x)), some (aI (y)), some (aI (w))]) (st' := [aI (1), aI (0), aI (w)]) (σ' := σ) rq_200 rfl True.intro (i' := 52) rfl ?_
                by_cases h12 : (0) ≤ (w) ∧ (w) ≤ (1)
                · refine wp_call (C := 0) (As := [aI (w), aI (0), aI (1)]) (rest := []) rq_200 (ev_min_y (w) (0) (1) σ  h12) rfl rfl (show clOK 200 154 2 0 0 3 0 = true by decide +kernel) rfl (show 0 ≤ 4 by decide) (fun h => absurd rfl h) rfl (c' := 0) (s' := 0) rfl rfl ?_
                  refine wp_if rq_200 rfl (fun (h13 : (1 : Int) = (0 : Int)) => absurd h13 (show ¬ ((1 : Int) = (0 : Int)) from by decide)) (fun _ => ?_)
                  refine wp_seg 1 (P := none) (ls' := [some (aR 11 (0)), some (aI (b)), some (aI (x)), some (aI (y)), some (aI (w))]) (st' := [aI (0)]) (σ' := σ) rq_200 rfl True.intro (i' := 55) rfl ?_
                  refine wp_goto rq_200 rfl ?_
                  refine wp_iret rq_200 rfl rt_200 ⟨?_, ?_⟩
                  · (rw [zo_mreasonFor, if_pos h1, if_pos h2, if_pos h3, if_pos h5, if_pos h7, if_pos h9, if_neg h10, if_pos h12]; try rfl)
                  · rfl
                · refine wp_call (C := 0) (As := [aI (w), aI (0), aI (1)]) (rest := []) rq_200 (ev_min_n (w) (0) (1) σ  h12) rfl rfl (show clOK 200 154 2 0 0 3 0 = true by decide +kernel) rfl (show 0 ≤ 4 by decide) (fun h => absurd rfl h) rfl (c' := 0) (s' := 0) rfl rfl ?_
                  refine wp_if rq_200 rfl (fun _ => ?_) (fun (h14 : ¬ ((0 : Int) = (0 : Int))) => absurd (show (0 : Int) = (0 : Int) from by decide) h14)
                  refine wp_seg 1 (P := none) (ls' := [some (aR 11 (0)), some (aI (b)), some (aI (x)), some (aI (y)), some (aI (w))]) (st' := [aI (6)]) (σ' := σ) rq_200 rfl True.intro (i' := 57) rfl ?_
                  refine wp_goto rq_200 rfl ?_
                  refine wp_iret rq_200 rfl rt_200 ⟨?_, ?_⟩
                  · (rw [zo_mreasonFor, if_pos h1, if_pos h2, if_pos h3, if_pos h5, if_pos h7, if_pos h9, if_neg h10, if_neg h12]; try rfl)
                  · rfl
            · refine wp_seg 2 (P := none) (ls' := [some (aR 11 (0)), some (aI (b)), some (aI (x)), some (aI (y)), some (aI (w))]) (st' := [aI (x), aI (y)]) (σ' := σ) rq_200 rfl True.intro (i' := 43) rfl ?_
              refine wp_icmp rq_200 rfl (fun (h15 : ¬ (y) = (x)) => ?_) (fun (h15 : ¬ (¬ (y) = (x))) => ?_)
              · refine wp_seg 2 (P := none) (ls' := [some (aR 11 (0)), some (aI (b)), some (aI (x)), some (aI (y)), some (aI (w))]) (st' := [aI (y), aI (x)]) (σ' := σ) rq_200 rfl True.intro (i' := 48) rfl ?_
                refine wp_icmp rq_200 rfl (fun (h16 : ¬ (x) = (y)) => ?_) (fun (h16 : ¬ (¬ (x) = (y))) => ?_)
                · refine wp_seg 2 (P := none) (ls' := [some (aR 11 (0)), some (aI (b)), some (aI (x)), some (aI (y)), some (aI (w))]) (st' := [aI (-1), aI (w)]) (σ' := σ) rq_200 rfl True.intro (i' := 60) rfl ?_
                  refine wp_icmp rq_200 rfl (fun (h17 : ¬ (w) = (-1)) => ?_) (fun (h17 : ¬ (¬ (w) = (-1))) => ?_)
                  · refine wp_seg 1 (P := none) (ls' := [some (aR 11 (0)), some (aI (b)), some (aI (x)), some (aI (y)), some (aI (w))]) (st' := [aI (6)]) (σ' := σ) rq_200 rfl True.intro (i' := 64) rfl ?_
                    refine wp_iret rq_200 rfl rt_200 ⟨?_, ?_⟩
                    · (rw [zo_mreasonFor, if_pos h1, if_pos h2, if_pos h3, if_pos h5, if_pos h7, if_neg h9, if_pos h15, if_pos h16, if_pos h17]; try rfl)
                    · rfl
                  · refine wp_seg 1 (P := none) (ls' := [some (aR 11 (0)), some (aI (b)), some (aI (x)), some (aI (y)), some (aI (w))]) (st' := [aI (0)]) (σ' := σ) rq_200 rfl True.intro (i' := 62) rfl ?_
                    refine wp_goto rq_200 rfl ?_
                    refine wp_iret rq_200 rfl rt_200 ⟨?_, ?_⟩
                    · (rw [zo_mreasonFor, if_pos h1, if_pos h2, if_pos h3, if_pos h5, if_pos h7, if_neg h9, if_pos h15, if_pos h16, if_neg h17]; try rfl)
                    · rfl
                · refine wp_seg 3 (P := none) (ls' := [some (aR 11 (0)), some (aI (b)), some (aI (x)), some (aI (y)), some (aI (w))]) (st' := [aI (1), aI (0), aI (w)]) (σ' := σ) rq_200 rfl True.intro (i' := 52) rfl ?_
                  by_cases h18 : (0) ≤ (w) ∧ (w) ≤ (1)
                  · refine wp_call (C := 0) (As := [aI (w), aI (0), aI (1)]) (rest := []) rq_200 (ev_min_y (w) (0) (1) σ  h18) rfl rfl (show clOK 200 154 2 0 0 3 0 = true by decide +kernel) rfl (show 0 ≤ 4 by decide) (fun h => absurd rfl h) rfl (c' := 0) (s' := 0) rfl rfl ?_
                    refine wp_if rq_200 rfl (fun (h19 : (1 : Int) = (0 : Int)) => absurd h19 (show ¬ ((1 : Int) = (0 : Int)) from by decide)) (fun _ => ?_)
                    refine wp_seg 1 (P := none) (ls' := [some (aR 11 (0)), some (aI (b)), some (aI (x)), some (aI (y)), some (aI (w))]) (st' := [aI (0)]) (σ' := σ) rq_200 rfl True.intro (i' := 55) rfl ?_
                    refine wp_goto rq_200 rfl ?_
                    refine wp_iret rq_200 rfl rt_200 ⟨?_, ?_⟩
                    · (rw [zo_mreasonFor, if_pos h1, if_pos h2, if_pos h3, if_pos h5, if_pos h7, if_neg h9, if_pos h15, if_neg h16, if_pos h18]; try rfl)
                    · rfl
                  · refine wp_call (C := 0) (As := [aI (w), aI (0), aI (1)]) (rest := []) rq_200 (ev_min_n (w) (0) (1) σ  h18) rfl rfl (show clOK 200 154 2 0 0 3 0 = true by decide +kernel) rfl (show 0 ≤ 4 by decide) (fun h => absurd rfl h) rfl (c' := 0) (s' := 0) rfl rfl ?_
                    refine wp_if rq_200 rfl (fun _ => ?_) (fun (h20 : ¬ ((0 : Int) = (0 : Int))) => absurd (show (0 : Int) = (0 : Int) from by decide) h20)
                    refine wp_seg 1 (P := none) (ls' := [some (aR 11 (0)), some (aI (b)), some (aI (x)), some (aI (y)), some (aI (w))]) (st' := [aI (6)]) (σ' := σ) rq_200 rfl True.intro (i' := 57) rfl ?_
                    refine wp_goto rq_200 rfl ?_
                    refine wp_iret rq_200 rfl rt_200 ⟨?_, ?_⟩
                    · (rw [zo_mreasonFor, if_pos h1, if_pos h2, if_pos h3, if_pos h5, if_pos h7, if_neg h9, if_pos h15, if_neg h16, if_neg h18]; try rfl)
                    · rfl
              · refine wp_seg 1 (P := none) (ls' := [some (aR 11 (0)), some (aI (b)), some (aI (x)), some (aI (y)), some (aI (w))]) (st' := [aI (5)]) (σ' := σ) rq_200 rfl True.intro (i' := 45) rfl ?_
                refine wp_iret rq_200 rfl rt_200 ⟨?_, ?_⟩
                · (rw [zo_mreasonFor, if_pos h1, if_pos h2, if_pos h3, if_pos h5, if_pos h7, if_neg h9, if_neg h15]; try rfl)
                · rfl
          · refine wp_call (C := 0) (As := [aI (y), aI (0), aI (zo_mtarget (b) σ)]) (rest := []) rq_200 (ev_min_n (y) (0) (zo_mtarget (b) σ) σ  h7) rfl rfl (show clOK 200 154 2 0 0 3 0 = true by decide +kernel) rfl (show 0 ≤ 4 by decide) (fun h => absurd rfl h) rfl (c' := 0) (s' := 0) rfl rfl ?_
            refine wp_if rq_200 rfl (fun (h21 : ¬ (0 : Int) = (0 : Int)) => absurd h21 (show ¬ (¬ (0 : Int) = (0 : Int)) from by decide)) (fun _ => ?_)
            refine wp_seg 1 (P := none) (ls' := [some (aR 11 (0)), some (aI (b)), some (aI (x)), some (aI (y)), some (aI (w))]) (st' := [aI (4)]) (σ' := σ) rq_200 rfl True.intro (i' := 35) rfl ?_
            refine wp_iret rq_200 rfl rt_200 ⟨?_, ?_⟩
            · (rw [zo_mreasonFor, if_pos h1, if_pos h2, if_pos h3, if_pos h5, if_neg h7]; try rfl)
            · rfl
        · refine wp_call (C := 0) (As := [aI (x), aI (0), aI (zo_mtarget (b) σ)]) (rest := []) rq_200 (ev_min_n (x) (0) (zo_mtarget (b) σ) σ  h5) rfl rfl (show clOK 200 154 2 0 0 3 0 = true by decide +kernel) rfl (show 0 ≤ 4 by decide) (fun h => absurd rfl h) rfl (c' := 0) (s' := 0) rfl rfl ?_
          refine wp_if rq_200 rfl (fun _ => ?_) (fun (h22 : ¬ ((0 : Int) = (0 : Int))) => absurd (show (0 : Int) = (0 : Int) from by decide) h22)
          refine wp_seg 1 (P := none) (ls' := [some (aR 11 (0)), some (aI (b)), some (aI (x)), some (aI (y)), some (aI (w))]) (st' := [aI (4)]) (σ' := σ) rq_200 rfl True.intro (i' := 35) rfl ?_
          refine wp_iret rq_200 rfl rt_200 ⟨?_, ?_⟩
          · (rw [zo_mreasonFor, if_pos h1, if_pos h2, if_pos h3, if_neg h5]; try rfl)
          · rfl
      · refine wp_call (C := 11) (As := [aR 11 (0), aI (b)]) (rest := []) rq_200 (ev_misKnown_n (b) σ (by first | omega | (simp (disch := omega) only [wr_eq]; omega)) h3) rfl rfl (show clOK 200 189 0 0 0 2 11 = true by decide +kernel) rfl (show 0 ≤ 4 by decide) (fun _ => ⟨_, rfl⟩) rfl (c' := 0) (s' := 0) rfl rfl ?_
        refine wp_if rq_200 rfl (fun (h23 : ¬ (0 : Int) = (0 : Int)) => absurd h23 (show ¬ (¬ (0 : Int) = (0 : Int)) from by decide)) (fun _ => ?_)
        refine wp_seg 1 (P := none) (ls' := [some (aR 11 (0)), some (aI (b)), some (aI (x)), some (aI (y)), some (aI (w))]) (st' := [aI (3)]) (σ' := σ) rq_200 rfl True.intro (i' := 19) rfl ?_
        refine wp_iret rq_200 rfl rt_200 ⟨?_, ?_⟩
        · (rw [zo_mreasonFor, if_pos h1, if_pos h2, if_neg h3]; try rfl)
        · rfl
    · refine wp_seg 1 (P := none) (ls' := [some (aR 11 (0)), some (aI (b)), some (aI (x)), some (aI (y)), some (aI (w))]) (st' := [aI (2)]) (σ' := σ) rq_200 rfl True.intro (i' := 13) rfl ?_
      refine wp_iret rq_200 rfl rt_200 ⟨?_, ?_⟩
      · (rw [zo_mreasonFor, if_pos h1, if_neg h2]; try rfl)
      · rfl
  · refine wp_seg 1 (P := none) (ls' := [some (aR 11 (0)), some (aI (b)), some (aI (x)), some (aI (y)), some (aI (w))]) (st' := [aI (1)]) (σ' := σ) rq_200 rfl True.intro (i' := 6) rfl ?_
    refine wp_iret rq_200 rfl rt_200 ⟨?_, ?_⟩
    · (rw [zo_mreasonFor, if_neg h1]; try rfl)
    · rfl

def zo_mseedTaken (x : Int) (σ : Mem) : Int := if (x) ≤ (σ 13 (186) (8)) then σ 13 (186) (wr ((wr ((222) + (x))) - (1))) else -1
theorem ev_mseedTaken (x : Int) (σ : Mem) (hx : 1 ≤ x) (hR : σ 13 186 8 ≤ 24) : Ev true 216 [aR 11 (0), aI (x)] σ (.inl (some (aI (zo_mseedTaken x σ)))) (σ) := by
  show wp true 216 0 [some (aR 11 (0)), some (aI (x))] [] σ 0 0 _
  refine wp_seg 5 (P := some (0 ≤ (8) ∧ (8) < alen σ 13 (186))) (ls' := [some (aR 11 (0)), some (aI (x))]) (st' := [aI (σ 13 (186) (8)), aI (x)]) (σ' := σ) rq_216 rfl ?_ (i' := 5) rfl ?_
  · show 0 ≤ (8) ∧ (8) < alen σ 13 (186)
    (first | decide | exact Or.inl rfl | exact Or.inr rfl | ((try simp only [al_g, al_k, al_p, al_c, al_r, al_t, al_o, rl_g, rl_k, rl_p, rl_c, rl_r, rl_t, rl_o]); (try simp (disch := omega) only [wr_eq]); omega))
  refine wp_icmp rq_216 rfl (fun (h1 : (x) ≤ (σ 13 (186) (8))) => ?_) (fun (h1 : ¬ ((x) ≤ (σ 13 (186) (8)))) => ?_)
  · refine wp_seg 8 (P := some (0 ≤ (wr ((wr ((222) + (x))) - (1))) ∧ (wr ((wr ((222) + (x))) - (1))) < alen σ 13 (186))) (ls' := [some (aR 11 (0)), some (aI (x))]) (st' := [aI (σ 13 (186) (wr ((wr ((222) + (x))) - (1))))]) (σ' := σ) rq_216 rfl ?_ (i' := 16) rfl ?_
    · show 0 ≤ (wr ((wr ((222) + (x))) - (1))) ∧ (wr ((wr ((222) + (x))) - (1))) < alen σ 13 (186)
      (first | decide | exact Or.inl rfl | exact Or.inr rfl | ((try simp only [al_g, al_k, al_p, al_c, al_r, al_t, al_o, rl_g, rl_k, rl_p, rl_c, rl_r, rl_t, rl_o]); (try simp (disch := omega) only [wr_eq]); omega))
    refine wp_iret rq_216 rfl rt_216 ⟨?_, ?_⟩
    · (rw [zo_mseedTaken, if_pos h1]; try rfl)
    · rfl
  · refine wp_seg 1 (P := none) (ls' := [some (aR 11 (0)), some (aI (x))]) (st' := [aI (-1)]) (σ' := σ) rq_216 rfl True.intro (i' := 7) rfl ?_
    refine wp_goto rq_216 rfl ?_
    refine wp_iret rq_216 rfl rt_216 ⟨?_, ?_⟩
    · (rw [zo_mseedTaken, if_neg h1]; try rfl)
    · rfl

def zo_yseeded (x : Int) (σ : Mem) : Int := if ¬ (σ 13 (186) (4)) = 0 then (if (1) ≤ (x) ∧ (x) ≤ (σ 13 (186) (8)) then σ 13 (186) (wr ((wr ((222) + (x))) - (1))) else 0) else 0
def zm_yseeded (x : Int) (σ : Mem) : Mem := if ¬ (σ 13 (186) (4)) = 0 then (if (1) ≤ (x) ∧ (x) ≤ (σ 13 (186) (8)) then (up σ 11 (0) 6 (0)) else (up σ 11 (0) 6 (2))) else (up σ 11 (0) 6 (1))
theorem ev_yseeded (x : Int) (σ : Mem) (hR : 0 ≤ σ 13 186 8 ∧ σ 13 186 8 ≤ 24) : Ev true 218 [aR 11 (0), aI (x)] σ (.inl (some (aI (zo_yseeded x σ)))) (zm_yseeded x σ) := by
  show wp true 218 0 [some (aR 11 (0)), some (aI (x))] [] σ 0 0 _
  refine wp_seg 5 (P := some (0 ≤ (4) ∧ (4) < alen σ 13 (186))) (ls' := [some (aR 11 (0)), some (aI (x))]) (st' := [aI (σ 13 (186) (4)), aR 11 (0)]) (σ' := σ) rq_218 rfl ?_ (i' := 5) rfl ?_
  · show 0 ≤ (4) ∧ (4) < alen σ 13 (186)
    (first | decide | exact Or.inl rfl | exact Or.inr rfl | ((try simp only [al_g, al_k, al_p, al_c, al_r, al_t, al_o, rl_g, rl_k, rl_p, rl_c, rl_r, rl_t, rl_o]); (try simp (disch := omega) only [wr_eq]); omega))
  refine wp_if rq_218 rfl (fun (h1 : ¬ (σ 13 (186) (4)) = 0) => ?_) (fun (h1 : ¬ (¬ (σ 13 (186) (4)) = 0)) => ?_)
  · refine wp_seg 6 (P := some (0 ≤ (8) ∧ (8) < alen σ 13 (186))) (ls' := [some (aR 11 (0)), some (aI (x))]) (st' := [aI (σ 13 (186) (8)), aI (1), aI (x), aR 11 (0)]) (σ' := σ) rq_218 rfl ?_ (i' := 14) rfl ?_
    · show 0 ≤ (8) ∧ (8) < alen σ 13 (186)
      (first | decide | exact Or.inl rfl | exact Or.inr rfl | ((try simp only [al_g, al_k, al_p, al_c, al_r, al_t, al_o, rl_g, rl_k, rl_p, rl_c, rl_r, rl_t, rl_o]); (try simp (disch := omega) only [wr_eq]); omega))
    by_cases h2 : (1) ≤ (x) ∧ (x) ≤ (σ 13 (186) (8))
    · refine wp_call (C := 0) (As := [aI (x), aI (1), aI (σ 13 (186) (8))]) (rest := [aR 11 (0)]) rq_218 (ev_min_y (x) (1) (σ 13 (186) (8)) σ  h2) rfl rfl (show clOK 218 154 2 0 0 3 0 = true by decide +kernel) rfl (show 1 ≤ 4 by decide) (fun h => absurd rfl h) rfl (c' := 0) (s' := 0) rfl rfl ?_
      refine wp_if rq_218 rfl (fun (h3 : (1 : Int) = (0 : Int)) => absurd h3 (show ¬ ((1 : Int) = (0 : Int)) from by decide)) (fun _ => ?_)
      refine wp_seg 1 (P := none) (ls' := [some (aR 11 (0)), some (aI (x))]) (st' := [aI (0), aR 11 (0)]) (σ' := σ) rq_218 rfl True.intro (i' := 17) rfl ?_
      refine wp_goto rq_218 rfl ?_
      refine wp_seg 3 (P := none) (ls' := [some (aR 11 (0)), some (aI (x))]) (st' := [aI (0)]) (σ' := (up σ 11 (0) 6 (0))) rq_218 rfl True.intro (i' := 22) rfl ?_
      refine wp_if rq_218 rfl (fun _ => ?_) (fun (h4 : ¬ ((0 : Int) ≤ (0 : Int))) => absurd (show (0 : Int) ≤ (0 : Int) from by decide) h4)
      refine wp_seg 8 (P := some (0 ≤ (wr ((wr ((222) + (x))) - (1))) ∧ (wr ((wr ((222) + (x))) - (1))) < alen (up σ 11 (0) 6 (0)) 13 (186))) (ls' := [some (aR 11 (0)), some (aI (x))]) (st' := [aI (σ 13 (186) (wr ((wr ((222) + (x))) - (1))))]) (σ' := (up σ 11 (0) 6 (0))) rq_218 rfl ?_ (i' := 33) rfl ?_
      · show 0 ≤ (wr ((wr ((222) + (x))) - (1))) ∧ (wr ((wr ((222) + (x))) - (1))) < alen (up σ 11 (0) 6 (0)) 13 (186)
        (first | decide | exact Or.inl rfl | exact Or.inr rfl | ((try simp only [al_g, al_k, al_p, al_c, al_r, al_t, al_o, rl_g, rl_k, rl_p, rl_c, rl_r, rl_t, rl_o]); (try simp (disch := omega) only [wr_eq]); omega))
      refine wp_iret rq_218 rfl rt_218 ⟨?_, ?_⟩
      · (rw [zo_yseeded, if_pos h1, if_pos h2]; try rfl)
      · (rw [zm_yseeded, if_pos h1, if_pos h2]; try rfl)
    · refine wp_call (C := 0) (As := [aI (x), aI (1), aI (σ 13 (186) (8))]) (rest := [aR 11 (0)]) rq_218 (ev_min_n (x) (1) (σ 13 (186) (8)) σ  h2) rfl rfl (show clOK 218 154 2 0 0 3 0 = true by decide +kernel) rfl (show 1 ≤ 4 by decide) (fun h => absurd rfl h) rfl (c' := 0) (s' := 0) rfl rfl ?_
      refine wp_if rq_218 rfl (fun _ => ?_) (fun (h5 : ¬ ((0 : Int) = (0 : Int))) => absurd (show (0 : Int) = (0 : Int) from by decide) h5)
      refine wp_seg 4 (P := none) (ls' := [some (aR 11 (0)), some (aI (x))]) (st' := [aI (2)]) (σ' := (up σ 11 (0) 6 (2))) rq_218 rfl True.intro (i' := 22) rfl ?_
      refine wp_if rq_218 rfl (fun (h6 : (2 : Int) ≤ (0 : Int)) => absurd h6 (show ¬ ((2 : Int) ≤ (0 : Int)) from by decide)) (fun _ => ?_)
      refine wp_seg 1 (P := none) (ls' := [some (aR 11 (0)), some (aI (x))]) (st' := [aI (0)]) (σ' := (up σ 11 (0) 6 (2))) rq_218 rfl True.intro (i' := 24) rfl ?_
      refine wp_goto rq_218 rfl ?_
      refine wp_iret rq_218 rfl rt_218 ⟨?_, ?_⟩
      · (rw [zo_yseeded, if_pos h1, if_neg h2]; try rfl)
      · (rw [zm_yseeded, if_pos h1, if_neg h2]; try rfl)
  · refine wp_seg 1 (P := none) (ls' := [some (aR 11 (0)), some (aI (x))]) (st' := [aI (1), aR 11 (0)]) (σ' := σ) rq_218 rfl True.intro (i' := 7) rfl ?_
    refine wp_goto rq_218 rfl ?_
    refine wp_seg 3 (P := none) (ls' := [some (aR 11 (0)), some (aI (x))]) (st' := [aI (1)]) (σ' := (up σ 11 (0) 6 (1))) rq_218 rfl True.intro (i' := 22) rfl ?_
    refine wp_if rq_218 rfl (fun (h7 : (1 : Int) ≤ (0 : Int)) => absurd h7 (show ¬ ((1 : Int) ≤ (0 : Int)) from by decide)) (fun _ => ?_)
    refine wp_seg 1 (P := none) (ls' := [some (aR 11 (0)), some (aI (x))]) (st' := [aI (0)]) (σ' := (up σ 11 (0) 6 (1))) rq_218 rfl True.intro (i' := 24) rfl ?_
    refine wp_goto rq_218 rfl ?_
    refine wp_iret rq_218 rfl rt_218 ⟨?_, ?_⟩
    · (rw [zo_yseeded, if_neg h1]; try rfl)
    · (rw [zm_yseeded, if_neg h1]; try rfl)

def zm_yrefusal  (σ : Mem) : Mem := if ¬ (σ 11 (0) 5) = 0 then (up σ 11 (0) 6 (0)) else (up σ 11 (0) 6 (1))
theorem ev_yrefusal  (σ : Mem) : Ev true 203 [aR 11 (0)] σ (.inl (some (aI (σ 11 (0) 5)))) (zm_yrefusal  σ) := by
  show wp true 203 0 [some (aR 11 (0))] [] σ 0 0 _
  refine wp_seg 3 (P := none) (ls' := [some (aR 11 (0))]) (st' := [aI (σ 11 (0) 5), aR 11 (0)]) (σ' := σ) rq_203 rfl True.intro (i' := 3) rfl ?_
  refine wp_if rq_203 rfl (fun (h1 : ¬ (σ 11 (0) 5) = 0) => ?_) (fun (h1 : ¬ (¬ (σ 11 (0) 5) = 0)) => ?_)
  · refine wp_seg 4 (P := none) (ls' := [some (aR 11 (0))]) (st' := [aI (σ 11 (0) 5)]) (σ' := (up σ 11 (0) 6 (0))) rq_203 rfl True.intro (i' := 10) rfl ?_
    refine wp_iret rq_203 rfl rt_203 ⟨?_, ?_⟩
    · rfl
    · (rw [zm_yrefusal, if_pos h1]; try rfl)
  · refine wp_seg 1 (P := none) (ls' := [some (aR 11 (0))]) (st' := [aI (1), aR 11 (0)]) (σ' := σ) rq_203 rfl True.intro (i' := 5) rfl ?_
    refine wp_goto rq_203 rfl ?_
    refine wp_seg 3 (P := none) (ls' := [some (aR 11 (0))]) (st' := [aI (σ 11 (0) 5)]) (σ' := (up σ 11 (0) 6 (1))) rq_203 rfl True.intro (i' := 10) rfl ?_
    refine wp_iret rq_203 rfl rt_203 ⟨?_, ?_⟩
    · rfl
    · (rw [zm_yrefusal, if_neg h1]; try rfl)

theorem ev_yfaultPosition  (σ : Mem) : Ev true 242 [aR 11 (0)] σ (.inl (some (aI (σ 11 (0) 13)))) ((up σ 11 (0) 6 (0))) := by
  show wp true 242 0 [some (aR 11 (0))] [] σ 0 0 _
  refine wp_seg 5 (P := none) (ls' := [some (aR 11 (0))]) (st' := [aI (σ 11 (0) 13)]) (σ' := (up σ 11 (0) 6 (0))) rq_242 rfl True.intro (i' := 5) rfl ?_
  refine wp_iret rq_242 rfl rt_242 ⟨?_, ?_⟩
  · rfl
  · rfl

def zo_ysetSeed (v : Int) (σ : Mem) : Int := if 0 ≤ (v) then σ 13 (186) (7) else 0
def zm_ysetSeed (v : Int) (σ : Mem) : Mem := if 0 ≤ (v) then (up (up (up σ 11 (0) 6 (0)) 13 (186) (7) (v)) 11 (0) 4 (0)) else (up σ 11 (0) 6 (1))
theorem ev_ysetSeed (v : Int) (σ : Mem) : Ev true 164 [aR 11 (0), aI (v)] σ (.inl (some (aI (zo_ysetSeed v σ)))) (zm_ysetSeed v σ) := by
  show wp true 164 0 [some (aR 11 (0)), some (aI (v)), none] [] σ 0 0 _
  refine wp_seg 2 (P := none) (ls' := [some (aR 11 (0)), some (aI (v)), none]) (st' := [aI (v), aR 11 (0)]) (σ' := σ) rq_164 rfl True.intro (i' := 2) rfl ?_
  refine wp_if rq_164 rfl (fun (h1 : 0 ≤ (v)) => ?_) (fun (h1 : ¬ (0 ≤ (v))) => ?_)
  · refine wp_seg 4 (P := none) (ls' := [some (aR 11 (0)), some (aI (v)), none]) (st' := [aI (0)]) (σ' := (up σ 11 (0) 6 (0))) rq_164 rfl True.intro (i' := 9) rfl ?_
    refine wp_if rq_164 rfl (fun _ => ?_) (fun (h2 : ¬ ((0 : Int) ≤ (0 : Int))) => absurd (show (0 : Int) ≤ (0 : Int) from by decide) h2)
    refine wp_seg 14 (P := some ((0 ≤ (7) ∧ (7) < alen (up σ 11 (0) 6 (0)) 13 (186)) ∧ (0 ≤ (7) ∧ (7) < rowLen (186)))) (ls' := [some (aR 11 (0)), some (aI (v)), some (aI (σ 13 (186) (7)))]) (st' := [aI (σ 13 (186) (7))]) (σ' := (up (up (up σ 11 (0) 6 (0)) 13 (186) (7) (v)) 11 (0) 4 (0))) rq_164 rfl ?_ (i' := 26) rfl ?_
    · show (0 ≤ (7) ∧ (7) < alen (up σ 11 (0) 6 (0)) 13 (186)) ∧ (0 ≤ (7) ∧ (7) < rowLen (186))
      (first | decide | exact Or.inl rfl | exact Or.inr rfl | ((try simp only [al_g, al_k, al_p, al_c, al_r, al_t, al_o, rl_g, rl_k, rl_p, rl_c, rl_r, rl_t, rl_o]); (try simp (disch := omega) only [wr_eq]); omega))
    refine wp_iret rq_164 rfl rt_164 ⟨?_, ?_⟩
    · (rw [zo_ysetSeed, if_pos h1]; try rfl)
    · (rw [zm_ysetSeed, if_pos h1]; try rfl)
  · refine wp_seg 1 (P := none) (ls' := [some (aR 11 (0)), some (aI (v)), none]) (st' := [aI (1), aR 11 (0)]) (σ' := σ) rq_164 rfl True.intro (i' := 4) rfl ?_
    refine wp_goto rq_164 rfl ?_
    refine wp_seg 3 (P := none) (ls' := [some (aR 11 (0)), some (aI (v)), none]) (st' := [aI (1)]) (σ' := (up σ 11 (0) 6 (1))) rq_164 rfl True.intro (i' := 9) rfl ?_
    refine wp_if rq_164 rfl (fun (h3 : (1 : Int) ≤ (0 : Int)) => absurd h3 (show ¬ ((1 : Int) ≤ (0 : Int)) from by decide)) (fun _ => ?_)
    refine wp_seg 1 (P := none) (ls' := [some (aR 11 (0)), some (aI (v)), none]) (st' := [aI (0)]) (σ' := (up σ 11 (0) 6 (1))) rq_164 rfl True.intro (i' := 11) rfl ?_
    refine wp_iret rq_164 rfl rt_164 ⟨?_, ?_⟩
    · (rw [zo_ysetSeed, if_neg h1]; try rfl)
    · (rw [zm_ysetSeed, if_neg h1]; try rfl)

def zo_mdraws  (σ : Mem) : Int := (ishrI (iandI (wr ((wr ((σ 13 (186) (7)) * (1103515245))) + (12345))) (2147483647)) (16) : Int).tmod (2)
def zm_mdraws  (σ : Mem) : Mem := (up σ 13 (186) (7) (iandI (wr ((wr ((σ 13 (186) (7)) * (1103515245))) + (12345))) (2147483647)))
theorem ev_mdraws  (σ : Mem) : Ev true 165 [aR 11 (0)] σ (.inl (some (aI (zo_mdraws  σ)))) (zm_mdraws  σ) := by
  show wp true 165 0 [some (aR 11 (0))] [] σ 0 0 _
  refine wp_seg 22 (P := some ((0 ≤ (7) ∧ (7) < alen σ 13 (186)) ∧ (0 ≤ (7) ∧ (7) < rowLen (186)) ∧ (0 ≤ (7) ∧ (7) < alen (up σ 13 (186) (7) (iandI (wr ((wr ((σ 13 (186) (7)) * (1103515245))) + (12345))) (2147483647))) 13 (186)) ∧ ((2 : Int) ≠ 0))) (ls' := [some (aR 11 (0))]) (st' := [aI ((ishrI (iandI (wr ((wr ((σ 13 (186) (7)) * (1103515245))) + (12345))) (2147483647)) (16) : Int).tmod (2))]) (σ' := (up σ 13 (186) (7) (iandI (wr ((wr ((σ 13 (186) (7)) * (1103515245))) + (12345))) (2147483647)))) rq_165 rfl ?_ (i' := 22) rfl ?_
  · show (0 ≤ (7) ∧ (7) < alen σ 13 (186)) ∧ (0 ≤ (7) ∧ (7) < rowLen (186)) ∧ (0 ≤ (7) ∧ (7) < alen (up σ 13 (186) (7) (iandI (wr ((wr ((σ 13 (186) (7)) * (1103515245))) + (12345))) (2147483647))) 13 (186)) ∧ ((2 : Int) ≠ 0)
    (first | decide | exact Or.inl rfl | exact Or.inr rfl | ((try simp only [al_g, al_k, al_p, al_c, al_r, al_t, al_o, rl_g, rl_k, rl_p, rl_c, rl_r, rl_t, rl_o]); (try simp (disch := omega) only [wr_eq]); omega))
  refine wp_iret rq_165 rfl rt_165 ⟨?_, ?_⟩
  · rfl
  · rfl

def zo_mhere  (σ : Mem) : Int := if (σ 11 (0) 10) ≤ (σ 11 (0) 11) then -1 else σ 13 (191) (σ 11 (0) 11)
theorem ev_mhere  (σ : Mem) (hl : σ 11 0 10 ≤ 60) (hs : 0 ≤ σ 11 0 11) : Ev true 236 [aR 11 (0)] σ (.inl (some (aI (zo_mhere  σ)))) (σ) := by
  show wp true 236 0 [some (aR 11 (0))] [] σ 0 0 _
  refine wp_seg 4 (P := none) (ls' := [some (aR 11 (0))]) (st' := [aI (σ 11 (0) 10), aI (σ 11 (0) 11)]) (σ' := σ) rq_236 rfl True.intro (i' := 4) rfl ?_
  refine wp_icmp rq_236 rfl (fun (h1 : (σ 11 (0) 10) ≤ (σ 11 (0) 11)) => ?_) (fun (h1 : ¬ ((σ 11 (0) 10) ≤ (σ 11 (0) 11))) => ?_)
  · refine wp_seg 1 (P := none) (ls' := [some (aR 11 (0))]) (st' := [aI (-1)]) (σ' := σ) rq_236 rfl True.intro (i' := 12) rfl ?_
    refine wp_iret rq_236 rfl rt_236 ⟨?_, ?_⟩
    · (rw [zo_mhere, if_pos h1]; try rfl)
    · rfl
  · refine wp_seg 5 (P := some (0 ≤ (σ 11 (0) 11) ∧ (σ 11 (0) 11) < alen σ 13 (191))) (ls' := [some (aR 11 (0))]) (st' := [aI (σ 13 (191) (σ 11 (0) 11))]) (σ' := σ) rq_236 rfl ?_ (i' := 10) rfl ?_
    · show 0 ≤ (σ 11 (0) 11) ∧ (σ 11 (0) 11) < alen σ 13 (191)
      (first | decide | exact Or.inl rfl | exact Or.inr rfl | ((try simp only [al_g, al_k, al_p, al_c, al_r, al_t, al_o, rl_g, rl_k, rl_p, rl_c, rl_r, rl_t, rl_o]); (try simp (disch := omega) only [wr_eq]); omega))
    refine wp_goto rq_236 rfl ?_
    refine wp_iret rq_236 rfl rt_236 ⟨?_, ?_⟩
    · (rw [zo_mhere, if_neg h1]; try rfl)
    · rfl

def zm_yappend (c : Int) (σ : Mem) : Mem := if ¬ (σ 11 (0) 10) = 60 then (up (up (up σ 11 (0) 6 (0)) 13 (191) (σ 11 (0) 10) (c)) 11 (0) 10 (wr ((σ 11 (0) 10) + (1)))) else (up σ 11 (0) 6 (1))
theorem ev_yappend (c : Int) (σ : Mem) (hl : 0 ≤ σ 11 0 10 ∧ σ 11 0 10 ≤ 60) : Ev true 235 [aR 11 (0), aI (c)] σ (.inl none) (zm_yappend c σ) := by
  show wp true 235 0 [some (aR 11 (0)), some (aI (c))] [] σ 0 0 _
  refine wp_seg 4 (P := none) (ls' := [some (aR 11 (0)), some (aI (c))]) (st' := [aI (60), aI (σ 11 (0) 10), aR 11 (0)]) (σ' := σ) rq_235 rfl True.intro (i' := 4) rfl ?_
  refine wp_icmp rq_235 rfl (fun (h1 : ¬ (σ 11 (0) 10) = 60) => ?_) (fun (h1 : ¬ (¬ (σ 11 (0) 10) = 60)) => ?_)
  · refine wp_seg 4 (P := none) (ls' := [some (aR 11 (0)), some (aI (c))]) (st' := [aI (0)]) (σ' := (up σ 11 (0) 6 (0))) rq_235 rfl True.intro (i' := 11) rfl ?_
    refine wp_if rq_235 rfl (fun (h2 : ¬ (0 : Int) = (0 : Int)) => absurd h2 (show ¬ (¬ (0 : Int) = (0 : Int)) from by decide)) (fun _ => ?_)
    refine wp_seg 12 (P := some (0 ≤ (σ 11 (0) 10) ∧ (σ 11 (0) 10) < rowLen (191))) (ls' := [some (aR 11 (0)), some (aI (c))]) (st' := []) (σ' := (up (up (up σ 11 (0) 6 (0)) 13 (191) (σ 11 (0) 10) (c)) 11 (0) 10 (wr ((σ 11 (0) 10) + (1))))) rq_235 rfl ?_ (i' := 24) rfl ?_
    · show 0 ≤ (σ 11 (0) 10) ∧ (σ 11 (0) 10) < rowLen (191)
      (first | decide | exact Or.inl rfl | exact Or.inr rfl | ((try simp only [al_g, al_k, al_p, al_c, al_r, al_t, al_o, rl_g, rl_k, rl_p, rl_c, rl_r, rl_t, rl_o]); (try simp (disch := omega) only [wr_eq]); omega))
    refine wp_vret rq_235 rfl rt_235 ⟨?_, ?_⟩
    · rfl
    · (rw [zm_yappend, if_pos h1]; try rfl)
  · refine wp_seg 1 (P := none) (ls' := [some (aR 11 (0)), some (aI (c))]) (st' := [aI (1), aR 11 (0)]) (σ' := σ) rq_235 rfl True.intro (i' := 6) rfl ?_
    refine wp_goto rq_235 rfl ?_
    refine wp_seg 3 (P := none) (ls' := [some (aR 11 (0)), some (aI (c))]) (st' := [aI (1)]) (σ' := (up σ 11 (0) 6 (1))) rq_235 rfl True.intro (i' := 11) rfl ?_
    refine wp_if rq_235 rfl (fun _ => ?_) (fun (h3 : ¬ (¬ (1 : Int) = (0 : Int))) => absurd (show ¬ (1 : Int) = (0 : Int) from by decide) h3)
    refine wp_vret rq_235 rfl rt_235 ⟨?_, ?_⟩
    · rfl
    · (rw [zm_yappend, if_neg h1]; try rfl)

def zo_mfits (c v : Int) (σ : Mem) : Int := if (v) < 0 then 0 else if (wr ((wr ((5) * (wr ((σ 13 (186) (18)) + (1))))) - (σ 13 (186) (wr ((19) + (c)))))) < (v) then 0 else 1
theorem ev_mfits (c v : Int) (σ : Mem) (hc : 0 ≤ c ∧ c < 2) : Ev true 229 [aR 11 (0), aI (c), aI (v)] σ (.inl (some (aI (zo_mfits c v σ)))) (σ) := by
  show wp true 229 0 [some (aR 11 (0)), some (aI (c)), some (aI (v))] [] σ 0 0 _
  refine wp_seg 1 (P := none) (ls' := [some (aR 11 (0)), some (aI (c)), some (aI (v))]) (st' := [aI (v)]) (σ' := σ) rq_229 rfl True.intro (i' := 1) rfl ?_
  refine wp_if rq_229 rfl (fun (h1 : (v) < 0) => ?_) (fun (h1 : ¬ ((v) < 0)) => ?_)
  · refine wp_seg 1 (P := none) (ls' := [some (aR 11 (0)), some (aI (c)), some (aI (v))]) (st' := [aI (0)]) (σ' := σ) rq_229 rfl True.intro (i' := 22) rfl ?_
    refine wp_zret rq_229 rfl rt_229 ?_ ⟨?_, ?_⟩
    · first | exact Or.inl rfl | exact Or.inr rfl
    · (rw [zo_mfits, if_pos h1]; try rfl)
    · rfl
  · refine wp_seg 16 (P := some ((0 ≤ (18) ∧ (18) < alen σ 13 (186)) ∧ (0 ≤ (wr ((19) + (c))) ∧ (wr ((19) + (c))) < alen σ 13 (186)))) (ls' := [some (aR 11 (0)), some (aI (c)), some (aI (v))]) (st' := [aI (wr ((wr ((5) * (wr ((σ 13 (186) (18)) + (1))))) - (σ 13 (186) (wr ((19) + (c)))))), aI (v)]) (σ' := σ) rq_229 rfl ?_ (i' := 18) rfl ?_
    · show (0 ≤ (18) ∧ (18) < alen σ 13 (186)) ∧ (0 ≤ (wr ((19) + (c))) ∧ (wr ((19) + (c))) < alen σ 13 (186))
      (first | decide | exact Or.inl rfl | exact Or.inr rfl | ((try simp only [al_g, al_k, al_p, al_c, al_r, al_t, al_o, rl_g, rl_k, rl_p, rl_c, rl_r, rl_t, rl_o]); (try simp (disch := omega) only [wr_eq]); omega))
    refine wp_icmp rq_229 rfl (fun (h2 : (wr ((wr ((5) * (wr ((σ 13 (186) (18)) + (1))))) - (σ 13 (186) (wr ((19) + (c)))))) < (v)) => ?_) (fun (h2 : ¬ ((wr ((wr ((5) * (wr ((σ 13 (186) (18)) + (1))))) - (σ 13 (186) (wr ((19) + (c)))))) < (v))) => ?_)
    · refine wp_seg 1 (P := none) (ls' := [some (aR 11 (0)), some (aI (c)), some (aI (v))]) (st' := [aI (0)]) (σ' := σ) rq_229 rfl True.intro (i' := 22) rfl ?_
      refine wp_zret rq_229 rfl rt_229 ?_ ⟨?_, ?_⟩
      · first | exact Or.inl rfl | exact Or.inr rfl
      · (rw [zo_mfits, if_neg h1, if_pos h2]; try rfl)
      · rfl
    · refine wp_seg 1 (P := none) (ls' := [some (aR 11 (0)), some (aI (c)), some (aI (v))]) (st' := [aI (1)]) (σ' := σ) rq_229 rfl True.intro (i' := 20) rfl ?_
      refine wp_goto rq_229 rfl ?_
      refine wp_zret rq_229 rfl rt_229 ?_ ⟨?_, ?_⟩
      · first | exact Or.inl rfl | exact Or.inr rfl
      · (rw [zo_mfits, if_neg h1, if_neg h2]; try rfl)
      · rfl

def zo_mfences (l c : Int) (σ : Mem) : Int := if 3 ≤ (l) then (if 6 ≤ (l) then (if ¬ (l) = 6 then (if ¬ (l) = 7 then (if ¬ (c) = 0 then 2 else 3) else if ¬ (c) = 0 then 3 else 2) else if ¬ (c) = 0 then 1 else 1) else if ¬ (l) = 3 then (if ¬ (l) = 4 then (if ¬ (c) = 0 then 2 else 2) else if ¬ (c) = 0 then 1 else 3) else if ¬ (c) = 0 then 3 else 1) else if ¬ (l) = 0 then (if ¬ (l) = 1 then (if ¬ (c) = 0 then 1 else 2) else if ¬ (c) = 0 then 2 else 1) else if ¬ (c) = 0 then 3 else 3
theorem ev_mfences (l c : Int) (σ : Mem) : Ev true 226 [aI (l), aI (c)] σ (.inl (some (aI (zo_mfences l c σ)))) (σ) := by
  show wp true 226 0 [some (aI (l)), some (aI (c)), none] [] σ 0 0 _
  refine wp_seg 2 (P := none) (ls' := [some (aI (l)), some (aI (c)), none]) (st' := [aI (3), aI (l)]) (σ' := σ) rq_226 rfl True.intro (i' := 2) rfl ?_
  refine wp_icmp rq_226 rfl (fun (h1 : 3 ≤ (l)) => ?_) (fun (h1 : ¬ (3 ≤ (l))) => ?_)
  · refine wp_seg 2 (P := none) (ls' := [some (aI (l)), some (aI (c)), none]) (st' := [aI (6), aI (l)]) (σ' := σ) rq_226 rfl True.intro (i' := 16) rfl ?_
    refine wp_icmp rq_226 rfl (fun (h2 : 6 ≤ (l)) => ?_) (fun (h2 : ¬ (6 ≤ (l))) => ?_)
    · refine wp_seg 2 (P := none) (ls' := [some (aI (l)), some (aI (c)), none]) (st' := [aI (6), aI (l)]) (σ' := σ) rq_226 rfl True.intro (i' := 31) rfl ?_
      refine wp_icmp rq_226 rfl (fun (h3 : ¬ (l) = 6) => ?_) (fun (h3 : ¬ (¬ (l) = 6)) => ?_)
      · refine wp_seg 2 (P := none) (ls' := [some (aI (l)), some (aI (c)), none]) (st' := [aI (7), aI (l)]) (σ' := σ) rq_226 rfl True.intro (i' := 36) rfl ?_
        refine wp_icmp rq_226 rfl (fun (h4 : ¬ (l) = 7) => ?_) (fun (h4 : ¬ (¬ (l) = 7)) => ?_)
        · refine wp_seg 3 (P := none) (ls' := [some (aI (l)), some (aI (c)), some (aI (32))]) (st' := [aI (c)]) (σ' := σ) rq_226 rfl True.intro (i' := 42) rfl ?_
          refine wp_if rq_226 rfl (fun (h5 : ¬ (c) = 0) => ?_) (fun (h5 : ¬ (¬ (c) = 0)) => ?_)
          · refine wp_seg 3 (P := some ((10 : Int) ≠ 0)) (ls' := [some (aI (l)), some (aI (c)), some (aI (32))]) (st' := [aI (2)]) (σ' := σ) rq_226 rfl ?_ (i' := 50) rfl ?_
            · show (10 : Int) ≠ 0
              decide
            refine wp_iret rq_226 rfl rt_226 ⟨?_, ?_⟩
            · (rw [zo_mfences, if_pos h1, if_pos h2, if_pos h3, if_pos h4, if_pos h5]; try rfl)
            · rfl
          · refine wp_seg 3 (P := some ((10 : Int) ≠ 0)) (ls' := [some (aI (l)), some (aI (c)), some (aI (32))]) (st' := [aI (3)]) (σ' := σ) rq_226 rfl ?_ (i' := 46) rfl ?_
            · show (10 : Int) ≠ 0
              decide
            refine wp_goto rq_226 rfl ?_
            refine wp_iret rq_226 rfl rt_226 ⟨?_, ?_⟩
            · (rw [zo_mfences, if_pos h1, if_pos h2, if_pos h3, if_pos h4, if_neg h5]; try rfl)
            · rfl
        · refine wp_seg 1 (P := none) (ls' := [some (aI (l)), some (aI (c)), none]) (st' := [aI (23)]) (σ' := σ) rq_226 rfl True.intro (i' := 38) rfl ?_
          refine wp_goto rq_226 rfl ?_
          refine wp_seg 2 (P := none) (ls' := [some (aI (l)), some (aI (c)), some (aI (23))]) (st' := [aI (c)]) (σ' := σ) rq_226 rfl True.intro (i' := 42) rfl ?_
          refine wp_if rq_226 rfl (fun (h6 : ¬ (c) = 0) => ?_) (fun (h6 : ¬ (¬ (c) = 0)) => ?_)
          · refine wp_seg 3 (P := some ((10 : Int) ≠ 0)) (ls' := [some (aI (l)), some (aI (c)), some (aI (23))]) (st' := [aI (3)]) (σ' := σ) rq_226 rfl ?_ (i' := 50) rfl ?_
            · show (10 : Int) ≠ 0
              decide
            refine wp_iret rq_226 rfl rt_226 ⟨?_, ?_⟩
            · (rw [zo_mfences, if_pos h1, if_pos h2, if_pos h3, if_neg h4, if_pos h6]; try rfl)
            · rfl
          · refine wp_seg 3 (P := some ((10 : Int) ≠ 0)) (ls' := [some (aI (l)), some (aI (c)), some (aI (23))]) (st' := [aI (2)]) (σ' := σ) rq_226 rfl ?_ (i' := 46) rfl ?_
            · show (10 : Int) ≠ 0
              decide
            refine wp_goto rq_226 rfl ?_
            refine wp_iret rq_226 rfl rt_226 ⟨?_, ?_⟩
            · (rw [zo_mfences, if_pos h1, if_pos h2, if_pos h3, if_neg h4, if_neg h6]; try rfl)
            · rfl
      · refine wp_seg 1 (P := none) (ls' := [some (aI (l)), some (aI (c)), none]) (st' := [aI (11)]) (σ' := σ) rq_226 rfl True.intro (i' := 33) rfl ?_
        refine wp_goto rq_226 rfl ?_
        refine wp_seg 2 (P := none) (ls' := [some (aI (l)), some (aI (c)), some (aI (11))]) (st' := [aI (c)]) (σ' := σ) rq_226 rfl True.intro (i' := 42) rfl ?_
        refine wp_if rq_226 rfl (fun (h7 : ¬ (c) = 0) => ?_) (fun (h7 : ¬ (¬ (c) = 0)) => ?_)
        · refine wp_seg 3 (P := some ((10 : Int) ≠ 0)) (ls' := [some (aI (l)), some (aI (c)), some (aI (11))]) (st' := [aI (1)]) (σ' := σ) rq_226 rfl ?_ (i' := 50) rfl ?_
          · show (10 : Int) ≠ 0
            decide
          refine wp_iret rq_226 rfl rt_226 ⟨?_, ?_⟩
          · (rw [zo_mfences, if_pos h1, if_pos h2, if_neg h3, if_pos h7]; try rfl)
          · rfl
        · refine wp_seg 3 (P := some ((10 : Int) ≠ 0)) (ls' := [some (aI (l)), some (aI (c)), some (aI (11))]) (st' := [aI (1)]) (σ' := σ) rq_226 rfl ?_ (i' := 46) rfl ?_
          · show (10 : Int) ≠ 0
            decide
          refine wp_goto rq_226 rfl ?_
          refine wp_iret rq_226 rfl rt_226 ⟨?_, ?_⟩
          · (rw [zo_mfences, if_pos h1, if_pos h2, if_neg h3, if_neg h7]; try rfl)
          · rfl
    · refine wp_seg 2 (P := none) (ls' := [some (aI (l)), some (aI (c)), none]) (st' := [aI (3), aI (l)]) (σ' := σ) rq_226 rfl True.intro (i' := 19) rfl ?_
      refine wp_icmp rq_226 rfl (fun (h8 : ¬ (l) = 3) => ?_) (fun (h8 : ¬ (¬ (l) = 3)) => ?_)
      · refine wp_seg 2 (P := none) (ls' := [some (aI (l)), some (aI (c)), none]) (st' := [aI (4), aI (l)]) (σ' := σ) rq_226 rfl True.intro (i' := 24) rfl ?_
        refine wp_icmp rq_226 rfl (fun (h9 : ¬ (l) = 4) => ?_) (fun (h9 : ¬ (¬ (l) = 4)) => ?_)
        · refine wp_seg 1 (P := none) (ls' := [some (aI (l)), some (aI (c)), none]) (st' := [aI (22)]) (σ' := σ) rq_226 rfl True.intro (i' := 28) rfl ?_
          refine wp_goto rq_226 rfl ?_
          refine wp_seg 2 (P := none) (ls' := [some (aI (l)), some (aI (c)), some (aI (22))]) (st' := [aI (c)]) (σ' := σ) rq_226 rfl True.intro (i' := 42) rfl ?_
          refine wp_if rq_226 rfl (fun (h10 : ¬ (c) = 0) => ?_) (fun (h10 : ¬ (¬ (c) = 0)) => ?_)
          · refine wp_seg 3 (P := some ((10 : Int) ≠ 0)) (ls' := [some (aI (l)), some (aI (c)), some (aI (22))]) (st' := [aI (2)]) (σ' := σ) rq_226 rfl ?_ (i' := 50) rfl ?_
            · show (10 : Int) ≠ 0
              decide
            refine wp_iret rq_226 rfl rt_226 ⟨?_, ?_⟩
            · (rw [zo_mfences, if_pos h1, if_neg h2, if_pos h8, if_pos h9, if_pos h10]; try rfl)
            · rfl
          · refine wp_seg 3 (P := some ((10 : Int) ≠ 0)) (ls' := [some (aI (l)), some (aI (c)), some (aI (22))]) (st' := [aI (2)]) (σ' := σ) rq_226 rfl ?_ (i' := 46) rfl ?_
            · show (10 : Int) ≠ 0
              decide
            refine wp_goto rq_226 rfl ?_
            refine wp_iret rq_226 rfl rt_226 ⟨?_, ?_⟩
            · (rw [zo_mfences, if_pos h1, if_neg h2, if_pos h8, if_pos h9, if_neg h10]; try rfl)
            · rfl
        · refine wp_seg 1 (P := none) (ls' := [some (aI (l)), some (aI (c)), none]) (st' := [aI (31)]) (σ' := σ) rq_226 rfl True.intro (i' := 26) rfl ?_
          refine wp_goto rq_226 rfl ?_
          refine wp_seg 2 (P := none) (ls' := [some (aI (l)), some (aI (c)), some (aI (31))]) (st' := [aI (c)]) (σ' := σ) rq_226 rfl True.intro (i' := 42) rfl ?_
          refine wp_if rq_226 rfl (fun (h11 : ¬ (c) = 0) => ?_) (fun (h11 : ¬ (¬ (c) = 0)) => ?_)
          · refine wp_seg 3 (P := some ((10 : Int) ≠ 0)) (ls' := [some (aI (l)), some (aI (c)), some (aI (31))]) (st' := [aI (1)]) (σ' := σ) rq_226 rfl ?_ (i' := 50) rfl ?_
            · show (10 : Int) ≠ 0
              decide
            refine wp_iret rq_226 rfl rt_226 ⟨?_, ?_⟩
            · (rw [zo_mfences, if_pos h1, if_neg h2, if_pos h8, if_neg h9, if_pos h11]; try rfl)
            · rfl
          · refine wp_seg 3 (P := some ((10 : Int) ≠ 0)) (ls' := [some (aI (l)), some (aI (c)), some (aI (31))]) (st' := [aI (3)]) (σ' := σ) rq_226 rfl ?_ (i' := 46) rfl ?_
            · show (10 : Int) ≠ 0
              decide
            refine wp_goto rq_226 rfl ?_
            refine wp_iret rq_226 rfl rt_226 ⟨?_, ?_⟩
            · (rw [zo_mfences, if_pos h1, if_neg h2, if_pos h8, if_neg h9, if_neg h11]; try rfl)
            · rfl
      · refine wp_seg 1 (P := none) (ls' := [some (aI (l)), some (aI (c)), none]) (st' := [aI (13)]) (σ' := σ) rq_226 rfl True.intro (i' := 21) rfl ?_
        refine wp_goto rq_226 rfl ?_
        refine wp_seg 2 (P := none) (ls' := [some (aI (l)), some (aI (c)), some (aI (13))]) (st' := [aI (c)]) (σ' := σ) rq_226 rfl True.intro (i' := 42) rfl ?_
        refine wp_if rq_226 rfl (fun (h12 : ¬ (c) = 0) => ?_) (fun (h12 : ¬ (¬ (c) = 0)) => ?_)
        · refine wp_seg 3 (P := some ((10 : Int) ≠ 0)) (ls' := [some (aI (l)), some (aI (c)), some (aI (13))]) (st' := [aI (3)]) (σ' := σ) rq_226 rfl ?_ (i' := 50) rfl ?_
          · show (10 : Int) ≠ 0
            decide
          refine wp_iret rq_226 rfl rt_226 ⟨?_, ?_⟩
          · (rw [zo_mfences, if_pos h1, if_neg h2, if_neg h8, if_pos h12]; try rfl)
          · rfl
        · refine wp_seg 3 (P := some ((10 : Int) ≠ 0)) (ls' := [some (aI (l)), some (aI (c)), some (aI (13))]) (st' := [aI (1)]) (σ' := σ) rq_226 rfl ?_ (i' := 46) rfl ?_
          · show (10 : Int) ≠ 0
            decide
          refine wp_goto rq_226 rfl ?_
          refine wp_iret rq_226 rfl rt_226 ⟨?_, ?_⟩
          · (rw [zo_mfences, if_pos h1, if_neg h2, if_neg h8, if_neg h12]; try rfl)
          · rfl
  · refine wp_seg 1 (P := none) (ls' := [some (aI (l)), some (aI (c)), none]) (st' := [aI (l)]) (σ' := σ) rq_226 rfl True.intro (i' := 4) rfl ?_
    refine wp_if rq_226 rfl (fun (h13 : ¬ (l) = 0) => ?_) (fun (h13 : ¬ (¬ (l) = 0)) => ?_)
    · refine wp_seg 2 (P := none) (ls' := [some (aI (l)), some (aI (c)), none]) (st' := [aI (1), aI (l)]) (σ' := σ) rq_226 rfl True.intro (i' := 9) rfl ?_
      refine wp_icmp rq_226 rfl (fun (h14 : ¬ (l) = 1) => ?_) (fun (h14 : ¬ (¬ (l) = 1)) => ?_)
      · refine wp_seg 1 (P := none) (ls' := [some (aI (l)), some (aI (c)), none]) (st' := [aI (21)]) (σ' := σ) rq_226 rfl True.intro (i' := 13) rfl ?_
        refine wp_goto rq_226 rfl ?_
        refine wp_seg 2 (P := none) (ls' := [some (aI (l)), some (aI (c)), some (aI (21))]) (st' := [aI (c)]) (σ' := σ) rq_226 rfl True.intro (i' := 42) rfl ?_
        refine wp_if rq_226 rfl (fun (h15 : ¬ (c) = 0) => ?_) (fun (h15 : ¬ (¬ (c) = 0)) => ?_)
        · refine wp_seg 3 (P := some ((10 : Int) ≠ 0)) (ls' := [some (aI (l)), some (aI (c)), some (aI (21))]) (st' := [aI (1)]) (σ' := σ) rq_226 rfl ?_ (i' := 50) rfl ?_
          · show (10 : Int) ≠ 0
            decide
          refine wp_iret rq_226 rfl rt_226 ⟨?_, ?_⟩
          · (rw [zo_mfences, if_neg h1, if_pos h13, if_pos h14, if_pos h15]; try rfl)
          · rfl
        · refine wp_seg 3 (P := some ((10 : Int) ≠ 0)) (ls' := [some (aI (l)), some (aI (c)), some (aI (21))]) (st' := [aI (2)]) (σ' := σ) rq_226 rfl ?_ (i' := 46) rfl ?_
          · show (10 : Int) ≠ 0
            decide
          refine wp_goto rq_226 rfl ?_
          refine wp_iret rq_226 rfl rt_226 ⟨?_, ?_⟩
          · (rw [zo_mfences, if_neg h1, if_pos h13, if_pos h14, if_neg h15]; try rfl)
          · rfl
      · refine wp_seg 1 (P := none) (ls' := [some (aI (l)), some (aI (c)), none]) (st' := [aI (12)]) (σ' := σ) rq_226 rfl True.intro (i' := 11) rfl ?_
        refine wp_goto rq_226 rfl ?_
        refine wp_seg 2 (P := none) (ls' := [some (aI (l)), some (aI (c)), some (aI (12))]) (st' := [aI (c)]) (σ' := σ) rq_226 rfl True.intro (i' := 42) rfl ?_
        refine wp_if rq_226 rfl (fun (h16 : ¬ (c) = 0) => ?_) (fun (h16 : ¬ (¬ (c) = 0)) => ?_)
        · refine wp_seg 3 (P := some ((10 : Int) ≠ 0)) (ls' := [some (aI (l)), some (aI (c)), some (aI (12))]) (st' := [aI (2)]) (σ' := σ) rq_226 rfl ?_ (i' := 50) rfl ?_
          · show (10 : Int) ≠ 0
            decide
          refine wp_iret rq_226 rfl rt_226 ⟨?_, ?_⟩
          · (rw [zo_mfences, if_neg h1, if_pos h13, if_neg h14, if_pos h16]; try rfl)
          · rfl
        · refine wp_seg 3 (P := some ((10 : Int) ≠ 0)) (ls' := [some (aI (l)), some (aI (c)), some (aI (12))]) (st' := [aI (1)]) (σ' := σ) rq_226 rfl ?_ (i' := 46) rfl ?_
          · show (10 : Int) ≠ 0
            decide
          refine wp_goto rq_226 rfl ?_
          refine wp_iret rq_226 rfl rt_226 ⟨?_, ?_⟩
          · (rw [zo_mfences, if_neg h1, if_pos h13, if_neg h14, if_neg h16]; try rfl)
          · rfl
    · refine wp_seg 1 (P := none) (ls' := [some (aI (l)), some (aI (c)), none]) (st' := [aI (33)]) (σ' := σ) rq_226 rfl True.intro (i' := 6) rfl ?_
      refine wp_goto rq_226 rfl ?_
      refine wp_seg 2 (P := none) (ls' := [some (aI (l)), some (aI (c)), some (aI (33))]) (st' := [aI (c)]) (σ' := σ) rq_226 rfl True.intro (i' := 42) rfl ?_
      refine wp_if rq_226 rfl (fun (h17 : ¬ (c) = 0) => ?_) (fun (h17 : ¬ (¬ (c) = 0)) => ?_)
      · refine wp_seg 3 (P := some ((10 : Int) ≠ 0)) (ls' := [some (aI (l)), some (aI (c)), some (aI (33))]) (st' := [aI (3)]) (σ' := σ) rq_226 rfl ?_ (i' := 50) rfl ?_
        · show (10 : Int) ≠ 0
          decide
        refine wp_iret rq_226 rfl rt_226 ⟨?_, ?_⟩
        · (rw [zo_mfences, if_neg h1, if_neg h13, if_pos h17]; try rfl)
        · rfl
      · refine wp_seg 3 (P := some ((10 : Int) ≠ 0)) (ls' := [some (aI (l)), some (aI (c)), some (aI (33))]) (st' := [aI (3)]) (σ' := σ) rq_226 rfl ?_ (i' := 46) rfl ?_
        · show (10 : Int) ≠ 0
          decide
        refine wp_goto rq_226 rfl ?_
        refine wp_iret rq_226 rfl rt_226 ⟨?_, ?_⟩
        · (rw [zo_mfences, if_neg h1, if_neg h13, if_neg h17]; try rfl)
        · rfl

