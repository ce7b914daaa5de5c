/-! The model's queries over its counts. -/
theorem laid_g {σ : Mem} {k : Int} : laid σ 13 186 k = σ 13 186 k := wcn_g
theorem laid_11 {σ : Mem} {k : Int} : laid σ 11 0 k = σ 11 0 k := wcn_o (Or.inl (by decide))
theorem up6_gg {σ : Mem} {v k : Int} : up σ 11 0 6 v 13 186 k = σ 13 186 k := rfl
def zo_ybout (b w : Int) (σ : Mem) : Int := if 0 ≤ (b) ∧ (b) < σ 13 186 3 then (if (0) ≤ (w) ∧ (w) ≤ (8) then zo_mboutTold (b) (w) σ else 0) else 0
def zm_ybout (b w : Int) (σ : Mem) : Mem := if 0 ≤ (b) ∧ (b) < σ 13 186 3 then (if (0) ≤ (w) ∧ (w) ≤ (8) then (up σ 11 (0) 6 (0)) else (up σ 11 (0) 6 (2))) else (up σ 11 (0) 6 (1))
theorem ev_ybout (b w : Int) (σ : Mem) (hB : 0 ≤ σ 13 186 3 ∧ σ 13 186 3 ≤ 307) (hW : 0 ≤ b → b < σ 13 186 3 → mat σ b 5 < 2) : Ev true 186 [aR 11 (0), aI (b), aI (w)] σ (.inl (some (aI (zo_ybout b w σ)))) (zm_ybout b w σ) := by
  show wp true 186 0 [some (aR 11 (0)), some (aI (b)), some (aI (w))] [] σ 0 0 _
  refine wp_seg 3 (P := none) (ls' := [some (aR 11 (0)), some (aI (b)), some (aI (w))]) (st' := [aI (b), aR 11 (0), aR 11 (0)]) (σ' := σ) rq_186 rfl True.intro (i' := 3) rfl ?_
  by_cases h1 : 0 ≤ (b) ∧ (b) < σ 13 186 3
  · refine wp_call (C := 11) (As := [aR 11 (0), aI (b)]) (rest := [aR 11 (0)]) rq_186 (ev_misBout_y (b) σ (by exact hB) h1) rfl rfl (show clOK 186 156 0 0 0 2 11 = true by decide +kernel) rfl (show 1 ≤ 4 by decide) (fun _ => ⟨_, rfl⟩) rfl (c' := 0) (s' := 0) rfl rfl ?_
    refine wp_if rq_186 rfl (fun (h2 : (1 : Int) = (0 : Int)) => absurd h2 (show ¬ ((1 : Int) = (0 : Int)) from by decide)) (fun _ => ?_)
    refine wp_seg 3 (P := none) (ls' := [some (aR 11 (0)), some (aI (b)), some (aI (w))]) (st' := [aI (8), aI (0), aI (w), aR 11 (0)]) (σ' := σ) rq_186 rfl True.intro (i' := 8) rfl ?_
    by_cases h3 : (0) ≤ (w) ∧ (w) ≤ (8)
    · refine wp_call (C := 0) (As := [aI (w), aI (0), aI (8)]) (rest := [aR 11 (0)]) rq_186 (ev_min_y (w) (0) (8) σ  h3) rfl rfl (show clOK 186 154 2 0 0 3 0 = true by decide +kernel) rfl (show 1 ≤ 4 by decide) (fun h => absurd rfl h) rfl (c' := 0) (s' := 0) rfl rfl ?_
      refine wp_if rq_186 rfl (fun (h4 : (1 : Int) = (0 : Int)) => absurd h4 (show ¬ ((1 : Int) = (0 : Int)) from by decide)) (fun _ => ?_)
      refine wp_seg 1 (P := none) (ls' := [some (aR 11 (0)), some (aI (b)), some (aI (w))]) (st' := [aI (0), aR 11 (0)]) (σ' := σ) rq_186 rfl True.intro (i' := 11) rfl ?_
      refine wp_goto rq_186 rfl ?_
      refine wp_seg 3 (P := none) (ls' := [some (aR 11 (0)), some (aI (b)), some (aI (w))]) (st' := [aI (0)]) (σ' := (up σ 11 (0) 6 (0))) rq_186 rfl True.intro (i' := 18) rfl ?_
      refine wp_if rq_186 rfl (fun _ => ?_) (fun (h5 : ¬ ((0 : Int) ≤ (0 : Int))) => absurd (show (0 : Int) ≤ (0 : Int) from by decide) h5)
      refine wp_seg 3 (P := none) (ls' := [some (aR 11 (0)), some (aI (b)), some (aI (w))]) (st' := [aI (w), aI (b), aR 11 (0)]) (σ' := (up σ 11 (0) 6 (0))) rq_186 rfl True.intro (i' := 24) rfl ?_
      refine wp_call (C := 11) (As := [aR 11 (0), aI (b), aI (w)]) (rest := []) rq_186 (ev_mboutTold (b) (w) (up σ 11 (0) 6 (0)) (by omega) (by omega) (by exact hW (by omega) (by omega))) rfl rfl (show clOK 186 185 0 0 0 3 11 = true by decide +kernel) rfl (show 0 ≤ 4 by decide) (fun _ => ⟨_, rfl⟩) rfl (c' := 0) (s' := 0) rfl rfl ?_
      refine wp_iret rq_186 rfl rt_186 ⟨?_, ?_⟩
      · (rw [zo_ybout, if_pos h1, if_pos h3]; try rfl)
      · (rw [zm_ybout, if_pos h1, if_pos h3]; try rfl)
    · refine wp_call (C := 0) (As := [aI (w), aI (0), aI (8)]) (rest := [aR 11 (0)]) rq_186 (ev_min_n (w) (0) (8) σ  h3) rfl rfl (show clOK 186 154 2 0 0 3 0 = true by decide +kernel) rfl (show 1 ≤ 4 by decide) (fun h => absurd rfl h) rfl (c' := 0) (s' := 0) rfl rfl ?_
      refine wp_if rq_186 rfl (fun _ => ?_) (fun (h6 : ¬ ((0 : Int) = (0 : Int))) => absurd (show (0 : Int) = (0 : Int) from by decide) h6)
      refine wp_seg 1 (P := none) (ls' := [some (aR 11 (0)), some (aI (b)), some (aI (w))]) (st' := [aI (2), aR 11 (0)]) (σ' := σ) rq_186 rfl True.intro (i' := 13) rfl ?_
      refine wp_goto rq_186 rfl ?_
      refine wp_seg 3 (P := none) (ls' := [some (aR 11 (0)), some (aI (b)), some (aI (w))]) (st' := [aI (2)]) (σ' := (up σ 11 (0) 6 (2))) rq_186 rfl True.intro (i' := 18) rfl ?_
      refine wp_if rq_186 rfl (fun (h7 : (2 : Int) ≤ (0 : Int)) => absurd h7 (show ¬ ((2 : Int) ≤ (0 : Int)) from by decide)) (fun _ => ?_)
      refine wp_seg 1 (P := none) (ls' := [some (aR 11 (0)), some (aI (b)), some (aI (w))]) (st' := [aI (0)]) (σ' := (up σ 11 (0) 6 (2))) rq_186 rfl True.intro (i' := 20) rfl ?_
      refine wp_goto rq_186 rfl ?_
      refine wp_iret rq_186 rfl rt_186 ⟨?_, ?_⟩
      · (rw [zo_ybout, if_pos h1, if_neg h3]; try rfl)
      · (rw [zm_ybout, if_pos h1, if_neg h3]; try rfl)
  · refine wp_call (C := 11) (As := [aR 11 (0), aI (b)]) (rest := [aR 11 (0)]) rq_186 (ev_misBout_n (b) σ (by exact hB) h1) rfl rfl (show clOK 186 156 0 0 0 2 11 = true by decide +kernel) rfl (show 1 ≤ 4 by decide) (fun _ => ⟨_, rfl⟩) rfl (c' := 0) (s' := 0) rfl rfl ?_
    refine wp_if rq_186 rfl (fun _ => ?_) (fun (h8 : ¬ ((0 : Int) = (0 : Int))) => absurd (show (0 : Int) = (0 : Int) from by decide) h8)
    refine wp_seg 4 (P := none) (ls' := [some (aR 11 (0)), some (aI (b)), some (aI (w))]) (st' := [aI (1)]) (σ' := (up σ 11 (0) 6 (1))) rq_186 rfl True.intro (i' := 18) rfl ?_
    refine wp_if rq_186 rfl (fun (h9 : (1 : Int) ≤ (0 : Int)) => absurd h9 (show ¬ ((1 : Int) ≤ (0 : Int)) from by decide)) (fun _ => ?_)
    refine wp_seg 1 (P := none) (ls' := [some (aR 11 (0)), some (aI (b)), some (aI (w))]) (st' := [aI (0)]) (σ' := (up σ 11 (0) 6 (1))) rq_186 rfl True.intro (i' := 20) rfl ?_
    refine wp_goto rq_186 rfl ?_
    refine wp_iret rq_186 rfl rt_186 ⟨?_, ?_⟩
    · (rw [zo_ybout, if_neg h1]; try rfl)
    · (rw [zm_ybout, if_neg h1]; try rfl)

def zo_yresult (f w : Int) (σ : Mem) : Int := if 0 ≤ (f) ∧ (f) < σ 13 186 1 then (if (0) ≤ (w) ∧ (w) ≤ (4) then (if 4 ≤ (w) then zo_mindicator (f) (laid (up σ 11 (0) 6 (0))) else (laid (up σ 11 (0) 6 (0))) 13 (189) (wr ((wr ((4) * (f))) + (w)))) else 0) else 0
def zm_yresult (f w : Int) (σ : Mem) : Mem := if 0 ≤ (f) ∧ (f) < σ 13 186 1 then (if (0) ≤ (w) ∧ (w) ≤ (4) then (if 4 ≤ (w) then (laid (up σ 11 (0) 6 (0))) else (laid (up σ 11 (0) 6 (0)))) else (up σ 11 (0) 6 (2))) else (up σ 11 (0) 6 (1))
theorem ev_yresult (f w : Int) (σ : Mem) (hF : 0 ≤ σ 13 186 1 ∧ σ 13 186 1 ≤ 24) (hLay : LayOK σ) : Ev true 206 [aR 11 (0), aI (f), aI (w)] σ (.inl (some (aI (zo_yresult f w σ)))) (zm_yresult f w σ) := by
  show wp true 206 0 [some (aR 11 (0)), some (aI (f)), some (aI (w))] [] σ 0 0 _
  refine wp_seg 3 (P := none) (ls' := [some (aR 11 (0)), some (aI (f)), some (aI (w))]) (st' := [aI (f), aR 11 (0), aR 11 (0)]) (σ' := σ) rq_206 rfl True.intro (i' := 3) rfl ?_
  by_cases h1 : 0 ≤ (f) ∧ (f) < σ 13 186 1
  · refine wp_call (C := 11) (As := [aR 11 (0), aI (f)]) (rest := [aR 11 (0)]) rq_206 (ev_misFencer_y (f) σ (by exact hF) h1) rfl rfl (show clOK 206 155 0 0 0 2 11 = true by decide +kernel) rfl (show 1 ≤ 4 by decide) (fun _ => ⟨_, rfl⟩) rfl (c' := 0) (s' := 0) rfl rfl ?_
    refine wp_if rq_206 rfl (fun (h2 : (1 : Int) = (0 : Int)) => absurd h2 (show ¬ ((1 : Int) = (0 : Int)) from by decide)) (fun _ => ?_)
    refine wp_seg 3 (P := none) (ls' := [some (aR 11 (0)), some (aI (f)), some (aI (w))]) (st' := [aI (4), aI (0), aI (w), aR 11 (0)]) (σ' := σ) rq_206 rfl True.intro (i' := 8) rfl ?_
    by_cases h3 : (0) ≤ (w) ∧ (w) ≤ (4)
    · refine wp_call (C := 0) (As := [aI (w), aI (0), aI (4)]) (rest := [aR 11 (0)]) rq_206 (ev_min_y (w) (0) (4) σ  h3) rfl rfl (show clOK 206 154 2 0 0 3 0 = true by decide +kernel) rfl (show 1 ≤ 4 by decide) (fun h => absurd rfl h) rfl (c' := 0) (s' := 0) rfl rfl ?_
      refine wp_if rq_206 rfl (fun (h4 : (1 : Int) = (0 : Int)) => absurd h4 (show ¬ ((1 : Int) = (0 : Int)) from by decide)) (fun _ => ?_)
      refine wp_seg 1 (P := none) (ls' := [some (aR 11 (0)), some (aI (f)), some (aI (w))]) (st' := [aI (0), aR 11 (0)]) (σ' := σ) rq_206 rfl True.intro (i' := 11) rfl ?_
      refine wp_goto rq_206 rfl ?_
      refine wp_seg 3 (P := none) (ls' := [some (aR 11 (0)), some (aI (f)), some (aI (w))]) (st' := [aI (0)]) (σ' := (up σ 11 (0) 6 (0))) rq_206 rfl True.intro (i' := 18) rfl ?_
      refine wp_if rq_206 rfl (fun _ => ?_) (fun (h5 : ¬ ((0 : Int) ≤ (0 : Int))) => absurd (show (0 : Int) ≤ (0 : Int) from by decide) h5)
      refine wp_seg 1 (P := none) (ls' := [some (aR 11 (0)), some (aI (f)), some (aI (w))]) (st' := [aR 11 (0)]) (σ' := (up σ 11 (0) 6 (0))) rq_206 rfl True.intro (i' := 22) rfl ?_
      refine wp_call (C := 11) (As := [aR 11 (0)]) (rest := []) rq_206 (ev_mlays (up σ 11 (0) 6 (0)) hLay) rfl rfl (show clOK 206 204 0 0 0 1 11 = true by decide +kernel) rfl (show 0 ≤ 4 by decide) (fun _ => ⟨_, rfl⟩) rfl (c' := 0) (s' := 0) rfl rfl ?_
      refine wp_seg 2 (P := none) (ls' := [some (aR 11 (0)), some (aI (f)), some (aI (w))]) (st' := [aI (4), aI (w)]) (σ' := (laid (up σ 11 (0) 6 (0)))) rq_206 rfl True.intro (i' := 25) rfl ?_
      refine wp_icmp rq_206 rfl (fun (h6 : 4 ≤ (w)) => ?_) (fun (h6 : ¬ (4 ≤ (w))) => ?_)
      · refine wp_seg 2 (P := none) (ls' := [some (aR 11 (0)), some (aI (f)), some (aI (w))]) (st' := [aI (f), aR 11 (0)]) (σ' := (laid (up σ 11 (0) 6 (0)))) rq_206 rfl True.intro (i' := 37) rfl ?_
        refine wp_call (C := 11) (As := [aR 11 (0), aI (f)]) (rest := []) rq_206 (ev_mindicator (f) (laid (up σ 11 (0) 6 (0))) (by omega)) rfl rfl (show clOK 206 205 0 0 0 2 11 = true by decide +kernel) rfl (show 0 ≤ 4 by decide) (fun _ => ⟨_, rfl⟩) rfl (c' := 0) (s' := 0) rfl rfl ?_
        refine wp_iret rq_206 rfl rt_206 ⟨?_, ?_⟩
        · (rw [zo_yresult, if_pos h1, if_pos h3, if_pos h6]; try rfl)
        · (rw [zm_yresult, if_pos h1, if_pos h3, if_pos h6]; try rfl)
      · refine wp_seg 8 (P := some (0 ≤ (wr ((wr ((4) * (f))) + (w))) ∧ (wr ((wr ((4) * (f))) + (w))) < alen (laid (up σ 11 (0) 6 (0))) 13 (189))) (ls' := [some (aR 11 (0)), some (aI (f)), some (aI (w))]) (st' := [aI ((laid (up σ 11 (0) 6 (0))) 13 (189) (wr ((wr ((4) * (f))) + (w))))]) (σ' := (laid (up σ 11 (0) 6 (0)))) rq_206 rfl ?_ (i' := 34) rfl ?_
        · show 0 ≤ (wr ((wr ((4) * (f))) + (w))) ∧ (wr ((wr ((4) * (f))) + (w))) < alen (laid (up σ 11 (0) 6 (0))) 13 (189)
          (first | decide | exact Or.inl rfl | exact Or.inr rfl | ((try simp only [al_g, al_k, al_p, al_c, al_r, al_t, al_o, rl_g, rl_k, rl_p, rl_c, rl_r, rl_t, rl_o]); (try simp (disch := omega) only [wr_eq]); omega))
        refine wp_goto rq_206 rfl ?_
        refine wp_iret rq_206 rfl rt_206 ⟨?_, ?_⟩
        · (rw [zo_yresult, if_pos h1, if_pos h3, if_neg h6]; try rfl)
        · (rw [zm_yresult, if_pos h1, if_pos h3, if_neg h6]; try rfl)
    · refine wp_call (C := 0) (As := [aI (w), aI (0), aI (4)]) (rest := [aR 11 (0)]) rq_206 (ev_min_n (w) (0) (4) σ  h3) rfl rfl (show clOK 206 154 2 0 0 3 0 = true by decide +kernel) rfl (show 1 ≤ 4 by decide) (fun h => absurd rfl h) rfl (c' := 0) (s' := 0) rfl rfl ?_
      refine wp_if rq_206 rfl (fun _ => ?_) (fun (h7 : ¬ ((0 : Int) = (0 : Int))) => absurd (show (0 : Int) = (0 : Int) from by decide) h7)
      refine wp_seg 1 (P := none) (ls' := [some (aR 11 (0)), some (aI (f)), some (aI (w))]) (st' := [aI (2), aR 11 (0)]) (σ' := σ) rq_206 rfl True.intro (i' := 13) rfl ?_
      refine wp_goto rq_206 rfl ?_
      refine wp_seg 3 (P := none) (ls' := [some (aR 11 (0)), some (aI (f)), some (aI (w))]) (st' := [aI (2)]) (σ' := (up σ 11 (0) 6 (2))) rq_206 rfl True.intro (i' := 18) rfl ?_
      refine wp_if rq_206 rfl (fun (h8 : (2 : Int) ≤ (0 : Int)) => absurd h8 (show ¬ ((2 : Int) ≤ (0 : Int)) from by decide)) (fun _ => ?_)
      refine wp_seg 1 (P := none) (ls' := [some (aR 11 (0)), some (aI (f)), some (aI (w))]) (st' := [aI (0)]) (σ' := (up σ 11 (0) 6 (2))) rq_206 rfl True.intro (i' := 20) rfl ?_
      refine wp_iret rq_206 rfl rt_206 ⟨?_, ?_⟩
      · (rw [zo_yresult, if_pos h1, if_neg h3]; try rfl)
      · (rw [zm_yresult, if_pos h1, if_neg h3]; try rfl)
  · refine wp_call (C := 11) (As := [aR 11 (0), aI (f)]) (rest := [aR 11 (0)]) rq_206 (ev_misFencer_n (f) σ (by exact hF) h1) rfl rfl (show clOK 206 155 0 0 0 2 11 = true by decide +kernel) rfl (show 1 ≤ 4 by decide) (fun _ => ⟨_, rfl⟩) rfl (c' := 0) (s' := 0) rfl rfl ?_
    refine wp_if rq_206 rfl (fun _ => ?_) (fun (h9 : ¬ ((0 : Int) = (0 : Int))) => absurd (show (0 : Int) = (0 : Int) from by decide) h9)
    refine wp_seg 4 (P := none) (ls' := [some (aR 11 (0)), some (aI (f)), some (aI (w))]) (st' := [aI (1)]) (σ' := (up σ 11 (0) 6 (1))) rq_206 rfl True.intro (i' := 18) rfl ?_
    refine wp_if rq_206 rfl (fun (h10 : (1 : Int) ≤ (0 : Int)) => absurd h10 (show ¬ ((1 : Int) ≤ (0 : Int)) from by decide)) (fun _ => ?_)
    refine wp_seg 1 (P := none) (ls' := [some (aR 11 (0)), some (aI (f)), some (aI (w))]) (st' := [aI (0)]) (σ' := (up σ 11 (0) 6 (1))) rq_206 rfl True.intro (i' := 20) rfl ?_
    refine wp_iret rq_206 rfl rt_206 ⟨?_, ?_⟩
    · (rw [zo_yresult, if_neg h1]; try rfl)
    · (rw [zm_yresult, if_neg h1]; try rfl)

def zo_yranked (x : Int) (σ : Mem) : Int := if 0 ≤ (fnd (fp_mrankedAt (x) (laid σ)) (0) ((laid σ) 13 (186) (1))) then fnd (fp_mrankedAt (x) (laid σ)) (0) ((laid σ) 13 (186) (1)) else 0
def zm_yranked (x : Int) (σ : Mem) : Mem := if 0 ≤ (fnd (fp_mrankedAt (x) (laid σ)) (0) ((laid σ) 13 (186) (1))) then (up (laid σ) 11 (0) 6 (0)) else (up (laid σ) 11 (0) 6 (1))
theorem ev_yranked (x : Int) (σ : Mem) (hF : 0 ≤ σ 13 186 1 ∧ σ 13 186 1 ≤ 24) (hLay : LayOK σ) : Ev true 211 [aR 11 (0), aI (x)] σ (.inl (some (aI (zo_yranked x σ)))) (zm_yranked x σ) := by
  show wp true 211 0 [some (aR 11 (0)), some (aI (x)), none] [] σ 0 0 _
  refine wp_seg 1 (P := none) (ls' := [some (aR 11 (0)), some (aI (x)), none]) (st' := [aR 11 (0)]) (σ' := σ) rq_211 rfl True.intro (i' := 1) rfl ?_
  refine wp_call (C := 11) (As := [aR 11 (0)]) (rest := []) rq_211 (ev_mlays σ hLay) rfl rfl (show clOK 211 204 0 0 0 1 11 = true by decide +kernel) rfl (show 0 ≤ 4 by decide) (fun _ => ⟨_, rfl⟩) rfl (c' := 0) (s' := 0) rfl rfl ?_
  refine wp_seg 2 (P := none) (ls' := [some (aR 11 (0)), some (aI (x)), none]) (st' := [aI (x), aR 11 (0)]) (σ' := (laid σ)) rq_211 rfl True.intro (i' := 4) rfl ?_
  refine wp_call (C := 11) (As := [aR 11 (0), aI (x)]) (rest := []) rq_211 (ev_mrankedAt (x) (laid σ) (by (first | omega | (simp only [laid_g, up6_gg]; omega) | (simp only [laid_g, up6_gg] at *; omega)))) rfl rfl (show clOK 211 210 0 0 0 2 11 = true by decide +kernel) rfl (show 0 ≤ 4 by decide) (fun _ => ⟨_, rfl⟩) rfl (c' := 0) (s' := 0) rfl rfl ?_
  refine wp_seg 3 (P := none) (ls' := [some (aR 11 (0)), some (aI (x)), some (aI (fnd (fp_mrankedAt (x) (laid σ)) (0) ((laid σ) 13 (186) (1))))]) (st' := [aI (fnd (fp_mrankedAt (x) (laid σ)) (0) ((laid σ) 13 (186) (1))), aR 11 (0)]) (σ' := (laid σ)) rq_211 rfl True.intro (i' := 8) rfl ?_
  refine wp_if rq_211 rfl (fun (h1 : 0 ≤ (fnd (fp_mrankedAt (x) (laid σ)) (0) ((laid σ) 13 (186) (1)))) => ?_) (fun (h1 : ¬ (0 ≤ (fnd (fp_mrankedAt (x) (laid σ)) (0) ((laid σ) 13 (186) (1))))) => ?_)
  · refine wp_seg 4 (P := none) (ls' := [some (aR 11 (0)), some (aI (x)), some (aI (fnd (fp_mrankedAt (x) (laid σ)) (0) ((laid σ) 13 (186) (1))))]) (st' := [aI (0)]) (σ' := (up (laid σ) 11 (0) 6 (0))) rq_211 rfl True.intro (i' := 15) rfl ?_
    refine wp_if rq_211 rfl (fun _ => ?_) (fun (h2 : ¬ ((0 : Int) ≤ (0 : Int))) => absurd (show (0 : Int) ≤ (0 : Int) from by decide) h2)
    refine wp_seg 1 (P := none) (ls' := [some (aR 11 (0)), some (aI (x)), some (aI (fnd (fp_mrankedAt (x) (laid σ)) (0) ((laid σ) 13 (186) (1))))]) (st' := [aI (fnd (fp_mrankedAt (x) (laid σ)) (0) ((laid σ) 13 (186) (1)))]) (σ' := (up (laid σ) 11 (0) 6 (0))) rq_211 rfl True.intro (i' := 19) rfl ?_
    refine wp_iret rq_211 rfl rt_211 ⟨?_, ?_⟩
    · (rw [zo_yranked, if_pos h1]; try rfl)
    · (rw [zm_yranked, if_pos h1]; try rfl)
  · refine wp_seg 1 (P := none) (ls' := [some (aR 11 (0)), some (aI (x)), some (aI (fnd (fp_mrankedAt (x) (laid σ)) (0) ((laid σ) 13 (186) (1))))]) (st' := [aI (1), aR 11 (0)]) (σ' := (laid σ)) rq_211 rfl True.intro (i' := 10) rfl ?_
    refine wp_goto rq_211 rfl ?_
    refine wp_seg 3 (P := none) (ls' := [some (aR 11 (0)), some (aI (x)), some (aI (fnd (fp_mrankedAt (x) (laid σ)) (0) ((laid σ) 13 (186) (1))))]) (st' := [aI (1)]) (σ' := (up (laid σ) 11 (0) 6 (1))) rq_211 rfl True.intro (i' := 15) rfl ?_
    refine wp_if rq_211 rfl (fun (h3 : (1 : Int) ≤ (0 : Int)) => absurd h3 (show ¬ ((1 : Int) ≤ (0 : Int)) from by decide)) (fun _ => ?_)
    refine wp_seg 1 (P := none) (ls' := [some (aR 11 (0)), some (aI (x)), some (aI (fnd (fp_mrankedAt (x) (laid σ)) (0) ((laid σ) 13 (186) (1))))]) (st' := [aI (0)]) (σ' := (up (laid σ) 11 (0) 6 (1))) rq_211 rfl True.intro (i' := 17) rfl ?_
    refine wp_goto rq_211 rfl ?_
    refine wp_iret rq_211 rfl rt_211 ⟨?_, ?_⟩
    · (rw [zo_yranked, if_neg h1]; try rfl)
    · (rw [zm_yranked, if_neg h1]; try rfl)

def zo_yplace (f : Int) (σ : Mem) : Int := if 0 ≤ (f) ∧ (f) < σ 13 186 1 then (if ¬ (mof σ (f) (2)) = 1 then wr (sumTo (fo_mplaceOf (f) (laid (up σ 11 (0) 6 (0)))) ((laid (up σ 11 (0) 6 (0))) 13 (186) (1))) else 0) else 0
def zm_yplace (f : Int) (σ : Mem) : Mem := if 0 ≤ (f) ∧ (f) < σ 13 186 1 then (if ¬ (mof σ (f) (2)) = 1 then (laid (up σ 11 (0) 6 (0))) else (up σ 11 (0) 6 (2))) else (up σ 11 (0) 6 (1))
theorem ev_yplace (f : Int) (σ : Mem) (hF : 0 ≤ σ 13 186 1 ∧ σ 13 186 1 ≤ 24) (hLay : LayOK σ) : Ev true 212 [aR 11 (0), aI (f)] σ (.inl (some (aI (zo_yplace f σ)))) (zm_yplace f σ) := by
  show wp true 212 0 [some (aR 11 (0)), some (aI (f))] [] σ 0 0 _
  refine wp_seg 3 (P := none) (ls' := [some (aR 11 (0)), some (aI (f))]) (st' := [aI (f), aR 11 (0), aR 11 (0)]) (σ' := σ) rq_212 rfl True.intro (i' := 3) rfl ?_
  by_cases h1 : 0 ≤ (f) ∧ (f) < σ 13 186 1
  · refine wp_call (C := 11) (As := [aR 11 (0), aI (f)]) (rest := [aR 11 (0)]) rq_212 (ev_misFencer_y (f) σ (by exact hF) h1) rfl rfl (show clOK 212 155 0 0 0 2 11 = true by decide +kernel) rfl (show 1 ≤ 4 by decide) (fun _ => ⟨_, rfl⟩) rfl (c' := 0) (s' := 0) rfl rfl ?_
    refine wp_if rq_212 rfl (fun (h2 : (1 : Int) = (0 : Int)) => absurd h2 (show ¬ ((1 : Int) = (0 : Int)) from by decide)) (fun _ => ?_)
    refine wp_seg 3 (P := none) (ls' := [some (aR 11 (0)), some (aI (f))]) (st' := [aI (2), aI (f), aR 11 (0), aR 11 (0)]) (σ' := σ) rq_212 rfl True.intro (i' := 8) rfl ?_
    refine wp_call (C := 11) (As := [aR 11 (0), aI (f), aI (2)]) (rest := [aR 11 (0)]) rq_212 (ev_mof (f) (2) σ (by omega) (by omega)) rfl rfl (show clOK 212 157 0 0 0 3 11 = true by decide +kernel) rfl (show 1 ≤ 4 by decide) (fun _ => ⟨_, rfl⟩) rfl (c' := 0) (s' := 0) rfl rfl ?_
    refine wp_seg 1 (P := none) (ls' := [some (aR 11 (0)), some (aI (f))]) (st' := [aI (1), aI (mof σ (f) (2)), aR 11 (0)]) (σ' := σ) rq_212 rfl True.intro (i' := 10) rfl ?_
    refine wp_icmp rq_212 rfl (fun (h3 : ¬ (mof σ (f) (2)) = 1) => ?_) (fun (h3 : ¬ (¬ (mof σ (f) (2)) = 1)) => ?_)
    · refine wp_seg 1 (P := none) (ls' := [some (aR 11 (0)), some (aI (f))]) (st' := [aI (0), aR 11 (0)]) (σ' := σ) rq_212 rfl True.intro (i' := 14) rfl ?_
      refine wp_goto rq_212 rfl ?_
      refine wp_seg 3 (P := none) (ls' := [some (aR 11 (0)), some (aI (f))]) (st' := [aI (0)]) (σ' := (up σ 11 (0) 6 (0))) rq_212 rfl True.intro (i' := 19) rfl ?_
      refine wp_if rq_212 rfl (fun _ => ?_) (fun (h4 : ¬ ((0 : Int) ≤ (0 : Int))) => absurd (show (0 : Int) ≤ (0 : Int) from by decide) h4)
      refine wp_seg 1 (P := none) (ls' := [some (aR 11 (0)), some (aI (f))]) (st' := [aR 11 (0)]) (σ' := (up σ 11 (0) 6 (0))) rq_212 rfl True.intro (i' := 23) rfl ?_
      refine wp_call (C := 11) (As := [aR 11 (0)]) (rest := []) rq_212 (ev_mlays (up σ 11 (0) 6 (0)) hLay) rfl rfl (show clOK 212 204 0 0 0 1 11 = true by decide +kernel) rfl (show 0 ≤ 4 by decide) (fun _ => ⟨_, rfl⟩) rfl (c' := 0) (s' := 0) rfl rfl ?_
      refine wp_seg 2 (P := none) (ls' := [some (aR 11 (0)), some (aI (f))]) (st' := [aI (f), aR 11 (0)]) (σ' := (laid (up σ 11 (0) 6 (0)))) rq_212 rfl True.intro (i' := 26) rfl ?_
      refine wp_call (C := 11) (As := [aR 11 (0), aI (f)]) (rest := []) rq_212 (ev_mplaceOf (f) (laid (up σ 11 (0) 6 (0))) (by (first | omega | (simp only [laid_g, up6_gg]; omega) | (simp only [laid_g, up6_gg] at *; omega))) (by omega)) rfl rfl (show clOK 212 209 0 0 0 2 11 = true by decide +kernel) rfl (show 0 ≤ 4 by decide) (fun _ => ⟨_, rfl⟩) rfl (c' := 0) (s' := 0) rfl rfl ?_
      refine wp_iret rq_212 rfl rt_212 ⟨?_, ?_⟩
      · (rw [zo_yplace, if_pos h1, if_pos h3]; try rfl)
      · (rw [zm_yplace, if_pos h1, if_pos h3]; try rfl)
    · refine wp_seg 1 (P := none) (ls' := [some (aR 11 (0)), some (aI (f))]) (st' := [aI (2), aR 11 (0)]) (σ' := σ) rq_212 rfl True.intro (i' := 12) rfl ?_
      refine wp_goto rq_212 rfl ?_
      refine wp_seg 3 (P := none) (ls' := [some (aR 11 (0)), some (aI (f))]) (st' := [aI (2)]) (σ' := (up σ 11 (0) 6 (2))) rq_212 rfl True.intro (i' := 19) rfl ?_
      refine wp_if rq_212 rfl (fun (h5 : (2 : Int) ≤ (0 : Int)) => absurd h5 (show ¬ ((2 : Int) ≤ (0 : Int)) from by decide)) (fun _ => ?_)
      refine wp_seg 1 (P := none) (ls' := [some (aR 11 (0)), some (aI (f))]) (st' := [aI (0)]) (σ' := (up σ 11 (0) 6 (2))) rq_212 rfl True.intro (i' := 21) rfl ?_
      refine wp_iret rq_212 rfl rt_212 ⟨?_, ?_⟩
      · (rw [zo_yplace, if_pos h1, if_neg h3]; try rfl)
      · (rw [zm_yplace, if_pos h1, if_neg h3]; try rfl)
  · refine wp_call (C := 11) (As := [aR 11 (0), aI (f)]) (rest := [aR 11 (0)]) rq_212 (ev_misFencer_n (f) σ (by exact hF) h1) rfl rfl (show clOK 212 155 0 0 0 2 11 = true by decide +kernel) rfl (show 1 ≤ 4 by decide) (fun _ => ⟨_, rfl⟩) rfl (c' := 0) (s' := 0) rfl rfl ?_
    refine wp_if rq_212 rfl (fun _ => ?_) (fun (h6 : ¬ ((0 : Int) = (0 : Int))) => absurd (show (0 : Int) = (0 : Int) from by decide) h6)
    refine wp_seg 4 (P := none) (ls' := [some (aR 11 (0)), some (aI (f))]) (st' := [aI (1)]) (σ' := (up σ 11 (0) 6 (1))) rq_212 rfl True.intro (i' := 19) rfl ?_
    refine wp_if rq_212 rfl (fun (h7 : (1 : Int) ≤ (0 : Int)) => absurd h7 (show ¬ ((1 : Int) ≤ (0 : Int)) from by decide)) (fun _ => ?_)
    refine wp_seg 1 (P := none) (ls' := [some (aR 11 (0)), some (aI (f))]) (st' := [aI (0)]) (σ' := (up σ 11 (0) 6 (1))) rq_212 rfl True.intro (i' := 21) rfl ?_
    refine wp_iret rq_212 rfl rt_212 ⟨?_, ?_⟩
    · (rw [zo_yplace, if_neg h1]; try rfl)
    · (rw [zm_yplace, if_neg h1]; try rfl)

def zo_ywhy (x y : Int) (σ : Mem) : Int := if 0 ≤ (x) ∧ (x) < σ 13 186 1 then (if 0 ≤ (y) ∧ (y) < σ 13 186 1 then (if (x) = (y) then 0 else if (mof σ (x) (2)) = 1 then 0 else if ¬ (mof σ (y) (2)) = 1 then zo_morder (x) (y) (laid (up σ 11 (0) 6 (0))) else 0) else 0) else 0
def zm_ywhy (x y : Int) (σ : Mem) : Mem := if 0 ≤ (x) ∧ (x) < σ 13 186 1 then (if 0 ≤ (y) ∧ (y) < σ 13 186 1 then (if (x) = (y) then (up σ 11 (0) 6 (2)) else if (mof σ (x) (2)) = 1 then (up σ 11 (0) 6 (2)) else if ¬ (mof σ (y) (2)) = 1 then (laid (up σ 11 (0) 6 (0))) else (up σ 11 (0) 6 (2))) else (up σ 11 (0) 6 (1))) else (up σ 11 (0) 6 (1))
theorem ev_ywhy (x y : Int) (σ : Mem) (hF : 0 ≤ σ 13 186 1 ∧ σ 13 186 1 ≤ 24) (hLay : LayOK σ) : Ev true 213 [aR 11 (0), aI (x), aI (y)] σ (.inl (some (aI (zo_ywhy x y σ)))) (zm_ywhy x y σ) := by
  show wp true 213 0 [some (aR 11 (0)), some (aI (x)), some (aI (y))] [] σ 0 0 _
  refine wp_seg 3 (P := none) (ls' := [some (aR 11 (0)), some (aI (x)), some (aI (y))]) (st' := [aI (x), aR 11 (0), aR 11 (0)]) (σ' := σ) rq_213 rfl True.intro (i' := 3) rfl ?_
  by_cases h1 : 0 ≤ (x) ∧ (x) < σ 13 186 1
  · refine wp_call (C := 11) (As := [aR 11 (0), aI (x)]) (rest := [aR 11 (0)]) rq_213 (ev_misFencer_y (x) σ (by exact hF) h1) rfl rfl (show clOK 213 155 0 0 0 2 11 = true by decide +kernel) rfl (show 1 ≤ 4 by decide) (fun _ => ⟨_, rfl⟩) rfl (c' := 0) (s' := 0) rfl rfl ?_
    refine wp_if rq_213 rfl (fun (h2 : (1 : Int) = (0 : Int)) => absurd h2 (show ¬ ((1 : Int) = (0 : Int)) from by decide)) (fun _ => ?_)
    refine wp_seg 2 (P := none) (ls' := [some (aR 11 (0)), some (aI (x)), some (aI (y))]) (st' := [aI (y), aR 11 (0), aR 11 (0)]) (σ' := σ) rq_213 rfl True.intro (i' := 7) rfl ?_
    by_cases h3 : 0 ≤ (y) ∧ (y) < σ 13 186 1
    · refine wp_call (C := 11) (As := [aR 11 (0), aI (y)]) (rest := [aR 11 (0)]) rq_213 (ev_misFencer_y (y) σ (by exact hF) h3) rfl rfl (show clOK 213 155 0 0 0 2 11 = true by decide +kernel) rfl (show 1 ≤ 4 by decide) (fun _ => ⟨_, rfl⟩) rfl (c' := 0) (s' := 0) rfl rfl ?_
      refine wp_if rq_213 rfl (fun (h4 : (1 : Int) = (0 : Int)) => absurd h4 (show ¬ ((1 : Int) = (0 : Int)) from by decide)) (fun _ => ?_)
      refine wp_seg 2 (P := none) (ls' := [some (aR 11 (0)), some (aI (x)), some (aI (y))]) (st' := [aI (y), aI (x), aR 11 (0)]) (σ' := σ) rq_213 rfl True.intro (i' := 11) rfl ?_
      refine wp_icmp rq_213 rfl (fun (h5 : (x) = (y)) => ?_) (fun (h5 : ¬ ((x) = (y))) => ?_)
      · refine wp_seg 1 (P := none) (ls' := [some (aR 11 (0)), some (aI (x)), some (aI (y))]) (st' := [aI (2), aR 11 (0)]) (σ' := σ) rq_213 rfl True.intro (i' := 25) rfl ?_
        refine wp_goto rq_213 rfl ?_
        refine wp_seg 3 (P := none) (ls' := [some (aR 11 (0)), some (aI (x)), some (aI (y))]) (st' := [aI (2)]) (σ' := (up σ 11 (0) 6 (2))) rq_213 rfl True.intro (i' := 32) rfl ?_
        refine wp_if rq_213 rfl (fun (h6 : (2 : Int) ≤ (0 : Int)) => absurd h6 (show ¬ ((2 : Int) ≤ (0 : Int)) from by decide)) (fun _ => ?_)
        refine wp_seg 1 (P := none) (ls' := [some (aR 11 (0)), some (aI (x)), some (aI (y))]) (st' := [aI (0)]) (σ' := (up σ 11 (0) 6 (2))) rq_213 rfl True.intro (i' := 34) rfl ?_
        refine wp_iret rq_213 rfl rt_213 ⟨?_, ?_⟩
        · (rw [zo_ywhy, if_pos h1, if_pos h3, if_pos h5]; try rfl)
        · (rw [zm_ywhy, if_pos h1, if_pos h3, if_pos h5]; try rfl)
      · refine wp_seg 3 (P := none) (ls' := [some (aR 11 (0)), some (aI (x)), some (aI (y))]) (st' := [aI (2), aI (x), aR 11 (0), aR 11 (0)]) (σ' := σ) rq_213 rfl True.intro (i' := 15) rfl ?_
        refine wp_call (C := 11) (As := [aR 11 (0), aI (x), aI (2)]) (rest := [aR 11 (0)]) rq_213 (ev_mof (x) (2) σ (by omega) (by omega)) rfl rfl (show clOK 213 157 0 0 0 3 11 = true by decide +kernel) rfl (show 1 ≤ 4 by decide) (fun _ => ⟨_, rfl⟩) rfl (c' := 0) (s' := 0) rfl rfl ?_
        refine wp_seg 1 (P := none) (ls' := [some (aR 11 (0)), some (aI (x)), some (aI (y))]) (st' := [aI (1), aI (mof σ (x) (2)), aR 11 (0)]) (σ' := σ) rq_213 rfl True.intro (i' := 17) rfl ?_
        refine wp_icmp rq_213 rfl (fun (h7 : (mof σ (x) (2)) = 1) => ?_) (fun (h7 : ¬ ((mof σ (x) (2)) = 1)) => ?_)
        · refine wp_seg 1 (P := none) (ls' := [some (aR 11 (0)), some (aI (x)), some (aI (y))]) (st' := [aI (2), aR 11 (0)]) (σ' := σ) rq_213 rfl True.intro (i' := 25) rfl ?_
          refine wp_goto rq_213 rfl ?_
          refine wp_seg 3 (P := none) (ls' := [some (aR 11 (0)), some (aI (x)), some (aI (y))]) (st' := [aI (2)]) (σ' := (up σ 11 (0) 6 (2))) rq_213 rfl True.intro (i' := 32) rfl ?_
          refine wp_if rq_213 rfl (fun (h8 : (2 : Int) ≤ (0 : Int)) => absurd h8 (show ¬ ((2 : Int) ≤ (0 : Int)) from by decide)) (fun _ => ?_)
          refine wp_seg 1 (P := none) (ls' := [some (aR 11 (0)), some (aI (x)), some (aI (y))]) (st' := [aI (0)]) (σ' := (up σ 11 (0) 6 (2))) rq_213 rfl True.intro (i' := 34) rfl ?_
          refine wp_iret rq_213 rfl rt_213 ⟨?_, ?_⟩
          · (rw [zo_ywhy, if_pos h1, if_pos h3, if_neg h5, if_pos h7]; try rfl)
          · (rw [zm_ywhy, if_pos h1, if_pos h3, if_neg h5, if_pos h7]; try rfl)
        · refine wp_seg 3 (P := none) (ls' := [some (aR 11 (0)), some (aI (x)), some (aI (y))]) (st' := [aI (2), aI (y), aR 11 (0), aR 11 (0)]) (σ' := σ) rq_213 rfl True.intro (i' := 21) rfl ?_
          refine wp_call (C := 11) (As := [aR 11 (0), aI (y), aI (2)]) (rest := [aR 11 (0)]) rq_213 (ev_mof (y) (2) σ (by omega) (by omega)) rfl rfl (show clOK 213 157 0 0 0 3 11 = true by decide +kernel) rfl (show 1 ≤ 4 by decide) (fun _ => ⟨_, rfl⟩) rfl (c' := 0) (s' := 0) rfl rfl ?_
          refine wp_seg 1 (P := none) (ls' := [some (aR 11 (0)), some (aI (x)), some (aI (y))]) (st' := [aI (1), aI (mof σ (y) (2)), aR 11 (0)]) (σ' := σ) rq_213 rfl True.intro (i' := 23) rfl ?_
          refine wp_icmp rq_213 rfl (fun (h9 : ¬ (mof σ (y) (2)) = 1) => ?_) (fun (h9 : ¬ (¬ (mof σ (y) (2)) = 1)) => ?_)
          · refine wp_seg 1 (P := none) (ls' := [some (aR 11 (0)), some (aI (x)), some (aI (y))]) (st' := [aI (0), aR 11 (0)]) (σ' := σ) rq_213 rfl True.intro (i' := 27) rfl ?_
            refine wp_goto rq_213 rfl ?_
            refine wp_seg 3 (P := none) (ls' := [some (aR 11 (0)), some (aI (x)), some (aI (y))]) (st' := [aI (0)]) (σ' := (up σ 11 (0) 6 (0))) rq_213 rfl True.intro (i' := 32) rfl ?_
            refine wp_if rq_213 rfl (fun _ => ?_) (fun (h10 : ¬ ((0 : Int) ≤ (0 : Int))) => absurd (show (0 : Int) ≤ (0 : Int) from by decide) h10)
            refine wp_seg 1 (P := none) (ls' := [some (aR 11 (0)), some (aI (x)), some (aI (y))]) (st' := [aR 11 (0)]) (σ' := (up σ 11 (0) 6 (0))) rq_213 rfl True.intro (i' := 36) rfl ?_
            refine wp_call (C := 11) (As := [aR 11 (0)]) (rest := []) rq_213 (ev_mlays (up σ 11 (0) 6 (0)) hLay) rfl rfl (show clOK 213 204 0 0 0 1 11 = true by decide +kernel) rfl (show 0 ≤ 4 by decide) (fun _ => ⟨_, rfl⟩) rfl (c' := 0) (s' := 0) rfl rfl ?_
            refine wp_seg 3 (P := none) (ls' := [some (aR 11 (0)), some (aI (x)), some (aI (y))]) (st' := [aI (y), aI (x), aR 11 (0)]) (σ' := (laid (up σ 11 (0) 6 (0)))) rq_213 rfl True.intro (i' := 40) rfl ?_
            refine wp_call (C := 11) (As := [aR 11 (0), aI (x), aI (y)]) (rest := []) rq_213 (ev_morder (x) (y) (laid (up σ 11 (0) 6 (0))) (by omega) (by omega)) rfl rfl (show clOK 213 208 0 0 0 3 11 = true by decide +kernel) rfl (show 0 ≤ 4 by decide) (fun _ => ⟨_, rfl⟩) rfl (c' := 0) (s' := 0) rfl rfl ?_
            refine wp_iret rq_213 rfl rt_213 ⟨?_, ?_⟩
            · (rw [zo_ywhy, if_pos h1, if_pos h3, if_neg h5, if_neg h7, if_pos h9]; try rfl)
            · (rw [zm_ywhy, if_pos h1, if_pos h3, if_neg h5, if_neg h7, if_pos h9]; try rfl)
          · refine wp_seg 1 (P := none) (ls' := [some (aR 11 (0)), some (aI (x)), some (aI (y))]) (st' := [aI (2), aR 11 (0)]) (σ' := σ) rq_213 rfl True.intro (i' := 25) rfl ?_
            refine wp_goto rq_213 rfl ?_
            refine wp_seg 3 (P := none) (ls' := [some (aR 11 (0)), some (aI (x)), some (aI (y))]) (st' := [aI (2)]) (σ' := (up σ 11 (0) 6 (2))) rq_213 rfl True.intro (i' := 32) rfl ?_
            refine wp_if rq_213 rfl (fun (h11 : (2 : Int) ≤ (0 : Int)) => absurd h11 (show ¬ ((2 : Int) ≤ (0 : Int)) from by decide)) (fun _ => ?_)
            refine wp_seg 1 (P := none) (ls' := [some (aR 11 (0)), some (aI (x)), some (aI (y))]) (st' := [aI (0)]) (σ' := (up σ 11 (0) 6 (2))) rq_213 rfl True.intro (i' := 34) rfl ?_
            refine wp_iret rq_213 rfl rt_213 ⟨?_, ?_⟩
            · (rw [zo_ywhy, if_pos h1, if_pos h3, if_neg h5, if_neg h7, if_neg h9]; try rfl)
            · (rw [zm_ywhy, if_pos h1, if_pos h3, if_neg h5, if_neg h7, if_neg h9]; try rfl)
    · refine wp_call (C := 11) (As := [aR 11 (0), aI (y)]) (rest := [aR 11 (0)]) rq_213 (ev_misFencer_n (y) σ (by exact hF) h3) rfl rfl (show clOK 213 155 0 0 0 2 11 = true by decide +kernel) rfl (show 1 ≤ 4 by decide) (fun _ => ⟨_, rfl⟩) rfl (c' := 0) (s' := 0) rfl rfl ?_
      refine wp_if rq_213 rfl (fun _ => ?_) (fun (h12 : ¬ ((0 : Int) = (0 : Int))) => absurd (show (0 : Int) = (0 : Int) from by decide) h12)
      refine wp_seg 4 (P := none) (ls' := [some (aR 11 (0)), some (aI (x)), some (aI (y))]) (st' := [aI (1)]) (σ' := (up σ 11 (0) 6 (1))) rq_213 rfl True.intro (i' := 32) rfl ?_
      refine wp_if rq_213 rfl (fun (h13 : (1 : Int) ≤ (0 : Int)) => absurd h13 (show ¬ ((1 : Int) ≤ (0 : Int)) from by decide)) (fun _ => ?_)
      refine wp_seg 1 (P := none) (ls' := [some (aR 11 (0)), some (aI (x)), some (aI (y))]) (st' := [aI (0)]) (σ' := (up σ 11 (0) 6 (1))) rq_213 rfl True.intro (i' := 34) rfl ?_
      refine wp_iret rq_213 rfl rt_213 ⟨?_, ?_⟩
      · (rw [zo_ywhy, if_pos h1, if_neg h3]; try rfl)
      · (rw [zm_ywhy, if_pos h1, if_neg h3]; try rfl)
  · refine wp_call (C := 11) (As := [aR 11 (0), aI (x)]) (rest := [aR 11 (0)]) rq_213 (ev_misFencer_n (x) σ (by exact hF) h1) rfl rfl (show clOK 213 155 0 0 0 2 11 = true by decide +kernel) rfl (show 1 ≤ 4 by decide) (fun _ => ⟨_, rfl⟩) rfl (c' := 0) (s' := 0) rfl rfl ?_
    refine wp_if rq_213 rfl (fun _ => ?_) (fun (h14 : ¬ ((0 : Int) = (0 : Int))) => absurd (show (0 : Int) = (0 : Int) from by decide) h14)
    refine wp_seg 4 (P := none) (ls' := [some (aR 11 (0)), some (aI (x)), some (aI (y))]) (st' := [aI (1)]) (σ' := (up σ 11 (0) 6 (1))) rq_213 rfl True.intro (i' := 32) rfl ?_
    refine wp_if rq_213 rfl (fun (h15 : (1 : Int) ≤ (0 : Int)) => absurd h15 (show ¬ ((1 : Int) ≤ (0 : Int)) from by decide)) (fun _ => ?_)
    refine wp_seg 1 (P := none) (ls' := [some (aR 11 (0)), some (aI (x)), some (aI (y))]) (st' := [aI (0)]) (σ' := (up σ 11 (0) 6 (1))) rq_213 rfl True.intro (i' := 34) rfl ?_
    refine wp_iret rq_213 rfl rt_213 ⟨?_, ?_⟩
    · (rw [zo_ywhy, if_neg h1]; try rfl)
    · (rw [zm_ywhy, if_neg h1]; try rfl)

def zo_yratio (f : Int) (σ : Mem) : UInt64 := if 0 ≤ (f) ∧ (f) < σ 13 186 1 then (if ¬ ((laid (up σ 11 (0) 6 (0))) 13 (189) (wr ((wr ((4) * (f))) + (1)))) = 0 then FP.ddiv (FP.i2d (Int32.ofInt ((laid (up σ 11 (0) 6 (0))) 13 (189) (wr ((4) * (f)))))) (FP.i2d (Int32.ofInt ((laid (up σ 11 (0) 6 (0))) 13 (189) (wr ((wr ((4) * (f))) + (1)))))) else FP.dconst0) else FP.dconst0
def zm_yratio (f : Int) (σ : Mem) : Mem := if 0 ≤ (f) ∧ (f) < σ 13 186 1 then (if ¬ ((laid (up σ 11 (0) 6 (0))) 13 (189) (wr ((wr ((4) * (f))) + (1)))) = 0 then (up (laid (up σ 11 (0) 6 (0))) 11 (0) 6 (0)) else (up (laid (up σ 11 (0) 6 (0))) 11 (0) 6 (2))) else (up σ 11 (0) 6 (1))
theorem ev_yratio (f : Int) (σ : Mem) (hF : 0 ≤ σ 13 186 1 ∧ σ 13 186 1 ≤ 24) (hLay : LayOK σ) (hq : 0 ≤ f → f < σ 13 186 1 → laid (up σ 11 0 6 0) 13 189 (4 * f + 1) ≠ 0 → vf_n64 (FP.ddiv (FP.i2d (Int32.ofInt (laid (up σ 11 0 6 0) 13 189 (4 * f)))) (FP.i2d (Int32.ofInt (laid (up σ 11 0 6 0) 13 189 (4 * f + 1)))))) : Ev true 207 [aR 11 (0), aI (f)] σ (.inl (some (aD (zo_yratio f σ)))) (zm_yratio f σ) := by
  show wp true 207 0 [some (aR 11 (0)), some (aI (f))] [] σ 0 0 _
  refine wp_seg 3 (P := none) (ls' := [some (aR 11 (0)), some (aI (f))]) (st' := [aI (f), aR 11 (0), aR 11 (0)]) (σ' := σ) rq_207 rfl True.intro (i' := 3) rfl ?_
  by_cases h1 : 0 ≤ (f) ∧ (f) < σ 13 186 1
  · refine wp_call (C := 11) (As := [aR 11 (0), aI (f)]) (rest := [aR 11 (0)]) rq_207 (ev_misFencer_y (f) σ (by exact hF) h1) rfl rfl (show clOK 207 155 0 0 0 2 11 = true by decide +kernel) rfl (show 1 ≤ 4 by decide) (fun _ => ⟨_, rfl⟩) rfl (c' := 0) (s' := 0) rfl rfl ?_
    refine wp_if rq_207 rfl (fun (h2 : (1 : Int) = (0 : Int)) => absurd h2 (show ¬ ((1 : Int) = (0 : Int)) from by decide)) (fun _ => ?_)
    refine wp_seg 1 (P := none) (ls' := [some (aR 11 (0)), some (aI (f))]) (st' := [aI (0), aR 11 (0)]) (σ' := σ) rq_207 rfl True.intro (i' := 6) rfl ?_
    refine wp_goto rq_207 rfl ?_
    refine wp_seg 3 (P := none) (ls' := [some (aR 11 (0)), some (aI (f))]) (st' := [aI (0)]) (σ' := (up σ 11 (0) 6 (0))) rq_207 rfl True.intro (i' := 11) rfl ?_
    refine wp_if rq_207 rfl (fun _ => ?_) (fun (h3 : ¬ ((0 : Int) ≤ (0 : Int))) => absurd (show (0 : Int) ≤ (0 : Int) from by decide) h3)
    refine wp_seg 1 (P := none) (ls' := [some (aR 11 (0)), some (aI (f))]) (st' := [aR 11 (0)]) (σ' := (up σ 11 (0) 6 (0))) rq_207 rfl True.intro (i' := 15) rfl ?_
    refine wp_call (C := 11) (As := [aR 11 (0)]) (rest := []) rq_207 (ev_mlays (up σ 11 (0) 6 (0)) hLay) rfl rfl (show clOK 207 204 0 0 0 1 11 = true by decide +kernel) rfl (show 0 ≤ 4 by decide) (fun _ => ⟨_, rfl⟩) rfl (c' := 0) (s' := 0) rfl rfl ?_
    refine wp_seg 9 (P := some (0 ≤ (wr ((wr ((4) * (f))) + (1))) ∧ (wr ((wr ((4) * (f))) + (1))) < alen (laid (up σ 11 (0) 6 (0))) 13 (189))) (ls' := [some (aR 11 (0)), some (aI (f))]) (st' := [aI ((laid (up σ 11 (0) 6 (0))) 13 (189) (wr ((wr ((4) * (f))) + (1)))), aR 11 (0)]) (σ' := (laid (up σ 11 (0) 6 (0)))) rq_207 rfl ?_ (i' := 25) rfl ?_
    · show 0 ≤ (wr ((wr ((4) * (f))) + (1))) ∧ (wr ((wr ((4) * (f))) + (1))) < alen (laid (up σ 11 (0) 6 (0))) 13 (189)
      (first | (first | decide | exact Or.inl rfl | exact Or.inr rfl | ((try simp only [al_g, al_k, al_p, al_c, al_r, al_t, al_o, rl_g, rl_k, rl_p, rl_c, rl_r, rl_t, rl_o]); (try simp (disch := omega) only [wr_eq]); omega)) | (have hq1 := hq (by omega) (by omega) (by intro e; simp (disch := omega) only [wr_eq] at *; contradiction); simp (disch := omega) only [wr_eq, al_c]; exact ⟨⟨by omega, by omega⟩, ⟨by omega, by omega⟩, hq1⟩))
    refine wp_if rq_207 rfl (fun (h4 : ¬ ((laid (up σ 11 (0) 6 (0))) 13 (189) (wr ((wr ((4) * (f))) + (1)))) = 0) => ?_) (fun (h4 : ¬ (¬ ((laid (up σ 11 (0) 6 (0))) 13 (189) (wr ((wr ((4) * (f))) + (1)))) = 0)) => ?_)
    · refine wp_seg 4 (P := none) (ls' := [some (aR 11 (0)), some (aI (f))]) (st' := [aI (0)]) (σ' := (up (laid (up σ 11 (0) 6 (0))) 11 (0) 6 (0))) rq_207 rfl True.intro (i' := 32) rfl ?_
      refine wp_if rq_207 rfl (fun _ => ?_) (fun (h5 : ¬ ((0 : Int) ≤ (0 : Int))) => absurd (show (0 : Int) ≤ (0 : Int) from by decide) h5)
      refine wp_seg 17 (P := some ((0 ≤ (wr ((4) * (f))) ∧ (wr ((4) * (f))) < alen (up (laid (up σ 11 (0) 6 (0))) 11 (0) 6 (0)) 13 (189)) ∧ (0 ≤ (wr ((wr ((4) * (f))) + (1))) ∧ (wr ((wr ((4) * (f))) + (1))) < alen (up (laid (up σ 11 (0) 6 (0))) 11 (0) 6 (0)) 13 (189)) ∧ (vf_n64 (FP.ddiv (FP.i2d (Int32.ofInt ((laid (up σ 11 (0) 6 (0))) 13 (189) (wr ((4) * (f)))))) (FP.i2d (Int32.ofInt ((laid (up σ 11 (0) 6 (0))) 13 (189) (wr ((wr ((4) * (f))) + (1)))))))))) (ls' := [some (aR 11 (0)), some (aI (f))]) (st' := [aD (FP.ddiv (FP.i2d (Int32.ofInt ((laid (up σ 11 (0) 6 (0))) 13 (189) (wr ((4) * (f)))))) (FP.i2d (Int32.ofInt ((laid (up σ 11 (0) 6 (0))) 13 (189) (wr ((wr ((4) * (f))) + (1)))))))]) (σ' := (up (laid (up σ 11 (0) 6 (0))) 11 (0) 6 (0))) rq_207 rfl ?_ (i' := 52) rfl ?_
      · show (0 ≤ (wr ((4) * (f))) ∧ (wr ((4) * (f))) < alen (up (laid (up σ 11 (0) 6 (0))) 11 (0) 6 (0)) 13 (189)) ∧ (0 ≤ (wr ((wr ((4) * (f))) + (1))) ∧ (wr ((wr ((4) * (f))) + (1))) < alen (up (laid (up σ 11 (0) 6 (0))) 11 (0) 6 (0)) 13 (189)) ∧ (vf_n64 (FP.ddiv (FP.i2d (Int32.ofInt ((laid (up σ 11 (0) 6 (0))) 13 (189) (wr ((4) * (f)))))) (FP.i2d (Int32.ofInt ((laid (up σ 11 (0) 6 (0))) 13 (189) (wr ((wr ((4) * (f))) + (1))))))))
        (first | (first | decide | exact Or.inl rfl | exact Or.inr rfl | ((try simp only [al_g, al_k, al_p, al_c, al_r, al_t, al_o, rl_g, rl_k, rl_p, rl_c, rl_r, rl_t, rl_o]); (try simp (disch := omega) only [wr_eq]); omega)) | (have hq1 := hq (by omega) (by omega) (by intro e; simp (disch := omega) only [wr_eq] at *; contradiction); simp (disch := omega) only [wr_eq, al_c]; exact ⟨⟨by omega, by omega⟩, ⟨by omega, by omega⟩, hq1⟩))
      refine wp_dret rq_207 rfl rt_207 ⟨?_, ?_⟩
      · (rw [zo_yratio, if_pos h1, if_pos h4]; try rfl)
      · (rw [zm_yratio, if_pos h1, if_pos h4]; try rfl)
    · refine wp_seg 1 (P := none) (ls' := [some (aR 11 (0)), some (aI (f))]) (st' := [aI (2), aR 11 (0)]) (σ' := (laid (up σ 11 (0) 6 (0)))) rq_207 rfl True.intro (i' := 27) rfl ?_
      refine wp_goto rq_207 rfl ?_
      refine wp_seg 3 (P := none) (ls' := [some (aR 11 (0)), some (aI (f))]) (st' := [aI (2)]) (σ' := (up (laid (up σ 11 (0) 6 (0))) 11 (0) 6 (2))) rq_207 rfl True.intro (i' := 32) rfl ?_
      refine wp_if rq_207 rfl (fun (h6 : (2 : Int) ≤ (0 : Int)) => absurd h6 (show ¬ ((2 : Int) ≤ (0 : Int)) from by decide)) (fun _ => ?_)
      refine wp_seg 1 (P := none) (ls' := [some (aR 11 (0)), some (aI (f))]) (st' := [aD (FP.dconst0)]) (σ' := (up (laid (up σ 11 (0) 6 (0))) 11 (0) 6 (2))) rq_207 rfl True.intro (i' := 34) rfl ?_
      refine wp_goto rq_207 rfl ?_
      refine wp_dret rq_207 rfl rt_207 ⟨?_, ?_⟩
      · (rw [zo_yratio, if_pos h1, if_neg h4]; try rfl)
      · (rw [zm_yratio, if_pos h1, if_neg h4]; try rfl)
  · refine wp_call (C := 11) (As := [aR 11 (0), aI (f)]) (rest := [aR 11 (0)]) rq_207 (ev_misFencer_n (f) σ (by exact hF) h1) rfl rfl (show clOK 207 155 0 0 0 2 11 = true by decide +kernel) rfl (show 1 ≤ 4 by decide) (fun _ => ⟨_, rfl⟩) rfl (c' := 0) (s' := 0) rfl rfl ?_
    refine wp_if rq_207 rfl (fun _ => ?_) (fun (h7 : ¬ ((0 : Int) = (0 : Int))) => absurd (show (0 : Int) = (0 : Int) from by decide) h7)
    refine wp_seg 4 (P := none) (ls' := [some (aR 11 (0)), some (aI (f))]) (st' := [aI (1)]) (σ' := (up σ 11 (0) 6 (1))) rq_207 rfl True.intro (i' := 11) rfl ?_
    refine wp_if rq_207 rfl (fun (h8 : (1 : Int) ≤ (0 : Int)) => absurd h8 (show ¬ ((1 : Int) ≤ (0 : Int)) from by decide)) (fun _ => ?_)
    refine wp_seg 1 (P := none) (ls' := [some (aR 11 (0)), some (aI (f))]) (st' := [aD (FP.dconst0)]) (σ' := (up σ 11 (0) 6 (1))) rq_207 rfl True.intro (i' := 13) rfl ?_
    refine wp_dret rq_207 rfl rt_207 ⟨?_, ?_⟩
    · (rw [zo_yratio, if_neg h1]; try rfl)
    · (rw [zm_yratio, if_neg h1]; try rfl)

