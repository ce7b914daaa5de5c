/-! Meet, History, ResultText: the methods without loops. -/
def zo_drawSide (m : Int) (σ : Mem) : Int := (wr (((up σ 2 (m) 1 (wr ((wl ((wl ((σ 2 (m) 1) * (1103515245))) + (12345)) : Int).tmod (2147483648)))) 2 (m) 1).tdiv (65536)) : Int).tmod (2)
def zm_drawSide (m : Int) (σ : Mem) : Mem := (up σ 2 (m) 1 (wr ((wl ((wl ((σ 2 (m) 1) * (1103515245))) + (12345)) : Int).tmod (2147483648))))
theorem ev_drawSide (m : Int) (σ : Mem) : Ev true 31 [aR 2 (m)] σ (.inl (some (aI (zo_drawSide m σ)))) (zm_drawSide m σ) := by
  show wp true 31 0 [some (aR 2 (m))] [] σ 0 0 _
  refine wp_seg 18 (P := some (((2147483648 : Int) ≠ 0) ∧ ((65536 : Int) ≠ 0) ∧ ((2 : Int) ≠ 0))) (ls' := [some (aR 2 (m))]) (st' := [aI ((wr (((up σ 2 (m) 1 (wr ((wl ((wl ((σ 2 (m) 1) * (1103515245))) + (12345)) : Int).tmod (2147483648)))) 2 (m) 1).tdiv (65536)) : Int).tmod (2))]) (σ' := (up σ 2 (m) 1 (wr ((wl ((wl ((σ 2 (m) 1) * (1103515245))) + (12345)) : Int).tmod (2147483648))))) rq_31 rfl ?_ (i' := 18) rfl ?_
  · show ((2147483648 : Int) ≠ 0) ∧ ((65536 : Int) ≠ 0) ∧ ((2 : Int) ≠ 0)
    (first | decide | assumption | omega | simp_all)
  refine wp_iret rq_31 rfl rt_31 ⟨?_, ?_⟩
  · rfl
  · rfl

def zo_boutOfRound (m r i : Int) (σ : Mem) : Int := wr ((wr ((wr ((σ 0 (m) 1) + (σ 9 (m) 0))) - (r))) + (i))
theorem ev_boutOfRound (m r i : Int) (σ : Mem) : Ev true 37 [aR 2 (m), aI (r), aI (i)] σ (.inl (some (aI (zo_boutOfRound m r i σ)))) (σ) := by
  show wp true 37 0 [some (aR 2 (m)), some (aI (r)), some (aI (i))] [] σ 0 0 _
  refine wp_seg 11 (P := none) (ls' := [some (aR 2 (m)), some (aI (r)), some (aI (i))]) (st' := [aI (wr ((wr ((wr ((σ 0 (m) 1) + (σ 9 (m) 0))) - (r))) + (i)))]) (σ' := σ) rq_37 rfl True.intro (i' := 11) rfl ?_
  refine wp_iret rq_37 rfl rt_37 ⟨?_, ?_⟩
  · rfl
  · rfl

def zm_advance (m b : Int) (σ : Mem) : Mem := if ¬ (zo_round (m) (b) σ) = 2 then (rset σ (18 * (m) + 9) (wr ((wr ((2) * (zo_boutOfRound (m) (wr ((zo_round (m) (b) σ).tdiv (2))) (wr ((wr ((b) - (zo_boutOfRound (m) (zo_round (m) (b) σ) (0) σ))).tdiv (2))) σ))) + ((wr ((b) - (zo_boutOfRound (m) (zo_round (m) (b) σ) (0) σ)) : Int).tmod (2)))) (rget σ (18 * (m) + 12) (b))) else (up σ 2 (m) 0 (3))
theorem ev_advance (m b : Int) (σ : Mem) : Ev true 36 [aR 2 (m), aI (b)] σ (.inl none) (zm_advance m b σ) := by
  show wp true 36 0 [some (aR 2 (m)), some (aI (b)), none, none, none] [] σ 0 0 _
  refine wp_seg 3 (P := none) (ls' := [some (aR 2 (m)), some (aI (b)), none, none, none]) (st' := [aI (b), aR 0 (m)]) (σ' := σ) rq_36 rfl True.intro (i' := 3) rfl ?_
  refine wp_call (C := 0) (As := [aR 0 (m), aI (b)]) (rest := []) rq_36 (ev_round (m) (b) σ ) rfl rfl (show clOK 36 11 0 0 0 2 0 = true by decide +kernel) rfl (show 0 ≤ 4 by decide) (fun _ => ⟨_, rfl⟩) rfl (c' := 0) (s' := 0) rfl rfl ?_
  refine wp_seg 3 (P := none) (ls' := [some (aR 2 (m)), some (aI (b)), some (aI (zo_round (m) (b) σ)), none, none]) (st' := [aI (2), aI (zo_round (m) (b) σ)]) (σ' := σ) rq_36 rfl True.intro (i' := 7) rfl ?_
  refine wp_icmp rq_36 rfl (fun (h1 : ¬ (zo_round (m) (b) σ) = 2) => ?_) (fun (h1 : ¬ (¬ (zo_round (m) (b) σ) = 2)) => ?_)
  · refine wp_seg 4 (P := none) (ls' := [some (aR 2 (m)), some (aI (b)), some (aI (zo_round (m) (b) σ)), none, none]) (st' := [aI (0), aI (zo_round (m) (b) σ), aR 2 (m), aI (b)]) (σ' := σ) rq_36 rfl True.intro (i' := 16) rfl ?_
    refine wp_call (C := 2) (As := [aR 2 (m), aI (zo_round (m) (b) σ), aI (0)]) (rest := [aI (b)]) rq_36 (ev_boutOfRound (m) (zo_round (m) (b) σ) (0) σ ) rfl rfl (show clOK 36 37 0 0 0 3 2 = true by decide +kernel) rfl (show 1 ≤ 4 by decide) (fun _ => ⟨_, rfl⟩) rfl (c' := 0) (s' := 0) rfl rfl ?_
    refine wp_seg 9 (P := some (((2 : Int) ≠ 0) ∧ ((2 : Int) ≠ 0))) (ls' := [some (aR 2 (m)), some (aI (b)), some (aI (zo_round (m) (b) σ)), some (aI (wr ((b) - (zo_boutOfRound (m) (zo_round (m) (b) σ) (0) σ)))), none]) (st' := [aI (wr ((wr ((b) - (zo_boutOfRound (m) (zo_round (m) (b) σ) (0) σ))).tdiv (2))), aI (wr ((zo_round (m) (b) σ).tdiv (2))), aR 2 (m)]) (σ' := σ) rq_36 rfl ?_ (i' := 26) rfl ?_
    · show ((2 : Int) ≠ 0) ∧ ((2 : Int) ≠ 0)
      (first | decide | assumption | omega | simp_all)
    refine wp_call (C := 2) (As := [aR 2 (m), aI (wr ((zo_round (m) (b) σ).tdiv (2))), aI (wr ((wr ((b) - (zo_boutOfRound (m) (zo_round (m) (b) σ) (0) σ))).tdiv (2)))]) (rest := []) rq_36 (ev_boutOfRound (m) (wr ((zo_round (m) (b) σ).tdiv (2))) (wr ((wr ((b) - (zo_boutOfRound (m) (zo_round (m) (b) σ) (0) σ))).tdiv (2))) σ ) rfl rfl (show clOK 36 37 0 0 0 3 2 = true by decide +kernel) rfl (show 0 ≤ 4 by decide) (fun _ => ⟨_, rfl⟩) rfl (c' := 0) (s' := 0) rfl rfl ?_
    refine wp_seg 15 (P := some ((2 : Int) ≠ 0)) (ls' := [some (aR 2 (m)), some (aI (b)), some (aI (zo_round (m) (b) σ)), some (aI (wr ((b) - (zo_boutOfRound (m) (zo_round (m) (b) σ) (0) σ)))), some (aI (zo_boutOfRound (m) (wr ((zo_round (m) (b) σ).tdiv (2))) (wr ((wr ((b) - (zo_boutOfRound (m) (zo_round (m) (b) σ) (0) σ))).tdiv (2))) σ))]) (st' := [aI (b), aR 7 (18 * (m) + 12), aI (wr ((wr ((2) * (zo_boutOfRound (m) (wr ((zo_round (m) (b) σ).tdiv (2))) (wr ((wr ((b) - (zo_boutOfRound (m) (zo_round (m) (b) σ) (0) σ))).tdiv (2))) σ))) + ((wr ((b) - (zo_boutOfRound (m) (zo_round (m) (b) σ) (0) σ)) : Int).tmod (2)))), aR 7 (18 * (m) + 9)]) (σ' := σ) rq_36 rfl ?_ (i' := 42) rfl ?_
    · show (2 : Int) ≠ 0
      (first | decide | assumption | omega | simp_all)
    refine wp_call (C := 7) (As := [aR 7 (18 * (m) + 12), aI (b)]) (rest := [aI (wr ((wr ((2) * (zo_boutOfRound (m) (wr ((zo_round (m) (b) σ).tdiv (2))) (wr ((wr ((b) - (zo_boutOfRound (m) (zo_round (m) (b) σ) (0) σ))).tdiv (2))) σ))) + ((wr ((b) - (zo_boutOfRound (m) (zo_round (m) (b) σ) (0) σ)) : Int).tmod (2)))), aR 7 (18 * (m) + 9)]) rq_36 (ev_get (18 * (m) + 12) (b) σ ) rfl rfl (show clOK 36 78 0 0 0 2 7 = true by decide +kernel) rfl (show 2 ≤ 4 by decide) (fun _ => ⟨_, rfl⟩) rfl (c' := 0) (s' := 0) rfl rfl ?_
    refine wp_call (C := 7) (As := [aR 7 (18 * (m) + 9), aI (wr ((wr ((2) * (zo_boutOfRound (m) (wr ((zo_round (m) (b) σ).tdiv (2))) (wr ((wr ((b) - (zo_boutOfRound (m) (zo_round (m) (b) σ) (0) σ))).tdiv (2))) σ))) + ((wr ((b) - (zo_boutOfRound (m) (zo_round (m) (b) σ) (0) σ)) : Int).tmod (2)))), aI (rget σ (18 * (m) + 12) (b))]) (rest := []) rq_36 (ev_set (18 * (m) + 9) (wr ((wr ((2) * (zo_boutOfRound (m) (wr ((zo_round (m) (b) σ).tdiv (2))) (wr ((wr ((b) - (zo_boutOfRound (m) (zo_round (m) (b) σ) (0) σ))).tdiv (2))) σ))) + ((wr ((b) - (zo_boutOfRound (m) (zo_round (m) (b) σ) (0) σ)) : Int).tmod (2)))) (rget σ (18 * (m) + 12) (b)) σ ) rfl rfl (show clOK 36 79 0 0 0 3 7 = true by decide +kernel) rfl (show 0 ≤ 4 by decide) (fun _ => ⟨_, rfl⟩) rfl (c' := 0) (s' := 0) rfl rfl ?_
    refine wp_vret rq_36 rfl rt_36 ⟨?_, ?_⟩
    · rfl
    · (rw [zm_advance, if_pos h1]; try rfl)
  · refine wp_seg 3 (P := none) (ls' := [some (aR 2 (m)), some (aI (b)), some (aI (zo_round (m) (b) σ)), none, none]) (st' := []) (σ' := (up σ 2 (m) 0 (3))) rq_36 rfl True.intro (i' := 11) rfl ?_
    refine wp_goto rq_36 rfl ?_
    refine wp_vret rq_36 rfl rt_36 ⟨?_, ?_⟩
    · rfl
    · (rw [zm_advance, if_neg h1]; try rfl)

def zm_win (m b s : Int) (σ : Mem) : Mem := if ¬ (zo_isOfPool (m) (b) (up (zm_close (m) (b) (s) (2) σ) 2 (m) 2 (-1))) = 0 then (up (zm_close (m) (b) (s) (2) σ) 2 (m) 2 (-1)) else (zm_advance (m) (b) (rset (up (zm_close (m) (b) (s) (2) σ) 2 (m) 2 (-1)) (18 * (m) + 16) (zo_fencerOn (m) (b) (wr ((1) - (s))) (up (zm_close (m) (b) (s) (2) σ) 2 (m) 2 (-1))) (zo_round (m) (b) (up (zm_close (m) (b) (s) (2) σ) 2 (m) 2 (-1)))))
theorem ev_win (m b s : Int) (σ : Mem) : Ev true 35 [aR 2 (m), aI (b), aI (s)] σ (.inl none) (zm_win m b s σ) := by
  show wp true 35 0 [some (aR 2 (m)), some (aI (b)), some (aI (s)), none] [] σ 0 0 _
  refine wp_seg 5 (P := none) (ls' := [some (aR 2 (m)), some (aI (b)), some (aI (s)), none]) (st' := [aI (2), aI (s), aI (b), aR 0 (m)]) (σ' := σ) rq_35 rfl True.intro (i' := 5) rfl ?_
  refine wp_call (C := 0) (As := [aR 0 (m), aI (b), aI (s), aI (2)]) (rest := []) rq_35 (ev_close (m) (b) (s) (2) σ ) rfl rfl (show clOK 35 14 0 0 0 4 0 = true by decide +kernel) rfl (show 0 ≤ 4 by decide) (fun _ => ⟨_, rfl⟩) rfl (c' := 0) (s' := 0) rfl rfl ?_
  refine wp_seg 6 (P := none) (ls' := [some (aR 2 (m)), some (aI (b)), some (aI (s)), none]) (st' := [aI (b), aR 0 (m)]) (σ' := (up (zm_close (m) (b) (s) (2) σ) 2 (m) 2 (-1))) rq_35 rfl True.intro (i' := 12) rfl ?_
  refine wp_call (C := 0) (As := [aR 0 (m), aI (b)]) (rest := []) rq_35 (ev_isOfPool (m) (b) (up (zm_close (m) (b) (s) (2) σ) 2 (m) 2 (-1)) ) rfl rfl (show clOK 35 6 0 0 0 2 0 = true by decide +kernel) rfl (show 0 ≤ 4 by decide) (fun _ => ⟨_, rfl⟩) rfl (c' := 0) (s' := 0) rfl rfl ?_
  refine wp_if rq_35 rfl (fun (h1 : ¬ (zo_isOfPool (m) (b) (up (zm_close (m) (b) (s) (2) σ) 2 (m) 2 (-1))) = 0) => ?_) (fun (h1 : ¬ (¬ (zo_isOfPool (m) (b) (up (zm_close (m) (b) (s) (2) σ) 2 (m) 2 (-1))) = 0)) => ?_)
  · refine wp_vret rq_35 rfl rt_35 ⟨?_, ?_⟩
    · rfl
    · (rw [zm_win, if_pos h1]; try rfl)
  · refine wp_seg 6 (P := none) (ls' := [some (aR 2 (m)), some (aI (b)), some (aI (s)), none]) (st' := [aI (wr ((1) - (s))), aI (b), aR 0 (m)]) (σ' := (up (zm_close (m) (b) (s) (2) σ) 2 (m) 2 (-1))) rq_35 rfl True.intro (i' := 20) rfl ?_
    refine wp_call (C := 0) (As := [aR 0 (m), aI (b), aI (wr ((1) - (s)))]) (rest := []) rq_35 (ev_fencerOn (m) (b) (wr ((1) - (s))) (up (zm_close (m) (b) (s) (2) σ) 2 (m) 2 (-1)) ) rfl rfl (show clOK 35 4 0 0 0 3 0 = true by decide +kernel) rfl (show 0 ≤ 4 by decide) (fun _ => ⟨_, rfl⟩) rfl (c' := 0) (s' := 0) rfl rfl ?_
    refine wp_seg 8 (P := none) (ls' := [some (aR 2 (m)), some (aI (b)), some (aI (s)), some (aI (zo_fencerOn (m) (b) (wr ((1) - (s))) (up (zm_close (m) (b) (s) (2) σ) 2 (m) 2 (-1))))]) (st' := [aI (b), aR 0 (m), aI (zo_fencerOn (m) (b) (wr ((1) - (s))) (up (zm_close (m) (b) (s) (2) σ) 2 (m) 2 (-1))), aR 7 (18 * (m) + 16)]) (σ' := (up (zm_close (m) (b) (s) (2) σ) 2 (m) 2 (-1))) rq_35 rfl True.intro (i' := 29) rfl ?_
    refine wp_call (C := 0) (As := [aR 0 (m), aI (b)]) (rest := [aI (zo_fencerOn (m) (b) (wr ((1) - (s))) (up (zm_close (m) (b) (s) (2) σ) 2 (m) 2 (-1))), aR 7 (18 * (m) + 16)]) rq_35 (ev_round (m) (b) (up (zm_close (m) (b) (s) (2) σ) 2 (m) 2 (-1)) ) rfl rfl (show clOK 35 11 0 0 0 2 0 = true by decide +kernel) rfl (show 2 ≤ 4 by decide) (fun _ => ⟨_, rfl⟩) rfl (c' := 0) (s' := 0) rfl rfl ?_
    refine wp_call (C := 7) (As := [aR 7 (18 * (m) + 16), aI (zo_fencerOn (m) (b) (wr ((1) - (s))) (up (zm_close (m) (b) (s) (2) σ) 2 (m) 2 (-1))), aI (zo_round (m) (b) (up (zm_close (m) (b) (s) (2) σ) 2 (m) 2 (-1)))]) (rest := []) rq_35 (ev_set (18 * (m) + 16) (zo_fencerOn (m) (b) (wr ((1) - (s))) (up (zm_close (m) (b) (s) (2) σ) 2 (m) 2 (-1))) (zo_round (m) (b) (up (zm_close (m) (b) (s) (2) σ) 2 (m) 2 (-1))) (up (zm_close (m) (b) (s) (2) σ) 2 (m) 2 (-1)) ) rfl rfl (show clOK 35 79 0 0 0 3 7 = true by decide +kernel) rfl (show 0 ≤ 4 by decide) (fun _ => ⟨_, rfl⟩) rfl (c' := 0) (s' := 0) rfl rfl ?_
    refine wp_seg 2 (P := none) (ls' := [some (aR 2 (m)), some (aI (b)), some (aI (s)), some (aI (zo_fencerOn (m) (b) (wr ((1) - (s))) (up (zm_close (m) (b) (s) (2) σ) 2 (m) 2 (-1))))]) (st' := [aI (b), aR 2 (m)]) (σ' := (rset (up (zm_close (m) (b) (s) (2) σ) 2 (m) 2 (-1)) (18 * (m) + 16) (zo_fencerOn (m) (b) (wr ((1) - (s))) (up (zm_close (m) (b) (s) (2) σ) 2 (m) 2 (-1))) (zo_round (m) (b) (up (zm_close (m) (b) (s) (2) σ) 2 (m) 2 (-1))))) rq_35 rfl True.intro (i' := 33) rfl ?_
    refine wp_call (C := 2) (As := [aR 2 (m), aI (b)]) (rest := []) rq_35 (ev_advance (m) (b) (rset (up (zm_close (m) (b) (s) (2) σ) 2 (m) 2 (-1)) (18 * (m) + 16) (zo_fencerOn (m) (b) (wr ((1) - (s))) (up (zm_close (m) (b) (s) (2) σ) 2 (m) 2 (-1))) (zo_round (m) (b) (up (zm_close (m) (b) (s) (2) σ) 2 (m) 2 (-1)))) ) rfl rfl (show clOK 35 36 0 0 0 2 2 = true by decide +kernel) rfl (show 0 ≤ 4 by decide) (fun _ => ⟨_, rfl⟩) rfl (c' := 0) (s' := 0) rfl rfl ?_
    refine wp_vret rq_35 rfl rt_35 ⟨?_, ?_⟩
    · rfl
    · (rw [zm_win, if_neg h1]; try rfl)

def zm_mstart (m b : Int) (σ : Mem) : Mem := (rset (rfill (up σ 2 (m) 2 (b)) (18 * (m)) (0)) (18 * (m) + 11) (b) (1))
theorem ev_mstart (m b : Int) (σ : Mem) : Ev true 27 [aR 2 (m), aI (b)] σ (.inl none) (zm_mstart m b σ) := by
  show wp true 27 0 [some (aR 2 (m)), some (aI (b))] [] σ 0 0 _
  refine wp_seg 6 (P := none) (ls' := [some (aR 2 (m)), some (aI (b))]) (st' := [aI (0), aR 7 (18 * (m))]) (σ' := (up σ 2 (m) 2 (b))) rq_27 rfl True.intro (i' := 6) rfl ?_
  refine wp_call (C := 7) (As := [aR 7 (18 * (m)), aI (0)]) (rest := []) rq_27 (ev_fill (18 * (m)) (0) (up σ 2 (m) 2 (b)) ) rfl rfl (show clOK 27 81 0 0 0 2 7 = true by decide +kernel) rfl (show 0 ≤ 4 by decide) (fun _ => ⟨_, rfl⟩) rfl (c' := 0) (s' := 0) rfl rfl ?_
  refine wp_seg 5 (P := none) (ls' := [some (aR 2 (m)), some (aI (b))]) (st' := [aI (1), aI (b), aR 7 (18 * (m) + 11)]) (σ' := (rfill (up σ 2 (m) 2 (b)) (18 * (m)) (0))) rq_27 rfl True.intro (i' := 12) rfl ?_
  refine wp_call (C := 7) (As := [aR 7 (18 * (m) + 11), aI (b), aI (1)]) (rest := []) rq_27 (ev_set (18 * (m) + 11) (b) (1) (rfill (up σ 2 (m) 2 (b)) (18 * (m)) (0)) ) rfl rfl (show clOK 27 79 0 0 0 3 7 = true by decide +kernel) rfl (show 0 ≤ 4 by decide) (fun _ => ⟨_, rfl⟩) rfl (c' := 0) (s' := 0) rfl rfl ?_
  refine wp_vret rq_27 rfl rt_27 ⟨?_, ?_⟩
  · rfl
  · rfl

def zm_score (m s : Int) (σ : Mem) : Mem := if (zo_touchesOn (m) ((rset σ (18 * (m) + 10) (wr ((wr ((2) * (σ 2 (m) 2))) + (s))) (wr (rget σ (18 * (m) + 10) (wr ((wr ((2) * (σ 2 (m) 2))) + (s))) + (1)))) 2 (m) 2) (s) (rset σ (18 * (m) + 10) (wr ((wr ((2) * (σ 2 (m) 2))) + (s))) (wr (rget σ (18 * (m) + 10) (wr ((wr ((2) * (σ 2 (m) 2))) + (s))) + (1))))) < (zo_target (m) ((rset σ (18 * (m) + 10) (wr ((wr ((2) * (σ 2 (m) 2))) + (s))) (wr (rget σ (18 * (m) + 10) (wr ((wr ((2) * (σ 2 (m) 2))) + (s))) + (1)))) 2 (m) 2) (rset σ (18 * (m) + 10) (wr ((wr ((2) * (σ 2 (m) 2))) + (s))) (wr (rget σ (18 * (m) + 10) (wr ((wr ((2) * (σ 2 (m) 2))) + (s))) + (1))))) then (if (rget (rset σ (18 * (m) + 10) (wr ((wr ((2) * (σ 2 (m) 2))) + (s))) (wr (rget σ (18 * (m) + 10) (wr ((wr ((2) * (σ 2 (m) 2))) + (s))) + (1)))) (18 * (m) + 14) ((rset σ (18 * (m) + 10) (wr ((wr ((2) * (σ 2 (m) 2))) + (s))) (wr (rget σ (18 * (m) + 10) (wr ((wr ((2) * (σ 2 (m) 2))) + (s))) + (1)))) 2 (m) 2)) = (-1) then (rset σ (18 * (m) + 10) (wr ((wr ((2) * (σ 2 (m) 2))) + (s))) (wr (rget σ (18 * (m) + 10) (wr ((wr ((2) * (σ 2 (m) 2))) + (s))) + (1)))) else (zm_win (m) ((rset σ (18 * (m) + 10) (wr ((wr ((2) * (σ 2 (m) 2))) + (s))) (wr (rget σ (18 * (m) + 10) (wr ((wr ((2) * (σ 2 (m) 2))) + (s))) + (1)))) 2 (m) 2) (s) (rset σ (18 * (m) + 10) (wr ((wr ((2) * (σ 2 (m) 2))) + (s))) (wr (rget σ (18 * (m) + 10) (wr ((wr ((2) * (σ 2 (m) 2))) + (s))) + (1)))))) else (zm_win (m) ((rset σ (18 * (m) + 10) (wr ((wr ((2) * (σ 2 (m) 2))) + (s))) (wr (rget σ (18 * (m) + 10) (wr ((wr ((2) * (σ 2 (m) 2))) + (s))) + (1)))) 2 (m) 2) (s) (rset σ (18 * (m) + 10) (wr ((wr ((2) * (σ 2 (m) 2))) + (s))) (wr (rget σ (18 * (m) + 10) (wr ((wr ((2) * (σ 2 (m) 2))) + (s))) + (1)))))
theorem ev_score (m s : Int) (σ : Mem) : Ev true 28 [aR 2 (m), aI (s)] σ (.inl none) (zm_score m s σ) := by
  show wp true 28 0 [some (aR 2 (m)), some (aI (s)), none] [] σ 0 0 _
  refine wp_seg 10 (P := none) (ls' := [some (aR 2 (m)), some (aI (s)), none]) (st' := [aI (1), aI (wr ((wr ((2) * (σ 2 (m) 2))) + (s))), aR 7 (18 * (m) + 10)]) (σ' := σ) rq_28 rfl True.intro (i' := 10) rfl ?_
  refine wp_call (C := 7) (As := [aR 7 (18 * (m) + 10), aI (wr ((wr ((2) * (σ 2 (m) 2))) + (s))), aI (1)]) (rest := []) rq_28 (ev_add (18 * (m) + 10) (wr ((wr ((2) * (σ 2 (m) 2))) + (s))) (1) σ ) rfl rfl (show clOK 28 80 0 0 0 3 7 = true by decide +kernel) rfl (show 0 ≤ 4 by decide) (fun _ => ⟨_, rfl⟩) rfl (c' := 0) (s' := 0) rfl rfl ?_
  refine wp_seg 5 (P := none) (ls' := [some (aR 2 (m)), some (aI (s)), none]) (st' := [aI (s), aI ((rset σ (18 * (m) + 10) (wr ((wr ((2) * (σ 2 (m) 2))) + (s))) (wr (rget σ (18 * (m) + 10) (wr ((wr ((2) * (σ 2 (m) 2))) + (s))) + (1)))) 2 (m) 2), aR 0 (m)]) (σ' := (rset σ (18 * (m) + 10) (wr ((wr ((2) * (σ 2 (m) 2))) + (s))) (wr (rget σ (18 * (m) + 10) (wr ((wr ((2) * (σ 2 (m) 2))) + (s))) + (1))))) rq_28 rfl True.intro (i' := 16) rfl ?_
  refine wp_call (C := 0) (As := [aR 0 (m), aI ((rset σ (18 * (m) + 10) (wr ((wr ((2) * (σ 2 (m) 2))) + (s))) (wr (rget σ (18 * (m) + 10) (wr ((wr ((2) * (σ 2 (m) 2))) + (s))) + (1)))) 2 (m) 2), aI (s)]) (rest := []) rq_28 (ev_touchesOn (m) ((rset σ (18 * (m) + 10) (wr ((wr ((2) * (σ 2 (m) 2))) + (s))) (wr (rget σ (18 * (m) + 10) (wr ((wr ((2) * (σ 2 (m) 2))) + (s))) + (1)))) 2 (m) 2) (s) (rset σ (18 * (m) + 10) (wr ((wr ((2) * (σ 2 (m) 2))) + (s))) (wr (rget σ (18 * (m) + 10) (wr ((wr ((2) * (σ 2 (m) 2))) + (s))) + (1)))) ) rfl rfl (show clOK 28 5 0 0 0 3 0 = true by decide +kernel) rfl (show 0 ≤ 4 by decide) (fun _ => ⟨_, rfl⟩) rfl (c' := 0) (s' := 0) rfl rfl ?_
  refine wp_seg 4 (P := none) (ls' := [some (aR 2 (m)), some (aI (s)), none]) (st' := [aI ((rset σ (18 * (m) + 10) (wr ((wr ((2) * (σ 2 (m) 2))) + (s))) (wr (rget σ (18 * (m) + 10) (wr ((wr ((2) * (σ 2 (m) 2))) + (s))) + (1)))) 2 (m) 2), aR 0 (m), aI (zo_touchesOn (m) ((rset σ (18 * (m) + 10) (wr ((wr ((2) * (σ 2 (m) 2))) + (s))) (wr (rget σ (18 * (m) + 10) (wr ((wr ((2) * (σ 2 (m) 2))) + (s))) + (1)))) 2 (m) 2) (s) (rset σ (18 * (m) + 10) (wr ((wr ((2) * (σ 2 (m) 2))) + (s))) (wr (rget σ (18 * (m) + 10) (wr ((wr ((2) * (σ 2 (m) 2))) + (s))) + (1)))))]) (σ' := (rset σ (18 * (m) + 10) (wr ((wr ((2) * (σ 2 (m) 2))) + (s))) (wr (rget σ (18 * (m) + 10) (wr ((wr ((2) * (σ 2 (m) 2))) + (s))) + (1))))) rq_28 rfl True.intro (i' := 21) rfl ?_
  refine wp_call (C := 0) (As := [aR 0 (m), aI ((rset σ (18 * (m) + 10) (wr ((wr ((2) * (σ 2 (m) 2))) + (s))) (wr (rget σ (18 * (m) + 10) (wr ((wr ((2) * (σ 2 (m) 2))) + (s))) + (1)))) 2 (m) 2)]) (rest := [aI (zo_touchesOn (m) ((rset σ (18 * (m) + 10) (wr ((wr ((2) * (σ 2 (m) 2))) + (s))) (wr (rget σ (18 * (m) + 10) (wr ((wr ((2) * (σ 2 (m) 2))) + (s))) + (1)))) 2 (m) 2) (s) (rset σ (18 * (m) + 10) (wr ((wr ((2) * (σ 2 (m) 2))) + (s))) (wr (rget σ (18 * (m) + 10) (wr ((wr ((2) * (σ 2 (m) 2))) + (s))) + (1)))))]) rq_28 (ev_target (m) ((rset σ (18 * (m) + 10) (wr ((wr ((2) * (σ 2 (m) 2))) + (s))) (wr (rget σ (18 * (m) + 10) (wr ((wr ((2) * (σ 2 (m) 2))) + (s))) + (1)))) 2 (m) 2) (rset σ (18 * (m) + 10) (wr ((wr ((2) * (σ 2 (m) 2))) + (s))) (wr (rget σ (18 * (m) + 10) (wr ((wr ((2) * (σ 2 (m) 2))) + (s))) + (1)))) ) rfl rfl (show clOK 28 10 0 0 0 2 0 = true by decide +kernel) rfl (show 1 ≤ 4 by decide) (fun _ => ⟨_, rfl⟩) rfl (c' := 0) (s' := 0) rfl rfl ?_
  refine wp_icmp rq_28 rfl (fun (h1 : (zo_touchesOn (m) ((rset σ (18 * (m) + 10) (wr ((wr ((2) * (σ 2 (m) 2))) + (s))) (wr (rget σ (18 * (m) + 10) (wr ((wr ((2) * (σ 2 (m) 2))) + (s))) + (1)))) 2 (m) 2) (s) (rset σ (18 * (m) + 10) (wr ((wr ((2) * (σ 2 (m) 2))) + (s))) (wr (rget σ (18 * (m) + 10) (wr ((wr ((2) * (σ 2 (m) 2))) + (s))) + (1))))) < (zo_target (m) ((rset σ (18 * (m) + 10) (wr ((wr ((2) * (σ 2 (m) 2))) + (s))) (wr (rget σ (18 * (m) + 10) (wr ((wr ((2) * (σ 2 (m) 2))) + (s))) + (1)))) 2 (m) 2) (rset σ (18 * (m) + 10) (wr ((wr ((2) * (σ 2 (m) 2))) + (s))) (wr (rget σ (18 * (m) + 10) (wr ((wr ((2) * (σ 2 (m) 2))) + (s))) + (1)))))) => ?_) (fun (h1 : ¬ ((zo_touchesOn (m) ((rset σ (18 * (m) + 10) (wr ((wr ((2) * (σ 2 (m) 2))) + (s))) (wr (rget σ (18 * (m) + 10) (wr ((wr ((2) * (σ 2 (m) 2))) + (s))) + (1)))) 2 (m) 2) (s) (rset σ (18 * (m) + 10) (wr ((wr ((2) * (σ 2 (m) 2))) + (s))) (wr (rget σ (18 * (m) + 10) (wr ((wr ((2) * (σ 2 (m) 2))) + (s))) + (1))))) < (zo_target (m) ((rset σ (18 * (m) + 10) (wr ((wr ((2) * (σ 2 (m) 2))) + (s))) (wr (rget σ (18 * (m) + 10) (wr ((wr ((2) * (σ 2 (m) 2))) + (s))) + (1)))) 2 (m) 2) (rset σ (18 * (m) + 10) (wr ((wr ((2) * (σ 2 (m) 2))) + (s))) (wr (rget σ (18 * (m) + 10) (wr ((wr ((2) * (σ 2 (m) 2))) + (s))) + (1))))))) => ?_)
  · refine wp_seg 3 (P := none) (ls' := [some (aR 2 (m)), some (aI (s)), some (aI (0))]) (st' := [aI (0)]) (σ' := (rset σ (18 * (m) + 10) (wr ((wr ((2) * (σ 2 (m) 2))) + (s))) (wr (rget σ (18 * (m) + 10) (wr ((wr ((2) * (σ 2 (m) 2))) + (s))) + (1))))) rq_28 rfl True.intro (i' := 28) rfl ?_
    refine wp_if rq_28 rfl (fun (h2 : ¬ (0 : Int) = (0 : Int)) => absurd h2 (show ¬ (¬ (0 : Int) = (0 : Int)) from by decide)) (fun _ => ?_)
    refine wp_seg 5 (P := none) (ls' := [some (aR 2 (m)), some (aI (s)), some (aI (0))]) (st' := [aI ((rset σ (18 * (m) + 10) (wr ((wr ((2) * (σ 2 (m) 2))) + (s))) (wr (rget σ (18 * (m) + 10) (wr ((wr ((2) * (σ 2 (m) 2))) + (s))) + (1)))) 2 (m) 2), aR 7 (18 * (m) + 14)]) (σ' := (rset σ (18 * (m) + 10) (wr ((wr ((2) * (σ 2 (m) 2))) + (s))) (wr (rget σ (18 * (m) + 10) (wr ((wr ((2) * (σ 2 (m) 2))) + (s))) + (1))))) rq_28 rfl True.intro (i' := 34) rfl ?_
    refine wp_call (C := 7) (As := [aR 7 (18 * (m) + 14), aI ((rset σ (18 * (m) + 10) (wr ((wr ((2) * (σ 2 (m) 2))) + (s))) (wr (rget σ (18 * (m) + 10) (wr ((wr ((2) * (σ 2 (m) 2))) + (s))) + (1)))) 2 (m) 2)]) (rest := []) rq_28 (ev_get (18 * (m) + 14) ((rset σ (18 * (m) + 10) (wr ((wr ((2) * (σ 2 (m) 2))) + (s))) (wr (rget σ (18 * (m) + 10) (wr ((wr ((2) * (σ 2 (m) 2))) + (s))) + (1)))) 2 (m) 2) (rset σ (18 * (m) + 10) (wr ((wr ((2) * (σ 2 (m) 2))) + (s))) (wr (rget σ (18 * (m) + 10) (wr ((wr ((2) * (σ 2 (m) 2))) + (s))) + (1)))) ) rfl rfl (show clOK 28 78 0 0 0 2 7 = true by decide +kernel) rfl (show 0 ≤ 4 by decide) (fun _ => ⟨_, rfl⟩) rfl (c' := 0) (s' := 0) rfl rfl ?_
    refine wp_seg 1 (P := none) (ls' := [some (aR 2 (m)), some (aI (s)), some (aI (0))]) (st' := [aI (-1), aI (rget (rset σ (18 * (m) + 10) (wr ((wr ((2) * (σ 2 (m) 2))) + (s))) (wr (rget σ (18 * (m) + 10) (wr ((wr ((2) * (σ 2 (m) 2))) + (s))) + (1)))) (18 * (m) + 14) ((rset σ (18 * (m) + 10) (wr ((wr ((2) * (σ 2 (m) 2))) + (s))) (wr (rget σ (18 * (m) + 10) (wr ((wr ((2) * (σ 2 (m) 2))) + (s))) + (1)))) 2 (m) 2))]) (σ' := (rset σ (18 * (m) + 10) (wr ((wr ((2) * (σ 2 (m) 2))) + (s))) (wr (rget σ (18 * (m) + 10) (wr ((wr ((2) * (σ 2 (m) 2))) + (s))) + (1))))) rq_28 rfl True.intro (i' := 36) rfl ?_
    refine wp_icmp rq_28 rfl (fun (h3 : (rget (rset σ (18 * (m) + 10) (wr ((wr ((2) * (σ 2 (m) 2))) + (s))) (wr (rget σ (18 * (m) + 10) (wr ((wr ((2) * (σ 2 (m) 2))) + (s))) + (1)))) (18 * (m) + 14) ((rset σ (18 * (m) + 10) (wr ((wr ((2) * (σ 2 (m) 2))) + (s))) (wr (rget σ (18 * (m) + 10) (wr ((wr ((2) * (σ 2 (m) 2))) + (s))) + (1)))) 2 (m) 2)) = (-1)) => ?_) (fun (h3 : ¬ ((rget (rset σ (18 * (m) + 10) (wr ((wr ((2) * (σ 2 (m) 2))) + (s))) (wr (rget σ (18 * (m) + 10) (wr ((wr ((2) * (σ 2 (m) 2))) + (s))) + (1)))) (18 * (m) + 14) ((rset σ (18 * (m) + 10) (wr ((wr ((2) * (σ 2 (m) 2))) + (s))) (wr (rget σ (18 * (m) + 10) (wr ((wr ((2) * (σ 2 (m) 2))) + (s))) + (1)))) 2 (m) 2)) = (-1))) => ?_)
    · refine wp_vret rq_28 rfl rt_28 ⟨?_, ?_⟩
      · rfl
      · (rw [zm_score, if_pos h1, if_pos h3]; try rfl)
    · refine wp_seg 4 (P := none) (ls' := [some (aR 2 (m)), some (aI (s)), some (aI (0))]) (st' := [aI (s), aI ((rset σ (18 * (m) + 10) (wr ((wr ((2) * (σ 2 (m) 2))) + (s))) (wr (rget σ (18 * (m) + 10) (wr ((wr ((2) * (σ 2 (m) 2))) + (s))) + (1)))) 2 (m) 2), aR 2 (m)]) (σ' := (rset σ (18 * (m) + 10) (wr ((wr ((2) * (σ 2 (m) 2))) + (s))) (wr (rget σ (18 * (m) + 10) (wr ((wr ((2) * (σ 2 (m) 2))) + (s))) + (1))))) rq_28 rfl True.intro (i' := 41) rfl ?_
      refine wp_call (C := 2) (As := [aR 2 (m), aI ((rset σ (18 * (m) + 10) (wr ((wr ((2) * (σ 2 (m) 2))) + (s))) (wr (rget σ (18 * (m) + 10) (wr ((wr ((2) * (σ 2 (m) 2))) + (s))) + (1)))) 2 (m) 2), aI (s)]) (rest := []) rq_28 (ev_win (m) ((rset σ (18 * (m) + 10) (wr ((wr ((2) * (σ 2 (m) 2))) + (s))) (wr (rget σ (18 * (m) + 10) (wr ((wr ((2) * (σ 2 (m) 2))) + (s))) + (1)))) 2 (m) 2) (s) (rset σ (18 * (m) + 10) (wr ((wr ((2) * (σ 2 (m) 2))) + (s))) (wr (rget σ (18 * (m) + 10) (wr ((wr ((2) * (σ 2 (m) 2))) + (s))) + (1)))) ) rfl rfl (show clOK 28 35 0 0 0 3 2 = true by decide +kernel) rfl (show 0 ≤ 4 by decide) (fun _ => ⟨_, rfl⟩) rfl (c' := 0) (s' := 0) rfl rfl ?_
      refine wp_vret rq_28 rfl rt_28 ⟨?_, ?_⟩
      · rfl
      · (rw [zm_score, if_pos h1, if_neg h3]; try rfl)
  · refine wp_seg 1 (P := none) (ls' := [some (aR 2 (m)), some (aI (s)), none]) (st' := [aI (1)]) (σ' := (rset σ (18 * (m) + 10) (wr ((wr ((2) * (σ 2 (m) 2))) + (s))) (wr (rget σ (18 * (m) + 10) (wr ((wr ((2) * (σ 2 (m) 2))) + (s))) + (1))))) rq_28 rfl True.intro (i' := 24) rfl ?_
    refine wp_goto rq_28 rfl ?_
    refine wp_seg 2 (P := none) (ls' := [some (aR 2 (m)), some (aI (s)), some (aI (1))]) (st' := [aI (1)]) (σ' := (rset σ (18 * (m) + 10) (wr ((wr ((2) * (σ 2 (m) 2))) + (s))) (wr (rget σ (18 * (m) + 10) (wr ((wr ((2) * (σ 2 (m) 2))) + (s))) + (1))))) rq_28 rfl True.intro (i' := 28) rfl ?_
    refine wp_if rq_28 rfl (fun _ => ?_) (fun (h4 : ¬ (¬ (1 : Int) = (0 : Int))) => absurd (show ¬ (1 : Int) = (0 : Int) from by decide) h4)
    refine wp_seg 4 (P := none) (ls' := [some (aR 2 (m)), some (aI (s)), some (aI (1))]) (st' := [aI (s), aI ((rset σ (18 * (m) + 10) (wr ((wr ((2) * (σ 2 (m) 2))) + (s))) (wr (rget σ (18 * (m) + 10) (wr ((wr ((2) * (σ 2 (m) 2))) + (s))) + (1)))) 2 (m) 2), aR 2 (m)]) (σ' := (rset σ (18 * (m) + 10) (wr ((wr ((2) * (σ 2 (m) 2))) + (s))) (wr (rget σ (18 * (m) + 10) (wr ((wr ((2) * (σ 2 (m) 2))) + (s))) + (1))))) rq_28 rfl True.intro (i' := 41) rfl ?_
    refine wp_call (C := 2) (As := [aR 2 (m), aI ((rset σ (18 * (m) + 10) (wr ((wr ((2) * (σ 2 (m) 2))) + (s))) (wr (rget σ (18 * (m) + 10) (wr ((wr ((2) * (σ 2 (m) 2))) + (s))) + (1)))) 2 (m) 2), aI (s)]) (rest := []) rq_28 (ev_win (m) ((rset σ (18 * (m) + 10) (wr ((wr ((2) * (σ 2 (m) 2))) + (s))) (wr (rget σ (18 * (m) + 10) (wr ((wr ((2) * (σ 2 (m) 2))) + (s))) + (1)))) 2 (m) 2) (s) (rset σ (18 * (m) + 10) (wr ((wr ((2) * (σ 2 (m) 2))) + (s))) (wr (rget σ (18 * (m) + 10) (wr ((wr ((2) * (σ 2 (m) 2))) + (s))) + (1)))) ) rfl rfl (show clOK 28 35 0 0 0 3 2 = true by decide +kernel) rfl (show 0 ≤ 4 by decide) (fun _ => ⟨_, rfl⟩) rfl (c' := 0) (s' := 0) rfl rfl ?_
    refine wp_vret rq_28 rfl rt_28 ⟨?_, ?_⟩
    · rfl
    · (rw [zm_score, if_neg h1]; try rfl)

def zm_scoreBoth (m : Int) (σ : Mem) : Mem := if ¬ (rget σ (18 * (m) + 14) (σ 2 (m) 2)) = (-1) then σ else if (wr ((zo_target (m) (σ 2 (m) 2) σ) - (2))) < (zo_touchesOn (m) (σ 2 (m) 2) (0) σ) then σ else if (wr ((zo_target (m) (σ 2 (m) 2) σ) - (2))) < (zo_touchesOn (m) (σ 2 (m) 2) (1) σ) then σ else (rset (rset σ (18 * (m) + 10) (wr ((wr ((2) * (σ 2 (m) 2))) + (0))) (wr (rget σ (18 * (m) + 10) (wr ((wr ((2) * (σ 2 (m) 2))) + (0))) + (1)))) (18 * (m) + 10) (wr ((wr ((2) * ((rset σ (18 * (m) + 10) (wr ((wr ((2) * (σ 2 (m) 2))) + (0))) (wr (rget σ (18 * (m) + 10) (wr ((wr ((2) * (σ 2 (m) 2))) + (0))) + (1)))) 2 (m) 2))) + (1))) (wr (rget (rset σ (18 * (m) + 10) (wr ((wr ((2) * (σ 2 (m) 2))) + (0))) (wr (rget σ (18 * (m) + 10) (wr ((wr ((2) * (σ 2 (m) 2))) + (0))) + (1)))) (18 * (m) + 10) (wr ((wr ((2) * ((rset σ (18 * (m) + 10) (wr ((wr ((2) * (σ 2 (m) 2))) + (0))) (wr (rget σ (18 * (m) + 10) (wr ((wr ((2) * (σ 2 (m) 2))) + (0))) + (1)))) 2 (m) 2))) + (1))) + (1))))
theorem ev_scoreBoth (m : Int) (σ : Mem) : Ev true 29 [aR 2 (m)] σ (.inl none) (zm_scoreBoth m σ) := by
  show wp true 29 0 [some (aR 2 (m)), none] [] σ 0 0 _
  refine wp_seg 4 (P := none) (ls' := [some (aR 2 (m)), none]) (st' := [aI (σ 2 (m) 2), aR 0 (m)]) (σ' := σ) rq_29 rfl True.intro (i' := 4) rfl ?_
  refine wp_call (C := 0) (As := [aR 0 (m), aI (σ 2 (m) 2)]) (rest := []) rq_29 (ev_target (m) (σ 2 (m) 2) σ ) rfl rfl (show clOK 29 10 0 0 0 2 0 = true by decide +kernel) rfl (show 0 ≤ 4 by decide) (fun _ => ⟨_, rfl⟩) rfl (c' := 0) (s' := 0) rfl rfl ?_
  refine wp_seg 8 (P := none) (ls' := [some (aR 2 (m)), some (aI (wr ((zo_target (m) (σ 2 (m) 2) σ) - (2))))]) (st' := [aI (σ 2 (m) 2), aR 7 (18 * (m) + 14)]) (σ' := σ) rq_29 rfl True.intro (i' := 13) rfl ?_
  refine wp_call (C := 7) (As := [aR 7 (18 * (m) + 14), aI (σ 2 (m) 2)]) (rest := []) rq_29 (ev_get (18 * (m) + 14) (σ 2 (m) 2) σ ) rfl rfl (show clOK 29 78 0 0 0 2 7 = true by decide +kernel) rfl (show 0 ≤ 4 by decide) (fun _ => ⟨_, rfl⟩) rfl (c' := 0) (s' := 0) rfl rfl ?_
  refine wp_seg 1 (P := none) (ls' := [some (aR 2 (m)), some (aI (wr ((zo_target (m) (σ 2 (m) 2) σ) - (2))))]) (st' := [aI (-1), aI (rget σ (18 * (m) + 14) (σ 2 (m) 2))]) (σ' := σ) rq_29 rfl True.intro (i' := 15) rfl ?_
  refine wp_icmp rq_29 rfl (fun (h1 : ¬ (rget σ (18 * (m) + 14) (σ 2 (m) 2)) = (-1)) => ?_) (fun (h1 : ¬ (¬ (rget σ (18 * (m) + 14) (σ 2 (m) 2)) = (-1))) => ?_)
  · refine wp_vret rq_29 rfl rt_29 ⟨?_, ?_⟩
    · rfl
    · (rw [zm_scoreBoth, if_pos h1]; try rfl)
  · refine wp_seg 5 (P := none) (ls' := [some (aR 2 (m)), some (aI (wr ((zo_target (m) (σ 2 (m) 2) σ) - (2))))]) (st' := [aI (0), aI (σ 2 (m) 2), aR 0 (m)]) (σ' := σ) rq_29 rfl True.intro (i' := 21) rfl ?_
    refine wp_call (C := 0) (As := [aR 0 (m), aI (σ 2 (m) 2), aI (0)]) (rest := []) rq_29 (ev_touchesOn (m) (σ 2 (m) 2) (0) σ ) rfl rfl (show clOK 29 5 0 0 0 3 0 = true by decide +kernel) rfl (show 0 ≤ 4 by decide) (fun _ => ⟨_, rfl⟩) rfl (c' := 0) (s' := 0) rfl rfl ?_
    refine wp_seg 1 (P := none) (ls' := [some (aR 2 (m)), some (aI (wr ((zo_target (m) (σ 2 (m) 2) σ) - (2))))]) (st' := [aI (wr ((zo_target (m) (σ 2 (m) 2) σ) - (2))), aI (zo_touchesOn (m) (σ 2 (m) 2) (0) σ)]) (σ' := σ) rq_29 rfl True.intro (i' := 23) rfl ?_
    refine wp_icmp rq_29 rfl (fun (h2 : (wr ((zo_target (m) (σ 2 (m) 2) σ) - (2))) < (zo_touchesOn (m) (σ 2 (m) 2) (0) σ)) => ?_) (fun (h2 : ¬ ((wr ((zo_target (m) (σ 2 (m) 2) σ) - (2))) < (zo_touchesOn (m) (σ 2 (m) 2) (0) σ))) => ?_)
    · refine wp_vret rq_29 rfl rt_29 ⟨?_, ?_⟩
      · rfl
      · (rw [zm_scoreBoth, if_neg h1, if_pos h2]; try rfl)
    · refine wp_seg 5 (P := none) (ls' := [some (aR 2 (m)), some (aI (wr ((zo_target (m) (σ 2 (m) 2) σ) - (2))))]) (st' := [aI (1), aI (σ 2 (m) 2), aR 0 (m)]) (σ' := σ) rq_29 rfl True.intro (i' := 29) rfl ?_
      refine wp_call (C := 0) (As := [aR 0 (m), aI (σ 2 (m) 2), aI (1)]) (rest := []) rq_29 (ev_touchesOn (m) (σ 2 (m) 2) (1) σ ) rfl rfl (show clOK 29 5 0 0 0 3 0 = true by decide +kernel) rfl (show 0 ≤ 4 by decide) (fun _ => ⟨_, rfl⟩) rfl (c' := 0) (s' := 0) rfl rfl ?_
      refine wp_seg 1 (P := none) (ls' := [some (aR 2 (m)), some (aI (wr ((zo_target (m) (σ 2 (m) 2) σ) - (2))))]) (st' := [aI (wr ((zo_target (m) (σ 2 (m) 2) σ) - (2))), aI (zo_touchesOn (m) (σ 2 (m) 2) (1) σ)]) (σ' := σ) rq_29 rfl True.intro (i' := 31) rfl ?_
      refine wp_icmp rq_29 rfl (fun (h3 : (wr ((zo_target (m) (σ 2 (m) 2) σ) - (2))) < (zo_touchesOn (m) (σ 2 (m) 2) (1) σ)) => ?_) (fun (h3 : ¬ ((wr ((zo_target (m) (σ 2 (m) 2) σ) - (2))) < (zo_touchesOn (m) (σ 2 (m) 2) (1) σ))) => ?_)
      · refine wp_vret rq_29 rfl rt_29 ⟨?_, ?_⟩
        · rfl
        · (rw [zm_scoreBoth, if_neg h1, if_neg h2, if_pos h3]; try rfl)
      · refine wp_seg 10 (P := none) (ls' := [some (aR 2 (m)), some (aI (wr ((zo_target (m) (σ 2 (m) 2) σ) - (2))))]) (st' := [aI (1), aI (wr ((wr ((2) * (σ 2 (m) 2))) + (0))), aR 7 (18 * (m) + 10)]) (σ' := σ) rq_29 rfl True.intro (i' := 42) rfl ?_
        refine wp_call (C := 7) (As := [aR 7 (18 * (m) + 10), aI (wr ((wr ((2) * (σ 2 (m) 2))) + (0))), aI (1)]) (rest := []) rq_29 (ev_add (18 * (m) + 10) (wr ((wr ((2) * (σ 2 (m) 2))) + (0))) (1) σ ) rfl rfl (show clOK 29 80 0 0 0 3 7 = true by decide +kernel) rfl (show 0 ≤ 4 by decide) (fun _ => ⟨_, rfl⟩) rfl (c' := 0) (s' := 0) rfl rfl ?_
        refine wp_seg 10 (P := none) (ls' := [some (aR 2 (m)), some (aI (wr ((zo_target (m) (σ 2 (m) 2) σ) - (2))))]) (st' := [aI (1), aI (wr ((wr ((2) * ((rset σ (18 * (m) + 10) (wr ((wr ((2) * (σ 2 (m) 2))) + (0))) (wr (rget σ (18 * (m) + 10) (wr ((wr ((2) * (σ 2 (m) 2))) + (0))) + (1)))) 2 (m) 2))) + (1))), aR 7 (18 * (m) + 10)]) (σ' := (rset σ (18 * (m) + 10) (wr ((wr ((2) * (σ 2 (m) 2))) + (0))) (wr (rget σ (18 * (m) + 10) (wr ((wr ((2) * (σ 2 (m) 2))) + (0))) + (1))))) rq_29 rfl True.intro (i' := 53) rfl ?_
        refine wp_call (C := 7) (As := [aR 7 (18 * (m) + 10), aI (wr ((wr ((2) * ((rset σ (18 * (m) + 10) (wr ((wr ((2) * (σ 2 (m) 2))) + (0))) (wr (rget σ (18 * (m) + 10) (wr ((wr ((2) * (σ 2 (m) 2))) + (0))) + (1)))) 2 (m) 2))) + (1))), aI (1)]) (rest := []) rq_29 (ev_add (18 * (m) + 10) (wr ((wr ((2) * ((rset σ (18 * (m) + 10) (wr ((wr ((2) * (σ 2 (m) 2))) + (0))) (wr (rget σ (18 * (m) + 10) (wr ((wr ((2) * (σ 2 (m) 2))) + (0))) + (1)))) 2 (m) 2))) + (1))) (1) (rset σ (18 * (m) + 10) (wr ((wr ((2) * (σ 2 (m) 2))) + (0))) (wr (rget σ (18 * (m) + 10) (wr ((wr ((2) * (σ 2 (m) 2))) + (0))) + (1)))) ) rfl rfl (show clOK 29 80 0 0 0 3 7 = true by decide +kernel) rfl (show 0 ≤ 4 by decide) (fun _ => ⟨_, rfl⟩) rfl (c' := 0) (s' := 0) rfl rfl ?_
        refine wp_vret rq_29 rfl rt_29 ⟨?_, ?_⟩
        · rfl
        · (rw [zm_scoreBoth, if_neg h1, if_neg h2, if_neg h3]; try rfl)

def zm_runOut (m : Int) (σ : Mem) : Mem := if (rget σ (18 * (m) + 14) (σ 2 (m) 2)) = (-1) then (if (zo_touchesOn (m) (σ 2 (m) 2) (0) σ) = (zo_touchesOn (m) (σ 2 (m) 2) (1) σ) then (rset (zm_drawSide (m) σ) (18 * (m) + 14) (σ 2 (m) 2) (zo_drawSide (m) σ)) else if (zo_touchesOn (m) (σ 2 (m) 2) (0) σ) ≤ (zo_touchesOn (m) (σ 2 (m) 2) (1) σ) then (zm_win (m) (σ 2 (m) 2) (1) σ) else (zm_win (m) (σ 2 (m) 2) (0) σ)) else (zm_win (m) (σ 2 (m) 2) (rget σ (18 * (m) + 14) (σ 2 (m) 2)) σ)
theorem ev_runOut (m : Int) (σ : Mem) : Ev true 30 [aR 2 (m)] σ (.inl none) (zm_runOut m σ) := by
  show wp true 30 0 [some (aR 2 (m)), none, none, none] [] σ 0 0 _
  refine wp_seg 5 (P := none) (ls' := [some (aR 2 (m)), none, none, none]) (st' := [aI (0), aI (σ 2 (m) 2), aR 0 (m)]) (σ' := σ) rq_30 rfl True.intro (i' := 5) rfl ?_
  refine wp_call (C := 0) (As := [aR 0 (m), aI (σ 2 (m) 2), aI (0)]) (rest := []) rq_30 (ev_touchesOn (m) (σ 2 (m) 2) (0) σ ) rfl rfl (show clOK 30 5 0 0 0 3 0 = true by decide +kernel) rfl (show 0 ≤ 4 by decide) (fun _ => ⟨_, rfl⟩) rfl (c' := 0) (s' := 0) rfl rfl ?_
  refine wp_seg 6 (P := none) (ls' := [some (aR 2 (m)), some (aI (zo_touchesOn (m) (σ 2 (m) 2) (0) σ)), none, none]) (st' := [aI (1), aI (σ 2 (m) 2), aR 0 (m)]) (σ' := σ) rq_30 rfl True.intro (i' := 12) rfl ?_
  refine wp_call (C := 0) (As := [aR 0 (m), aI (σ 2 (m) 2), aI (1)]) (rest := []) rq_30 (ev_touchesOn (m) (σ 2 (m) 2) (1) σ ) rfl rfl (show clOK 30 5 0 0 0 3 0 = true by decide +kernel) rfl (show 0 ≤ 4 by decide) (fun _ => ⟨_, rfl⟩) rfl (c' := 0) (s' := 0) rfl rfl ?_
  refine wp_seg 6 (P := none) (ls' := [some (aR 2 (m)), some (aI (zo_touchesOn (m) (σ 2 (m) 2) (0) σ)), some (aI (zo_touchesOn (m) (σ 2 (m) 2) (1) σ)), none]) (st' := [aI (σ 2 (m) 2), aR 7 (18 * (m) + 14)]) (σ' := σ) rq_30 rfl True.intro (i' := 19) rfl ?_
  refine wp_call (C := 7) (As := [aR 7 (18 * (m) + 14), aI (σ 2 (m) 2)]) (rest := []) rq_30 (ev_get (18 * (m) + 14) (σ 2 (m) 2) σ ) rfl rfl (show clOK 30 78 0 0 0 2 7 = true by decide +kernel) rfl (show 0 ≤ 4 by decide) (fun _ => ⟨_, rfl⟩) rfl (c' := 0) (s' := 0) rfl rfl ?_
  refine wp_seg 3 (P := none) (ls' := [some (aR 2 (m)), some (aI (zo_touchesOn (m) (σ 2 (m) 2) (0) σ)), some (aI (zo_touchesOn (m) (σ 2 (m) 2) (1) σ)), some (aI (rget σ (18 * (m) + 14) (σ 2 (m) 2)))]) (st' := [aI (-1), aI (rget σ (18 * (m) + 14) (σ 2 (m) 2))]) (σ' := σ) rq_30 rfl True.intro (i' := 23) rfl ?_
  refine wp_icmp rq_30 rfl (fun (h1 : (rget σ (18 * (m) + 14) (σ 2 (m) 2)) = (-1)) => ?_) (fun (h1 : ¬ ((rget σ (18 * (m) + 14) (σ 2 (m) 2)) = (-1))) => ?_)
  · refine wp_seg 2 (P := none) (ls' := [some (aR 2 (m)), some (aI (zo_touchesOn (m) (σ 2 (m) 2) (0) σ)), some (aI (zo_touchesOn (m) (σ 2 (m) 2) (1) σ)), some (aI (rget σ (18 * (m) + 14) (σ 2 (m) 2)))]) (st' := [aI (zo_touchesOn (m) (σ 2 (m) 2) (1) σ), aI (zo_touchesOn (m) (σ 2 (m) 2) (0) σ)]) (σ' := σ) rq_30 rfl True.intro (i' := 32) rfl ?_
    refine wp_icmp rq_30 rfl (fun (h2 : (zo_touchesOn (m) (σ 2 (m) 2) (0) σ) = (zo_touchesOn (m) (σ 2 (m) 2) (1) σ)) => ?_) (fun (h2 : ¬ ((zo_touchesOn (m) (σ 2 (m) 2) (0) σ) = (zo_touchesOn (m) (σ 2 (m) 2) (1) σ))) => ?_)
    · refine wp_seg 6 (P := none) (ls' := [some (aR 2 (m)), some (aI (zo_touchesOn (m) (σ 2 (m) 2) (0) σ)), some (aI (zo_touchesOn (m) (σ 2 (m) 2) (1) σ)), some (aI (rget σ (18 * (m) + 14) (σ 2 (m) 2)))]) (st' := [aR 2 (m), aI (σ 2 (m) 2), aR 7 (18 * (m) + 14)]) (σ' := σ) rq_30 rfl True.intro (i' := 50) rfl ?_
      refine wp_call (C := 2) (As := [aR 2 (m)]) (rest := [aI (σ 2 (m) 2), aR 7 (18 * (m) + 14)]) rq_30 (ev_drawSide (m) σ ) rfl rfl (show clOK 30 31 0 0 0 1 2 = true by decide +kernel) rfl (show 2 ≤ 4 by decide) (fun _ => ⟨_, rfl⟩) rfl (c' := 0) (s' := 0) rfl rfl ?_
      refine wp_call (C := 7) (As := [aR 7 (18 * (m) + 14), aI (σ 2 (m) 2), aI (zo_drawSide (m) σ)]) (rest := []) rq_30 (ev_set (18 * (m) + 14) (σ 2 (m) 2) (zo_drawSide (m) σ) (zm_drawSide (m) σ) ) rfl rfl (show clOK 30 79 0 0 0 3 7 = true by decide +kernel) rfl (show 0 ≤ 4 by decide) (fun _ => ⟨_, rfl⟩) rfl (c' := 0) (s' := 0) rfl rfl ?_
      refine wp_vret rq_30 rfl rt_30 ⟨?_, ?_⟩
      · rfl
      · (rw [zm_runOut, if_pos h1, if_pos h2]; try rfl)
    · refine wp_seg 5 (P := none) (ls' := [some (aR 2 (m)), some (aI (zo_touchesOn (m) (σ 2 (m) 2) (0) σ)), some (aI (zo_touchesOn (m) (σ 2 (m) 2) (1) σ)), some (aI (rget σ (18 * (m) + 14) (σ 2 (m) 2)))]) (st' := [aI (zo_touchesOn (m) (σ 2 (m) 2) (1) σ), aI (zo_touchesOn (m) (σ 2 (m) 2) (0) σ), aI (σ 2 (m) 2), aR 2 (m)]) (σ' := σ) rq_30 rfl True.intro (i' := 38) rfl ?_
      refine wp_icmp rq_30 rfl (fun (h3 : (zo_touchesOn (m) (σ 2 (m) 2) (0) σ) ≤ (zo_touchesOn (m) (σ 2 (m) 2) (1) σ)) => ?_) (fun (h3 : ¬ ((zo_touchesOn (m) (σ 2 (m) 2) (0) σ) ≤ (zo_touchesOn (m) (σ 2 (m) 2) (1) σ))) => ?_)
      · refine wp_seg 1 (P := none) (ls' := [some (aR 2 (m)), some (aI (zo_touchesOn (m) (σ 2 (m) 2) (0) σ)), some (aI (zo_touchesOn (m) (σ 2 (m) 2) (1) σ)), some (aI (rget σ (18 * (m) + 14) (σ 2 (m) 2)))]) (st' := [aI (1), aI (σ 2 (m) 2), aR 2 (m)]) (σ' := σ) rq_30 rfl True.intro (i' := 42) rfl ?_
        refine wp_call (C := 2) (As := [aR 2 (m), aI (σ 2 (m) 2), aI (1)]) (rest := []) rq_30 (ev_win (m) (σ 2 (m) 2) (1) σ ) rfl rfl (show clOK 30 35 0 0 0 3 2 = true by decide +kernel) rfl (show 0 ≤ 4 by decide) (fun _ => ⟨_, rfl⟩) rfl (c' := 0) (s' := 0) rfl rfl ?_
        refine wp_goto rq_30 rfl ?_
        refine wp_vret rq_30 rfl rt_30 ⟨?_, ?_⟩
        · rfl
        · (rw [zm_runOut, if_pos h1, if_neg h2, if_pos h3]; try rfl)
      · refine wp_seg 1 (P := none) (ls' := [some (aR 2 (m)), some (aI (zo_touchesOn (m) (σ 2 (m) 2) (0) σ)), some (aI (zo_touchesOn (m) (σ 2 (m) 2) (1) σ)), some (aI (rget σ (18 * (m) + 14) (σ 2 (m) 2)))]) (st' := [aI (0), aI (σ 2 (m) 2), aR 2 (m)]) (σ' := σ) rq_30 rfl True.intro (i' := 40) rfl ?_
        refine wp_goto rq_30 rfl ?_
        refine wp_call (C := 2) (As := [aR 2 (m), aI (σ 2 (m) 2), aI (0)]) (rest := []) rq_30 (ev_win (m) (σ 2 (m) 2) (0) σ ) rfl rfl (show clOK 30 35 0 0 0 3 2 = true by decide +kernel) rfl (show 0 ≤ 4 by decide) (fun _ => ⟨_, rfl⟩) rfl (c' := 0) (s' := 0) rfl rfl ?_
        refine wp_goto rq_30 rfl ?_
        refine wp_vret rq_30 rfl rt_30 ⟨?_, ?_⟩
        · rfl
        · (rw [zm_runOut, if_pos h1, if_neg h2, if_neg h3]; try rfl)
  · refine wp_seg 4 (P := none) (ls' := [some (aR 2 (m)), some (aI (zo_touchesOn (m) (σ 2 (m) 2) (0) σ)), some (aI (zo_touchesOn (m) (σ 2 (m) 2) (1) σ)), some (aI (rget σ (18 * (m) + 14) (σ 2 (m) 2)))]) (st' := [aI (rget σ (18 * (m) + 14) (σ 2 (m) 2)), aI (σ 2 (m) 2), aR 2 (m)]) (σ' := σ) rq_30 rfl True.intro (i' := 28) rfl ?_
    refine wp_call (C := 2) (As := [aR 2 (m), aI (σ 2 (m) 2), aI (rget σ (18 * (m) + 14) (σ 2 (m) 2))]) (rest := []) rq_30 (ev_win (m) (σ 2 (m) 2) (rget σ (18 * (m) + 14) (σ 2 (m) 2)) σ ) rfl rfl (show clOK 30 35 0 0 0 3 2 = true by decide +kernel) rfl (show 0 ≤ 4 by decide) (fun _ => ⟨_, rfl⟩) rfl (c' := 0) (s' := 0) rfl rfl ?_
    refine wp_goto rq_30 rfl ?_
    refine wp_vret rq_30 rfl rt_30 ⟨?_, ?_⟩
    · rfl
    · (rw [zm_runOut, if_neg h1]; try rfl)

def zm_exclude (m f s : Int) (σ : Mem) : Mem := if (zo_isOfPool (m) ((rset σ (18 * (m) + 5) (f) (1)) 2 (m) 2) (rset σ (18 * (m) + 5) (f) (1))) = 0 then (zm_win (m) ((rset σ (18 * (m) + 5) (f) (1)) 2 (m) 2) (wr ((1) - (s))) (rset σ (18 * (m) + 5) (f) (1))) else (up (zm_annulInPool (m) (f) (rset σ (18 * (m) + 5) (f) (1))) 2 (m) 2 (-1))
theorem ev_exclude (m f s : Int) (σ : Mem) : Ev true 33 [aR 2 (m), aI (f), aI (s)] σ (.inl none) (zm_exclude m f s σ) := by
  show wp true 33 0 [some (aR 2 (m)), some (aI (f)), some (aI (s))] [] σ 0 0 _
  refine wp_seg 5 (P := none) (ls' := [some (aR 2 (m)), some (aI (f)), some (aI (s))]) (st' := [aI (1), aI (f), aR 7 (18 * (m) + 5)]) (σ' := σ) rq_33 rfl True.intro (i' := 5) rfl ?_
  refine wp_call (C := 7) (As := [aR 7 (18 * (m) + 5), aI (f), aI (1)]) (rest := []) rq_33 (ev_set (18 * (m) + 5) (f) (1) σ ) rfl rfl (show clOK 33 79 0 0 0 3 7 = true by decide +kernel) rfl (show 0 ≤ 4 by decide) (fun _ => ⟨_, rfl⟩) rfl (c' := 0) (s' := 0) rfl rfl ?_
  refine wp_seg 4 (P := none) (ls' := [some (aR 2 (m)), some (aI (f)), some (aI (s))]) (st' := [aI ((rset σ (18 * (m) + 5) (f) (1)) 2 (m) 2), aR 0 (m)]) (σ' := (rset σ (18 * (m) + 5) (f) (1))) rq_33 rfl True.intro (i' := 10) rfl ?_
  refine wp_call (C := 0) (As := [aR 0 (m), aI ((rset σ (18 * (m) + 5) (f) (1)) 2 (m) 2)]) (rest := []) rq_33 (ev_isOfPool (m) ((rset σ (18 * (m) + 5) (f) (1)) 2 (m) 2) (rset σ (18 * (m) + 5) (f) (1)) ) rfl rfl (show clOK 33 6 0 0 0 2 0 = true by decide +kernel) rfl (show 0 ≤ 4 by decide) (fun _ => ⟨_, rfl⟩) rfl (c' := 0) (s' := 0) rfl rfl ?_
  refine wp_if rq_33 rfl (fun (h1 : (zo_isOfPool (m) ((rset σ (18 * (m) + 5) (f) (1)) 2 (m) 2) (rset σ (18 * (m) + 5) (f) (1))) = 0) => ?_) (fun (h1 : ¬ ((zo_isOfPool (m) ((rset σ (18 * (m) + 5) (f) (1)) 2 (m) 2) (rset σ (18 * (m) + 5) (f) (1))) = 0)) => ?_)
  · refine wp_seg 6 (P := none) (ls' := [some (aR 2 (m)), some (aI (f)), some (aI (s))]) (st' := [aI (wr ((1) - (s))), aI ((rset σ (18 * (m) + 5) (f) (1)) 2 (m) 2), aR 2 (m)]) (σ' := (rset σ (18 * (m) + 5) (f) (1))) rq_33 rfl True.intro (i' := 26) rfl ?_
    refine wp_call (C := 2) (As := [aR 2 (m), aI ((rset σ (18 * (m) + 5) (f) (1)) 2 (m) 2), aI (wr ((1) - (s)))]) (rest := []) rq_33 (ev_win (m) ((rset σ (18 * (m) + 5) (f) (1)) 2 (m) 2) (wr ((1) - (s))) (rset σ (18 * (m) + 5) (f) (1)) ) rfl rfl (show clOK 33 35 0 0 0 3 2 = true by decide +kernel) rfl (show 0 ≤ 4 by decide) (fun _ => ⟨_, rfl⟩) rfl (c' := 0) (s' := 0) rfl rfl ?_
    refine wp_vret rq_33 rfl rt_33 ⟨?_, ?_⟩
    · rfl
    · (rw [zm_exclude, if_pos h1]; try rfl)
  · refine wp_seg 3 (P := none) (ls' := [some (aR 2 (m)), some (aI (f)), some (aI (s))]) (st' := [aI (f), aR 0 (m)]) (σ' := (rset σ (18 * (m) + 5) (f) (1))) rq_33 rfl True.intro (i' := 15) rfl ?_
    refine wp_call (C := 0) (As := [aR 0 (m), aI (f)]) (rest := []) rq_33 (ev_annulInPool (m) (f) (rset σ (18 * (m) + 5) (f) (1)) ) rfl rfl (show clOK 33 15 0 0 0 2 0 = true by decide +kernel) rfl (show 0 ≤ 4 by decide) (fun _ => ⟨_, rfl⟩) rfl (c' := 0) (s' := 0) rfl rfl ?_
    refine wp_seg 3 (P := none) (ls' := [some (aR 2 (m)), some (aI (f)), some (aI (s))]) (st' := []) (σ' := (up (zm_annulInPool (m) (f) (rset σ (18 * (m) + 5) (f) (1))) 2 (m) 2 (-1))) rq_33 rfl True.intro (i' := 19) rfl ?_
    refine wp_goto rq_33 rfl ?_
    refine wp_vret rq_33 rfl rt_33 ⟨?_, ?_⟩
    · rfl
    · (rw [zm_exclude, if_neg h1]; try rfl)

def zo_mshow (m s k : Int) (σ : Mem) : Int := if ¬ (k) = 0 then (if ¬ (k) = 1 then (if ¬ (k) = 2 then k else k) else k) else if (rget σ (18 * (m)) (s)) ≤ 0 then (if ¬ (k) = 1 then (if ¬ (k) = 2 then k else k) else k) else 1
def zm_mshow (m s k : Int) (σ : Mem) : Mem := if ¬ (k) = 0 then (if ¬ (k) = 1 then (if ¬ (k) = 2 then (rset (rset σ (18 * (m)) (s) (wr (rget σ (18 * (m)) (s) + (1)))) (18 * (m) + 6) (wr ((wr ((3) * (zo_fencerOn (m) (σ 2 (m) 2) (s) σ))) + (k))) (wr (rget (rset σ (18 * (m)) (s) (wr (rget σ (18 * (m)) (s) + (1)))) (18 * (m) + 6) (wr ((wr ((3) * (zo_fencerOn (m) (σ 2 (m) 2) (s) σ))) + (k))) + (1)))) else (zm_exclude (m) (zo_fencerOn (m) (σ 2 (m) 2) (s) σ) (s) (rset (rset σ (18 * (m)) (s) (wr (rget σ (18 * (m)) (s) + (1)))) (18 * (m) + 6) (wr ((wr ((3) * (zo_fencerOn (m) (σ 2 (m) 2) (s) σ))) + (k))) (wr (rget (rset σ (18 * (m)) (s) (wr (rget σ (18 * (m)) (s) + (1)))) (18 * (m) + 6) (wr ((wr ((3) * (zo_fencerOn (m) (σ 2 (m) 2) (s) σ))) + (k))) + (1)))))) else (zm_score (m) (wr ((1) - (s))) (rset (rset σ (18 * (m)) (s) (wr (rget σ (18 * (m)) (s) + (1)))) (18 * (m) + 6) (wr ((wr ((3) * (zo_fencerOn (m) (σ 2 (m) 2) (s) σ))) + (k))) (wr (rget (rset σ (18 * (m)) (s) (wr (rget σ (18 * (m)) (s) + (1)))) (18 * (m) + 6) (wr ((wr ((3) * (zo_fencerOn (m) (σ 2 (m) 2) (s) σ))) + (k))) + (1)))))) else if (rget σ (18 * (m)) (s)) ≤ 0 then (if ¬ (k) = 1 then (if ¬ (k) = 2 then (rset (rset σ (18 * (m)) (s) (wr (rget σ (18 * (m)) (s) + (1)))) (18 * (m) + 6) (wr ((wr ((3) * (zo_fencerOn (m) (σ 2 (m) 2) (s) σ))) + (k))) (wr (rget (rset σ (18 * (m)) (s) (wr (rget σ (18 * (m)) (s) + (1)))) (18 * (m) + 6) (wr ((wr ((3) * (zo_fencerOn (m) (σ 2 (m) 2) (s) σ))) + (k))) + (1)))) else (zm_exclude (m) (zo_fencerOn (m) (σ 2 (m) 2) (s) σ) (s) (rset (rset σ (18 * (m)) (s) (wr (rget σ (18 * (m)) (s) + (1)))) (18 * (m) + 6) (wr ((wr ((3) * (zo_fencerOn (m) (σ 2 (m) 2) (s) σ))) + (k))) (wr (rget (rset σ (18 * (m)) (s) (wr (rget σ (18 * (m)) (s) + (1)))) (18 * (m) + 6) (wr ((wr ((3) * (zo_fencerOn (m) (σ 2 (m) 2) (s) σ))) + (k))) + (1)))))) else (zm_score (m) (wr ((1) - (s))) (rset (rset σ (18 * (m)) (s) (wr (rget σ (18 * (m)) (s) + (1)))) (18 * (m) + 6) (wr ((wr ((3) * (zo_fencerOn (m) (σ 2 (m) 2) (s) σ))) + (k))) (wr (rget (rset σ (18 * (m)) (s) (wr (rget σ (18 * (m)) (s) + (1)))) (18 * (m) + 6) (wr ((wr ((3) * (zo_fencerOn (m) (σ 2 (m) 2) (s) σ))) + (k))) + (1)))))) else (zm_score (m) (wr ((1) - (s))) (rset (rset σ (18 * (m)) (s) (wr (rget σ (18 * (m)) (s) + (1)))) (18 * (m) + 6) (wr ((wr ((3) * (zo_fencerOn (m) (σ 2 (m) 2) (s) σ))) + (1))) (wr (rget (rset σ (18 * (m)) (s) (wr (rget σ (18 * (m)) (s) + (1)))) (18 * (m) + 6) (wr ((wr ((3) * (zo_fencerOn (m) (σ 2 (m) 2) (s) σ))) + (1))) + (1)))))
theorem ev_mshow (m s k : Int) (σ : Mem) : Ev true 32 [aR 2 (m), aI (s), aI (k)] σ (.inl (some (aI (zo_mshow m s k σ)))) (zm_mshow m s k σ) := by
  show wp true 32 0 [some (aR 2 (m)), some (aI (s)), some (aI (k)), none, none] [] σ 0 0 _
  refine wp_seg 1 (P := none) (ls' := [some (aR 2 (m)), some (aI (s)), some (aI (k)), none, none]) (st' := [aI (k)]) (σ' := σ) rq_32 rfl True.intro (i' := 1) rfl ?_
  refine wp_if rq_32 rfl (fun (h1 : ¬ (k) = 0) => ?_) (fun (h1 : ¬ (¬ (k) = 0)) => ?_)
  · refine wp_seg 7 (P := none) (ls' := [some (aR 2 (m)), some (aI (s)), some (aI (k)), some (aI (k)), none]) (st' := [aI (s), aI (σ 2 (m) 2), aR 0 (m)]) (σ' := σ) rq_32 rfl True.intro (i' := 16) rfl ?_
    refine wp_call (C := 0) (As := [aR 0 (m), aI (σ 2 (m) 2), aI (s)]) (rest := []) rq_32 (ev_fencerOn (m) (σ 2 (m) 2) (s) σ ) rfl rfl (show clOK 32 4 0 0 0 3 0 = true by decide +kernel) rfl (show 0 ≤ 4 by decide) (fun _ => ⟨_, rfl⟩) rfl (c' := 0) (s' := 0) rfl rfl ?_
    refine wp_seg 5 (P := none) (ls' := [some (aR 2 (m)), some (aI (s)), some (aI (k)), some (aI (k)), some (aI (zo_fencerOn (m) (σ 2 (m) 2) (s) σ))]) (st' := [aI (1), aI (s), aR 7 (18 * (m))]) (σ' := σ) rq_32 rfl True.intro (i' := 22) rfl ?_
    refine wp_call (C := 7) (As := [aR 7 (18 * (m)), aI (s), aI (1)]) (rest := []) rq_32 (ev_add (18 * (m)) (s) (1) σ ) rfl rfl (show clOK 32 80 0 0 0 3 7 = true by decide +kernel) rfl (show 0 ≤ 4 by decide) (fun _ => ⟨_, rfl⟩) rfl (c' := 0) (s' := 0) rfl rfl ?_
    refine wp_seg 9 (P := none) (ls' := [some (aR 2 (m)), some (aI (s)), some (aI (k)), some (aI (k)), some (aI (zo_fencerOn (m) (σ 2 (m) 2) (s) σ))]) (st' := [aI (1), aI (wr ((wr ((3) * (zo_fencerOn (m) (σ 2 (m) 2) (s) σ))) + (k))), aR 7 (18 * (m) + 6)]) (σ' := (rset σ (18 * (m)) (s) (wr (rget σ (18 * (m)) (s) + (1))))) rq_32 rfl True.intro (i' := 32) rfl ?_
    refine wp_call (C := 7) (As := [aR 7 (18 * (m) + 6), aI (wr ((wr ((3) * (zo_fencerOn (m) (σ 2 (m) 2) (s) σ))) + (k))), aI (1)]) (rest := []) rq_32 (ev_add (18 * (m) + 6) (wr ((wr ((3) * (zo_fencerOn (m) (σ 2 (m) 2) (s) σ))) + (k))) (1) (rset σ (18 * (m)) (s) (wr (rget σ (18 * (m)) (s) + (1)))) ) rfl rfl (show clOK 32 80 0 0 0 3 7 = true by decide +kernel) rfl (show 0 ≤ 4 by decide) (fun _ => ⟨_, rfl⟩) rfl (c' := 0) (s' := 0) rfl rfl ?_
    refine wp_seg 2 (P := none) (ls' := [some (aR 2 (m)), some (aI (s)), some (aI (k)), some (aI (k)), some (aI (zo_fencerOn (m) (σ 2 (m) 2) (s) σ))]) (st' := [aI (1), aI (k)]) (σ' := (rset (rset σ (18 * (m)) (s) (wr (rget σ (18 * (m)) (s) + (1)))) (18 * (m) + 6) (wr ((wr ((3) * (zo_fencerOn (m) (σ 2 (m) 2) (s) σ))) + (k))) (wr (rget (rset σ (18 * (m)) (s) (wr (rget σ (18 * (m)) (s) + (1)))) (18 * (m) + 6) (wr ((wr ((3) * (zo_fencerOn (m) (σ 2 (m) 2) (s) σ))) + (k))) + (1))))) rq_32 rfl True.intro (i' := 35) rfl ?_
    refine wp_icmp rq_32 rfl (fun (h2 : ¬ (k) = 1) => ?_) (fun (h2 : ¬ (¬ (k) = 1)) => ?_)
    · refine wp_seg 2 (P := none) (ls' := [some (aR 2 (m)), some (aI (s)), some (aI (k)), some (aI (k)), some (aI (zo_fencerOn (m) (σ 2 (m) 2) (s) σ))]) (st' := [aI (2), aI (k)]) (σ' := (rset (rset σ (18 * (m)) (s) (wr (rget σ (18 * (m)) (s) + (1)))) (18 * (m) + 6) (wr ((wr ((3) * (zo_fencerOn (m) (σ 2 (m) 2) (s) σ))) + (k))) (wr (rget (rset σ (18 * (m)) (s) (wr (rget σ (18 * (m)) (s) + (1)))) (18 * (m) + 6) (wr ((wr ((3) * (zo_fencerOn (m) (σ 2 (m) 2) (s) σ))) + (k))) + (1))))) rq_32 rfl True.intro (i' := 44) rfl ?_
      refine wp_icmp rq_32 rfl (fun (h3 : ¬ (k) = 2) => ?_) (fun (h3 : ¬ (¬ (k) = 2)) => ?_)
      · refine wp_seg 1 (P := none) (ls' := [some (aR 2 (m)), some (aI (s)), some (aI (k)), some (aI (k)), some (aI (zo_fencerOn (m) (σ 2 (m) 2) (s) σ))]) (st' := [aI (k)]) (σ' := (rset (rset σ (18 * (m)) (s) (wr (rget σ (18 * (m)) (s) + (1)))) (18 * (m) + 6) (wr ((wr ((3) * (zo_fencerOn (m) (σ 2 (m) 2) (s) σ))) + (k))) (wr (rget (rset σ (18 * (m)) (s) (wr (rget σ (18 * (m)) (s) + (1)))) (18 * (m) + 6) (wr ((wr ((3) * (zo_fencerOn (m) (σ 2 (m) 2) (s) σ))) + (k))) + (1))))) rq_32 rfl True.intro (i' := 50) rfl ?_
        refine wp_iret rq_32 rfl rt_32 ⟨?_, ?_⟩
        · (rw [zo_mshow, if_pos h1, if_pos h2, if_pos h3]; try rfl)
        · (rw [zm_mshow, if_pos h1, if_pos h2, if_pos h3]; try rfl)
      · refine wp_seg 3 (P := none) (ls' := [some (aR 2 (m)), some (aI (s)), some (aI (k)), some (aI (k)), some (aI (zo_fencerOn (m) (σ 2 (m) 2) (s) σ))]) (st' := [aI (s), aI (zo_fencerOn (m) (σ 2 (m) 2) (s) σ), aR 2 (m)]) (σ' := (rset (rset σ (18 * (m)) (s) (wr (rget σ (18 * (m)) (s) + (1)))) (18 * (m) + 6) (wr ((wr ((3) * (zo_fencerOn (m) (σ 2 (m) 2) (s) σ))) + (k))) (wr (rget (rset σ (18 * (m)) (s) (wr (rget σ (18 * (m)) (s) + (1)))) (18 * (m) + 6) (wr ((wr ((3) * (zo_fencerOn (m) (σ 2 (m) 2) (s) σ))) + (k))) + (1))))) rq_32 rfl True.intro (i' := 48) rfl ?_
        refine wp_call (C := 2) (As := [aR 2 (m), aI (zo_fencerOn (m) (σ 2 (m) 2) (s) σ), aI (s)]) (rest := []) rq_32 (ev_exclude (m) (zo_fencerOn (m) (σ 2 (m) 2) (s) σ) (s) (rset (rset σ (18 * (m)) (s) (wr (rget σ (18 * (m)) (s) + (1)))) (18 * (m) + 6) (wr ((wr ((3) * (zo_fencerOn (m) (σ 2 (m) 2) (s) σ))) + (k))) (wr (rget (rset σ (18 * (m)) (s) (wr (rget σ (18 * (m)) (s) + (1)))) (18 * (m) + 6) (wr ((wr ((3) * (zo_fencerOn (m) (σ 2 (m) 2) (s) σ))) + (k))) + (1)))) ) rfl rfl (show clOK 32 33 0 0 0 3 2 = true by decide +kernel) rfl (show 0 ≤ 4 by decide) (fun _ => ⟨_, rfl⟩) rfl (c' := 0) (s' := 0) rfl rfl ?_
        refine wp_seg 1 (P := none) (ls' := [some (aR 2 (m)), some (aI (s)), some (aI (k)), some (aI (k)), some (aI (zo_fencerOn (m) (σ 2 (m) 2) (s) σ))]) (st' := [aI (k)]) (σ' := (zm_exclude (m) (zo_fencerOn (m) (σ 2 (m) 2) (s) σ) (s) (rset (rset σ (18 * (m)) (s) (wr (rget σ (18 * (m)) (s) + (1)))) (18 * (m) + 6) (wr ((wr ((3) * (zo_fencerOn (m) (σ 2 (m) 2) (s) σ))) + (k))) (wr (rget (rset σ (18 * (m)) (s) (wr (rget σ (18 * (m)) (s) + (1)))) (18 * (m) + 6) (wr ((wr ((3) * (zo_fencerOn (m) (σ 2 (m) 2) (s) σ))) + (k))) + (1)))))) rq_32 rfl True.intro (i' := 50) rfl ?_
        refine wp_iret rq_32 rfl rt_32 ⟨?_, ?_⟩
        · (rw [zo_mshow, if_pos h1, if_pos h2, if_neg h3]; try rfl)
        · (rw [zm_mshow, if_pos h1, if_pos h2, if_neg h3]; try rfl)
    · refine wp_seg 4 (P := none) (ls' := [some (aR 2 (m)), some (aI (s)), some (aI (k)), some (aI (k)), some (aI (zo_fencerOn (m) (σ 2 (m) 2) (s) σ))]) (st' := [aI (wr ((1) - (s))), aR 2 (m)]) (σ' := (rset (rset σ (18 * (m)) (s) (wr (rget σ (18 * (m)) (s) + (1)))) (18 * (m) + 6) (wr ((wr ((3) * (zo_fencerOn (m) (σ 2 (m) 2) (s) σ))) + (k))) (wr (rget (rset σ (18 * (m)) (s) (wr (rget σ (18 * (m)) (s) + (1)))) (18 * (m) + 6) (wr ((wr ((3) * (zo_fencerOn (m) (σ 2 (m) 2) (s) σ))) + (k))) + (1))))) rq_32 rfl True.intro (i' := 40) rfl ?_
      refine wp_call (C := 2) (As := [aR 2 (m), aI (wr ((1) - (s)))]) (rest := []) rq_32 (ev_score (m) (wr ((1) - (s))) (rset (rset σ (18 * (m)) (s) (wr (rget σ (18 * (m)) (s) + (1)))) (18 * (m) + 6) (wr ((wr ((3) * (zo_fencerOn (m) (σ 2 (m) 2) (s) σ))) + (k))) (wr (rget (rset σ (18 * (m)) (s) (wr (rget σ (18 * (m)) (s) + (1)))) (18 * (m) + 6) (wr ((wr ((3) * (zo_fencerOn (m) (σ 2 (m) 2) (s) σ))) + (k))) + (1)))) ) rfl rfl (show clOK 32 28 0 0 0 2 2 = true by decide +kernel) rfl (show 0 ≤ 4 by decide) (fun _ => ⟨_, rfl⟩) rfl (c' := 0) (s' := 0) rfl rfl ?_
      refine wp_goto rq_32 rfl ?_
      refine wp_seg 1 (P := none) (ls' := [some (aR 2 (m)), some (aI (s)), some (aI (k)), some (aI (k)), some (aI (zo_fencerOn (m) (σ 2 (m) 2) (s) σ))]) (st' := [aI (k)]) (σ' := (zm_score (m) (wr ((1) - (s))) (rset (rset σ (18 * (m)) (s) (wr (rget σ (18 * (m)) (s) + (1)))) (18 * (m) + 6) (wr ((wr ((3) * (zo_fencerOn (m) (σ 2 (m) 2) (s) σ))) + (k))) (wr (rget (rset σ (18 * (m)) (s) (wr (rget σ (18 * (m)) (s) + (1)))) (18 * (m) + 6) (wr ((wr ((3) * (zo_fencerOn (m) (σ 2 (m) 2) (s) σ))) + (k))) + (1)))))) rq_32 rfl True.intro (i' := 50) rfl ?_
      refine wp_iret rq_32 rfl rt_32 ⟨?_, ?_⟩
      · (rw [zo_mshow, if_pos h1, if_neg h2]; try rfl)
      · (rw [zm_mshow, if_pos h1, if_neg h2]; try rfl)
  · refine wp_seg 3 (P := none) (ls' := [some (aR 2 (m)), some (aI (s)), some (aI (k)), none, none]) (st' := [aI (s), aR 7 (18 * (m))]) (σ' := σ) rq_32 rfl True.intro (i' := 5) rfl ?_
    refine wp_call (C := 7) (As := [aR 7 (18 * (m)), aI (s)]) (rest := []) rq_32 (ev_get (18 * (m)) (s) σ ) rfl rfl (show clOK 32 78 0 0 0 2 7 = true by decide +kernel) rfl (show 0 ≤ 4 by decide) (fun _ => ⟨_, rfl⟩) rfl (c' := 0) (s' := 0) rfl rfl ?_
    refine wp_if rq_32 rfl (fun (h4 : (rget σ (18 * (m)) (s)) ≤ 0) => ?_) (fun (h4 : ¬ ((rget σ (18 * (m)) (s)) ≤ 0)) => ?_)
    · refine wp_seg 7 (P := none) (ls' := [some (aR 2 (m)), some (aI (s)), some (aI (k)), some (aI (k)), none]) (st' := [aI (s), aI (σ 2 (m) 2), aR 0 (m)]) (σ' := σ) rq_32 rfl True.intro (i' := 16) rfl ?_
      refine wp_call (C := 0) (As := [aR 0 (m), aI (σ 2 (m) 2), aI (s)]) (rest := []) rq_32 (ev_fencerOn (m) (σ 2 (m) 2) (s) σ ) rfl rfl (show clOK 32 4 0 0 0 3 0 = true by decide +kernel) rfl (show 0 ≤ 4 by decide) (fun _ => ⟨_, rfl⟩) rfl (c' := 0) (s' := 0) rfl rfl ?_
      refine wp_seg 5 (P := none) (ls' := [some (aR 2 (m)), some (aI (s)), some (aI (k)), some (aI (k)), some (aI (zo_fencerOn (m) (σ 2 (m) 2) (s) σ))]) (st' := [aI (1), aI (s), aR 7 (18 * (m))]) (σ' := σ) rq_32 rfl True.intro (i' := 22) rfl ?_
      refine wp_call (C := 7) (As := [aR 7 (18 * (m)), aI (s), aI (1)]) (rest := []) rq_32 (ev_add (18 * (m)) (s) (1) σ ) rfl rfl (show clOK 32 80 0 0 0 3 7 = true by decide +kernel) rfl (show 0 ≤ 4 by decide) (fun _ => ⟨_, rfl⟩) rfl (c' := 0) (s' := 0) rfl rfl ?_
      refine wp_seg 9 (P := none) (ls' := [some (aR 2 (m)), some (aI (s)), some (aI (k)), some (aI (k)), some (aI (zo_fencerOn (m) (σ 2 (m) 2) (s) σ))]) (st' := [aI (1), aI (wr ((wr ((3) * (zo_fencerOn (m) (σ 2 (m) 2) (s) σ))) + (k))), aR 7 (18 * (m) + 6)]) (σ' := (rset σ (18 * (m)) (s) (wr (rget σ (18 * (m)) (s) + (1))))) rq_32 rfl True.intro (i' := 32) rfl ?_
      refine wp_call (C := 7) (As := [aR 7 (18 * (m) + 6), aI (wr ((wr ((3) * (zo_fencerOn (m) (σ 2 (m) 2) (s) σ))) + (k))), aI (1)]) (rest := []) rq_32 (ev_add (18 * (m) + 6) (wr ((wr ((3) * (zo_fencerOn (m) (σ 2 (m) 2) (s) σ))) + (k))) (1) (rset σ (18 * (m)) (s) (wr (rget σ (18 * (m)) (s) + (1)))) ) rfl rfl (show clOK 32 80 0 0 0 3 7 = true by decide +kernel) rfl (show 0 ≤ 4 by decide) (fun _ => ⟨_, rfl⟩) rfl (c' := 0) (s' := 0) rfl rfl ?_
      refine wp_seg 2 (P := none) (ls' := [some (aR 2 (m)), some (aI (s)), some (aI (k)), some (aI (k)), some (aI (zo_fencerOn (m) (σ 2 (m) 2) (s) σ))]) (st' := [aI (1), aI (k)]) (σ' := (rset (rset σ (18 * (m)) (s) (wr (rget σ (18 * (m)) (s) + (1)))) (18 * (m) + 6) (wr ((wr ((3) * (zo_fencerOn (m) (σ 2 (m) 2) (s) σ))) + (k))) (wr (rget (rset σ (18 * (m)) (s) (wr (rget σ (18 * (m)) (s) + (1)))) (18 * (m) + 6) (wr ((wr ((3) * (zo_fencerOn (m) (σ 2 (m) 2) (s) σ))) + (k))) + (1))))) rq_32 rfl True.intro (i' := 35) rfl ?_
      refine wp_icmp rq_32 rfl (fun (h5 : ¬ (k) = 1) => ?_) (fun (h5 : ¬ (¬ (k) = 1)) => ?_)
      · refine wp_seg 2 (P := none) (ls' := [some (aR 2 (m)), some (aI (s)), some (aI (k)), some (aI (k)), some (aI (zo_fencerOn (m) (σ 2 (m) 2) (s) σ))]) (st' := [aI (2), aI (k)]) (σ' := (rset (rset σ (18 * (m)) (s) (wr (rget σ (18 * (m)) (s) + (1)))) (18 * (m) + 6) (wr ((wr ((3) * (zo_fencerOn (m) (σ 2 (m) 2) (s) σ))) + (k))) (wr (rget (rset σ (18 * (m)) (s) (wr (rget σ (18 * (m)) (s) + (1)))) (18 * (m) + 6) (wr ((wr ((3) * (zo_fencerOn (m) (σ 2 (m) 2) (s) σ))) + (k))) + (1))))) rq_32 rfl True.intro (i' := 44) rfl ?_
        refine wp_icmp rq_32 rfl (fun (h6 : ¬ (k) = 2) => ?_) (fun (h6 : ¬ (¬ (k) = 2)) => ?_)
        · refine wp_seg 1 (P := none) (ls' := [some (aR 2 (m)), some (aI (s)), some (aI (k)), some (aI (k)), some (aI (zo_fencerOn (m) (σ 2 (m) 2) (s) σ))]) (st' := [aI (k)]) (σ' := (rset (rset σ (18 * (m)) (s) (wr (rget σ (18 * (m)) (s) + (1)))) (18 * (m) + 6) (wr ((wr ((3) * (zo_fencerOn (m) (σ 2 (m) 2) (s) σ))) + (k))) (wr (rget (rset σ (18 * (m)) (s) (wr (rget σ (18 * (m)) (s) + (1)))) (18 * (m) + 6) (wr ((wr ((3) * (zo_fencerOn (m) (σ 2 (m) 2) (s) σ))) + (k))) + (1))))) rq_32 rfl True.intro (i' := 50) rfl ?_
          refine wp_iret rq_32 rfl rt_32 ⟨?_, ?_⟩
          · (rw [zo_mshow, if_neg h1, if_pos h4, if_pos h5, if_pos h6]; try rfl)
          · (rw [zm_mshow, if_neg h1, if_pos h4, if_pos h5, if_pos h6]; try rfl)
        · refine wp_seg 3 (P := none) (ls' := [some (aR 2 (m)), some (aI (s)), some (aI (k)), some (aI (k)), some (aI (zo_fencerOn (m) (σ 2 (m) 2) (s) σ))]) (st' := [aI (s), aI (zo_fencerOn (m) (σ 2 (m) 2) (s) σ), aR 2 (m)]) (σ' := (rset (rset σ (18 * (m)) (s) (wr (rget σ (18 * (m)) (s) + (1)))) (18 * (m) + 6) (wr ((wr ((3) * (zo_fencerOn (m) (σ 2 (m) 2) (s) σ))) + (k))) (wr (rget (rset σ (18 * (m)) (s) (wr (rget σ (18 * (m)) (s) + (1)))) (18 * (m) + 6) (wr ((wr ((3) * (zo_fencerOn (m) (σ 2 (m) 2) (s) σ))) + (k))) + (1))))) rq_32 rfl True.intro (i' := 48) rfl ?_
          refine wp_call (C := 2) (As := [aR 2 (m), aI (zo_fencerOn (m) (σ 2 (m) 2) (s) σ), aI (s)]) (rest := []) rq_32 (ev_exclude (m) (zo_fencerOn (m) (σ 2 (m) 2) (s) σ) (s) (rset (rset σ (18 * (m)) (s) (wr (rget σ (18 * (m)) (s) + (1)))) (18 * (m) + 6) (wr ((wr ((3) * (zo_fencerOn (m) (σ 2 (m) 2) (s) σ))) + (k))) (wr (rget (rset σ (18 * (m)) (s) (wr (rget σ (18 * (m)) (s) + (1)))) (18 * (m) + 6) (wr ((wr ((3) * (zo_fencerOn (m) (σ 2 (m) 2) (s) σ))) + (k))) + (1)))) ) rfl rfl (show clOK 32 33 0 0 0 3 2 = true by decide +kernel) rfl (show 0 ≤ 4 by decide) (fun _ => ⟨_, rfl⟩) rfl (c' := 0) (s' := 0) rfl rfl ?_
          refine wp_seg 1 (P := none) (ls' := [some (aR 2 (m)), some (aI (s)), some (aI (k)), some (aI (k)), some (aI (zo_fencerOn (m) (σ 2 (m) 2) (s) σ))]) (st' := [aI (k)]) (σ' := (zm_exclude (m) (zo_fencerOn (m) (σ 2 (m) 2) (s) σ) (s) (rset (rset σ (18 * (m)) (s) (wr (rget σ (18 * (m)) (s) + (1)))) (18 * (m) + 6) (wr ((wr ((3) * (zo_fencerOn (m) (σ 2 (m) 2) (s) σ))) + (k))) (wr (rget (rset σ (18 * (m)) (s) (wr (rget σ (18 * (m)) (s) + (1)))) (18 * (m) + 6) (wr ((wr ((3) * (zo_fencerOn (m) (σ 2 (m) 2) (s) σ))) + (k))) + (1)))))) rq_32 rfl True.intro (i' := 50) rfl ?_
          refine wp_iret rq_32 rfl rt_32 ⟨?_, ?_⟩
          · (rw [zo_mshow, if_neg h1, if_pos h4, if_pos h5, if_neg h6]; try rfl)
          · (rw [zm_mshow, if_neg h1, if_pos h4, if_pos h5, if_neg h6]; try rfl)
      · refine wp_seg 4 (P := none) (ls' := [some (aR 2 (m)), some (aI (s)), some (aI (k)), some (aI (k)), some (aI (zo_fencerOn (m) (σ 2 (m) 2) (s) σ))]) (st' := [aI (wr ((1) - (s))), aR 2 (m)]) (σ' := (rset (rset σ (18 * (m)) (s) (wr (rget σ (18 * (m)) (s) + (1)))) (18 * (m) + 6) (wr ((wr ((3) * (zo_fencerOn (m) (σ 2 (m) 2) (s) σ))) + (k))) (wr (rget (rset σ (18 * (m)) (s) (wr (rget σ (18 * (m)) (s) + (1)))) (18 * (m) + 6) (wr ((wr ((3) * (zo_fencerOn (m) (σ 2 (m) 2) (s) σ))) + (k))) + (1))))) rq_32 rfl True.intro (i' := 40) rfl ?_
        refine wp_call (C := 2) (As := [aR 2 (m), aI (wr ((1) - (s)))]) (rest := []) rq_32 (ev_score (m) (wr ((1) - (s))) (rset (rset σ (18 * (m)) (s) (wr (rget σ (18 * (m)) (s) + (1)))) (18 * (m) + 6) (wr ((wr ((3) * (zo_fencerOn (m) (σ 2 (m) 2) (s) σ))) + (k))) (wr (rget (rset σ (18 * (m)) (s) (wr (rget σ (18 * (m)) (s) + (1)))) (18 * (m) + 6) (wr ((wr ((3) * (zo_fencerOn (m) (σ 2 (m) 2) (s) σ))) + (k))) + (1)))) ) rfl rfl (show clOK 32 28 0 0 0 2 2 = true by decide +kernel) rfl (show 0 ≤ 4 by decide) (fun _ => ⟨_, rfl⟩) rfl (c' := 0) (s' := 0) rfl rfl ?_
        refine wp_goto rq_32 rfl ?_
        refine wp_seg 1 (P := none) (ls' := [some (aR 2 (m)), some (aI (s)), some (aI (k)), some (aI (k)), some (aI (zo_fencerOn (m) (σ 2 (m) 2) (s) σ))]) (st' := [aI (k)]) (σ' := (zm_score (m) (wr ((1) - (s))) (rset (rset σ (18 * (m)) (s) (wr (rget σ (18 * (m)) (s) + (1)))) (18 * (m) + 6) (wr ((wr ((3) * (zo_fencerOn (m) (σ 2 (m) 2) (s) σ))) + (k))) (wr (rget (rset σ (18 * (m)) (s) (wr (rget σ (18 * (m)) (s) + (1)))) (18 * (m) + 6) (wr ((wr ((3) * (zo_fencerOn (m) (σ 2 (m) 2) (s) σ))) + (k))) + (1)))))) rq_32 rfl True.intro (i' := 50) rfl ?_
        refine wp_iret rq_32 rfl rt_32 ⟨?_, ?_⟩
        · (rw [zo_mshow, if_neg h1, if_pos h4, if_neg h5]; try rfl)
        · (rw [zm_mshow, if_neg h1, if_pos h4, if_neg h5]; try rfl)
    · refine wp_seg 1 (P := none) (ls' := [some (aR 2 (m)), some (aI (s)), some (aI (k)), none, none]) (st' := [aI (1)]) (σ' := σ) rq_32 rfl True.intro (i' := 8) rfl ?_
      refine wp_goto rq_32 rfl ?_
      refine wp_seg 6 (P := none) (ls' := [some (aR 2 (m)), some (aI (s)), some (aI (k)), some (aI (1)), none]) (st' := [aI (s), aI (σ 2 (m) 2), aR 0 (m)]) (σ' := σ) rq_32 rfl True.intro (i' := 16) rfl ?_
      refine wp_call (C := 0) (As := [aR 0 (m), aI (σ 2 (m) 2), aI (s)]) (rest := []) rq_32 (ev_fencerOn (m) (σ 2 (m) 2) (s) σ ) rfl rfl (show clOK 32 4 0 0 0 3 0 = true by decide +kernel) rfl (show 0 ≤ 4 by decide) (fun _ => ⟨_, rfl⟩) rfl (c' := 0) (s' := 0) rfl rfl ?_
      refine wp_seg 5 (P := none) (ls' := [some (aR 2 (m)), some (aI (s)), some (aI (k)), some (aI (1)), some (aI (zo_fencerOn (m) (σ 2 (m) 2) (s) σ))]) (st' := [aI (1), aI (s), aR 7 (18 * (m))]) (σ' := σ) rq_32 rfl True.intro (i' := 22) rfl ?_
      refine wp_call (C := 7) (As := [aR 7 (18 * (m)), aI (s), aI (1)]) (rest := []) rq_32 (ev_add (18 * (m)) (s) (1) σ ) rfl rfl (show clOK 32 80 0 0 0 3 7 = true by decide +kernel) rfl (show 0 ≤ 4 by decide) (fun _ => ⟨_, rfl⟩) rfl (c' := 0) (s' := 0) rfl rfl ?_
      refine wp_seg 9 (P := none) (ls' := [some (aR 2 (m)), some (aI (s)), some (aI (k)), some (aI (1)), some (aI (zo_fencerOn (m) (σ 2 (m) 2) (s) σ))]) (st' := [aI (1), aI (wr ((wr ((3) * (zo_fencerOn (m) (σ 2 (m) 2) (s) σ))) + (1))), aR 7 (18 * (m) + 6)]) (σ' := (rset σ (18 * (m)) (s) (wr (rget σ (18 * (m)) (s) + (1))))) rq_32 rfl True.intro (i' := 32) rfl ?_
      refine wp_call (C := 7) (As := [aR 7 (18 * (m) + 6), aI (wr ((wr ((3) * (zo_fencerOn (m) (σ 2 (m) 2) (s) σ))) + (1))), aI (1)]) (rest := []) rq_32 (ev_add (18 * (m) + 6) (wr ((wr ((3) * (zo_fencerOn (m) (σ 2 (m) 2) (s) σ))) + (1))) (1) (rset σ (18 * (m)) (s) (wr (rget σ (18 * (m)) (s) + (1)))) ) rfl rfl (show clOK 32 80 0 0 0 3 7 = true by decide +kernel) rfl (show 0 ≤ 4 by decide) (fun _ => ⟨_, rfl⟩) rfl (c' := 0) (s' := 0) rfl rfl ?_
      refine wp_seg 2 (P := none) (ls' := [some (aR 2 (m)), some (aI (s)), some (aI (k)), some (aI (1)), some (aI (zo_fencerOn (m) (σ 2 (m) 2) (s) σ))]) (st' := [aI (1), aI (1)]) (σ' := (rset (rset σ (18 * (m)) (s) (wr (rget σ (18 * (m)) (s) + (1)))) (18 * (m) + 6) (wr ((wr ((3) * (zo_fencerOn (m) (σ 2 (m) 2) (s) σ))) + (1))) (wr (rget (rset σ (18 * (m)) (s) (wr (rget σ (18 * (m)) (s) + (1)))) (18 * (m) + 6) (wr ((wr ((3) * (zo_fencerOn (m) (σ 2 (m) 2) (s) σ))) + (1))) + (1))))) rq_32 rfl True.intro (i' := 35) rfl ?_
      refine wp_icmp rq_32 rfl (fun (h7 : ¬ (1 : Int) = (1 : Int)) => absurd h7 (show ¬ (¬ (1 : Int) = (1 : Int)) from by decide)) (fun _ => ?_)
      refine wp_seg 4 (P := none) (ls' := [some (aR 2 (m)), some (aI (s)), some (aI (k)), some (aI (1)), some (aI (zo_fencerOn (m) (σ 2 (m) 2) (s) σ))]) (st' := [aI (wr ((1) - (s))), aR 2 (m)]) (σ' := (rset (rset σ (18 * (m)) (s) (wr (rget σ (18 * (m)) (s) + (1)))) (18 * (m) + 6) (wr ((wr ((3) * (zo_fencerOn (m) (σ 2 (m) 2) (s) σ))) + (1))) (wr (rget (rset σ (18 * (m)) (s) (wr (rget σ (18 * (m)) (s) + (1)))) (18 * (m) + 6) (wr ((wr ((3) * (zo_fencerOn (m) (σ 2 (m) 2) (s) σ))) + (1))) + (1))))) rq_32 rfl True.intro (i' := 40) rfl ?_
      refine wp_call (C := 2) (As := [aR 2 (m), aI (wr ((1) - (s)))]) (rest := []) rq_32 (ev_score (m) (wr ((1) - (s))) (rset (rset σ (18 * (m)) (s) (wr (rget σ (18 * (m)) (s) + (1)))) (18 * (m) + 6) (wr ((wr ((3) * (zo_fencerOn (m) (σ 2 (m) 2) (s) σ))) + (1))) (wr (rget (rset σ (18 * (m)) (s) (wr (rget σ (18 * (m)) (s) + (1)))) (18 * (m) + 6) (wr ((wr ((3) * (zo_fencerOn (m) (σ 2 (m) 2) (s) σ))) + (1))) + (1)))) ) rfl rfl (show clOK 32 28 0 0 0 2 2 = true by decide +kernel) rfl (show 0 ≤ 4 by decide) (fun _ => ⟨_, rfl⟩) rfl (c' := 0) (s' := 0) rfl rfl ?_
      refine wp_goto rq_32 rfl ?_
      refine wp_seg 1 (P := none) (ls' := [some (aR 2 (m)), some (aI (s)), some (aI (k)), some (aI (1)), some (aI (zo_fencerOn (m) (σ 2 (m) 2) (s) σ))]) (st' := [aI (1)]) (σ' := (zm_score (m) (wr ((1) - (s))) (rset (rset σ (18 * (m)) (s) (wr (rget σ (18 * (m)) (s) + (1)))) (18 * (m) + 6) (wr ((wr ((3) * (zo_fencerOn (m) (σ 2 (m) 2) (s) σ))) + (1))) (wr (rget (rset σ (18 * (m)) (s) (wr (rget σ (18 * (m)) (s) + (1)))) (18 * (m) + 6) (wr ((wr ((3) * (zo_fencerOn (m) (σ 2 (m) 2) (s) σ))) + (1))) + (1)))))) rq_32 rfl True.intro (i' := 50) rfl ?_
      refine wp_iret rq_32 rfl rt_32 ⟨?_, ?_⟩
      · (rw [zo_mshow, if_neg h1, if_neg h4]; try rfl)
      · (rw [zm_mshow, if_neg h1, if_neg h4]; try rfl)

def zo_reasonAgainst (m b x y w : Int) (σ : Mem) : Int := if (rget σ (18 * (m) + 11) (b)) = 0 then (if (σ 2 (m) 2) = (-1) then (if ¬ (zo_knowsBoth (m) (b) σ) = 0 then (if (x) < 0 then 4 else if (zo_target (m) (b) σ) < (x) then 4 else if (y) < 0 then 4 else if (y) ≤ (zo_target (m) (b) σ) then (if ¬ (x) = (zo_target (m) (b) σ) then (if ¬ (x) = (y) then (if ¬ (w) = (-1) then 6 else 0) else if (w) = 0 then 0 else if ¬ (w) = 1 then 6 else 0) else if ¬ (y) = (zo_target (m) (b) σ) then (if ¬ (x) = (y) then (if ¬ (w) = (-1) then 6 else 0) else if (w) = 0 then 0 else if ¬ (w) = 1 then 6 else 0) else 5) else 4) else 3) else 2) else 1
theorem ev_reasonAgainst (m b x y w : Int) (σ : Mem) : Ev true 34 [aR 2 (m), aI (b), aI (x), aI (y), aI (w)] σ (.inl (some (aI (zo_reasonAgainst m b x y w σ)))) (σ) := by
  show wp true 34 0 [some (aR 2 (m)), some (aI (b)), some (aI (x)), some (aI (y)), some (aI (w)), none, none] [] σ 0 0 _
  refine wp_seg 3 (P := none) (ls' := [some (aR 2 (m)), some (aI (b)), some (aI (x)), some (aI (y)), some (aI (w)), none, none]) (st' := [aI (b), aR 0 (m)]) (σ' := σ) rq_34 rfl True.intro (i' := 3) rfl ?_
  refine wp_call (C := 0) (As := [aR 0 (m), aI (b)]) (rest := []) rq_34 (ev_target (m) (b) σ ) rfl rfl (show clOK 34 10 0 0 0 2 0 = true by decide +kernel) rfl (show 0 ≤ 4 by decide) (fun _ => ⟨_, rfl⟩) rfl (c' := 0) (s' := 0) rfl rfl ?_
  refine wp_seg 5 (P := none) (ls' := [some (aR 2 (m)), some (aI (b)), some (aI (x)), some (aI (y)), some (aI (w)), some (aI (zo_target (m) (b) σ)), none]) (st' := [aI (b), aR 7 (18 * (m) + 11)]) (σ' := σ) rq_34 rfl True.intro (i' := 9) rfl ?_
  refine wp_call (C := 7) (As := [aR 7 (18 * (m) + 11), aI (b)]) (rest := []) rq_34 (ev_get (18 * (m) + 11) (b) σ ) rfl rfl (show clOK 34 78 0 0 0 2 7 = true by decide +kernel) rfl (show 0 ≤ 4 by decide) (fun _ => ⟨_, rfl⟩) rfl (c' := 0) (s' := 0) rfl rfl ?_
  refine wp_if rq_34 rfl (fun (h1 : (rget σ (18 * (m) + 11) (b)) = 0) => ?_) (fun (h1 : ¬ ((rget σ (18 * (m) + 11) (b)) = 0)) => ?_)
  · refine wp_seg 3 (P := none) (ls' := [some (aR 2 (m)), some (aI (b)), some (aI (x)), some (aI (y)), some (aI (w)), some (aI (zo_target (m) (b) σ)), none]) (st' := [aI (-1), aI (σ 2 (m) 2)]) (σ' := σ) rq_34 rfl True.intro (i' := 16) rfl ?_
    refine wp_icmp rq_34 rfl (fun (h2 : (σ 2 (m) 2) = (-1)) => ?_) (fun (h2 : ¬ ((σ 2 (m) 2) = (-1))) => ?_)
    · refine wp_seg 3 (P := none) (ls' := [some (aR 2 (m)), some (aI (b)), some (aI (x)), some (aI (y)), some (aI (w)), some (aI (zo_target (m) (b) σ)), none]) (st' := [aI (b), aR 0 (m)]) (σ' := σ) rq_34 rfl True.intro (i' := 22) rfl ?_
      refine wp_call (C := 0) (As := [aR 0 (m), aI (b)]) (rest := []) rq_34 (ev_knowsBoth (m) (b) σ ) rfl rfl (show clOK 34 8 0 0 0 2 0 = true by decide +kernel) rfl (show 0 ≤ 4 by decide) (fun _ => ⟨_, rfl⟩) rfl (c' := 0) (s' := 0) rfl rfl ?_
      refine wp_if rq_34 rfl (fun (h3 : ¬ (zo_knowsBoth (m) (b) σ) = 0) => ?_) (fun (h3 : ¬ (¬ (zo_knowsBoth (m) (b) σ) = 0)) => ?_)
      · refine wp_seg 1 (P := none) (ls' := [some (aR 2 (m)), some (aI (b)), some (aI (x)), some (aI (y)), some (aI (w)), some (aI (zo_target (m) (b) σ)), none]) (st' := [aI (x)]) (σ' := σ) rq_34 rfl True.intro (i' := 27) rfl ?_
        refine wp_if rq_34 rfl (fun (h4 : (x) < 0) => ?_) (fun (h4 : ¬ ((x) < 0)) => ?_)
        · refine wp_seg 1 (P := none) (ls' := [some (aR 2 (m)), some (aI (b)), some (aI (x)), some (aI (y)), some (aI (w)), some (aI (zo_target (m) (b) σ)), none]) (st' := [aI (4)]) (σ' := σ) rq_34 rfl True.intro (i' := 37) rfl ?_
          refine wp_iret rq_34 rfl rt_34 ⟨?_, ?_⟩
          · (rw [zo_reasonAgainst, if_pos h1, if_pos h2, if_pos h3, if_pos h4]; try rfl)
          · rfl
        · refine wp_seg 2 (P := none) (ls' := [some (aR 2 (m)), some (aI (b)), some (aI (x)), some (aI (y)), some (aI (w)), some (aI (zo_target (m) (b) σ)), none]) (st' := [aI (zo_target (m) (b) σ), aI (x)]) (σ' := σ) rq_34 rfl True.intro (i' := 30) rfl ?_
          refine wp_icmp rq_34 rfl (fun (h5 : (zo_target (m) (b) σ) < (x)) => ?_) (fun (h5 : ¬ ((zo_target (m) (b) σ) < (x))) => ?_)
          · refine wp_seg 1 (P := none) (ls' := [some (aR 2 (m)), some (aI (b)), some (aI (x)), some (aI (y)), some (aI (w)), some (aI (zo_target (m) (b) σ)), none]) (st' := [aI (4)]) (σ' := σ) rq_34 rfl True.intro (i' := 37) rfl ?_
            refine wp_iret rq_34 rfl rt_34 ⟨?_, ?_⟩
            · (rw [zo_reasonAgainst, if_pos h1, if_pos h2, if_pos h3, if_neg h4, if_pos h5]; try rfl)
            · rfl
          · refine wp_seg 1 (P := none) (ls' := [some (aR 2 (m)), some (aI (b)), some (aI (x)), some (aI (y)), some (aI (w)), some (aI (zo_target (m) (b) σ)), none]) (st' := [aI (y)]) (σ' := σ) rq_34 rfl True.intro (i' := 32) rfl ?_
            refine wp_if rq_34 rfl (fun (h6 : (y) < 0) => ?_) (fun (h6 : ¬ ((y) < 0)) => ?_)
            · refine wp_seg 1 (P := none) (ls' := [some (aR 2 (m)), some (aI (b)), some (aI (x)), some (aI (y)), some (aI (w)), some (aI (zo_target (m) (b) σ)), none]) (st' := [aI (4)]) (σ' := σ) rq_34 rfl True.intro (i' := 37) rfl ?_
              refine wp_iret rq_34 rfl rt_34 ⟨?_, ?_⟩
              · (rw [zo_reasonAgainst, if_pos h1, if_pos h2, if_pos h3, if_neg h4, if_neg h5, if_pos h6]; try rfl)
              · rfl
            · refine wp_seg 2 (P := none) (ls' := [some (aR 2 (m)), some (aI (b)), some (aI (x)), some (aI (y)), some (aI (w)), some (aI (zo_target (m) (b) σ)), none]) (st' := [aI (zo_target (m) (b) σ), aI (y)]) (σ' := σ) rq_34 rfl True.intro (i' := 35) rfl ?_
              refine wp_icmp rq_34 rfl (fun (h7 : (y) ≤ (zo_target (m) (b) σ)) => ?_) (fun (h7 : ¬ ((y) ≤ (zo_target (m) (b) σ))) => ?_)
              · refine wp_seg 2 (P := none) (ls' := [some (aR 2 (m)), some (aI (b)), some (aI (x)), some (aI (y)), some (aI (w)), some (aI (zo_target (m) (b) σ)), none]) (st' := [aI (zo_target (m) (b) σ), aI (x)]) (σ' := σ) rq_34 rfl True.intro (i' := 40) rfl ?_
                refine wp_icmp rq_34 rfl (fun (h8 : ¬ (x) = (zo_target (m) (b) σ)) => ?_) (fun (h8 : ¬ (¬ (x) = (zo_target (m) (b) σ))) => ?_)
                · refine wp_seg 2 (P := none) (ls' := [some (aR 2 (m)), some (aI (b)), some (aI (x)), some (aI (y)), some (aI (w)), some (aI (zo_target (m) (b) σ)), none]) (st' := [aI (y), aI (x)]) (σ' := σ) rq_34 rfl True.intro (i' := 48) rfl ?_
                  refine wp_icmp rq_34 rfl (fun (h9 : ¬ (x) = (y)) => ?_) (fun (h9 : ¬ (¬ (x) = (y))) => ?_)
                  · refine wp_seg 2 (P := none) (ls' := [some (aR 2 (m)), some (aI (b)), some (aI (x)), some (aI (y)), some (aI (w)), some (aI (zo_target (m) (b) σ)), none]) (st' := [aI (-1), aI (w)]) (σ' := σ) rq_34 rfl True.intro (i' := 60) rfl ?_
                    refine wp_icmp rq_34 rfl (fun (h10 : ¬ (w) = (-1)) => ?_) (fun (h10 : ¬ (¬ (w) = (-1))) => ?_)
                    · refine wp_seg 3 (P := none) (ls' := [some (aR 2 (m)), some (aI (b)), some (aI (x)), some (aI (y)), some (aI (w)), some (aI (zo_target (m) (b) σ)), some (aI (0))]) (st' := [aI (0)]) (σ' := σ) rq_34 rfl True.intro (i' := 66) rfl ?_
                      refine wp_if rq_34 rfl (fun _ => ?_) (fun (h11 : ¬ ((0 : Int) = (0 : Int))) => absurd (show (0 : Int) = (0 : Int) from by decide) h11)
                      refine wp_seg 1 (P := none) (ls' := [some (aR 2 (m)), some (aI (b)), some (aI (x)), some (aI (y)), some (aI (w)), some (aI (zo_target (m) (b) σ)), some (aI (0))]) (st' := [aI (6)]) (σ' := σ) rq_34 rfl True.intro (i' := 70) rfl ?_
                      refine wp_iret rq_34 rfl rt_34 ⟨?_, ?_⟩
                      · (rw [zo_reasonAgainst, if_pos h1, if_pos h2, if_pos h3, if_neg h4, if_neg h5, if_neg h6, if_pos h7, if_pos h8, if_pos h9, if_pos h10]; try rfl)
                      · rfl
                    · refine wp_seg 1 (P := none) (ls' := [some (aR 2 (m)), some (aI (b)), some (aI (x)), some (aI (y)), some (aI (w)), some (aI (zo_target (m) (b) σ)), none]) (st' := [aI (1)]) (σ' := σ) rq_34 rfl True.intro (i' := 62) rfl ?_
                      refine wp_goto rq_34 rfl ?_
                      refine wp_seg 2 (P := none) (ls' := [some (aR 2 (m)), some (aI (b)), some (aI (x)), some (aI (y)), some (aI (w)), some (aI (zo_target (m) (b) σ)), some (aI (1))]) (st' := [aI (1)]) (σ' := σ) rq_34 rfl True.intro (i' := 66) rfl ?_
                      refine wp_if rq_34 rfl (fun (h12 : (1 : Int) = (0 : Int)) => absurd h12 (show ¬ ((1 : Int) = (0 : Int)) from by decide)) (fun _ => ?_)
                      refine wp_seg 1 (P := none) (ls' := [some (aR 2 (m)), some (aI (b)), some (aI (x)), some (aI (y)), some (aI (w)), some (aI (zo_target (m) (b) σ)), some (aI (1))]) (st' := [aI (0)]) (σ' := σ) rq_34 rfl True.intro (i' := 68) rfl ?_
                      refine wp_goto rq_34 rfl ?_
                      refine wp_iret rq_34 rfl rt_34 ⟨?_, ?_⟩
                      · (rw [zo_reasonAgainst, if_pos h1, if_pos h2, if_pos h3, if_neg h4, if_neg h5, if_neg h6, if_pos h7, if_pos h8, if_pos h9, if_neg h10]; try rfl)
                      · rfl
                  · refine wp_seg 1 (P := none) (ls' := [some (aR 2 (m)), some (aI (b)), some (aI (x)), some (aI (y)), some (aI (w)), some (aI (zo_target (m) (b) σ)), none]) (st' := [aI (w)]) (σ' := σ) rq_34 rfl True.intro (i' := 50) rfl ?_
                    refine wp_if rq_34 rfl (fun (h13 : (w) = 0) => ?_) (fun (h13 : ¬ ((w) = 0)) => ?_)
                    · refine wp_seg 1 (P := none) (ls' := [some (aR 2 (m)), some (aI (b)), some (aI (x)), some (aI (y)), some (aI (w)), some (aI (zo_target (m) (b) σ)), none]) (st' := [aI (1)]) (σ' := σ) rq_34 rfl True.intro (i' := 55) rfl ?_
                      refine wp_goto rq_34 rfl ?_
                      refine wp_seg 2 (P := none) (ls' := [some (aR 2 (m)), some (aI (b)), some (aI (x)), some (aI (y)), some (aI (w)), some (aI (zo_target (m) (b) σ)), some (aI (1))]) (st' := [aI (1)]) (σ' := σ) rq_34 rfl True.intro (i' := 66) rfl ?_
                      refine wp_if rq_34 rfl (fun (h14 : (1 : Int) = (0 : Int)) => absurd h14 (show ¬ ((1 : Int) = (0 : Int)) from by decide)) (fun _ => ?_)
                      refine wp_seg 1 (P := none) (ls' := [some (aR 2 (m)), some (aI (b)), some (aI (x)), some (aI (y)), some (aI (w)), some (aI (zo_target (m) (b) σ)), some (aI (1))]) (st' := [aI (0)]) (σ' := σ) rq_34 rfl True.intro (i' := 68) rfl ?_
                      refine wp_goto rq_34 rfl ?_
                      refine wp_iret rq_34 rfl rt_34 ⟨?_, ?_⟩
                      · (rw [zo_reasonAgainst, if_pos h1, if_pos h2, if_pos h3, if_neg h4, if_neg h5, if_neg h6, if_pos h7, if_pos h8, if_neg h9, if_pos h13]; try rfl)
                      · rfl
                    · refine wp_seg 2 (P := none) (ls' := [some (aR 2 (m)), some (aI (b)), some (aI (x)), some (aI (y)), some (aI (w)), some (aI (zo_target (m) (b) σ)), none]) (st' := [aI (1), aI (w)]) (σ' := σ) rq_34 rfl True.intro (i' := 53) rfl ?_
                      refine wp_icmp rq_34 rfl (fun (h15 : ¬ (w) = 1) => ?_) (fun (h15 : ¬ (¬ (w) = 1)) => ?_)
                      · refine wp_seg 1 (P := none) (ls' := [some (aR 2 (m)), some (aI (b)), some (aI (x)), some (aI (y)), some (aI (w)), some (aI (zo_target (m) (b) σ)), none]) (st' := [aI (0)]) (σ' := σ) rq_34 rfl True.intro (i' := 57) rfl ?_
                        refine wp_goto rq_34 rfl ?_
                        refine wp_seg 2 (P := none) (ls' := [some (aR 2 (m)), some (aI (b)), some (aI (x)), some (aI (y)), some (aI (w)), some (aI (zo_target (m) (b) σ)), some (aI (0))]) (st' := [aI (0)]) (σ' := σ) rq_34 rfl True.intro (i' := 66) rfl ?_
                        refine wp_if rq_34 rfl (fun _ => ?_) (fun (h16 : ¬ ((0 : Int) = (0 : Int))) => absurd (show (0 : Int) = (0 : Int) from by decide) h16)
                        refine wp_seg 1 (P := none) (ls' := [some (aR 2 (m)), some (aI (b)), some (aI (x)), some (aI (y)), some (aI (w)), some (aI (zo_target (m) (b) σ)), some (aI (0))]) (st' := [aI (6)]) (σ' := σ) rq_34 rfl True.intro (i' := 70) rfl ?_
                        refine wp_iret rq_34 rfl rt_34 ⟨?_, ?_⟩
                        · (rw [zo_reasonAgainst, if_pos h1, if_pos h2, if_pos h3, if_neg h4, if_neg h5, if_neg h6, if_pos h7, if_pos h8, if_neg h9, if_neg h13, if_pos h15]; try rfl)
                        · rfl
                      · refine wp_seg 1 (P := none) (ls' := [some (aR 2 (m)), some (aI (b)), some (aI (x)), some (aI (y)), some (aI (w)), some (aI (zo_target (m) (b) σ)), none]) (st' := [aI (1)]) (σ' := σ) rq_34 rfl True.intro (i' := 55) rfl ?_
                        refine wp_goto rq_34 rfl ?_
                        refine wp_seg 2 (P := none) (ls' := [some (aR 2 (m)), some (aI (b)), some (aI (x)), some (aI (y)), some (aI (w)), some (aI (zo_target (m) (b) σ)), some (aI (1))]) (st' := [aI (1)]) (σ' := σ) rq_34 rfl True.intro (i' := 66) rfl ?_
                        refine wp_if rq_34 rfl (fun (h17 : (1 : Int) = (0 : Int)) => absurd h17 (show ¬ ((1 : Int) = (0 : Int)) from by decide)) (fun _ => ?_)
                        refine wp_seg 1 (P := none) (ls' := [some (aR 2 (m)), some (aI (b)), some (aI (x)), some (aI (y)), some (aI (w)), some (aI (zo_target (m) (b) σ)), some (aI (1))]) (st' := [aI (0)]) (σ' := σ) rq_34 rfl True.intro (i' := 68) rfl ?_
                        refine wp_goto rq_34 rfl ?_
                        refine wp_iret rq_34 rfl rt_34 ⟨?_, ?_⟩
                        · (rw [zo_reasonAgainst, if_pos h1, if_pos h2, if_pos h3, if_neg h4, if_neg h5, if_neg h6, if_pos h7, if_pos h8, if_neg h9, if_neg h13, if_neg h15]; try rfl)
                        · rfl
                · refine wp_seg 2 (P := none) (ls' := [some (aR 2 (m)), some (aI (b)), some (aI (x)), some (aI (y)), some (aI (w)), some (aI (zo_target (m) (b) σ)), none]) (st' := [aI (zo_target (m) (b) σ), aI (y)]) (σ' := σ) rq_34 rfl True.intro (i' := 43) rfl ?_
                  refine wp_icmp rq_34 rfl (fun (h18 : ¬ (y) = (zo_target (m) (b) σ)) => ?_) (fun (h18 : ¬ (¬ (y) = (zo_target (m) (b) σ))) => ?_)
                  · refine wp_seg 2 (P := none) (ls' := [some (aR 2 (m)), some (aI (b)), some (aI (x)), some (aI (y)), some (aI (w)), some (aI (zo_target (m) (b) σ)), none]) (st' := [aI (y), aI (x)]) (σ' := σ) rq_34 rfl True.intro (i' := 48) rfl ?_
                    refine wp_icmp rq_34 rfl (fun (h19 : ¬ (x) = (y)) => ?_) (fun (h19 : ¬ (¬ (x) = (y))) => ?_)
                    · refine wp_seg 2 (P := none) (ls' := [some (aR 2 (m)), some (aI (b)), some (aI (x)), some (aI (y)), some (aI (w)), some (aI (zo_target (m) (b) σ)), none]) (st' := [aI (-1), aI (w)]) (σ' := σ) rq_34 rfl True.intro (i' := 60) rfl ?_
                      refine wp_icmp rq_34 rfl (fun (h20 : ¬ (w) = (-1)) => ?_) (fun (h20 : ¬ (¬ (w) = (-1))) => ?_)
                      · refine wp_seg 3 (P := none) (ls' := [some (aR 2 (m)), some (aI (b)), some (aI (x)), some (aI (y)), some (aI (w)), some (aI (zo_target (m) (b) σ)), some (aI (0))]) (st' := [aI (0)]) (σ' := σ) rq_34 rfl True.intro (i' := 66) rfl ?_
                        refine wp_if rq_34 rfl (fun _ => ?_) (fun (h21 : ¬ ((0 : Int) = (0 : Int))) => absurd (show (0 : Int) = (0 : Int) from by decide) h21)
                        refine wp_seg 1 (P := none) (ls' := [some (aR 2 (m)), some (aI (b)), some (aI (x)), some (aI (y)), some (aI (w)), some (aI (zo_target (m) (b) σ)), some (aI (0))]) (st' := [aI (6)]) (σ' := σ) rq_34 rfl True.intro (i' := 70) rfl ?_
                        refine wp_iret rq_34 rfl rt_34 ⟨?_, ?_⟩
                        · (rw [zo_reasonAgainst, if_pos h1, if_pos h2, if_pos h3, if_neg h4, if_neg h5, if_neg h6, if_pos h7, if_neg h8, if_pos h18, if_pos h19, if_pos h20]; try rfl)
                        · rfl
                      · refine wp_seg 1 (P := none) (ls' := [some (aR 2 (m)), some (aI (b)), some (aI (x)), some (aI (y)), some (aI (w)), some (aI (zo_target (m) (b) σ)), none]) (st' := [aI (1)]) (σ' := σ) rq_34 rfl True.intro (i' := 62) rfl ?_
                        refine wp_goto rq_34 rfl ?_
                        refine wp_seg 2 (P := none) (ls' := [some (aR 2 (m)), some (aI (b)), some (aI (x)), some (aI (y)), some (aI (w)), some (aI (zo_target (m) (b) σ)), some (aI (1))]) (st' := [aI (1)]) (σ' := σ) rq_34 rfl True.intro (i' := 66) rfl ?_
                        refine wp_if rq_34 rfl (fun (h22 : (1 : Int) = (0 : Int)) => absurd h22 (show ¬ ((1 : Int) = (0 : Int)) from by decide)) (fun _ => ?_)
                        refine wp_seg 1 (P := none) (ls' := [some (aR 2 (m)), some (aI (b)), some (aI (x)), some (aI (y)), some (aI (w)), some (aI (zo_target (m) (b) σ)), some (aI (1))]) (st' := [aI (0)]) (σ' := σ) rq_34 rfl True.intro (i' := 68) rfl ?_
                        refine wp_goto rq_34 rfl ?_
                        refine wp_iret rq_34 rfl rt_34 ⟨?_, ?_⟩
                        · (rw [zo_reasonAgainst, if_pos h1, if_pos h2, if_pos h3, if_neg h4, if_neg h5, if_neg h6, if_pos h7, if_neg h8, if_pos h18, if_pos h19, if_neg h20]; try rfl)
                        · rfl
                    · refine wp_seg 1 (P := none) (ls' := [some (aR 2 (m)), some (aI (b)), some (aI (x)), some (aI (y)), some (aI (w)), some (aI (zo_target (m) (b) σ)), none]) (st' := [aI (w)]) (σ' := σ) rq_34 rfl True.intro (i' := 50) rfl ?_
                      refine wp_if rq_34 rfl (fun (h23 : (w) = 0) => ?_) (fun (h23 : ¬ ((w) = 0)) => ?_)
                      · refine wp_seg 1 (P := none) (ls' := [some (aR 2 (m)), some (aI (b)), some (aI (x)), some (aI (y)), some (aI (w)), some (aI (zo_target (m) (b) σ)), none]) (st' := [aI (1)]) (σ' := σ) rq_34 rfl True.intro (i' := 55) rfl ?_
                        refine wp_goto rq_34 rfl ?_
                        refine wp_seg 2 (P := none) (ls' := [some (aR 2 (m)), some (aI (b)), some (aI (x)), some (aI (y)), some (aI (w)), some (aI (zo_target (m) (b) σ)), some (aI (1))]) (st' := [aI (1)]) (σ' := σ) rq_34 rfl True.intro (i' := 66) rfl ?_
                        refine wp_if rq_34 rfl (fun (h24 : (1 : Int) = (0 : Int)) => absurd h24 (show ¬ ((1 : Int) = (0 : Int)) from by decide)) (fun _ => ?_)
                        refine wp_seg 1 (P := none) (ls' := [some (aR 2 (m)), some (aI (b)), some (aI (x)), some (aI (y)), some (aI (w)), some (aI (zo_target (m) (b) σ)), some (aI (1))]) (st' := [aI (0)]) (σ' := σ) rq_34 rfl True.intro (i' := 68) rfl ?_
                        refine wp_goto rq_34 rfl ?_
                        refine wp_iret rq_34 rfl rt_34 ⟨?_, ?_⟩
                        · (rw [zo_reasonAgainst, if_pos h1, if_pos h2, if_pos h3, if_neg h4, if_neg h5, if_neg h6, if_pos h7, if_neg h8, if_pos h18, if_neg h19, if_pos h23]; try rfl)
                        · rfl
                      · refine wp_seg 2 (P := none) (ls' := [some (aR 2 (m)), some (aI (b)), some (aI (x)), some (aI (y)), some (aI (w)), some (aI (zo_target (m) (b) σ)), none]) (st' := [aI (1), aI (w)]) (σ' := σ) rq_34 rfl True.intro (i' := 53) rfl ?_
                        refine wp_icmp rq_34 rfl (fun (h25 : ¬ (w) = 1) => ?_) (fun (h25 : ¬ (¬ (w) = 1)) => ?_)
                        · refine wp_seg 1 (P := none) (ls' := [some (aR 2 (m)), some (aI (b)), some (aI (x)), some (aI (y)), some (aI (w)), some (aI (zo_target (m) (b) σ)), none]) (st' := [aI (0)]) (σ' := σ) rq_34 rfl True.intro (i' := 57) rfl ?_
                          refine wp_goto rq_34 rfl ?_
                          refine wp_seg 2 (P := none) (ls' := [some (aR 2 (m)), some (aI (b)), some (aI (x)), some (aI (y)), some (aI (w)), some (aI (zo_target (m) (b) σ)), some (aI (0))]) (st' := [aI (0)]) (σ' := σ) rq_34 rfl True.intro (i' := 66) rfl ?_
                          refine wp_if rq_34 rfl (fun _ => ?_) (fun (h26 : ¬ ((0 : Int) = (0 : Int))) => absurd (show (0 : Int) = (0 : Int) from by decide) h26)
                          refine wp_seg 1 (P := none) (ls' := [some (aR 2 (m)), some (aI (b)), some (aI (x)), some (aI (y)), some (aI (w)), some (aI (zo_target (m) (b) σ)), some (aI (0))]) (st' := [aI (6)]) (σ' := σ) rq_34 rfl True.intro (i' := 70) rfl ?_
                          refine wp_iret rq_34 rfl rt_34 ⟨?_, ?_⟩
                          · (rw [zo_reasonAgainst, if_pos h1, if_pos h2, if_pos h3, if_neg h4, if_neg h5, if_neg h6, if_pos h7, if_neg h8, if_pos h18, if_neg h19, if_neg h23, if_pos h25]; try rfl)
                          · rfl
                        · refine wp_seg 1 (P := none) (ls' := [some (aR 2 (m)), some (aI (b)), some (aI (x)), some (aI (y)), some (aI (w)), some (aI (zo_target (m) (b) σ)), none]) (st' := [aI (1)]) (σ' := σ) rq_34 rfl True.intro (i' := 55) rfl ?_
                          refine wp_goto rq_34 rfl ?_
                          refine wp_seg 2 (P := none) (ls' := [some (aR 2 (m)), some (aI (b)), some (aI (x)), some (aI (y)), some (aI (w)), some (aI (zo_target (m) (b) σ)), some (aI (1))]) (st' := [aI (1)]) (σ' := σ) rq_34 rfl True.intro (i' := 66) rfl ?_
                          refine wp_if rq_34 rfl (fun (h27 : (1 : Int) = (0 : Int)) => absurd h27 (show ¬ ((1 : Int) = (0 : Int)) from by decide)) (fun _ => ?_)
                          refine wp_seg 1 (P := none) (ls' := [some (aR 2 (m)), some (aI (b)), some (aI (x)), some (aI (y)), some (aI (w)), some (aI (zo_target (m) (b) σ)), some (aI (1))]) (st' := [aI (0)]) (σ' := σ) rq_34 rfl True.intro (i' := 68) rfl ?_
                          refine wp_goto rq_34 rfl ?_
                          refine wp_iret rq_34 rfl rt_34 ⟨?_, ?_⟩
                          · (rw [zo_reasonAgainst, if_pos h1, if_pos h2, if_pos h3, if_neg h4, if_neg h5, if_neg h6, if_pos h7, if_neg h8, if_pos h18, if_neg h19, if_neg h23, if_neg h25]; try rfl)
                          · rfl
                  · refine wp_seg 1 (P := none) (ls' := [some (aR 2 (m)), some (aI (b)), some (aI (x)), some (aI (y)), some (aI (w)), some (aI (zo_target (m) (b) σ)), none]) (st' := [aI (5)]) (σ' := σ) rq_34 rfl True.intro (i' := 45) rfl ?_
                    refine wp_iret rq_34 rfl rt_34 ⟨?_, ?_⟩
                    · (rw [zo_reasonAgainst, if_pos h1, if_pos h2, if_pos h3, if_neg h4, if_neg h5, if_neg h6, if_pos h7, if_neg h8, if_neg h18]; try rfl)
                    · rfl
              · refine wp_seg 1 (P := none) (ls' := [some (aR 2 (m)), some (aI (b)), some (aI (x)), some (aI (y)), some (aI (w)), some (aI (zo_target (m) (b) σ)), none]) (st' := [aI (4)]) (σ' := σ) rq_34 rfl True.intro (i' := 37) rfl ?_
                refine wp_iret rq_34 rfl rt_34 ⟨?_, ?_⟩
                · (rw [zo_reasonAgainst, if_pos h1, if_pos h2, if_pos h3, if_neg h4, if_neg h5, if_neg h6, if_neg h7]; try rfl)
                · rfl
      · refine wp_seg 1 (P := none) (ls' := [some (aR 2 (m)), some (aI (b)), some (aI (x)), some (aI (y)), some (aI (w)), some (aI (zo_target (m) (b) σ)), none]) (st' := [aI (3)]) (σ' := σ) rq_34 rfl True.intro (i' := 25) rfl ?_
        refine wp_iret rq_34 rfl rt_34 ⟨?_, ?_⟩
        · (rw [zo_reasonAgainst, if_pos h1, if_pos h2, if_neg h3]; try rfl)
        · rfl
    · refine wp_seg 1 (P := none) (ls' := [some (aR 2 (m)), some (aI (b)), some (aI (x)), some (aI (y)), some (aI (w)), some (aI (zo_target (m) (b) σ)), none]) (st' := [aI (2)]) (σ' := σ) rq_34 rfl True.intro (i' := 18) rfl ?_
      refine wp_iret rq_34 rfl rt_34 ⟨?_, ?_⟩
      · (rw [zo_reasonAgainst, if_pos h1, if_neg h2]; try rfl)
      · rfl
  · refine wp_seg 1 (P := none) (ls' := [some (aR 2 (m)), some (aI (b)), some (aI (x)), some (aI (y)), some (aI (w)), some (aI (zo_target (m) (b) σ)), none]) (st' := [aI (1)]) (σ' := σ) rq_34 rfl True.intro (i' := 12) rfl ?_
    refine wp_iret rq_34 rfl rt_34 ⟨?_, ?_⟩
    · (rw [zo_reasonAgainst, if_neg h1]; try rfl)
    · rfl

def zm_passBye (m b : Int) (σ : Mem) : Mem := if ¬ (zo_fencerOn (m) (b) (1) σ) = (-1) then σ else (zm_advance (m) (b) (zm_close (m) (b) (0) (4) σ))
theorem ev_passBye (m b : Int) (σ : Mem) : Ev true 39 [aR 2 (m), aI (b)] σ (.inl none) (zm_passBye m b σ) := by
  show wp true 39 0 [some (aR 2 (m)), some (aI (b))] [] σ 0 0 _
  refine wp_seg 4 (P := none) (ls' := [some (aR 2 (m)), some (aI (b))]) (st' := [aI (1), aI (b), aR 0 (m)]) (σ' := σ) rq_39 rfl True.intro (i' := 4) rfl ?_
  refine wp_call (C := 0) (As := [aR 0 (m), aI (b), aI (1)]) (rest := []) rq_39 (ev_fencerOn (m) (b) (1) σ ) rfl rfl (show clOK 39 4 0 0 0 3 0 = true by decide +kernel) rfl (show 0 ≤ 4 by decide) (fun _ => ⟨_, rfl⟩) rfl (c' := 0) (s' := 0) rfl rfl ?_
  refine wp_seg 1 (P := none) (ls' := [some (aR 2 (m)), some (aI (b))]) (st' := [aI (-1), aI (zo_fencerOn (m) (b) (1) σ)]) (σ' := σ) rq_39 rfl True.intro (i' := 6) rfl ?_
  refine wp_icmp rq_39 rfl (fun (h1 : ¬ (zo_fencerOn (m) (b) (1) σ) = (-1)) => ?_) (fun (h1 : ¬ (¬ (zo_fencerOn (m) (b) (1) σ) = (-1))) => ?_)
  · refine wp_vret rq_39 rfl rt_39 ⟨?_, ?_⟩
    · rfl
    · (rw [zm_passBye, if_pos h1]; try rfl)
  · refine wp_seg 5 (P := none) (ls' := [some (aR 2 (m)), some (aI (b))]) (st' := [aI (4), aI (0), aI (b), aR 0 (m)]) (σ' := σ) rq_39 rfl True.intro (i' := 12) rfl ?_
    refine wp_call (C := 0) (As := [aR 0 (m), aI (b), aI (0), aI (4)]) (rest := []) rq_39 (ev_close (m) (b) (0) (4) σ ) rfl rfl (show clOK 39 14 0 0 0 4 0 = true by decide +kernel) rfl (show 0 ≤ 4 by decide) (fun _ => ⟨_, rfl⟩) rfl (c' := 0) (s' := 0) rfl rfl ?_
    refine wp_seg 2 (P := none) (ls' := [some (aR 2 (m)), some (aI (b))]) (st' := [aI (b), aR 2 (m)]) (σ' := (zm_close (m) (b) (0) (4) σ)) rq_39 rfl True.intro (i' := 15) rfl ?_
    refine wp_call (C := 2) (As := [aR 2 (m), aI (b)]) (rest := []) rq_39 (ev_advance (m) (b) (zm_close (m) (b) (0) (4) σ) ) rfl rfl (show clOK 39 36 0 0 0 2 2 = true by decide +kernel) rfl (show 0 ≤ 4 by decide) (fun _ => ⟨_, rfl⟩) rfl (c' := 0) (s' := 0) rfl rfl ?_
    refine wp_vret rq_39 rfl rt_39 ⟨?_, ?_⟩
    · rfl
    · (rw [zm_passBye, if_neg h1]; try rfl)

def zm_tellLeg (m x y : Int) (σ : Mem) : Mem := if ¬ ((zm_radd (m) (x) (y) σ) 4 (m) 3) = 9 then (zm_radd (m) (x) (y) σ) else if ¬ ((zm_radd (m) (x) (y) σ) 4 (m) 4) = ((zm_radd (m) (x) (y) σ) 4 (m) 5) then (if ((up (zm_radd (m) (x) (y) σ) 4 (m) 7 (0)) 4 (m) 7) = 0 then (if ((up (zm_radd (m) (x) (y) σ) 4 (m) 7 (0)) 4 (m) 4) ≤ ((up (zm_radd (m) (x) (y) σ) 4 (m) 7 (0)) 4 (m) 5) then (zm_decide (m) (1) (up (zm_radd (m) (x) (y) σ) 4 (m) 7 (0))) else (zm_decide (m) (0) (up (zm_radd (m) (x) (y) σ) 4 (m) 7 (0)))) else (zm_decide (m) (zo_drawSide (m) (up (zm_radd (m) (x) (y) σ) 4 (m) 7 (0))) (zm_drawSide (m) (up (zm_radd (m) (x) (y) σ) 4 (m) 7 (0))))) else if ((up (zm_radd (m) (x) (y) σ) 4 (m) 7 (1)) 4 (m) 7) = 0 then (if ((up (zm_radd (m) (x) (y) σ) 4 (m) 7 (1)) 4 (m) 4) ≤ ((up (zm_radd (m) (x) (y) σ) 4 (m) 7 (1)) 4 (m) 5) then (zm_decide (m) (1) (up (zm_radd (m) (x) (y) σ) 4 (m) 7 (1))) else (zm_decide (m) (0) (up (zm_radd (m) (x) (y) σ) 4 (m) 7 (1)))) else (zm_decide (m) (zo_drawSide (m) (up (zm_radd (m) (x) (y) σ) 4 (m) 7 (1))) (zm_drawSide (m) (up (zm_radd (m) (x) (y) σ) 4 (m) 7 (1))))
theorem ev_tellLeg (m x y : Int) (σ : Mem) : Ev true 43 [aR 2 (m), aI (x), aI (y)] σ (.inl none) (zm_tellLeg m x y σ) := by
  show wp true 43 0 [some (aR 2 (m)), some (aI (x)), some (aI (y))] [] σ 0 0 _
  refine wp_seg 4 (P := none) (ls' := [some (aR 2 (m)), some (aI (x)), some (aI (y))]) (st' := [aI (y), aI (x), aR 4 (m)]) (σ' := σ) rq_43 rfl True.intro (i' := 4) rfl ?_
  refine wp_call (C := 4) (As := [aR 4 (m), aI (x), aI (y)]) (rest := []) rq_43 (ev_radd (m) (x) (y) σ ) rfl rfl (show clOK 43 55 0 0 0 3 4 = true by decide +kernel) rfl (show 0 ≤ 4 by decide) (fun _ => ⟨_, rfl⟩) rfl (c' := 0) (s' := 0) rfl rfl ?_
  refine wp_seg 4 (P := none) (ls' := [some (aR 2 (m)), some (aI (x)), some (aI (y))]) (st' := [aI (9), aI ((zm_radd (m) (x) (y) σ) 4 (m) 3)]) (σ' := (zm_radd (m) (x) (y) σ)) rq_43 rfl True.intro (i' := 9) rfl ?_
  refine wp_icmp rq_43 rfl (fun (h1 : ¬ ((zm_radd (m) (x) (y) σ) 4 (m) 3) = 9) => ?_) (fun (h1 : ¬ (¬ ((zm_radd (m) (x) (y) σ) 4 (m) 3) = 9)) => ?_)
  · refine wp_vret rq_43 rfl rt_43 ⟨?_, ?_⟩
    · rfl
    · (rw [zm_tellLeg, if_pos h1]; try rfl)
  · refine wp_seg 8 (P := none) (ls' := [some (aR 2 (m)), some (aI (x)), some (aI (y))]) (st' := [aI ((zm_radd (m) (x) (y) σ) 4 (m) 5), aI ((zm_radd (m) (x) (y) σ) 4 (m) 4), aR 4 (m)]) (σ' := (zm_radd (m) (x) (y) σ)) rq_43 rfl True.intro (i' := 18) rfl ?_
    refine wp_icmp rq_43 rfl (fun (h2 : ¬ ((zm_radd (m) (x) (y) σ) 4 (m) 4) = ((zm_radd (m) (x) (y) σ) 4 (m) 5)) => ?_) (fun (h2 : ¬ (¬ ((zm_radd (m) (x) (y) σ) 4 (m) 4) = ((zm_radd (m) (x) (y) σ) 4 (m) 5))) => ?_)
    · refine wp_seg 5 (P := some ((0 : Int) = 0 ∨ (0 : Int) = 1)) (ls' := [some (aR 2 (m)), some (aI (x)), some (aI (y))]) (st' := [aI ((up (zm_radd (m) (x) (y) σ) 4 (m) 7 (0)) 4 (m) 7)]) (σ' := (up (zm_radd (m) (x) (y) σ) 4 (m) 7 (0))) rq_43 rfl ?_ (i' := 26) rfl ?_
      · show (0 : Int) = 0 ∨ (0 : Int) = 1
        (first | decide | assumption | omega | simp_all)
      refine wp_if rq_43 rfl (fun (h3 : ((up (zm_radd (m) (x) (y) σ) 4 (m) 7 (0)) 4 (m) 7) = 0) => ?_) (fun (h3 : ¬ (((up (zm_radd (m) (x) (y) σ) 4 (m) 7 (0)) 4 (m) 7) = 0)) => ?_)
      · refine wp_seg 8 (P := none) (ls' := [some (aR 2 (m)), some (aI (x)), some (aI (y))]) (st' := [aI ((up (zm_radd (m) (x) (y) σ) 4 (m) 7 (0)) 4 (m) 5), aI ((up (zm_radd (m) (x) (y) σ) 4 (m) 7 (0)) 4 (m) 4), aR 4 (m)]) (σ' := (up (zm_radd (m) (x) (y) σ) 4 (m) 7 (0))) rq_43 rfl True.intro (i' := 41) rfl ?_
        refine wp_icmp rq_43 rfl (fun (h4 : ((up (zm_radd (m) (x) (y) σ) 4 (m) 7 (0)) 4 (m) 4) ≤ ((up (zm_radd (m) (x) (y) σ) 4 (m) 7 (0)) 4 (m) 5)) => ?_) (fun (h4 : ¬ (((up (zm_radd (m) (x) (y) σ) 4 (m) 7 (0)) 4 (m) 4) ≤ ((up (zm_radd (m) (x) (y) σ) 4 (m) 7 (0)) 4 (m) 5))) => ?_)
        · refine wp_seg 1 (P := none) (ls' := [some (aR 2 (m)), some (aI (x)), some (aI (y))]) (st' := [aI (1), aR 4 (m)]) (σ' := (up (zm_radd (m) (x) (y) σ) 4 (m) 7 (0))) rq_43 rfl True.intro (i' := 45) rfl ?_
          refine wp_call (C := 4) (As := [aR 4 (m), aI (1)]) (rest := []) rq_43 (ev_decide (m) (1) (up (zm_radd (m) (x) (y) σ) 4 (m) 7 (0)) ) rfl rfl (show clOK 43 56 0 0 0 2 4 = true by decide +kernel) rfl (show 0 ≤ 4 by decide) (fun _ => ⟨_, rfl⟩) rfl (c' := 0) (s' := 0) rfl rfl ?_
          refine wp_vret rq_43 rfl rt_43 ⟨?_, ?_⟩
          · rfl
          · (rw [zm_tellLeg, if_neg h1, if_pos h2, if_pos h3, if_pos h4]; try rfl)
        · refine wp_seg 1 (P := none) (ls' := [some (aR 2 (m)), some (aI (x)), some (aI (y))]) (st' := [aI (0), aR 4 (m)]) (σ' := (up (zm_radd (m) (x) (y) σ) 4 (m) 7 (0))) rq_43 rfl True.intro (i' := 43) rfl ?_
          refine wp_goto rq_43 rfl ?_
          refine wp_call (C := 4) (As := [aR 4 (m), aI (0)]) (rest := []) rq_43 (ev_decide (m) (0) (up (zm_radd (m) (x) (y) σ) 4 (m) 7 (0)) ) rfl rfl (show clOK 43 56 0 0 0 2 4 = true by decide +kernel) rfl (show 0 ≤ 4 by decide) (fun _ => ⟨_, rfl⟩) rfl (c' := 0) (s' := 0) rfl rfl ?_
          refine wp_vret rq_43 rfl rt_43 ⟨?_, ?_⟩
          · rfl
          · (rw [zm_tellLeg, if_neg h1, if_pos h2, if_pos h3, if_neg h4]; try rfl)
      · refine wp_seg 3 (P := none) (ls' := [some (aR 2 (m)), some (aI (x)), some (aI (y))]) (st' := [aR 2 (m), aR 4 (m)]) (σ' := (up (zm_radd (m) (x) (y) σ) 4 (m) 7 (0))) rq_43 rfl True.intro (i' := 30) rfl ?_
        refine wp_call (C := 2) (As := [aR 2 (m)]) (rest := [aR 4 (m)]) rq_43 (ev_drawSide (m) (up (zm_radd (m) (x) (y) σ) 4 (m) 7 (0)) ) rfl rfl (show clOK 43 31 0 0 0 1 2 = true by decide +kernel) rfl (show 1 ≤ 4 by decide) (fun _ => ⟨_, rfl⟩) rfl (c' := 0) (s' := 0) rfl rfl ?_
        refine wp_call (C := 4) (As := [aR 4 (m), aI (zo_drawSide (m) (up (zm_radd (m) (x) (y) σ) 4 (m) 7 (0)))]) (rest := []) rq_43 (ev_decide (m) (zo_drawSide (m) (up (zm_radd (m) (x) (y) σ) 4 (m) 7 (0))) (zm_drawSide (m) (up (zm_radd (m) (x) (y) σ) 4 (m) 7 (0))) ) rfl rfl (show clOK 43 56 0 0 0 2 4 = true by decide +kernel) rfl (show 0 ≤ 4 by decide) (fun _ => ⟨_, rfl⟩) rfl (c' := 0) (s' := 0) rfl rfl ?_
        refine wp_goto rq_43 rfl ?_
        refine wp_vret rq_43 rfl rt_43 ⟨?_, ?_⟩
        · rfl
        · (rw [zm_tellLeg, if_neg h1, if_pos h2, if_neg h3]; try rfl)
    · refine wp_seg 1 (P := none) (ls' := [some (aR 2 (m)), some (aI (x)), some (aI (y))]) (st' := [aI (1), aR 4 (m)]) (σ' := (zm_radd (m) (x) (y) σ)) rq_43 rfl True.intro (i' := 20) rfl ?_
      refine wp_goto rq_43 rfl ?_
      refine wp_seg 4 (P := some ((1 : Int) = 0 ∨ (1 : Int) = 1)) (ls' := [some (aR 2 (m)), some (aI (x)), some (aI (y))]) (st' := [aI ((up (zm_radd (m) (x) (y) σ) 4 (m) 7 (1)) 4 (m) 7)]) (σ' := (up (zm_radd (m) (x) (y) σ) 4 (m) 7 (1))) rq_43 rfl ?_ (i' := 26) rfl ?_
      · show (1 : Int) = 0 ∨ (1 : Int) = 1
        (first | decide | assumption | omega | simp_all)
      refine wp_if rq_43 rfl (fun (h5 : ((up (zm_radd (m) (x) (y) σ) 4 (m) 7 (1)) 4 (m) 7) = 0) => ?_) (fun (h5 : ¬ (((up (zm_radd (m) (x) (y) σ) 4 (m) 7 (1)) 4 (m) 7) = 0)) => ?_)
      · refine wp_seg 8 (P := none) (ls' := [some (aR 2 (m)), some (aI (x)), some (aI (y))]) (st' := [aI ((up (zm_radd (m) (x) (y) σ) 4 (m) 7 (1)) 4 (m) 5), aI ((up (zm_radd (m) (x) (y) σ) 4 (m) 7 (1)) 4 (m) 4), aR 4 (m)]) (σ' := (up (zm_radd (m) (x) (y) σ) 4 (m) 7 (1))) rq_43 rfl True.intro (i' := 41) rfl ?_
        refine wp_icmp rq_43 rfl (fun (h6 : ((up (zm_radd (m) (x) (y) σ) 4 (m) 7 (1)) 4 (m) 4) ≤ ((up (zm_radd (m) (x) (y) σ) 4 (m) 7 (1)) 4 (m) 5)) => ?_) (fun (h6 : ¬ (((up (zm_radd (m) (x) (y) σ) 4 (m) 7 (1)) 4 (m) 4) ≤ ((up (zm_radd (m) (x) (y) σ) 4 (m) 7 (1)) 4 (m) 5))) => ?_)
        · refine wp_seg 1 (P := none) (ls' := [some (aR 2 (m)), some (aI (x)), some (aI (y))]) (st' := [aI (1), aR 4 (m)]) (σ' := (up (zm_radd (m) (x) (y) σ) 4 (m) 7 (1))) rq_43 rfl True.intro (i' := 45) rfl ?_
          refine wp_call (C := 4) (As := [aR 4 (m), aI (1)]) (rest := []) rq_43 (ev_decide (m) (1) (up (zm_radd (m) (x) (y) σ) 4 (m) 7 (1)) ) rfl rfl (show clOK 43 56 0 0 0 2 4 = true by decide +kernel) rfl (show 0 ≤ 4 by decide) (fun _ => ⟨_, rfl⟩) rfl (c' := 0) (s' := 0) rfl rfl ?_
          refine wp_vret rq_43 rfl rt_43 ⟨?_, ?_⟩
          · rfl
          · (rw [zm_tellLeg, if_neg h1, if_neg h2, if_pos h5, if_pos h6]; try rfl)
        · refine wp_seg 1 (P := none) (ls' := [some (aR 2 (m)), some (aI (x)), some (aI (y))]) (st' := [aI (0), aR 4 (m)]) (σ' := (up (zm_radd (m) (x) (y) σ) 4 (m) 7 (1))) rq_43 rfl True.intro (i' := 43) rfl ?_
          refine wp_goto rq_43 rfl ?_
          refine wp_call (C := 4) (As := [aR 4 (m), aI (0)]) (rest := []) rq_43 (ev_decide (m) (0) (up (zm_radd (m) (x) (y) σ) 4 (m) 7 (1)) ) rfl rfl (show clOK 43 56 0 0 0 2 4 = true by decide +kernel) rfl (show 0 ≤ 4 by decide) (fun _ => ⟨_, rfl⟩) rfl (c' := 0) (s' := 0) rfl rfl ?_
          refine wp_vret rq_43 rfl rt_43 ⟨?_, ?_⟩
          · rfl
          · (rw [zm_tellLeg, if_neg h1, if_neg h2, if_pos h5, if_neg h6]; try rfl)
      · refine wp_seg 3 (P := none) (ls' := [some (aR 2 (m)), some (aI (x)), some (aI (y))]) (st' := [aR 2 (m), aR 4 (m)]) (σ' := (up (zm_radd (m) (x) (y) σ) 4 (m) 7 (1))) rq_43 rfl True.intro (i' := 30) rfl ?_
        refine wp_call (C := 2) (As := [aR 2 (m)]) (rest := [aR 4 (m)]) rq_43 (ev_drawSide (m) (up (zm_radd (m) (x) (y) σ) 4 (m) 7 (1)) ) rfl rfl (show clOK 43 31 0 0 0 1 2 = true by decide +kernel) rfl (show 1 ≤ 4 by decide) (fun _ => ⟨_, rfl⟩) rfl (c' := 0) (s' := 0) rfl rfl ?_
        refine wp_call (C := 4) (As := [aR 4 (m), aI (zo_drawSide (m) (up (zm_radd (m) (x) (y) σ) 4 (m) 7 (1)))]) (rest := []) rq_43 (ev_decide (m) (zo_drawSide (m) (up (zm_radd (m) (x) (y) σ) 4 (m) 7 (1))) (zm_drawSide (m) (up (zm_radd (m) (x) (y) σ) 4 (m) 7 (1))) ) rfl rfl (show clOK 43 56 0 0 0 2 4 = true by decide +kernel) rfl (show 0 ≤ 4 by decide) (fun _ => ⟨_, rfl⟩) rfl (c' := 0) (s' := 0) rfl rfl ?_
        refine wp_goto rq_43 rfl ?_
        refine wp_vret rq_43 rfl rt_43 ⟨?_, ?_⟩
        · rfl
        · (rw [zm_tellLeg, if_neg h1, if_neg h2, if_neg h5]; try rfl)

def zm_mcopy (m q : Int) (σ : Mem) : Mem := (zm_rlcopy (m) (q) (zm_tcopy (m) (q) (zm_bcopy (m) (q) (zm_pcopy (m) (q) (zm_fcopy (m) (q) (rcpy (up (up (up σ 2 (m) 0 (σ 2 (q) 0)) 2 (m) 1 ((up σ 2 (m) 0 (σ 2 (q) 0)) 2 (q) 1)) 2 (m) 2 ((up (up σ 2 (m) 0 (σ 2 (q) 0)) 2 (m) 1 ((up σ 2 (m) 0 (σ 2 (q) 0)) 2 (q) 1)) 2 (q) 2)) (18 * (m)) (18 * (q)) (2)))))))
theorem ev_mcopy (m q : Int) (σ : Mem) : Ev true 44 [aR 2 (m), aR 2 (q)] σ (.inl none) (zm_mcopy m q σ) := by
  show wp true 44 0 [some (aR 2 (m)), some (aR 2 (q))] [] σ 0 0 _
  refine wp_seg 17 (P := none) (ls' := [some (aR 2 (m)), some (aR 2 (q))]) (st' := [aI (2), aR 7 (18 * (q)), aR 7 (18 * (m))]) (σ' := (up (up (up σ 2 (m) 0 (σ 2 (q) 0)) 2 (m) 1 ((up σ 2 (m) 0 (σ 2 (q) 0)) 2 (q) 1)) 2 (m) 2 ((up (up σ 2 (m) 0 (σ 2 (q) 0)) 2 (m) 1 ((up σ 2 (m) 0 (σ 2 (q) 0)) 2 (q) 1)) 2 (q) 2))) rq_44 rfl True.intro (i' := 17) rfl ?_
  refine wp_call (C := 7) (As := [aR 7 (18 * (m)), aR 7 (18 * (q)), aI (2)]) (rest := []) rq_44 (ev_copyFrom (18 * (m)) (18 * (q)) (2) (up (up (up σ 2 (m) 0 (σ 2 (q) 0)) 2 (m) 1 ((up σ 2 (m) 0 (σ 2 (q) 0)) 2 (q) 1)) 2 (m) 2 ((up (up σ 2 (m) 0 (σ 2 (q) 0)) 2 (m) 1 ((up σ 2 (m) 0 (σ 2 (q) 0)) 2 (q) 1)) 2 (q) 2)) ) rfl rfl (show clOK 44 82 0 0 0 3 7 = true by decide +kernel) rfl (show 0 ≤ 4 by decide) (fun _ => ⟨_, rfl⟩) rfl (c' := 0) (s' := 0) rfl rfl ?_
  refine wp_seg 4 (P := none) (ls' := [some (aR 2 (m)), some (aR 2 (q))]) (st' := [aR 6 (q), aR 6 (m)]) (σ' := (rcpy (up (up (up σ 2 (m) 0 (σ 2 (q) 0)) 2 (m) 1 ((up σ 2 (m) 0 (σ 2 (q) 0)) 2 (q) 1)) 2 (m) 2 ((up (up σ 2 (m) 0 (σ 2 (q) 0)) 2 (m) 1 ((up σ 2 (m) 0 (σ 2 (q) 0)) 2 (q) 1)) 2 (q) 2)) (18 * (m)) (18 * (q)) (2))) rq_44 rfl True.intro (i' := 22) rfl ?_
  refine wp_call (C := 6) (As := [aR 6 (m), aR 6 (q)]) (rest := []) rq_44 (ev_fcopy (m) (q) (rcpy (up (up (up σ 2 (m) 0 (σ 2 (q) 0)) 2 (m) 1 ((up σ 2 (m) 0 (σ 2 (q) 0)) 2 (q) 1)) 2 (m) 2 ((up (up σ 2 (m) 0 (σ 2 (q) 0)) 2 (m) 1 ((up σ 2 (m) 0 (σ 2 (q) 0)) 2 (q) 1)) 2 (q) 2)) (18 * (m)) (18 * (q)) (2)) ) rfl rfl (show clOK 44 76 0 0 0 2 6 = true by decide +kernel) rfl (show 0 ≤ 4 by decide) (fun _ => ⟨_, rfl⟩) rfl (c' := 0) (s' := 0) rfl rfl ?_
  refine wp_seg 4 (P := none) (ls' := [some (aR 2 (m)), some (aR 2 (q))]) (st' := [aR 3 (q), aR 3 (m)]) (σ' := (zm_fcopy (m) (q) (rcpy (up (up (up σ 2 (m) 0 (σ 2 (q) 0)) 2 (m) 1 ((up σ 2 (m) 0 (σ 2 (q) 0)) 2 (q) 1)) 2 (m) 2 ((up (up σ 2 (m) 0 (σ 2 (q) 0)) 2 (m) 1 ((up σ 2 (m) 0 (σ 2 (q) 0)) 2 (q) 1)) 2 (q) 2)) (18 * (m)) (18 * (q)) (2)))) rq_44 rfl True.intro (i' := 27) rfl ?_
  refine wp_call (C := 3) (As := [aR 3 (m), aR 3 (q)]) (rest := []) rq_44 (ev_pcopy (m) (q) (zm_fcopy (m) (q) (rcpy (up (up (up σ 2 (m) 0 (σ 2 (q) 0)) 2 (m) 1 ((up σ 2 (m) 0 (σ 2 (q) 0)) 2 (q) 1)) 2 (m) 2 ((up (up σ 2 (m) 0 (σ 2 (q) 0)) 2 (m) 1 ((up σ 2 (m) 0 (σ 2 (q) 0)) 2 (q) 1)) 2 (q) 2)) (18 * (m)) (18 * (q)) (2))) ) rfl rfl (show clOK 44 51 0 0 0 2 3 = true by decide +kernel) rfl (show 0 ≤ 4 by decide) (fun _ => ⟨_, rfl⟩) rfl (c' := 0) (s' := 0) rfl rfl ?_
  refine wp_seg 4 (P := none) (ls' := [some (aR 2 (m)), some (aR 2 (q))]) (st' := [aR 0 (q), aR 0 (m)]) (σ' := (zm_pcopy (m) (q) (zm_fcopy (m) (q) (rcpy (up (up (up σ 2 (m) 0 (σ 2 (q) 0)) 2 (m) 1 ((up σ 2 (m) 0 (σ 2 (q) 0)) 2 (q) 1)) 2 (m) 2 ((up (up σ 2 (m) 0 (σ 2 (q) 0)) 2 (m) 1 ((up σ 2 (m) 0 (σ 2 (q) 0)) 2 (q) 1)) 2 (q) 2)) (18 * (m)) (18 * (q)) (2))))) rq_44 rfl True.intro (i' := 32) rfl ?_
  refine wp_call (C := 0) (As := [aR 0 (m), aR 0 (q)]) (rest := []) rq_44 (ev_bcopy (m) (q) (zm_pcopy (m) (q) (zm_fcopy (m) (q) (rcpy (up (up (up σ 2 (m) 0 (σ 2 (q) 0)) 2 (m) 1 ((up σ 2 (m) 0 (σ 2 (q) 0)) 2 (q) 1)) 2 (m) 2 ((up (up σ 2 (m) 0 (σ 2 (q) 0)) 2 (m) 1 ((up σ 2 (m) 0 (σ 2 (q) 0)) 2 (q) 1)) 2 (q) 2)) (18 * (m)) (18 * (q)) (2)))) ) rfl rfl (show clOK 44 18 0 0 0 2 0 = true by decide +kernel) rfl (show 0 ≤ 4 by decide) (fun _ => ⟨_, rfl⟩) rfl (c' := 0) (s' := 0) rfl rfl ?_
  refine wp_seg 4 (P := none) (ls' := [some (aR 2 (m)), some (aR 2 (q))]) (st' := [aR 9 (q), aR 9 (m)]) (σ' := (zm_bcopy (m) (q) (zm_pcopy (m) (q) (zm_fcopy (m) (q) (rcpy (up (up (up σ 2 (m) 0 (σ 2 (q) 0)) 2 (m) 1 ((up σ 2 (m) 0 (σ 2 (q) 0)) 2 (q) 1)) 2 (m) 2 ((up (up σ 2 (m) 0 (σ 2 (q) 0)) 2 (m) 1 ((up σ 2 (m) 0 (σ 2 (q) 0)) 2 (q) 1)) 2 (q) 2)) (18 * (m)) (18 * (q)) (2)))))) rq_44 rfl True.intro (i' := 37) rfl ?_
  refine wp_call (C := 9) (As := [aR 9 (m), aR 9 (q)]) (rest := []) rq_44 (ev_tcopy (m) (q) (zm_bcopy (m) (q) (zm_pcopy (m) (q) (zm_fcopy (m) (q) (rcpy (up (up (up σ 2 (m) 0 (σ 2 (q) 0)) 2 (m) 1 ((up σ 2 (m) 0 (σ 2 (q) 0)) 2 (q) 1)) 2 (m) 2 ((up (up σ 2 (m) 0 (σ 2 (q) 0)) 2 (m) 1 ((up σ 2 (m) 0 (σ 2 (q) 0)) 2 (q) 1)) 2 (q) 2)) (18 * (m)) (18 * (q)) (2))))) ) rfl rfl (show clOK 44 103 0 0 0 2 9 = true by decide +kernel) rfl (show 0 ≤ 4 by decide) (fun _ => ⟨_, rfl⟩) rfl (c' := 0) (s' := 0) rfl rfl ?_
  refine wp_seg 4 (P := none) (ls' := [some (aR 2 (m)), some (aR 2 (q))]) (st' := [aR 4 (q), aR 4 (m)]) (σ' := (zm_tcopy (m) (q) (zm_bcopy (m) (q) (zm_pcopy (m) (q) (zm_fcopy (m) (q) (rcpy (up (up (up σ 2 (m) 0 (σ 2 (q) 0)) 2 (m) 1 ((up σ 2 (m) 0 (σ 2 (q) 0)) 2 (q) 1)) 2 (m) 2 ((up (up σ 2 (m) 0 (σ 2 (q) 0)) 2 (m) 1 ((up σ 2 (m) 0 (σ 2 (q) 0)) 2 (q) 1)) 2 (q) 2)) (18 * (m)) (18 * (q)) (2))))))) rq_44 rfl True.intro (i' := 42) rfl ?_
  refine wp_call (C := 4) (As := [aR 4 (m), aR 4 (q)]) (rest := []) rq_44 (ev_rlcopy (m) (q) (zm_tcopy (m) (q) (zm_bcopy (m) (q) (zm_pcopy (m) (q) (zm_fcopy (m) (q) (rcpy (up (up (up σ 2 (m) 0 (σ 2 (q) 0)) 2 (m) 1 ((up σ 2 (m) 0 (σ 2 (q) 0)) 2 (q) 1)) 2 (m) 2 ((up (up σ 2 (m) 0 (σ 2 (q) 0)) 2 (m) 1 ((up σ 2 (m) 0 (σ 2 (q) 0)) 2 (q) 1)) 2 (q) 2)) (18 * (m)) (18 * (q)) (2)))))) ) rfl rfl (show clOK 44 60 0 0 0 2 4 = true by decide +kernel) rfl (show 0 ≤ 4 by decide) (fun _ => ⟨_, rfl⟩) rfl (c' := 0) (s' := 0) rfl rfl ?_
  refine wp_vret rq_44 rfl rt_44 ⟨?_, ?_⟩
  · rfl
  · rfl

def slotI (a : Int) (σ : Mem) : Int := (wr ((σ 1 (0) 1) + (a)) : Int).tmod (8)

theorem ev_slot_y (a : Int) (σ : Mem) (h : 0 ≤ slotI a σ ∧ slotI a σ < 8) : Ev true 20 [aR 1 (0), aI (a)] σ (.inl (some (aR 2 (slotI a σ + 2)))) σ := by
  show wp true 20 0 [some (aR 1 (0)), some (aI (a)), none] [] σ 0 0 _
  refine wp_seg 8 (P := some ((8 : Int) ≠ 0)) (ls' := [some (aR 1 (0)), some (aI (a)), some (aI ((wr ((σ 1 (0) 1) + (a)) : Int).tmod (8)))]) (st' := [aI ((wr ((σ 1 (0) 1) + (a)) : Int).tmod (8))]) (σ' := σ) rq_20 rfl ?_ (i' := 8) rfl ?_
  · show (8 : Int) ≠ 0
    (have e8 : alen σ 14 0 = 8 := rfl; omega)
  refine wp_if rq_20 rfl (fun (h1 : ((wr ((σ 1 (0) 1) + (a)) : Int).tmod (8)) < 0) => ?_) (fun (h1 : ¬ (((wr ((σ 1 (0) 1) + (a)) : Int).tmod (8)) < 0)) => ?_)
  · refine wp_seg 1 (P := none) (ls' := [some (aR 1 (0)), some (aI (a)), some (aI ((wr ((σ 1 (0) 1) + (a)) : Int).tmod (8)))]) (st' := [aN]) (σ' := σ) rq_20 rfl True.intro (i' := 20) rfl ?_
    refine wp_aret rq_20 rfl rt_20 (Or.inl rfl) ⟨?_, ?_⟩
    · (first | rfl | (exfalso; have e8 : alen σ 14 0 = 8 := rfl; simp only [slotI] at h; omega))
    · rfl
  · refine wp_seg 4 (P := none) (ls' := [some (aR 1 (0)), some (aI (a)), some (aI ((wr ((σ 1 (0) 1) + (a)) : Int).tmod (8)))]) (st' := [aI (alen σ 14 (0)), aI ((wr ((σ 1 (0) 1) + (a)) : Int).tmod (8))]) (σ' := σ) rq_20 rfl True.intro (i' := 13) rfl ?_
    refine wp_icmp rq_20 rfl (fun (h2 : (alen σ 14 (0)) ≤ ((wr ((σ 1 (0) 1) + (a)) : Int).tmod (8))) => ?_) (fun (h2 : ¬ ((alen σ 14 (0)) ≤ ((wr ((σ 1 (0) 1) + (a)) : Int).tmod (8)))) => ?_)
    · refine wp_seg 1 (P := none) (ls' := [some (aR 1 (0)), some (aI (a)), some (aI ((wr ((σ 1 (0) 1) + (a)) : Int).tmod (8)))]) (st' := [aN]) (σ' := σ) rq_20 rfl True.intro (i' := 20) rfl ?_
      refine wp_aret rq_20 rfl rt_20 (Or.inl rfl) ⟨?_, ?_⟩
      · (first | rfl | (exfalso; have e8 : alen σ 14 0 = 8 := rfl; simp only [slotI] at h; omega))
      · rfl
    · refine wp_seg 4 (P := some (0 ≤ ((wr ((σ 1 (0) 1) + (a)) : Int).tmod (8)) ∧ ((wr ((σ 1 (0) 1) + (a)) : Int).tmod (8)) < 8)) (ls' := [some (aR 1 (0)), some (aI (a)), some (aI ((wr ((σ 1 (0) 1) + (a)) : Int).tmod (8)))]) (st' := [aR 2 (((wr ((σ 1 (0) 1) + (a)) : Int).tmod (8)) + 2)]) (σ' := σ) rq_20 rfl ?_ (i' := 18) rfl ?_
      · show 0 ≤ ((wr ((σ 1 (0) 1) + (a)) : Int).tmod (8)) ∧ ((wr ((σ 1 (0) 1) + (a)) : Int).tmod (8)) < 8
        (have e8 : alen σ 14 0 = 8 := rfl; omega)
      refine wp_goto rq_20 rfl ?_
      refine wp_aret rq_20 rfl rt_20 (Or.inr ⟨_, rfl⟩) ⟨?_, ?_⟩
      · (first | rfl | (exfalso; have e8 : alen σ 14 0 = 8 := rfl; simp only [slotI] at h; omega))
      · rfl
theorem ev_slot_n (a : Int) (σ : Mem) (h : ¬ (0 ≤ slotI a σ ∧ slotI a σ < 8)) : Ev true 20 [aR 1 (0), aI (a)] σ (.inl (some (aN))) σ := by
  show wp true 20 0 [some (aR 1 (0)), some (aI (a)), none] [] σ 0 0 _
  refine wp_seg 8 (P := some ((8 : Int) ≠ 0)) (ls' := [some (aR 1 (0)), some (aI (a)), some (aI ((wr ((σ 1 (0) 1) + (a)) : Int).tmod (8)))]) (st' := [aI ((wr ((σ 1 (0) 1) + (a)) : Int).tmod (8))]) (σ' := σ) rq_20 rfl ?_ (i' := 8) rfl ?_
  · show (8 : Int) ≠ 0
    (have e8 : alen σ 14 0 = 8 := rfl; omega)
  refine wp_if rq_20 rfl (fun (h1 : ((wr ((σ 1 (0) 1) + (a)) : Int).tmod (8)) < 0) => ?_) (fun (h1 : ¬ (((wr ((σ 1 (0) 1) + (a)) : Int).tmod (8)) < 0)) => ?_)
  · refine wp_seg 1 (P := none) (ls' := [some (aR 1 (0)), some (aI (a)), some (aI ((wr ((σ 1 (0) 1) + (a)) : Int).tmod (8)))]) (st' := [aN]) (σ' := σ) rq_20 rfl True.intro (i' := 20) rfl ?_
    refine wp_aret rq_20 rfl rt_20 (Or.inl rfl) ⟨?_, ?_⟩
    · (first | rfl | (exfalso; have e8 : alen σ 14 0 = 8 := rfl; simp only [slotI] at h; omega))
    · rfl
  · refine wp_seg 4 (P := none) (ls' := [some (aR 1 (0)), some (aI (a)), some (aI ((wr ((σ 1 (0) 1) + (a)) : Int).tmod (8)))]) (st' := [aI (alen σ 14 (0)), aI ((wr ((σ 1 (0) 1) + (a)) : Int).tmod (8))]) (σ' := σ) rq_20 rfl True.intro (i' := 13) rfl ?_
    refine wp_icmp rq_20 rfl (fun (h2 : (alen σ 14 (0)) ≤ ((wr ((σ 1 (0) 1) + (a)) : Int).tmod (8))) => ?_) (fun (h2 : ¬ ((alen σ 14 (0)) ≤ ((wr ((σ 1 (0) 1) + (a)) : Int).tmod (8)))) => ?_)
    · refine wp_seg 1 (P := none) (ls' := [some (aR 1 (0)), some (aI (a)), some (aI ((wr ((σ 1 (0) 1) + (a)) : Int).tmod (8)))]) (st' := [aN]) (σ' := σ) rq_20 rfl True.intro (i' := 20) rfl ?_
      refine wp_aret rq_20 rfl rt_20 (Or.inl rfl) ⟨?_, ?_⟩
      · (first | rfl | (exfalso; have e8 : alen σ 14 0 = 8 := rfl; simp only [slotI] at h; omega))
      · rfl
    · refine wp_seg 4 (P := some (0 ≤ ((wr ((σ 1 (0) 1) + (a)) : Int).tmod (8)) ∧ ((wr ((σ 1 (0) 1) + (a)) : Int).tmod (8)) < 8)) (ls' := [some (aR 1 (0)), some (aI (a)), some (aI ((wr ((σ 1 (0) 1) + (a)) : Int).tmod (8)))]) (st' := [aR 2 (((wr ((σ 1 (0) 1) + (a)) : Int).tmod (8)) + 2)]) (σ' := σ) rq_20 rfl ?_ (i' := 18) rfl ?_
      · show 0 ≤ ((wr ((σ 1 (0) 1) + (a)) : Int).tmod (8)) ∧ ((wr ((σ 1 (0) 1) + (a)) : Int).tmod (8)) < 8
        (have e8 : alen σ 14 0 = 8 := rfl; omega)
      refine wp_goto rq_20 rfl ?_
      refine wp_aret rq_20 rfl rt_20 (Or.inr ⟨_, rfl⟩) ⟨?_, ?_⟩
      · (first | rfl | (exfalso; have e8 : alen σ 14 0 = 8 := rfl; simp only [slotI] at h; omega))
      · rfl

def zm_keep (w : Int) (σ : Mem) : Mem := if (σ 1 (0) 2) < 8 then (if 0 ≤ slotI (σ 1 (0) 2) σ ∧ slotI (σ 1 (0) 2) σ < 8 then (up (zm_mcopy (slotI (σ 1 (0) 2) σ + 2) (w) σ) 1 (0) 2 (wr (((zm_mcopy (slotI (σ 1 (0) 2) σ + 2) (w) σ) 1 (0) 2) + (1)))) else σ) else if 0 ≤ slotI ((up (up σ 1 (0) 1 ((wr ((σ 1 (0) 1) + (1)) : Int).tmod (8))) 1 (0) 2 (wr (((up σ 1 (0) 1 ((wr ((σ 1 (0) 1) + (1)) : Int).tmod (8))) 1 (0) 2) - (1)))) 1 (0) 2) (up (up σ 1 (0) 1 ((wr ((σ 1 (0) 1) + (1)) : Int).tmod (8))) 1 (0) 2 (wr (((up σ 1 (0) 1 ((wr ((σ 1 (0) 1) + (1)) : Int).tmod (8))) 1 (0) 2) - (1)))) ∧ slotI ((up (up σ 1 (0) 1 ((wr ((σ 1 (0) 1) + (1)) : Int).tmod (8))) 1 (0) 2 (wr (((up σ 1 (0) 1 ((wr ((σ 1 (0) 1) + (1)) : Int).tmod (8))) 1 (0) 2) - (1)))) 1 (0) 2) (up (up σ 1 (0) 1 ((wr ((σ 1 (0) 1) + (1)) : Int).tmod (8))) 1 (0) 2 (wr (((up σ 1 (0) 1 ((wr ((σ 1 (0) 1) + (1)) : Int).tmod (8))) 1 (0) 2) - (1)))) < 8 then (up (zm_mcopy (slotI ((up (up σ 1 (0) 1 ((wr ((σ 1 (0) 1) + (1)) : Int).tmod (8))) 1 (0) 2 (wr (((up σ 1 (0) 1 ((wr ((σ 1 (0) 1) + (1)) : Int).tmod (8))) 1 (0) 2) - (1)))) 1 (0) 2) (up (up σ 1 (0) 1 ((wr ((σ 1 (0) 1) + (1)) : Int).tmod (8))) 1 (0) 2 (wr (((up σ 1 (0) 1 ((wr ((σ 1 (0) 1) + (1)) : Int).tmod (8))) 1 (0) 2) - (1)))) + 2) (w) (up (up σ 1 (0) 1 ((wr ((σ 1 (0) 1) + (1)) : Int).tmod (8))) 1 (0) 2 (wr (((up σ 1 (0) 1 ((wr ((σ 1 (0) 1) + (1)) : Int).tmod (8))) 1 (0) 2) - (1))))) 1 (0) 2 (wr (((zm_mcopy (slotI ((up (up σ 1 (0) 1 ((wr ((σ 1 (0) 1) + (1)) : Int).tmod (8))) 1 (0) 2 (wr (((up σ 1 (0) 1 ((wr ((σ 1 (0) 1) + (1)) : Int).tmod (8))) 1 (0) 2) - (1)))) 1 (0) 2) (up (up σ 1 (0) 1 ((wr ((σ 1 (0) 1) + (1)) : Int).tmod (8))) 1 (0) 2 (wr (((up σ 1 (0) 1 ((wr ((σ 1 (0) 1) + (1)) : Int).tmod (8))) 1 (0) 2) - (1)))) + 2) (w) (up (up σ 1 (0) 1 ((wr ((σ 1 (0) 1) + (1)) : Int).tmod (8))) 1 (0) 2 (wr (((up σ 1 (0) 1 ((wr ((σ 1 (0) 1) + (1)) : Int).tmod (8))) 1 (0) 2) - (1))))) 1 (0) 2) + (1)))) else (up (up σ 1 (0) 1 ((wr ((σ 1 (0) 1) + (1)) : Int).tmod (8))) 1 (0) 2 (wr (((up σ 1 (0) 1 ((wr ((σ 1 (0) 1) + (1)) : Int).tmod (8))) 1 (0) 2) - (1))))
theorem ev_keep (w : Int) (σ : Mem) : Ev true 21 [aR 1 (0), aR 2 (w)] σ (.inl none) (zm_keep w σ) := by
  show wp true 21 0 [some (aR 1 (0)), some (aR 2 (w)), none] [] σ 0 0 _
  refine wp_seg 3 (P := none) (ls' := [some (aR 1 (0)), some (aR 2 (w)), none]) (st' := [aI (8), aI (σ 1 (0) 2)]) (σ' := σ) rq_21 rfl True.intro (i' := 3) rfl ?_
  refine wp_icmp rq_21 rfl (fun (h1 : (σ 1 (0) 2) < 8) => ?_) (fun (h1 : ¬ ((σ 1 (0) 2) < 8)) => ?_)
  · refine wp_seg 3 (P := none) (ls' := [some (aR 1 (0)), some (aR 2 (w)), none]) (st' := [aI (σ 1 (0) 2), aR 1 (0)]) (σ' := σ) rq_21 rfl True.intro (i' := 21) rfl ?_
    by_cases h2 : 0 ≤ slotI (σ 1 (0) 2) σ ∧ slotI (σ 1 (0) 2) σ < 8
    · refine wp_call (C := 1) (As := [aR 1 (0), aI (σ 1 (0) 2)]) (rest := []) rq_21 (ev_slot_y (σ 1 (0) 2) σ  h2) rfl rfl (show clOK 21 20 0 0 0 2 1 = true by decide +kernel) rfl (show 0 ≤ 4 by decide) (fun _ => ⟨_, rfl⟩) rfl (c' := 0) (s' := 0) rfl rfl ?_
      refine wp_seg 2 (P := none) (ls' := [some (aR 1 (0)), some (aR 2 (w)), some (aR 2 (slotI (σ 1 (0) 2) σ + 2))]) (st' := [aR 2 (slotI (σ 1 (0) 2) σ + 2)]) (σ' := σ) rq_21 rfl True.intro (i' := 24) rfl ?_
      refine wp_nullR rq_21 rfl ?_
      refine wp_seg 2 (P := none) (ls' := [some (aR 1 (0)), some (aR 2 (w)), some (aR 2 (slotI (σ 1 (0) 2) σ + 2))]) (st' := [aR 2 (w), aR 2 (slotI (σ 1 (0) 2) σ + 2)]) (σ' := σ) rq_21 rfl True.intro (i' := 27) rfl ?_
      refine wp_call (C := 2) (As := [aR 2 (slotI (σ 1 (0) 2) σ + 2), aR 2 (w)]) (rest := []) rq_21 (ev_mcopy (slotI (σ 1 (0) 2) σ + 2) (w) σ ) rfl rfl (show clOK 21 44 0 0 0 2 2 = true by decide +kernel) rfl (show 0 ≤ 4 by decide) (fun _ => ⟨_, rfl⟩) rfl (c' := 0) (s' := 0) rfl rfl ?_
      refine wp_seg 6 (P := none) (ls' := [some (aR 1 (0)), some (aR 2 (w)), some (aR 2 (slotI (σ 1 (0) 2) σ + 2))]) (st' := []) (σ' := (up (zm_mcopy (slotI (σ 1 (0) 2) σ + 2) (w) σ) 1 (0) 2 (wr (((zm_mcopy (slotI (σ 1 (0) 2) σ + 2) (w) σ) 1 (0) 2) + (1))))) rq_21 rfl True.intro (i' := 34) rfl ?_
      refine wp_vret rq_21 rfl rt_21 ⟨?_, ?_⟩
      · rfl
      · (rw [zm_keep, if_pos h1, if_pos h2]; try rfl)
    · refine wp_call (C := 1) (As := [aR 1 (0), aI (σ 1 (0) 2)]) (rest := []) rq_21 (ev_slot_n (σ 1 (0) 2) σ  h2) rfl rfl (show clOK 21 20 0 0 0 2 1 = true by decide +kernel) rfl (show 0 ≤ 4 by decide) (fun _ => ⟨_, rfl⟩) rfl (c' := 0) (s' := 0) rfl rfl ?_
      refine wp_seg 2 (P := none) (ls' := [some (aR 1 (0)), some (aR 2 (w)), some (aN)]) (st' := [aN]) (σ' := σ) rq_21 rfl True.intro (i' := 24) rfl ?_
      refine wp_nullN rq_21 rfl ?_
      refine wp_vret rq_21 rfl rt_21 ⟨?_, ?_⟩
      · rfl
      · (rw [zm_keep, if_pos h1, if_neg h2]; try rfl)
  · refine wp_seg 17 (P := some ((8 : Int) ≠ 0)) (ls' := [some (aR 1 (0)), some (aR 2 (w)), none]) (st' := [aI ((up (up σ 1 (0) 1 ((wr ((σ 1 (0) 1) + (1)) : Int).tmod (8))) 1 (0) 2 (wr (((up σ 1 (0) 1 ((wr ((σ 1 (0) 1) + (1)) : Int).tmod (8))) 1 (0) 2) - (1)))) 1 (0) 2), aR 1 (0)]) (σ' := (up (up σ 1 (0) 1 ((wr ((σ 1 (0) 1) + (1)) : Int).tmod (8))) 1 (0) 2 (wr (((up σ 1 (0) 1 ((wr ((σ 1 (0) 1) + (1)) : Int).tmod (8))) 1 (0) 2) - (1))))) rq_21 rfl ?_ (i' := 21) rfl ?_
    · show (8 : Int) ≠ 0
      (first | decide | assumption | omega | simp_all)
    by_cases h3 : 0 ≤ slotI ((up (up σ 1 (0) 1 ((wr ((σ 1 (0) 1) + (1)) : Int).tmod (8))) 1 (0) 2 (wr (((up σ 1 (0) 1 ((wr ((σ 1 (0) 1) + (1)) : Int).tmod (8))) 1 (0) 2) - (1)))) 1 (0) 2) (up (up σ 1 (0) 1 ((wr ((σ 1 (0) 1) + (1)) : Int).tmod (8))) 1 (0) 2 (wr (((up σ 1 (0) 1 ((wr ((σ 1 (0) 1) + (1)) : Int).tmod (8))) 1 (0) 2) - (1)))) ∧ slotI ((up (up σ 1 (0) 1 ((wr ((σ 1 (0) 1) + (1)) : Int).tmod (8))) 1 (0) 2 (wr (((up σ 1 (0) 1 ((wr ((σ 1 (0) 1) + (1)) : Int).tmod (8))) 1 (0) 2) - (1)))) 1 (0) 2) (up (up σ 1 (0) 1 ((wr ((σ 1 (0) 1) + (1)) : Int).tmod (8))) 1 (0) 2 (wr (((up σ 1 (0) 1 ((wr ((σ 1 (0) 1) + (1)) : Int).tmod (8))) 1 (0) 2) - (1)))) < 8
    · refine wp_call (C := 1) (As := [aR 1 (0), aI ((up (up σ 1 (0) 1 ((wr ((σ 1 (0) 1) + (1)) : Int).tmod (8))) 1 (0) 2 (wr (((up σ 1 (0) 1 ((wr ((σ 1 (0) 1) + (1)) : Int).tmod (8))) 1 (0) 2) - (1)))) 1 (0) 2)]) (rest := []) rq_21 (ev_slot_y ((up (up σ 1 (0) 1 ((wr ((σ 1 (0) 1) + (1)) : Int).tmod (8))) 1 (0) 2 (wr (((up σ 1 (0) 1 ((wr ((σ 1 (0) 1) + (1)) : Int).tmod (8))) 1 (0) 2) - (1)))) 1 (0) 2) (up (up σ 1 (0) 1 ((wr ((σ 1 (0) 1) + (1)) : Int).tmod (8))) 1 (0) 2 (wr (((up σ 1 (0) 1 ((wr ((σ 1 (0) 1) + (1)) : Int).tmod (8))) 1 (0) 2) - (1))))  h3) rfl rfl (show clOK 21 20 0 0 0 2 1 = true by decide +kernel) rfl (show 0 ≤ 4 by decide) (fun _ => ⟨_, rfl⟩) rfl (c' := 0) (s' := 0) rfl rfl ?_
      refine wp_seg 2 (P := none) (ls' := [some (aR 1 (0)), some (aR 2 (w)), some (aR 2 (slotI ((up (up σ 1 (0) 1 ((wr ((σ 1 (0) 1) + (1)) : Int).tmod (8))) 1 (0) 2 (wr (((up σ 1 (0) 1 ((wr ((σ 1 (0) 1) + (1)) : Int).tmod (8))) 1 (0) 2) - (1)))) 1 (0) 2) (up (up σ 1 (0) 1 ((wr ((σ 1 (0) 1) + (1)) : Int).tmod (8))) 1 (0) 2 (wr (((up σ 1 (0) 1 ((wr ((σ 1 (0) 1) + (1)) : Int).tmod (8))) 1 (0) 2) - (1)))) + 2))]) (st' := [aR 2 (slotI ((up (up σ 1 (0) 1 ((wr ((σ 1 (0) 1) + (1)) : Int).tmod (8))) 1 (0) 2 (wr (((up σ 1 (0) 1 ((wr ((σ 1 (0) 1) + (1)) : Int).tmod (8))) 1 (0) 2) - (1)))) 1 (0) 2) (up (up σ 1 (0) 1 ((wr ((σ 1 (0) 1) + (1)) : Int).tmod (8))) 1 (0) 2 (wr (((up σ 1 (0) 1 ((wr ((σ 1 (0) 1) + (1)) : Int).tmod (8))) 1 (0) 2) - (1)))) + 2)]) (σ' := (up (up σ 1 (0) 1 ((wr ((σ 1 (0) 1) + (1)) : Int).tmod (8))) 1 (0) 2 (wr (((up σ 1 (0) 1 ((wr ((σ 1 (0) 1) + (1)) : Int).tmod (8))) 1 (0) 2) - (1))))) rq_21 rfl True.intro (i' := 24) rfl ?_
      refine wp_nullR rq_21 rfl ?_
      refine wp_seg 2 (P := none) (ls' := [some (aR 1 (0)), some (aR 2 (w)), some (aR 2 (slotI ((up (up σ 1 (0) 1 ((wr ((σ 1 (0) 1) + (1)) : Int).tmod (8))) 1 (0) 2 (wr (((up σ 1 (0) 1 ((wr ((σ 1 (0) 1) + (1)) : Int).tmod (8))) 1 (0) 2) - (1)))) 1 (0) 2) (up (up σ 1 (0) 1 ((wr ((σ 1 (0) 1) + (1)) : Int).tmod (8))) 1 (0) 2 (wr (((up σ 1 (0) 1 ((wr ((σ 1 (0) 1) + (1)) : Int).tmod (8))) 1 (0) 2) - (1)))) + 2))]) (st' := [aR 2 (w), aR 2 (slotI ((up (up σ 1 (0) 1 ((wr ((σ 1 (0) 1) + (1)) : Int).tmod (8))) 1 (0) 2 (wr (((up σ 1 (0) 1 ((wr ((σ 1 (0) 1) + (1)) : Int).tmod (8))) 1 (0) 2) - (1)))) 1 (0) 2) (up (up σ 1 (0) 1 ((wr ((σ 1 (0) 1) + (1)) : Int).tmod (8))) 1 (0) 2 (wr (((up σ 1 (0) 1 ((wr ((σ 1 (0) 1) + (1)) : Int).tmod (8))) 1 (0) 2) - (1)))) + 2)]) (σ' := (up (up σ 1 (0) 1 ((wr ((σ 1 (0) 1) + (1)) : Int).tmod (8))) 1 (0) 2 (wr (((up σ 1 (0) 1 ((wr ((σ 1 (0) 1) + (1)) : Int).tmod (8))) 1 (0) 2) - (1))))) rq_21 rfl True.intro (i' := 27) rfl ?_
      refine wp_call (C := 2) (As := [aR 2 (slotI ((up (up σ 1 (0) 1 ((wr ((σ 1 (0) 1) + (1)) : Int).tmod (8))) 1 (0) 2 (wr (((up σ 1 (0) 1 ((wr ((σ 1 (0) 1) + (1)) : Int).tmod (8))) 1 (0) 2) - (1)))) 1 (0) 2) (up (up σ 1 (0) 1 ((wr ((σ 1 (0) 1) + (1)) : Int).tmod (8))) 1 (0) 2 (wr (((up σ 1 (0) 1 ((wr ((σ 1 (0) 1) + (1)) : Int).tmod (8))) 1 (0) 2) - (1)))) + 2), aR 2 (w)]) (rest := []) rq_21 (ev_mcopy (slotI ((up (up σ 1 (0) 1 ((wr ((σ 1 (0) 1) + (1)) : Int).tmod (8))) 1 (0) 2 (wr (((up σ 1 (0) 1 ((wr ((σ 1 (0) 1) + (1)) : Int).tmod (8))) 1 (0) 2) - (1)))) 1 (0) 2) (up (up σ 1 (0) 1 ((wr ((σ 1 (0) 1) + (1)) : Int).tmod (8))) 1 (0) 2 (wr (((up σ 1 (0) 1 ((wr ((σ 1 (0) 1) + (1)) : Int).tmod (8))) 1 (0) 2) - (1)))) + 2) (w) (up (up σ 1 (0) 1 ((wr ((σ 1 (0) 1) + (1)) : Int).tmod (8))) 1 (0) 2 (wr (((up σ 1 (0) 1 ((wr ((σ 1 (0) 1) + (1)) : Int).tmod (8))) 1 (0) 2) - (1)))) ) rfl rfl (show clOK 21 44 0 0 0 2 2 = true by decide +kernel) rfl (show 0 ≤ 4 by decide) (fun _ => ⟨_, rfl⟩) rfl (c' := 0) (s' := 0) rfl rfl ?_
      refine wp_seg 6 (P := none) (ls' := [some (aR 1 (0)), some (aR 2 (w)), some (aR 2 (slotI ((up (up σ 1 (0) 1 ((wr ((σ 1 (0) 1) + (1)) : Int).tmod (8))) 1 (0) 2 (wr (((up σ 1 (0) 1 ((wr ((σ 1 (0) 1) + (1)) : Int).tmod (8))) 1 (0) 2) - (1)))) 1 (0) 2) (up (up σ 1 (0) 1 ((wr ((σ 1 (0) 1) + (1)) : Int).tmod (8))) 1 (0) 2 (wr (((up σ 1 (0) 1 ((wr ((σ 1 (0) 1) + (1)) : Int).tmod (8))) 1 (0) 2) - (1)))) + 2))]) (st' := []) (σ' := (up (zm_mcopy (slotI ((up (up σ 1 (0) 1 ((wr ((σ 1 (0) 1) + (1)) : Int).tmod (8))) 1 (0) 2 (wr (((up σ 1 (0) 1 ((wr ((σ 1 (0) 1) + (1)) : Int).tmod (8))) 1 (0) 2) - (1)))) 1 (0) 2) (up (up σ 1 (0) 1 ((wr ((σ 1 (0) 1) + (1)) : Int).tmod (8))) 1 (0) 2 (wr (((up σ 1 (0) 1 ((wr ((σ 1 (0) 1) + (1)) : Int).tmod (8))) 1 (0) 2) - (1)))) + 2) (w) (up (up σ 1 (0) 1 ((wr ((σ 1 (0) 1) + (1)) : Int).tmod (8))) 1 (0) 2 (wr (((up σ 1 (0) 1 ((wr ((σ 1 (0) 1) + (1)) : Int).tmod (8))) 1 (0) 2) - (1))))) 1 (0) 2 (wr (((zm_mcopy (slotI ((up (up σ 1 (0) 1 ((wr ((σ 1 (0) 1) + (1)) : Int).tmod (8))) 1 (0) 2 (wr (((up σ 1 (0) 1 ((wr ((σ 1 (0) 1) + (1)) : Int).tmod (8))) 1 (0) 2) - (1)))) 1 (0) 2) (up (up σ 1 (0) 1 ((wr ((σ 1 (0) 1) + (1)) : Int).tmod (8))) 1 (0) 2 (wr (((up σ 1 (0) 1 ((wr ((σ 1 (0) 1) + (1)) : Int).tmod (8))) 1 (0) 2) - (1)))) + 2) (w) (up (up σ 1 (0) 1 ((wr ((σ 1 (0) 1) + (1)) : Int).tmod (8))) 1 (0) 2 (wr (((up σ 1 (0) 1 ((wr ((σ 1 (0) 1) + (1)) : Int).tmod (8))) 1 (0) 2) - (1))))) 1 (0) 2) + (1))))) rq_21 rfl True.intro (i' := 34) rfl ?_
      refine wp_vret rq_21 rfl rt_21 ⟨?_, ?_⟩
      · rfl
      · (rw [zm_keep, if_neg h1, if_pos h3]; try rfl)
    · refine wp_call (C := 1) (As := [aR 1 (0), aI ((up (up σ 1 (0) 1 ((wr ((σ 1 (0) 1) + (1)) : Int).tmod (8))) 1 (0) 2 (wr (((up σ 1 (0) 1 ((wr ((σ 1 (0) 1) + (1)) : Int).tmod (8))) 1 (0) 2) - (1)))) 1 (0) 2)]) (rest := []) rq_21 (ev_slot_n ((up (up σ 1 (0) 1 ((wr ((σ 1 (0) 1) + (1)) : Int).tmod (8))) 1 (0) 2 (wr (((up σ 1 (0) 1 ((wr ((σ 1 (0) 1) + (1)) : Int).tmod (8))) 1 (0) 2) - (1)))) 1 (0) 2) (up (up σ 1 (0) 1 ((wr ((σ 1 (0) 1) + (1)) : Int).tmod (8))) 1 (0) 2 (wr (((up σ 1 (0) 1 ((wr ((σ 1 (0) 1) + (1)) : Int).tmod (8))) 1 (0) 2) - (1))))  h3) rfl rfl (show clOK 21 20 0 0 0 2 1 = true by decide +kernel) rfl (show 0 ≤ 4 by decide) (fun _ => ⟨_, rfl⟩) rfl (c' := 0) (s' := 0) rfl rfl ?_
      refine wp_seg 2 (P := none) (ls' := [some (aR 1 (0)), some (aR 2 (w)), some (aN)]) (st' := [aN]) (σ' := (up (up σ 1 (0) 1 ((wr ((σ 1 (0) 1) + (1)) : Int).tmod (8))) 1 (0) 2 (wr (((up σ 1 (0) 1 ((wr ((σ 1 (0) 1) + (1)) : Int).tmod (8))) 1 (0) 2) - (1))))) rq_21 rfl True.intro (i' := 24) rfl ?_
      refine wp_nullN rq_21 rfl ?_
      refine wp_vret rq_21 rfl rt_21 ⟨?_, ?_⟩
      · rfl
      · (rw [zm_keep, if_neg h1, if_neg h3]; try rfl)

def zm_takeBack (w : Int) (σ : Mem) : Mem := if 0 ≤ slotI (wr ((σ 1 (0) 2) - (1))) σ ∧ slotI (wr ((σ 1 (0) 2) - (1))) σ < 8 then (up (zm_mcopy (w) (slotI (wr ((σ 1 (0) 2) - (1))) σ + 2) σ) 1 (0) 2 (wr (((zm_mcopy (w) (slotI (wr ((σ 1 (0) 2) - (1))) σ + 2) σ) 1 (0) 2) - (1)))) else σ
theorem ev_takeBack (w : Int) (σ : Mem) : Ev true 22 [aR 1 (0), aR 2 (w)] σ (.inl none) (zm_takeBack w σ) := by
  show wp true 22 0 [some (aR 1 (0)), some (aR 2 (w)), none] [] σ 0 0 _
  refine wp_seg 5 (P := none) (ls' := [some (aR 1 (0)), some (aR 2 (w)), none]) (st' := [aI (wr ((σ 1 (0) 2) - (1))), aR 1 (0)]) (σ' := σ) rq_22 rfl True.intro (i' := 5) rfl ?_
  by_cases h1 : 0 ≤ slotI (wr ((σ 1 (0) 2) - (1))) σ ∧ slotI (wr ((σ 1 (0) 2) - (1))) σ < 8
  · refine wp_call (C := 1) (As := [aR 1 (0), aI (wr ((σ 1 (0) 2) - (1)))]) (rest := []) rq_22 (ev_slot_y (wr ((σ 1 (0) 2) - (1))) σ  h1) rfl rfl (show clOK 22 20 0 0 0 2 1 = true by decide +kernel) rfl (show 0 ≤ 4 by decide) (fun _ => ⟨_, rfl⟩) rfl (c' := 0) (s' := 0) rfl rfl ?_
    refine wp_seg 2 (P := none) (ls' := [some (aR 1 (0)), some (aR 2 (w)), some (aR 2 (slotI (wr ((σ 1 (0) 2) - (1))) σ + 2))]) (st' := [aR 2 (slotI (wr ((σ 1 (0) 2) - (1))) σ + 2)]) (σ' := σ) rq_22 rfl True.intro (i' := 8) rfl ?_
    refine wp_nullR rq_22 rfl ?_
    refine wp_seg 2 (P := none) (ls' := [some (aR 1 (0)), some (aR 2 (w)), some (aR 2 (slotI (wr ((σ 1 (0) 2) - (1))) σ + 2))]) (st' := [aR 2 (slotI (wr ((σ 1 (0) 2) - (1))) σ + 2), aR 2 (w)]) (σ' := σ) rq_22 rfl True.intro (i' := 11) rfl ?_
    refine wp_call (C := 2) (As := [aR 2 (w), aR 2 (slotI (wr ((σ 1 (0) 2) - (1))) σ + 2)]) (rest := []) rq_22 (ev_mcopy (w) (slotI (wr ((σ 1 (0) 2) - (1))) σ + 2) σ ) rfl rfl (show clOK 22 44 0 0 0 2 2 = true by decide +kernel) rfl (show 0 ≤ 4 by decide) (fun _ => ⟨_, rfl⟩) rfl (c' := 0) (s' := 0) rfl rfl ?_
    refine wp_seg 6 (P := none) (ls' := [some (aR 1 (0)), some (aR 2 (w)), some (aR 2 (slotI (wr ((σ 1 (0) 2) - (1))) σ + 2))]) (st' := []) (σ' := (up (zm_mcopy (w) (slotI (wr ((σ 1 (0) 2) - (1))) σ + 2) σ) 1 (0) 2 (wr (((zm_mcopy (w) (slotI (wr ((σ 1 (0) 2) - (1))) σ + 2) σ) 1 (0) 2) - (1))))) rq_22 rfl True.intro (i' := 18) rfl ?_
    refine wp_vret rq_22 rfl rt_22 ⟨?_, ?_⟩
    · rfl
    · (rw [zm_takeBack, if_pos h1]; try rfl)
  · refine wp_call (C := 1) (As := [aR 1 (0), aI (wr ((σ 1 (0) 2) - (1)))]) (rest := []) rq_22 (ev_slot_n (wr ((σ 1 (0) 2) - (1))) σ  h1) rfl rfl (show clOK 22 20 0 0 0 2 1 = true by decide +kernel) rfl (show 0 ≤ 4 by decide) (fun _ => ⟨_, rfl⟩) rfl (c' := 0) (s' := 0) rfl rfl ?_
    refine wp_seg 2 (P := none) (ls' := [some (aR 1 (0)), some (aR 2 (w)), some (aN)]) (st' := [aN]) (σ' := σ) rq_22 rfl True.intro (i' := 8) rfl ?_
    refine wp_nullN rq_22 rfl ?_
    refine wp_vret rq_22 rfl rt_22 ⟨?_, ?_⟩
    · rfl
    · (rw [zm_takeBack, if_neg h1]; try rfl)

theorem ev_forget  (σ : Mem) : Ev true 23 [aR 1 (0)] σ (.inl none) ((up σ 1 (0) 2 (0))) := by
  show wp true 23 0 [some (aR 1 (0))] [] σ 0 0 _
  refine wp_seg 3 (P := none) (ls' := [some (aR 1 (0))]) (st' := []) (σ' := (up σ 1 (0) 2 (0))) rq_23 rfl True.intro (i' := 3) rfl ?_
  refine wp_vret rq_23 rfl rt_23 ⟨?_, ?_⟩
  · rfl
  · rfl

def zm_tadd (c : Int) (σ : Mem) : Mem := if (σ 5 (0) 1) < 0 then σ else if (alen σ 12 (0)) ≤ (σ 5 (0) 1) then σ else (up (up σ 12 (0) (σ 5 (0) 1) ((c) % 65536)) 5 (0) 1 (wr (((up σ 12 (0) (σ 5 (0) 1) ((c) % 65536)) 5 (0) 1) + (1))))
theorem ev_tadd (c : Int) (σ : Mem) : Ev true 62 [aR 5 (0), aI (c)] σ (.inl none) (zm_tadd c σ) := by
  show wp true 62 0 [some (aR 5 (0)), some (aI (c))] [] σ 0 0 _
  refine wp_seg 2 (P := none) (ls' := [some (aR 5 (0)), some (aI (c))]) (st' := [aI (σ 5 (0) 1)]) (σ' := σ) rq_62 rfl True.intro (i' := 2) rfl ?_
  refine wp_if rq_62 rfl (fun (h1 : (σ 5 (0) 1) < 0) => ?_) (fun (h1 : ¬ ((σ 5 (0) 1) < 0)) => ?_)
  · refine wp_vret rq_62 rfl rt_62 ⟨?_, ?_⟩
    · rfl
    · (rw [zm_tadd, if_pos h1]; try rfl)
  · refine wp_seg 5 (P := none) (ls' := [some (aR 5 (0)), some (aI (c))]) (st' := [aI (alen σ 12 (0)), aI (σ 5 (0) 1)]) (σ' := σ) rq_62 rfl True.intro (i' := 8) rfl ?_
    refine wp_icmp rq_62 rfl (fun (h2 : (alen σ 12 (0)) ≤ (σ 5 (0) 1)) => ?_) (fun (h2 : ¬ ((alen σ 12 (0)) ≤ (σ 5 (0) 1))) => ?_)
    · refine wp_vret rq_62 rfl rt_62 ⟨?_, ?_⟩
      · rfl
      · (rw [zm_tadd, if_neg h1, if_pos h2]; try rfl)
    · refine wp_seg 12 (P := some (0 ≤ (σ 5 (0) 1) ∧ (σ 5 (0) 1) < 60)) (ls' := [some (aR 5 (0)), some (aI (c))]) (st' := []) (σ' := (up (up σ 12 (0) (σ 5 (0) 1) ((c) % 65536)) 5 (0) 1 (wr (((up σ 12 (0) (σ 5 (0) 1) ((c) % 65536)) 5 (0) 1) + (1))))) rq_62 rfl ?_ (i' := 21) rfl ?_
      · show 0 ≤ (σ 5 (0) 1) ∧ (σ 5 (0) 1) < 60
        (refine ⟨?_, ?_⟩ <;> first | omega | (change ¬ (60 : Int) ≤ _ at h2; omega))
      refine wp_vret rq_62 rfl rt_62 ⟨?_, ?_⟩
      · rfl
      · (rw [zm_tadd, if_neg h1, if_neg h2]; try rfl)

def zo_tpart (r w : Int) (σ : Mem) : Int := rget σ (185) (wr ((wr ((4) * (r))) + (w)))
theorem ev_tpart (r w : Int) (σ : Mem) : Ev true 63 [aR 5 (0), aI (r), aI (w)] σ (.inl (some (aI (zo_tpart r w σ)))) (σ) := by
  show wp true 63 0 [some (aR 5 (0)), some (aI (r)), some (aI (w))] [] σ 0 0 _
  refine wp_seg 7 (P := none) (ls' := [some (aR 5 (0)), some (aI (r)), some (aI (w))]) (st' := [aI (wr ((wr ((4) * (r))) + (w))), aR 7 (185)]) (σ' := σ) rq_63 rfl True.intro (i' := 7) rfl ?_
  refine wp_call (C := 7) (As := [aR 7 (185), aI (wr ((wr ((4) * (r))) + (w)))]) (rest := []) rq_63 (ev_get (185) (wr ((wr ((4) * (r))) + (w))) σ ) rfl rfl (show clOK 63 78 0 0 0 2 7 = true by decide +kernel) rfl (show 0 ≤ 4 by decide) (fun _ => ⟨_, rfl⟩) rfl (c' := 0) (s' := 0) rfl rfl ?_
  refine wp_iret rq_63 rfl rt_63 ⟨?_, ?_⟩
  · rfl
  · rfl

def zm_openPart (n : Int) (σ : Mem) : Mem := (rset (rset (up (up σ 5 (0) 5 (n)) 5 (0) 6 (0)) (185) (wr ((wr ((4) * ((up (up σ 5 (0) 5 (n)) 5 (0) 6 (0)) 5 (0) 4))) + ((up (up σ 5 (0) 5 (n)) 5 (0) 6 (0)) 5 (0) 5))) (0)) (185) (wr ((wr ((4) * ((rset (up (up σ 5 (0) 5 (n)) 5 (0) 6 (0)) (185) (wr ((wr ((4) * ((up (up σ 5 (0) 5 (n)) 5 (0) 6 (0)) 5 (0) 4))) + ((up (up σ 5 (0) 5 (n)) 5 (0) 6 (0)) 5 (0) 5))) (0)) 5 (0) 4))) + (3))) (-1))
theorem ev_openPart (n : Int) (σ : Mem) : Ev true 66 [aR 5 (0), aI (n)] σ (.inl none) (zm_openPart n σ) := by
  show wp true 66 0 [some (aR 5 (0)), some (aI (n))] [] σ 0 0 _
  refine wp_seg 16 (P := none) (ls' := [some (aR 5 (0)), some (aI (n))]) (st' := [aI (0), aI (wr ((wr ((4) * ((up (up σ 5 (0) 5 (n)) 5 (0) 6 (0)) 5 (0) 4))) + ((up (up σ 5 (0) 5 (n)) 5 (0) 6 (0)) 5 (0) 5))), aR 7 (185)]) (σ' := (up (up σ 5 (0) 5 (n)) 5 (0) 6 (0))) rq_66 rfl True.intro (i' := 16) rfl ?_
  refine wp_call (C := 7) (As := [aR 7 (185), aI (wr ((wr ((4) * ((up (up σ 5 (0) 5 (n)) 5 (0) 6 (0)) 5 (0) 4))) + ((up (up σ 5 (0) 5 (n)) 5 (0) 6 (0)) 5 (0) 5))), aI (0)]) (rest := []) rq_66 (ev_set (185) (wr ((wr ((4) * ((up (up σ 5 (0) 5 (n)) 5 (0) 6 (0)) 5 (0) 4))) + ((up (up σ 5 (0) 5 (n)) 5 (0) 6 (0)) 5 (0) 5))) (0) (up (up σ 5 (0) 5 (n)) 5 (0) 6 (0)) ) rfl rfl (show clOK 66 79 0 0 0 3 7 = true by decide +kernel) rfl (show 0 ≤ 4 by decide) (fun _ => ⟨_, rfl⟩) rfl (c' := 0) (s' := 0) rfl rfl ?_
  refine wp_seg 9 (P := none) (ls' := [some (aR 5 (0)), some (aI (n))]) (st' := [aI (-1), aI (wr ((wr ((4) * ((rset (up (up σ 5 (0) 5 (n)) 5 (0) 6 (0)) (185) (wr ((wr ((4) * ((up (up σ 5 (0) 5 (n)) 5 (0) 6 (0)) 5 (0) 4))) + ((up (up σ 5 (0) 5 (n)) 5 (0) 6 (0)) 5 (0) 5))) (0)) 5 (0) 4))) + (3))), aR 7 (185)]) (σ' := (rset (up (up σ 5 (0) 5 (n)) 5 (0) 6 (0)) (185) (wr ((wr ((4) * ((up (up σ 5 (0) 5 (n)) 5 (0) 6 (0)) 5 (0) 4))) + ((up (up σ 5 (0) 5 (n)) 5 (0) 6 (0)) 5 (0) 5))) (0))) rq_66 rfl True.intro (i' := 26) rfl ?_
  refine wp_call (C := 7) (As := [aR 7 (185), aI (wr ((wr ((4) * ((rset (up (up σ 5 (0) 5 (n)) 5 (0) 6 (0)) (185) (wr ((wr ((4) * ((up (up σ 5 (0) 5 (n)) 5 (0) 6 (0)) 5 (0) 4))) + ((up (up σ 5 (0) 5 (n)) 5 (0) 6 (0)) 5 (0) 5))) (0)) 5 (0) 4))) + (3))), aI (-1)]) (rest := []) rq_66 (ev_set (185) (wr ((wr ((4) * ((rset (up (up σ 5 (0) 5 (n)) 5 (0) 6 (0)) (185) (wr ((wr ((4) * ((up (up σ 5 (0) 5 (n)) 5 (0) 6 (0)) 5 (0) 4))) + ((up (up σ 5 (0) 5 (n)) 5 (0) 6 (0)) 5 (0) 5))) (0)) 5 (0) 4))) + (3))) (-1) (rset (up (up σ 5 (0) 5 (n)) 5 (0) 6 (0)) (185) (wr ((wr ((4) * ((up (up σ 5 (0) 5 (n)) 5 (0) 6 (0)) 5 (0) 4))) + ((up (up σ 5 (0) 5 (n)) 5 (0) 6 (0)) 5 (0) 5))) (0)) ) rfl rfl (show clOK 66 79 0 0 0 3 7 = true by decide +kernel) rfl (show 0 ≤ 4 by decide) (fun _ => ⟨_, rfl⟩) rfl (c' := 0) (s' := 0) rfl rfl ?_
  refine wp_vret rq_66 rfl rt_66 ⟨?_, ?_⟩
  · rfl
  · rfl

def zo_acceptDigit (n : Int) (σ : Mem) : Int := if ¬ (σ 5 (0) 5) = 0 then (if (σ 5 (0) 5) = 3 then 0 else if (σ 5 (0) 6) < 2 then 1 else 0) else if (σ 5 (0) 5) = 3 then 0 else if (σ 5 (0) 6) < 3 then 1 else 0
def zm_acceptDigit (n : Int) (σ : Mem) : Mem := if ¬ (σ 5 (0) 5) = 0 then (if (σ 5 (0) 5) = 3 then σ else if (σ 5 (0) 6) < 2 then (up (rset σ (185) (wr ((wr ((4) * (σ 5 (0) 4))) + (σ 5 (0) 5))) (wr ((wr ((10) * (zo_tpart (σ 5 (0) 4) (σ 5 (0) 5) σ))) + (n)))) 5 (0) 6 (wr (((rset σ (185) (wr ((wr ((4) * (σ 5 (0) 4))) + (σ 5 (0) 5))) (wr ((wr ((10) * (zo_tpart (σ 5 (0) 4) (σ 5 (0) 5) σ))) + (n)))) 5 (0) 6) + (1)))) else σ) else if (σ 5 (0) 5) = 3 then σ else if (σ 5 (0) 6) < 3 then (up (rset σ (185) (wr ((wr ((4) * (σ 5 (0) 4))) + (σ 5 (0) 5))) (wr ((wr ((10) * (zo_tpart (σ 5 (0) 4) (σ 5 (0) 5) σ))) + (n)))) 5 (0) 6 (wr (((rset σ (185) (wr ((wr ((4) * (σ 5 (0) 4))) + (σ 5 (0) 5))) (wr ((wr ((10) * (zo_tpart (σ 5 (0) 4) (σ 5 (0) 5) σ))) + (n)))) 5 (0) 6) + (1)))) else σ
theorem ev_acceptDigit (n : Int) (σ : Mem) : Ev true 67 [aR 5 (0), aI (n)] σ (.inl (some (aI (zo_acceptDigit n σ)))) (zm_acceptDigit n σ) := by
  show wp true 67 0 [some (aR 5 (0)), some (aI (n)), none] [] σ 0 0 _
  refine wp_seg 2 (P := none) (ls' := [some (aR 5 (0)), some (aI (n)), none]) (st' := [aI (σ 5 (0) 5)]) (σ' := σ) rq_67 rfl True.intro (i' := 2) rfl ?_
  refine wp_if rq_67 rfl (fun (h1 : ¬ (σ 5 (0) 5) = 0) => ?_) (fun (h1 : ¬ (¬ (σ 5 (0) 5) = 0)) => ?_)
  · refine wp_seg 5 (P := none) (ls' := [some (aR 5 (0)), some (aI (n)), some (aI (2))]) (st' := [aI (3), aI (σ 5 (0) 5)]) (σ' := σ) rq_67 rfl True.intro (i' := 10) rfl ?_
    refine wp_icmp rq_67 rfl (fun (h2 : (σ 5 (0) 5) = 3) => ?_) (fun (h2 : ¬ ((σ 5 (0) 5) = 3)) => ?_)
    · refine wp_seg 1 (P := none) (ls' := [some (aR 5 (0)), some (aI (n)), some (aI (2))]) (st' := [aI (0)]) (σ' := σ) rq_67 rfl True.intro (i' := 16) rfl ?_
      refine wp_zret rq_67 rfl rt_67 ?_ ⟨?_, ?_⟩
      · first | exact Or.inl rfl | exact Or.inr rfl
      · (rw [zo_acceptDigit, if_pos h1, if_pos h2]; try rfl)
      · (rw [zm_acceptDigit, if_pos h1, if_pos h2]; try rfl)
    · refine wp_seg 3 (P := none) (ls' := [some (aR 5 (0)), some (aI (n)), some (aI (2))]) (st' := [aI (2), aI (σ 5 (0) 6)]) (σ' := σ) rq_67 rfl True.intro (i' := 14) rfl ?_
      refine wp_icmp rq_67 rfl (fun (h3 : (σ 5 (0) 6) < 2) => ?_) (fun (h3 : ¬ ((σ 5 (0) 6) < 2)) => ?_)
      · refine wp_seg 15 (P := none) (ls' := [some (aR 5 (0)), some (aI (n)), some (aI (2))]) (st' := [aI (σ 5 (0) 5), aI (σ 5 (0) 4), aR 5 (0), aI (10), aI (wr ((wr ((4) * (σ 5 (0) 4))) + (σ 5 (0) 5))), aR 7 (185)]) (σ' := σ) rq_67 rfl True.intro (i' := 32) rfl ?_
        refine wp_call (C := 5) (As := [aR 5 (0), aI (σ 5 (0) 4), aI (σ 5 (0) 5)]) (rest := [aI (10), aI (wr ((wr ((4) * (σ 5 (0) 4))) + (σ 5 (0) 5))), aR 7 (185)]) rq_67 (ev_tpart (σ 5 (0) 4) (σ 5 (0) 5) σ ) rfl rfl (show clOK 67 63 0 0 0 3 5 = true by decide +kernel) rfl (show 3 ≤ 4 by decide) (fun _ => ⟨_, rfl⟩) rfl (c' := 0) (s' := 0) rfl rfl ?_
        refine wp_seg 3 (P := none) (ls' := [some (aR 5 (0)), some (aI (n)), some (aI (2))]) (st' := [aI (wr ((wr ((10) * (zo_tpart (σ 5 (0) 4) (σ 5 (0) 5) σ))) + (n))), aI (wr ((wr ((4) * (σ 5 (0) 4))) + (σ 5 (0) 5))), aR 7 (185)]) (σ' := σ) rq_67 rfl True.intro (i' := 36) rfl ?_
        refine wp_call (C := 7) (As := [aR 7 (185), aI (wr ((wr ((4) * (σ 5 (0) 4))) + (σ 5 (0) 5))), aI (wr ((wr ((10) * (zo_tpart (σ 5 (0) 4) (σ 5 (0) 5) σ))) + (n)))]) (rest := []) rq_67 (ev_set (185) (wr ((wr ((4) * (σ 5 (0) 4))) + (σ 5 (0) 5))) (wr ((wr ((10) * (zo_tpart (σ 5 (0) 4) (σ 5 (0) 5) σ))) + (n))) σ ) rfl rfl (show clOK 67 79 0 0 0 3 7 = true by decide +kernel) rfl (show 0 ≤ 4 by decide) (fun _ => ⟨_, rfl⟩) rfl (c' := 0) (s' := 0) rfl rfl ?_
        refine wp_seg 7 (P := none) (ls' := [some (aR 5 (0)), some (aI (n)), some (aI (2))]) (st' := [aI (1)]) (σ' := (up (rset σ (185) (wr ((wr ((4) * (σ 5 (0) 4))) + (σ 5 (0) 5))) (wr ((wr ((10) * (zo_tpart (σ 5 (0) 4) (σ 5 (0) 5) σ))) + (n)))) 5 (0) 6 (wr (((rset σ (185) (wr ((wr ((4) * (σ 5 (0) 4))) + (σ 5 (0) 5))) (wr ((wr ((10) * (zo_tpart (σ 5 (0) 4) (σ 5 (0) 5) σ))) + (n)))) 5 (0) 6) + (1))))) rq_67 rfl True.intro (i' := 44) rfl ?_
        refine wp_zret rq_67 rfl rt_67 ?_ ⟨?_, ?_⟩
        · first | exact Or.inl rfl | exact Or.inr rfl
        · (rw [zo_acceptDigit, if_pos h1, if_neg h2, if_pos h3]; try rfl)
        · (rw [zm_acceptDigit, if_pos h1, if_neg h2, if_pos h3]; try rfl)
      · refine wp_seg 1 (P := none) (ls' := [some (aR 5 (0)), some (aI (n)), some (aI (2))]) (st' := [aI (0)]) (σ' := σ) rq_67 rfl True.intro (i' := 16) rfl ?_
        refine wp_zret rq_67 rfl rt_67 ?_ ⟨?_, ?_⟩
        · first | exact Or.inl rfl | exact Or.inr rfl
        · (rw [zo_acceptDigit, if_pos h1, if_neg h2, if_neg h3]; try rfl)
        · (rw [zm_acceptDigit, if_pos h1, if_neg h2, if_neg h3]; try rfl)
  · refine wp_seg 1 (P := none) (ls' := [some (aR 5 (0)), some (aI (n)), none]) (st' := [aI (3)]) (σ' := σ) rq_67 rfl True.intro (i' := 4) rfl ?_
    refine wp_goto rq_67 rfl ?_
    refine wp_seg 4 (P := none) (ls' := [some (aR 5 (0)), some (aI (n)), some (aI (3))]) (st' := [aI (3), aI (σ 5 (0) 5)]) (σ' := σ) rq_67 rfl True.intro (i' := 10) rfl ?_
    refine wp_icmp rq_67 rfl (fun (h4 : (σ 5 (0) 5) = 3) => ?_) (fun (h4 : ¬ ((σ 5 (0) 5) = 3)) => ?_)
    · refine wp_seg 1 (P := none) (ls' := [some (aR 5 (0)), some (aI (n)), some (aI (3))]) (st' := [aI (0)]) (σ' := σ) rq_67 rfl True.intro (i' := 16) rfl ?_
      refine wp_zret rq_67 rfl rt_67 ?_ ⟨?_, ?_⟩
      · first | exact Or.inl rfl | exact Or.inr rfl
      · (rw [zo_acceptDigit, if_neg h1, if_pos h4]; try rfl)
      · (rw [zm_acceptDigit, if_neg h1, if_pos h4]; try rfl)
    · refine wp_seg 3 (P := none) (ls' := [some (aR 5 (0)), some (aI (n)), some (aI (3))]) (st' := [aI (3), aI (σ 5 (0) 6)]) (σ' := σ) rq_67 rfl True.intro (i' := 14) rfl ?_
      refine wp_icmp rq_67 rfl (fun (h5 : (σ 5 (0) 6) < 3) => ?_) (fun (h5 : ¬ ((σ 5 (0) 6) < 3)) => ?_)
      · refine wp_seg 15 (P := none) (ls' := [some (aR 5 (0)), some (aI (n)), some (aI (3))]) (st' := [aI (σ 5 (0) 5), aI (σ 5 (0) 4), aR 5 (0), aI (10), aI (wr ((wr ((4) * (σ 5 (0) 4))) + (σ 5 (0) 5))), aR 7 (185)]) (σ' := σ) rq_67 rfl True.intro (i' := 32) rfl ?_
        refine wp_call (C := 5) (As := [aR 5 (0), aI (σ 5 (0) 4), aI (σ 5 (0) 5)]) (rest := [aI (10), aI (wr ((wr ((4) * (σ 5 (0) 4))) + (σ 5 (0) 5))), aR 7 (185)]) rq_67 (ev_tpart (σ 5 (0) 4) (σ 5 (0) 5) σ ) rfl rfl (show clOK 67 63 0 0 0 3 5 = true by decide +kernel) rfl (show 3 ≤ 4 by decide) (fun _ => ⟨_, rfl⟩) rfl (c' := 0) (s' := 0) rfl rfl ?_
        refine wp_seg 3 (P := none) (ls' := [some (aR 5 (0)), some (aI (n)), some (aI (3))]) (st' := [aI (wr ((wr ((10) * (zo_tpart (σ 5 (0) 4) (σ 5 (0) 5) σ))) + (n))), aI (wr ((wr ((4) * (σ 5 (0) 4))) + (σ 5 (0) 5))), aR 7 (185)]) (σ' := σ) rq_67 rfl True.intro (i' := 36) rfl ?_
        refine wp_call (C := 7) (As := [aR 7 (185), aI (wr ((wr ((4) * (σ 5 (0) 4))) + (σ 5 (0) 5))), aI (wr ((wr ((10) * (zo_tpart (σ 5 (0) 4) (σ 5 (0) 5) σ))) + (n)))]) (rest := []) rq_67 (ev_set (185) (wr ((wr ((4) * (σ 5 (0) 4))) + (σ 5 (0) 5))) (wr ((wr ((10) * (zo_tpart (σ 5 (0) 4) (σ 5 (0) 5) σ))) + (n))) σ ) rfl rfl (show clOK 67 79 0 0 0 3 7 = true by decide +kernel) rfl (show 0 ≤ 4 by decide) (fun _ => ⟨_, rfl⟩) rfl (c' := 0) (s' := 0) rfl rfl ?_
        refine wp_seg 7 (P := none) (ls' := [some (aR 5 (0)), some (aI (n)), some (aI (3))]) (st' := [aI (1)]) (σ' := (up (rset σ (185) (wr ((wr ((4) * (σ 5 (0) 4))) + (σ 5 (0) 5))) (wr ((wr ((10) * (zo_tpart (σ 5 (0) 4) (σ 5 (0) 5) σ))) + (n)))) 5 (0) 6 (wr (((rset σ (185) (wr ((wr ((4) * (σ 5 (0) 4))) + (σ 5 (0) 5))) (wr ((wr ((10) * (zo_tpart (σ 5 (0) 4) (σ 5 (0) 5) σ))) + (n)))) 5 (0) 6) + (1))))) rq_67 rfl True.intro (i' := 44) rfl ?_
        refine wp_zret rq_67 rfl rt_67 ?_ ⟨?_, ?_⟩
        · first | exact Or.inl rfl | exact Or.inr rfl
        · (rw [zo_acceptDigit, if_neg h1, if_neg h4, if_pos h5]; try rfl)
        · (rw [zm_acceptDigit, if_neg h1, if_neg h4, if_pos h5]; try rfl)
      · refine wp_seg 1 (P := none) (ls' := [some (aR 5 (0)), some (aI (n)), some (aI (3))]) (st' := [aI (0)]) (σ' := σ) rq_67 rfl True.intro (i' := 16) rfl ?_
        refine wp_zret rq_67 rfl rt_67 ?_ ⟨?_, ?_⟩
        · first | exact Or.inl rfl | exact Or.inr rfl
        · (rw [zo_acceptDigit, if_neg h1, if_neg h4, if_neg h5]; try rfl)
        · (rw [zm_acceptDigit, if_neg h1, if_neg h4, if_neg h5]; try rfl)

