/-! More of the parts of a meet. -/
def zm_fadd (m c st : Int) (σ : Mem) : Mem := (up (rset (rset (rset (rset (rset (rset (rset (rset σ (18 * (m) + 1) (σ 6 (m) 0) (c)) (18 * (m) + 2) (σ 6 (m) 0) (st)) (18 * (m) + 3) (σ 6 (m) 0) (-1)) (18 * (m) + 4) (σ 6 (m) 0) (-1)) (18 * (m) + 5) (σ 6 (m) 0) (0)) (18 * (m) + 6) (wr ((wr ((3) * (σ 6 (m) 0))) + (0))) (0)) (18 * (m) + 6) (wr ((wr ((3) * (σ 6 (m) 0))) + (1))) (0)) (18 * (m) + 6) (wr ((wr ((3) * (σ 6 (m) 0))) + (2))) (0)) 6 (m) 0 (wr (((rset (rset (rset (rset (rset (rset (rset (rset σ (18 * (m) + 1) (σ 6 (m) 0) (c)) (18 * (m) + 2) (σ 6 (m) 0) (st)) (18 * (m) + 3) (σ 6 (m) 0) (-1)) (18 * (m) + 4) (σ 6 (m) 0) (-1)) (18 * (m) + 5) (σ 6 (m) 0) (0)) (18 * (m) + 6) (wr ((wr ((3) * (σ 6 (m) 0))) + (0))) (0)) (18 * (m) + 6) (wr ((wr ((3) * (σ 6 (m) 0))) + (1))) (0)) (18 * (m) + 6) (wr ((wr ((3) * (σ 6 (m) 0))) + (2))) (0)) 6 (m) 0) + (1))))
theorem ev_fadd (m c st : Int) (σ : Mem) : Ev true 69 [aR 6 (m), aI (c), aI (st)] σ (.inl (some (aI (σ 6 (m) 0)))) (zm_fadd m c st σ) := by
  show wp true 69 0 [some (aR 6 (m)), some (aI (c)), some (aI (st)), none, none] [] σ 0 0 _
  refine wp_seg 7 (P := none) (ls' := [some (aR 6 (m)), some (aI (c)), some (aI (st)), some (aI (σ 6 (m) 0)), none]) (st' := [aI (c), aI (σ 6 (m) 0), aR 7 (18 * (m) + 1)]) (σ' := σ) rq_69 rfl True.intro (i' := 7) rfl ?_
  refine wp_call (C := 7) (As := [aR 7 (18 * (m) + 1), aI (σ 6 (m) 0), aI (c)]) (rest := []) rq_69 (ev_set (18 * (m) + 1) (σ 6 (m) 0) (c) σ ) rfl rfl (show clOK 69 79 0 0 0 3 7 = true by decide +kernel) rfl (show 0 ≤ 4 by decide) (fun _ => ⟨_, rfl⟩) rfl (c' := 0) (s' := 0) rfl rfl ?_
  refine wp_seg 4 (P := none) (ls' := [some (aR 6 (m)), some (aI (c)), some (aI (st)), some (aI (σ 6 (m) 0)), none]) (st' := [aI (st), aI (σ 6 (m) 0), aR 7 (18 * (m) + 2)]) (σ' := (rset σ (18 * (m) + 1) (σ 6 (m) 0) (c))) rq_69 rfl True.intro (i' := 12) rfl ?_
  refine wp_call (C := 7) (As := [aR 7 (18 * (m) + 2), aI (σ 6 (m) 0), aI (st)]) (rest := []) rq_69 (ev_set (18 * (m) + 2) (σ 6 (m) 0) (st) (rset σ (18 * (m) + 1) (σ 6 (m) 0) (c)) ) rfl rfl (show clOK 69 79 0 0 0 3 7 = true by decide +kernel) rfl (show 0 ≤ 4 by decide) (fun _ => ⟨_, rfl⟩) rfl (c' := 0) (s' := 0) rfl rfl ?_
  refine wp_seg 4 (P := none) (ls' := [some (aR 6 (m)), some (aI (c)), some (aI (st)), some (aI (σ 6 (m) 0)), none]) (st' := [aI (-1), aI (σ 6 (m) 0), aR 7 (18 * (m) + 3)]) (σ' := (rset (rset σ (18 * (m) + 1) (σ 6 (m) 0) (c)) (18 * (m) + 2) (σ 6 (m) 0) (st))) rq_69 rfl True.intro (i' := 17) rfl ?_
  refine wp_call (C := 7) (As := [aR 7 (18 * (m) + 3), aI (σ 6 (m) 0), aI (-1)]) (rest := []) rq_69 (ev_set (18 * (m) + 3) (σ 6 (m) 0) (-1) (rset (rset σ (18 * (m) + 1) (σ 6 (m) 0) (c)) (18 * (m) + 2) (σ 6 (m) 0) (st)) ) rfl rfl (show clOK 69 79 0 0 0 3 7 = true by decide +kernel) rfl (show 0 ≤ 4 by decide) (fun _ => ⟨_, rfl⟩) rfl (c' := 0) (s' := 0) rfl rfl ?_
  refine wp_seg 4 (P := none) (ls' := [some (aR 6 (m)), some (aI (c)), some (aI (st)), some (aI (σ 6 (m) 0)), none]) (st' := [aI (-1), aI (σ 6 (m) 0), aR 7 (18 * (m) + 4)]) (σ' := (rset (rset (rset σ (18 * (m) + 1) (σ 6 (m) 0) (c)) (18 * (m) + 2) (σ 6 (m) 0) (st)) (18 * (m) + 3) (σ 6 (m) 0) (-1))) rq_69 rfl True.intro (i' := 22) rfl ?_
  refine wp_call (C := 7) (As := [aR 7 (18 * (m) + 4), aI (σ 6 (m) 0), aI (-1)]) (rest := []) rq_69 (ev_set (18 * (m) + 4) (σ 6 (m) 0) (-1) (rset (rset (rset σ (18 * (m) + 1) (σ 6 (m) 0) (c)) (18 * (m) + 2) (σ 6 (m) 0) (st)) (18 * (m) + 3) (σ 6 (m) 0) (-1)) ) rfl rfl (show clOK 69 79 0 0 0 3 7 = true by decide +kernel) rfl (show 0 ≤ 4 by decide) (fun _ => ⟨_, rfl⟩) rfl (c' := 0) (s' := 0) rfl rfl ?_
  refine wp_seg 4 (P := none) (ls' := [some (aR 6 (m)), some (aI (c)), some (aI (st)), some (aI (σ 6 (m) 0)), none]) (st' := [aI (0), aI (σ 6 (m) 0), aR 7 (18 * (m) + 5)]) (σ' := (rset (rset (rset (rset σ (18 * (m) + 1) (σ 6 (m) 0) (c)) (18 * (m) + 2) (σ 6 (m) 0) (st)) (18 * (m) + 3) (σ 6 (m) 0) (-1)) (18 * (m) + 4) (σ 6 (m) 0) (-1))) rq_69 rfl True.intro (i' := 27) rfl ?_
  refine wp_call (C := 7) (As := [aR 7 (18 * (m) + 5), aI (σ 6 (m) 0), aI (0)]) (rest := []) rq_69 (ev_set (18 * (m) + 5) (σ 6 (m) 0) (0) (rset (rset (rset (rset σ (18 * (m) + 1) (σ 6 (m) 0) (c)) (18 * (m) + 2) (σ 6 (m) 0) (st)) (18 * (m) + 3) (σ 6 (m) 0) (-1)) (18 * (m) + 4) (σ 6 (m) 0) (-1)) ) rfl rfl (show clOK 69 79 0 0 0 3 7 = true by decide +kernel) rfl (show 0 ≤ 4 by decide) (fun _ => ⟨_, rfl⟩) rfl (c' := 0) (s' := 0) rfl rfl ?_
  refine wp_seg 4 (P := none) (ls' := [some (aR 6 (m)), some (aI (c)), some (aI (st)), some (aI (σ 6 (m) 0)), some (aI (0))]) (st' := [aI (2), aI (0)]) (σ' := (rset (rset (rset (rset (rset σ (18 * (m) + 1) (σ 6 (m) 0) (c)) (18 * (m) + 2) (σ 6 (m) 0) (st)) (18 * (m) + 3) (σ 6 (m) 0) (-1)) (18 * (m) + 4) (σ 6 (m) 0) (-1)) (18 * (m) + 5) (σ 6 (m) 0) (0))) rq_69 rfl True.intro (i' := 32) rfl ?_
  refine wp_icmp rq_69 rfl (fun (h1 : (2 : Int) < (0 : Int)) => absurd h1 (show ¬ ((2 : Int) < (0 : Int)) from by decide)) (fun _ => ?_)
  refine wp_seg 8 (P := none) (ls' := [some (aR 6 (m)), some (aI (c)), some (aI (st)), some (aI (σ 6 (m) 0)), some (aI (0))]) (st' := [aI (0), aI (wr ((wr ((3) * (σ 6 (m) 0))) + (0))), aR 7 (18 * (m) + 6)]) (σ' := (rset (rset (rset (rset (rset σ (18 * (m) + 1) (σ 6 (m) 0) (c)) (18 * (m) + 2) (σ 6 (m) 0) (st)) (18 * (m) + 3) (σ 6 (m) 0) (-1)) (18 * (m) + 4) (σ 6 (m) 0) (-1)) (18 * (m) + 5) (σ 6 (m) 0) (0))) rq_69 rfl True.intro (i' := 41) rfl ?_
  refine wp_call (C := 7) (As := [aR 7 (18 * (m) + 6), aI (wr ((wr ((3) * (σ 6 (m) 0))) + (0))), aI (0)]) (rest := []) rq_69 (ev_set (18 * (m) + 6) (wr ((wr ((3) * (σ 6 (m) 0))) + (0))) (0) (rset (rset (rset (rset (rset σ (18 * (m) + 1) (σ 6 (m) 0) (c)) (18 * (m) + 2) (σ 6 (m) 0) (st)) (18 * (m) + 3) (σ 6 (m) 0) (-1)) (18 * (m) + 4) (σ 6 (m) 0) (-1)) (18 * (m) + 5) (σ 6 (m) 0) (0)) ) rfl rfl (show clOK 69 79 0 0 0 3 7 = true by decide +kernel) rfl (show 0 ≤ 4 by decide) (fun _ => ⟨_, rfl⟩) rfl (c' := 0) (s' := 0) rfl rfl ?_
  refine wp_seg 1 (P := none) (ls' := [some (aR 6 (m)), some (aI (c)), some (aI (st)), some (aI (σ 6 (m) 0)), some (aI (1))]) (st' := []) (σ' := (rset (rset (rset (rset (rset (rset σ (18 * (m) + 1) (σ 6 (m) 0) (c)) (18 * (m) + 2) (σ 6 (m) 0) (st)) (18 * (m) + 3) (σ 6 (m) 0) (-1)) (18 * (m) + 4) (σ 6 (m) 0) (-1)) (18 * (m) + 5) (σ 6 (m) 0) (0)) (18 * (m) + 6) (wr ((wr ((3) * (σ 6 (m) 0))) + (0))) (0))) rq_69 rfl True.intro (i' := 43) rfl ?_
  refine wp_goto rq_69 rfl ?_
  refine wp_seg 2 (P := none) (ls' := [some (aR 6 (m)), some (aI (c)), some (aI (st)), some (aI (σ 6 (m) 0)), some (aI (1))]) (st' := [aI (2), aI (1)]) (σ' := (rset (rset (rset (rset (rset (rset σ (18 * (m) + 1) (σ 6 (m) 0) (c)) (18 * (m) + 2) (σ 6 (m) 0) (st)) (18 * (m) + 3) (σ 6 (m) 0) (-1)) (18 * (m) + 4) (σ 6 (m) 0) (-1)) (18 * (m) + 5) (σ 6 (m) 0) (0)) (18 * (m) + 6) (wr ((wr ((3) * (σ 6 (m) 0))) + (0))) (0))) rq_69 rfl True.intro (i' := 32) rfl ?_
  refine wp_icmp rq_69 rfl (fun (h2 : (2 : Int) < (1 : Int)) => absurd h2 (show ¬ ((2 : Int) < (1 : Int)) from by decide)) (fun _ => ?_)
  refine wp_seg 8 (P := none) (ls' := [some (aR 6 (m)), some (aI (c)), some (aI (st)), some (aI (σ 6 (m) 0)), some (aI (1))]) (st' := [aI (0), aI (wr ((wr ((3) * (σ 6 (m) 0))) + (1))), aR 7 (18 * (m) + 6)]) (σ' := (rset (rset (rset (rset (rset (rset σ (18 * (m) + 1) (σ 6 (m) 0) (c)) (18 * (m) + 2) (σ 6 (m) 0) (st)) (18 * (m) + 3) (σ 6 (m) 0) (-1)) (18 * (m) + 4) (σ 6 (m) 0) (-1)) (18 * (m) + 5) (σ 6 (m) 0) (0)) (18 * (m) + 6) (wr ((wr ((3) * (σ 6 (m) 0))) + (0))) (0))) rq_69 rfl True.intro (i' := 41) rfl ?_
  refine wp_call (C := 7) (As := [aR 7 (18 * (m) + 6), aI (wr ((wr ((3) * (σ 6 (m) 0))) + (1))), aI (0)]) (rest := []) rq_69 (ev_set (18 * (m) + 6) (wr ((wr ((3) * (σ 6 (m) 0))) + (1))) (0) (rset (rset (rset (rset (rset (rset σ (18 * (m) + 1) (σ 6 (m) 0) (c)) (18 * (m) + 2) (σ 6 (m) 0) (st)) (18 * (m) + 3) (σ 6 (m) 0) (-1)) (18 * (m) + 4) (σ 6 (m) 0) (-1)) (18 * (m) + 5) (σ 6 (m) 0) (0)) (18 * (m) + 6) (wr ((wr ((3) * (σ 6 (m) 0))) + (0))) (0)) ) rfl rfl (show clOK 69 79 0 0 0 3 7 = true by decide +kernel) rfl (show 0 ≤ 4 by decide) (fun _ => ⟨_, rfl⟩) rfl (c' := 0) (s' := 0) rfl rfl ?_
  refine wp_seg 1 (P := none) (ls' := [some (aR 6 (m)), some (aI (c)), some (aI (st)), some (aI (σ 6 (m) 0)), some (aI (2))]) (st' := []) (σ' := (rset (rset (rset (rset (rset (rset (rset σ (18 * (m) + 1) (σ 6 (m) 0) (c)) (18 * (m) + 2) (σ 6 (m) 0) (st)) (18 * (m) + 3) (σ 6 (m) 0) (-1)) (18 * (m) + 4) (σ 6 (m) 0) (-1)) (18 * (m) + 5) (σ 6 (m) 0) (0)) (18 * (m) + 6) (wr ((wr ((3) * (σ 6 (m) 0))) + (0))) (0)) (18 * (m) + 6) (wr ((wr ((3) * (σ 6 (m) 0))) + (1))) (0))) rq_69 rfl True.intro (i' := 43) rfl ?_
  refine wp_goto rq_69 rfl ?_
  refine wp_seg 2 (P := none) (ls' := [some (aR 6 (m)), some (aI (c)), some (aI (st)), some (aI (σ 6 (m) 0)), some (aI (2))]) (st' := [aI (2), aI (2)]) (σ' := (rset (rset (rset (rset (rset (rset (rset σ (18 * (m) + 1) (σ 6 (m) 0) (c)) (18 * (m) + 2) (σ 6 (m) 0) (st)) (18 * (m) + 3) (σ 6 (m) 0) (-1)) (18 * (m) + 4) (σ 6 (m) 0) (-1)) (18 * (m) + 5) (σ 6 (m) 0) (0)) (18 * (m) + 6) (wr ((wr ((3) * (σ 6 (m) 0))) + (0))) (0)) (18 * (m) + 6) (wr ((wr ((3) * (σ 6 (m) 0))) + (1))) (0))) rq_69 rfl True.intro (i' := 32) rfl ?_
  refine wp_icmp rq_69 rfl (fun (h3 : (2 : Int) < (2 : Int)) => absurd h3 (show ¬ ((2 : Int) < (2 : Int)) from by decide)) (fun _ => ?_)
  refine wp_seg 8 (P := none) (ls' := [some (aR 6 (m)), some (aI (c)), some (aI (st)), some (aI (σ 6 (m) 0)), some (aI (2))]) (st' := [aI (0), aI (wr ((wr ((3) * (σ 6 (m) 0))) + (2))), aR 7 (18 * (m) + 6)]) (σ' := (rset (rset (rset (rset (rset (rset (rset σ (18 * (m) + 1) (σ 6 (m) 0) (c)) (18 * (m) + 2) (σ 6 (m) 0) (st)) (18 * (m) + 3) (σ 6 (m) 0) (-1)) (18 * (m) + 4) (σ 6 (m) 0) (-1)) (18 * (m) + 5) (σ 6 (m) 0) (0)) (18 * (m) + 6) (wr ((wr ((3) * (σ 6 (m) 0))) + (0))) (0)) (18 * (m) + 6) (wr ((wr ((3) * (σ 6 (m) 0))) + (1))) (0))) rq_69 rfl True.intro (i' := 41) rfl ?_
  refine wp_call (C := 7) (As := [aR 7 (18 * (m) + 6), aI (wr ((wr ((3) * (σ 6 (m) 0))) + (2))), aI (0)]) (rest := []) rq_69 (ev_set (18 * (m) + 6) (wr ((wr ((3) * (σ 6 (m) 0))) + (2))) (0) (rset (rset (rset (rset (rset (rset (rset σ (18 * (m) + 1) (σ 6 (m) 0) (c)) (18 * (m) + 2) (σ 6 (m) 0) (st)) (18 * (m) + 3) (σ 6 (m) 0) (-1)) (18 * (m) + 4) (σ 6 (m) 0) (-1)) (18 * (m) + 5) (σ 6 (m) 0) (0)) (18 * (m) + 6) (wr ((wr ((3) * (σ 6 (m) 0))) + (0))) (0)) (18 * (m) + 6) (wr ((wr ((3) * (σ 6 (m) 0))) + (1))) (0)) ) rfl rfl (show clOK 69 79 0 0 0 3 7 = true by decide +kernel) rfl (show 0 ≤ 4 by decide) (fun _ => ⟨_, rfl⟩) rfl (c' := 0) (s' := 0) rfl rfl ?_
  refine wp_seg 1 (P := none) (ls' := [some (aR 6 (m)), some (aI (c)), some (aI (st)), some (aI (σ 6 (m) 0)), some (aI (3))]) (st' := []) (σ' := (rset (rset (rset (rset (rset (rset (rset (rset σ (18 * (m) + 1) (σ 6 (m) 0) (c)) (18 * (m) + 2) (σ 6 (m) 0) (st)) (18 * (m) + 3) (σ 6 (m) 0) (-1)) (18 * (m) + 4) (σ 6 (m) 0) (-1)) (18 * (m) + 5) (σ 6 (m) 0) (0)) (18 * (m) + 6) (wr ((wr ((3) * (σ 6 (m) 0))) + (0))) (0)) (18 * (m) + 6) (wr ((wr ((3) * (σ 6 (m) 0))) + (1))) (0)) (18 * (m) + 6) (wr ((wr ((3) * (σ 6 (m) 0))) + (2))) (0))) rq_69 rfl True.intro (i' := 43) rfl ?_
  refine wp_goto rq_69 rfl ?_
  refine wp_seg 2 (P := none) (ls' := [some (aR 6 (m)), some (aI (c)), some (aI (st)), some (aI (σ 6 (m) 0)), some (aI (3))]) (st' := [aI (2), aI (3)]) (σ' := (rset (rset (rset (rset (rset (rset (rset (rset σ (18 * (m) + 1) (σ 6 (m) 0) (c)) (18 * (m) + 2) (σ 6 (m) 0) (st)) (18 * (m) + 3) (σ 6 (m) 0) (-1)) (18 * (m) + 4) (σ 6 (m) 0) (-1)) (18 * (m) + 5) (σ 6 (m) 0) (0)) (18 * (m) + 6) (wr ((wr ((3) * (σ 6 (m) 0))) + (0))) (0)) (18 * (m) + 6) (wr ((wr ((3) * (σ 6 (m) 0))) + (1))) (0)) (18 * (m) + 6) (wr ((wr ((3) * (σ 6 (m) 0))) + (2))) (0))) rq_69 rfl True.intro (i' := 32) rfl ?_
  refine wp_icmp rq_69 rfl (fun _ => ?_) (fun (h4 : ¬ ((2 : Int) < (3 : Int))) => absurd (show (2 : Int) < (3 : Int) from by decide) h4)
  refine wp_seg 7 (P := none) (ls' := [some (aR 6 (m)), some (aI (c)), some (aI (st)), some (aI (σ 6 (m) 0)), some (aI (3))]) (st' := [aI (σ 6 (m) 0)]) (σ' := (up (rset (rset (rset (rset (rset (rset (rset (rset σ (18 * (m) + 1) (σ 6 (m) 0) (c)) (18 * (m) + 2) (σ 6 (m) 0) (st)) (18 * (m) + 3) (σ 6 (m) 0) (-1)) (18 * (m) + 4) (σ 6 (m) 0) (-1)) (18 * (m) + 5) (σ 6 (m) 0) (0)) (18 * (m) + 6) (wr ((wr ((3) * (σ 6 (m) 0))) + (0))) (0)) (18 * (m) + 6) (wr ((wr ((3) * (σ 6 (m) 0))) + (1))) (0)) (18 * (m) + 6) (wr ((wr ((3) * (σ 6 (m) 0))) + (2))) (0)) 6 (m) 0 (wr (((rset (rset (rset (rset (rset (rset (rset (rset σ (18 * (m) + 1) (σ 6 (m) 0) (c)) (18 * (m) + 2) (σ 6 (m) 0) (st)) (18 * (m) + 3) (σ 6 (m) 0) (-1)) (18 * (m) + 4) (σ 6 (m) 0) (-1)) (18 * (m) + 5) (σ 6 (m) 0) (0)) (18 * (m) + 6) (wr ((wr ((3) * (σ 6 (m) 0))) + (0))) (0)) (18 * (m) + 6) (wr ((wr ((3) * (σ 6 (m) 0))) + (1))) (0)) (18 * (m) + 6) (wr ((wr ((3) * (σ 6 (m) 0))) + (2))) (0)) 6 (m) 0) + (1))))) rq_69 rfl True.intro (i' := 51) rfl ?_
  refine wp_iret rq_69 rfl rt_69 ⟨?_, ?_⟩
  · rfl
  · rfl

def zo_leastSizeFor (n : Int) (σ : Mem) : Int := if (n) ≤ (2) then 2 else if (n) ≤ (4) then 4 else if (n) ≤ (8) then 8 else if (n) ≤ (16) then 16 else if (n) ≤ (32) then 32 else 32
theorem ev_leastSizeFor (n : Int) (σ : Mem) : Ev true 97 [aI (n)] σ (.inl (some (aI (zo_leastSizeFor n σ)))) (σ) := by
  show wp true 97 0 [some (aI (n)), none] [] σ 0 0 _
  refine wp_seg 4 (P := none) (ls' := [some (aI (n)), some (aI (2))]) (st' := [aI (n), aI (2)]) (σ' := σ) rq_97 rfl True.intro (i' := 4) rfl ?_
  refine wp_icmp rq_97 rfl (fun (h1 : (n) ≤ (2)) => ?_) (fun (h1 : ¬ ((n) ≤ (2))) => ?_)
  · refine wp_seg 1 (P := none) (ls' := [some (aI (n)), some (aI (2))]) (st' := [aI (2)]) (σ' := σ) rq_97 rfl True.intro (i' := 14) rfl ?_
    refine wp_iret rq_97 rfl rt_97 ⟨?_, ?_⟩
    · (rw [zo_leastSizeFor, if_pos h1]; try rfl)
    · rfl
  · refine wp_seg 2 (P := none) (ls' := [some (aI (n)), some (aI (2))]) (st' := [aI (32), aI (2)]) (σ' := σ) rq_97 rfl True.intro (i' := 7) rfl ?_
    refine wp_icmp rq_97 rfl (fun (h2 : (32 : Int) ≤ (2 : Int)) => absurd h2 (show ¬ ((32 : Int) ≤ (2 : Int)) from by decide)) (fun _ => ?_)
    refine wp_seg 4 (P := none) (ls' := [some (aI (n)), some (aI (4))]) (st' := []) (σ' := σ) rq_97 rfl True.intro (i' := 12) rfl ?_
    refine wp_goto rq_97 rfl ?_
    refine wp_seg 2 (P := none) (ls' := [some (aI (n)), some (aI (4))]) (st' := [aI (n), aI (4)]) (σ' := σ) rq_97 rfl True.intro (i' := 4) rfl ?_
    refine wp_icmp rq_97 rfl (fun (h3 : (n) ≤ (4)) => ?_) (fun (h3 : ¬ ((n) ≤ (4))) => ?_)
    · refine wp_seg 1 (P := none) (ls' := [some (aI (n)), some (aI (4))]) (st' := [aI (4)]) (σ' := σ) rq_97 rfl True.intro (i' := 14) rfl ?_
      refine wp_iret rq_97 rfl rt_97 ⟨?_, ?_⟩
      · (rw [zo_leastSizeFor, if_neg h1, if_pos h3]; try rfl)
      · rfl
    · refine wp_seg 2 (P := none) (ls' := [some (aI (n)), some (aI (4))]) (st' := [aI (32), aI (4)]) (σ' := σ) rq_97 rfl True.intro (i' := 7) rfl ?_
      refine wp_icmp rq_97 rfl (fun (h4 : (32 : Int) ≤ (4 : Int)) => absurd h4 (show ¬ ((32 : Int) ≤ (4 : Int)) from by decide)) (fun _ => ?_)
      refine wp_seg 4 (P := none) (ls' := [some (aI (n)), some (aI (8))]) (st' := []) (σ' := σ) rq_97 rfl True.intro (i' := 12) rfl ?_
      refine wp_goto rq_97 rfl ?_
      refine wp_seg 2 (P := none) (ls' := [some (aI (n)), some (aI (8))]) (st' := [aI (n), aI (8)]) (σ' := σ) rq_97 rfl True.intro (i' := 4) rfl ?_
      refine wp_icmp rq_97 rfl (fun (h5 : (n) ≤ (8)) => ?_) (fun (h5 : ¬ ((n) ≤ (8))) => ?_)
      · refine wp_seg 1 (P := none) (ls' := [some (aI (n)), some (aI (8))]) (st' := [aI (8)]) (σ' := σ) rq_97 rfl True.intro (i' := 14) rfl ?_
        refine wp_iret rq_97 rfl rt_97 ⟨?_, ?_⟩
        · (rw [zo_leastSizeFor, if_neg h1, if_neg h3, if_pos h5]; try rfl)
        · rfl
      · refine wp_seg 2 (P := none) (ls' := [some (aI (n)), some (aI (8))]) (st' := [aI (32), aI (8)]) (σ' := σ) rq_97 rfl True.intro (i' := 7) rfl ?_
        refine wp_icmp rq_97 rfl (fun (h6 : (32 : Int) ≤ (8 : Int)) => absurd h6 (show ¬ ((32 : Int) ≤ (8 : Int)) from by decide)) (fun _ => ?_)
        refine wp_seg 4 (P := none) (ls' := [some (aI (n)), some (aI (16))]) (st' := []) (σ' := σ) rq_97 rfl True.intro (i' := 12) rfl ?_
        refine wp_goto rq_97 rfl ?_
        refine wp_seg 2 (P := none) (ls' := [some (aI (n)), some (aI (16))]) (st' := [aI (n), aI (16)]) (σ' := σ) rq_97 rfl True.intro (i' := 4) rfl ?_
        refine wp_icmp rq_97 rfl (fun (h7 : (n) ≤ (16)) => ?_) (fun (h7 : ¬ ((n) ≤ (16))) => ?_)
        · refine wp_seg 1 (P := none) (ls' := [some (aI (n)), some (aI (16))]) (st' := [aI (16)]) (σ' := σ) rq_97 rfl True.intro (i' := 14) rfl ?_
          refine wp_iret rq_97 rfl rt_97 ⟨?_, ?_⟩
          · (rw [zo_leastSizeFor, if_neg h1, if_neg h3, if_neg h5, if_pos h7]; try rfl)
          · rfl
        · refine wp_seg 2 (P := none) (ls' := [some (aI (n)), some (aI (16))]) (st' := [aI (32), aI (16)]) (σ' := σ) rq_97 rfl True.intro (i' := 7) rfl ?_
          refine wp_icmp rq_97 rfl (fun (h8 : (32 : Int) ≤ (16 : Int)) => absurd h8 (show ¬ ((32 : Int) ≤ (16 : Int)) from by decide)) (fun _ => ?_)
          refine wp_seg 4 (P := none) (ls' := [some (aI (n)), some (aI (32))]) (st' := []) (σ' := σ) rq_97 rfl True.intro (i' := 12) rfl ?_
          refine wp_goto rq_97 rfl ?_
          refine wp_seg 2 (P := none) (ls' := [some (aI (n)), some (aI (32))]) (st' := [aI (n), aI (32)]) (σ' := σ) rq_97 rfl True.intro (i' := 4) rfl ?_
          refine wp_icmp rq_97 rfl (fun (h9 : (n) ≤ (32)) => ?_) (fun (h9 : ¬ ((n) ≤ (32))) => ?_)
          · refine wp_seg 1 (P := none) (ls' := [some (aI (n)), some (aI (32))]) (st' := [aI (32)]) (σ' := σ) rq_97 rfl True.intro (i' := 14) rfl ?_
            refine wp_iret rq_97 rfl rt_97 ⟨?_, ?_⟩
            · (rw [zo_leastSizeFor, if_neg h1, if_neg h3, if_neg h5, if_neg h7, if_pos h9]; try rfl)
            · rfl
          · refine wp_seg 2 (P := none) (ls' := [some (aI (n)), some (aI (32))]) (st' := [aI (32), aI (32)]) (σ' := σ) rq_97 rfl True.intro (i' := 7) rfl ?_
            refine wp_icmp rq_97 rfl (fun _ => ?_) (fun (h10 : ¬ ((32 : Int) ≤ (32 : Int))) => absurd (show (32 : Int) ≤ (32 : Int) from by decide) h10)
            refine wp_seg 1 (P := none) (ls' := [some (aI (n)), some (aI (32))]) (st' := [aI (32)]) (σ' := σ) rq_97 rfl True.intro (i' := 14) rfl ?_
            refine wp_iret rq_97 rfl rt_97 ⟨?_, ?_⟩
            · (rw [zo_leastSizeFor, if_neg h1, if_neg h3, if_neg h5, if_neg h7, if_neg h9]; try rfl)
            · rfl

def zo_hasRound (m r : Int) (σ : Mem) : Int := if (σ 9 (m) 0) < (2) then 0 else if ¬ (2) = (r) then (if (σ 9 (m) 0) < (4) then 0 else if ¬ (4) = (r) then (if (σ 9 (m) 0) < (8) then 0 else if ¬ (8) = (r) then (if (σ 9 (m) 0) < (16) then 0 else if ¬ (16) = (r) then (if (σ 9 (m) 0) < (32) then 0 else if ¬ (32) = (r) then 0 else 1) else 1) else 1) else 1) else 1
theorem ev_hasRound (m r : Int) (σ : Mem) (hz : σ 9 m 0 ≤ 32) : Ev true 100 [aR 9 (m), aI (r)] σ (.inl (some (aI (zo_hasRound m r σ)))) (σ) := by
  show wp true 100 0 [some (aR 9 (m)), some (aI (r)), none] [] σ 0 0 _
  refine wp_seg 5 (P := none) (ls' := [some (aR 9 (m)), some (aI (r)), some (aI (2))]) (st' := [aI (σ 9 (m) 0), aI (2)]) (σ' := σ) rq_100 rfl True.intro (i' := 5) rfl ?_
  refine wp_icmp rq_100 rfl (fun (h1 : (σ 9 (m) 0) < (2)) => ?_) (fun (h1 : ¬ ((σ 9 (m) 0) < (2))) => ?_)
  · refine wp_seg 1 (P := none) (ls' := [some (aR 9 (m)), some (aI (r)), some (aI (2))]) (st' := [aI (0)]) (σ' := σ) rq_100 rfl True.intro (i' := 17) rfl ?_
    refine wp_zret rq_100 rfl rt_100 ?_ ⟨?_, ?_⟩
    · first | exact Or.inl rfl | exact Or.inr rfl
    · (rw [zo_hasRound, if_pos h1]; try rfl)
    · rfl
  · refine wp_seg 2 (P := none) (ls' := [some (aR 9 (m)), some (aI (r)), some (aI (2))]) (st' := [aI (r), aI (2)]) (σ' := σ) rq_100 rfl True.intro (i' := 8) rfl ?_
    refine wp_icmp rq_100 rfl (fun (h2 : ¬ (2) = (r)) => ?_) (fun (h2 : ¬ (¬ (2) = (r))) => ?_)
    · refine wp_seg 4 (P := none) (ls' := [some (aR 9 (m)), some (aI (r)), some (aI (4))]) (st' := []) (σ' := σ) rq_100 rfl True.intro (i' := 15) rfl ?_
      refine wp_goto rq_100 rfl ?_
      refine wp_seg 3 (P := none) (ls' := [some (aR 9 (m)), some (aI (r)), some (aI (4))]) (st' := [aI (σ 9 (m) 0), aI (4)]) (σ' := σ) rq_100 rfl True.intro (i' := 5) rfl ?_
      refine wp_icmp rq_100 rfl (fun (h3 : (σ 9 (m) 0) < (4)) => ?_) (fun (h3 : ¬ ((σ 9 (m) 0) < (4))) => ?_)
      · refine wp_seg 1 (P := none) (ls' := [some (aR 9 (m)), some (aI (r)), some (aI (4))]) (st' := [aI (0)]) (σ' := σ) rq_100 rfl True.intro (i' := 17) rfl ?_
        refine wp_zret rq_100 rfl rt_100 ?_ ⟨?_, ?_⟩
        · first | exact Or.inl rfl | exact Or.inr rfl
        · (rw [zo_hasRound, if_neg h1, if_pos h2, if_pos h3]; try rfl)
        · rfl
      · refine wp_seg 2 (P := none) (ls' := [some (aR 9 (m)), some (aI (r)), some (aI (4))]) (st' := [aI (r), aI (4)]) (σ' := σ) rq_100 rfl True.intro (i' := 8) rfl ?_
        refine wp_icmp rq_100 rfl (fun (h4 : ¬ (4) = (r)) => ?_) (fun (h4 : ¬ (¬ (4) = (r))) => ?_)
        · refine wp_seg 4 (P := none) (ls' := [some (aR 9 (m)), some (aI (r)), some (aI (8))]) (st' := []) (σ' := σ) rq_100 rfl True.intro (i' := 15) rfl ?_
          refine wp_goto rq_100 rfl ?_
          refine wp_seg 3 (P := none) (ls' := [some (aR 9 (m)), some (aI (r)), some (aI (8))]) (st' := [aI (σ 9 (m) 0), aI (8)]) (σ' := σ) rq_100 rfl True.intro (i' := 5) rfl ?_
          refine wp_icmp rq_100 rfl (fun (h5 : (σ 9 (m) 0) < (8)) => ?_) (fun (h5 : ¬ ((σ 9 (m) 0) < (8))) => ?_)
          · refine wp_seg 1 (P := none) (ls' := [some (aR 9 (m)), some (aI (r)), some (aI (8))]) (st' := [aI (0)]) (σ' := σ) rq_100 rfl True.intro (i' := 17) rfl ?_
            refine wp_zret rq_100 rfl rt_100 ?_ ⟨?_, ?_⟩
            · first | exact Or.inl rfl | exact Or.inr rfl
            · (rw [zo_hasRound, if_neg h1, if_pos h2, if_neg h3, if_pos h4, if_pos h5]; try rfl)
            · rfl
          · refine wp_seg 2 (P := none) (ls' := [some (aR 9 (m)), some (aI (r)), some (aI (8))]) (st' := [aI (r), aI (8)]) (σ' := σ) rq_100 rfl True.intro (i' := 8) rfl ?_
            refine wp_icmp rq_100 rfl (fun (h6 : ¬ (8) = (r)) => ?_) (fun (h6 : ¬ (¬ (8) = (r))) => ?_)
            · refine wp_seg 4 (P := none) (ls' := [some (aR 9 (m)), some (aI (r)), some (aI (16))]) (st' := []) (σ' := σ) rq_100 rfl True.intro (i' := 15) rfl ?_
              refine wp_goto rq_100 rfl ?_
              refine wp_seg 3 (P := none) (ls' := [some (aR 9 (m)), some (aI (r)), some (aI (16))]) (st' := [aI (σ 9 (m) 0), aI (16)]) (σ' := σ) rq_100 rfl True.intro (i' := 5) rfl ?_
              refine wp_icmp rq_100 rfl (fun (h7 : (σ 9 (m) 0) < (16)) => ?_) (fun (h7 : ¬ ((σ 9 (m) 0) < (16))) => ?_)
              · refine wp_seg 1 (P := none) (ls' := [some (aR 9 (m)), some (aI (r)), some (aI (16))]) (st' := [aI (0)]) (σ' := σ) rq_100 rfl True.intro (i' := 17) rfl ?_
                refine wp_zret rq_100 rfl rt_100 ?_ ⟨?_, ?_⟩
                · first | exact Or.inl rfl | exact Or.inr rfl
                · (rw [zo_hasRound, if_neg h1, if_pos h2, if_neg h3, if_pos h4, if_neg h5, if_pos h6, if_pos h7]; try rfl)
                · rfl
              · refine wp_seg 2 (P := none) (ls' := [some (aR 9 (m)), some (aI (r)), some (aI (16))]) (st' := [aI (r), aI (16)]) (σ' := σ) rq_100 rfl True.intro (i' := 8) rfl ?_
                refine wp_icmp rq_100 rfl (fun (h8 : ¬ (16) = (r)) => ?_) (fun (h8 : ¬ (¬ (16) = (r))) => ?_)
                · refine wp_seg 4 (P := none) (ls' := [some (aR 9 (m)), some (aI (r)), some (aI (32))]) (st' := []) (σ' := σ) rq_100 rfl True.intro (i' := 15) rfl ?_
                  refine wp_goto rq_100 rfl ?_
                  refine wp_seg 3 (P := none) (ls' := [some (aR 9 (m)), some (aI (r)), some (aI (32))]) (st' := [aI (σ 9 (m) 0), aI (32)]) (σ' := σ) rq_100 rfl True.intro (i' := 5) rfl ?_
                  refine wp_icmp rq_100 rfl (fun (h9 : (σ 9 (m) 0) < (32)) => ?_) (fun (h9 : ¬ ((σ 9 (m) 0) < (32))) => ?_)
                  · refine wp_seg 1 (P := none) (ls' := [some (aR 9 (m)), some (aI (r)), some (aI (32))]) (st' := [aI (0)]) (σ' := σ) rq_100 rfl True.intro (i' := 17) rfl ?_
                    refine wp_zret rq_100 rfl rt_100 ?_ ⟨?_, ?_⟩
                    · first | exact Or.inl rfl | exact Or.inr rfl
                    · (rw [zo_hasRound, if_neg h1, if_pos h2, if_neg h3, if_pos h4, if_neg h5, if_pos h6, if_neg h7, if_pos h8, if_pos h9]; try rfl)
                    · rfl
                  · refine wp_seg 2 (P := none) (ls' := [some (aR 9 (m)), some (aI (r)), some (aI (32))]) (st' := [aI (r), aI (32)]) (σ' := σ) rq_100 rfl True.intro (i' := 8) rfl ?_
                    refine wp_icmp rq_100 rfl (fun (h10 : ¬ (32) = (r)) => ?_) (fun (h10 : ¬ (¬ (32) = (r))) => ?_)
                    · refine wp_seg 4 (P := none) (ls' := [some (aR 9 (m)), some (aI (r)), some (aI (64))]) (st' := []) (σ' := σ) rq_100 rfl True.intro (i' := 15) rfl ?_
                      refine wp_goto rq_100 rfl ?_
                      refine wp_seg 3 (P := none) (ls' := [some (aR 9 (m)), some (aI (r)), some (aI (64))]) (st' := [aI (σ 9 (m) 0), aI (64)]) (σ' := σ) rq_100 rfl True.intro (i' := 5) rfl ?_
                      refine wp_icmp rq_100 rfl (fun _ => ?_) (fun (h11 : ¬ ((σ 9 (m) 0) < (64))) => absurd (show (σ 9 (m) 0) < (64) from (by omega)) h11)
                      refine wp_seg 1 (P := none) (ls' := [some (aR 9 (m)), some (aI (r)), some (aI (64))]) (st' := [aI (0)]) (σ' := σ) rq_100 rfl True.intro (i' := 17) rfl ?_
                      refine wp_zret rq_100 rfl rt_100 ?_ ⟨?_, ?_⟩
                      · first | exact Or.inl rfl | exact Or.inr rfl
                      · (rw [zo_hasRound, if_neg h1, if_pos h2, if_neg h3, if_pos h4, if_neg h5, if_pos h6, if_neg h7, if_pos h8, if_neg h9, if_pos h10]; try rfl)
                      · rfl
                    · refine wp_seg 1 (P := none) (ls' := [some (aR 9 (m)), some (aI (r)), some (aI (32))]) (st' := [aI (1)]) (σ' := σ) rq_100 rfl True.intro (i' := 10) rfl ?_
                      refine wp_zret rq_100 rfl rt_100 ?_ ⟨?_, ?_⟩
                      · first | exact Or.inl rfl | exact Or.inr rfl
                      · (rw [zo_hasRound, if_neg h1, if_pos h2, if_neg h3, if_pos h4, if_neg h5, if_pos h6, if_neg h7, if_pos h8, if_neg h9, if_neg h10]; try rfl)
                      · rfl
                · refine wp_seg 1 (P := none) (ls' := [some (aR 9 (m)), some (aI (r)), some (aI (16))]) (st' := [aI (1)]) (σ' := σ) rq_100 rfl True.intro (i' := 10) rfl ?_
                  refine wp_zret rq_100 rfl rt_100 ?_ ⟨?_, ?_⟩
                  · first | exact Or.inl rfl | exact Or.inr rfl
                  · (rw [zo_hasRound, if_neg h1, if_pos h2, if_neg h3, if_pos h4, if_neg h5, if_pos h6, if_neg h7, if_neg h8]; try rfl)
                  · rfl
            · refine wp_seg 1 (P := none) (ls' := [some (aR 9 (m)), some (aI (r)), some (aI (8))]) (st' := [aI (1)]) (σ' := σ) rq_100 rfl True.intro (i' := 10) rfl ?_
              refine wp_zret rq_100 rfl rt_100 ?_ ⟨?_, ?_⟩
              · first | exact Or.inl rfl | exact Or.inr rfl
              · (rw [zo_hasRound, if_neg h1, if_pos h2, if_neg h3, if_pos h4, if_neg h5, if_neg h6]; try rfl)
              · rfl
        · refine wp_seg 1 (P := none) (ls' := [some (aR 9 (m)), some (aI (r)), some (aI (4))]) (st' := [aI (1)]) (σ' := σ) rq_100 rfl True.intro (i' := 10) rfl ?_
          refine wp_zret rq_100 rfl rt_100 ?_ ⟨?_, ?_⟩
          · first | exact Or.inl rfl | exact Or.inr rfl
          · (rw [zo_hasRound, if_neg h1, if_pos h2, if_neg h3, if_neg h4]; try rfl)
          · rfl
    · refine wp_seg 1 (P := none) (ls' := [some (aR 9 (m)), some (aI (r)), some (aI (2))]) (st' := [aI (1)]) (σ' := σ) rq_100 rfl True.intro (i' := 10) rfl ?_
      refine wp_zret rq_100 rfl rt_100 ?_ ⟨?_, ?_⟩
      · first | exact Or.inl rfl | exact Or.inr rfl
      · (rw [zo_hasRound, if_neg h1, if_neg h2]; try rfl)
      · rfl

def zm_tfill (m q n : Int) (σ : Mem) : Mem := (rfill (rcpy (up (up σ 9 (m) 1 (n)) 9 (m) 0 (zo_leastSizeFor (n) (up σ 9 (m) 1 (n)))) (18 * (m) + 15) (q) (n)) (18 * (m) + 16) (1))
theorem ev_tfill (m q n : Int) (σ : Mem) : Ev true 96 [aR 9 (m), aR 7 (q), aI (n)] σ (.inl none) (zm_tfill m q n σ) := by
  show wp true 96 0 [some (aR 9 (m)), some (aR 7 (q)), some (aI (n))] [] σ 0 0 _
  refine wp_seg 5 (P := none) (ls' := [some (aR 9 (m)), some (aR 7 (q)), some (aI (n))]) (st' := [aI (n), aR 9 (m)]) (σ' := (up σ 9 (m) 1 (n))) rq_96 rfl True.intro (i' := 5) rfl ?_
  refine wp_call (C := 0) (As := [aI (n)]) (rest := [aR 9 (m)]) rq_96 (ev_leastSizeFor (n) (up σ 9 (m) 1 (n)) ) rfl rfl (show clOK 96 97 2 0 0 1 0 = true by decide +kernel) rfl (show 1 ≤ 4 by decide) (fun h => absurd rfl h) rfl (c' := 0) (s' := 0) rfl rfl ?_
  refine wp_seg 5 (P := none) (ls' := [some (aR 9 (m)), some (aR 7 (q)), some (aI (n))]) (st' := [aI (n), aR 7 (q), aR 7 (18 * (m) + 15)]) (σ' := (up (up σ 9 (m) 1 (n)) 9 (m) 0 (zo_leastSizeFor (n) (up σ 9 (m) 1 (n))))) rq_96 rfl True.intro (i' := 11) rfl ?_
  refine wp_call (C := 7) (As := [aR 7 (18 * (m) + 15), aR 7 (q), aI (n)]) (rest := []) rq_96 (ev_copyFrom (18 * (m) + 15) (q) (n) (up (up σ 9 (m) 1 (n)) 9 (m) 0 (zo_leastSizeFor (n) (up σ 9 (m) 1 (n)))) ) rfl rfl (show clOK 96 82 0 0 0 3 7 = true by decide +kernel) rfl (show 0 ≤ 4 by decide) (fun _ => ⟨_, rfl⟩) rfl (c' := 0) (s' := 0) rfl rfl ?_
  refine wp_seg 3 (P := none) (ls' := [some (aR 9 (m)), some (aR 7 (q)), some (aI (n))]) (st' := [aI (1), aR 7 (18 * (m) + 16)]) (σ' := (rcpy (up (up σ 9 (m) 1 (n)) 9 (m) 0 (zo_leastSizeFor (n) (up σ 9 (m) 1 (n)))) (18 * (m) + 15) (q) (n))) rq_96 rfl True.intro (i' := 15) rfl ?_
  refine wp_call (C := 7) (As := [aR 7 (18 * (m) + 16), aI (1)]) (rest := []) rq_96 (ev_fill (18 * (m) + 16) (1) (rcpy (up (up σ 9 (m) 1 (n)) 9 (m) 0 (zo_leastSizeFor (n) (up σ 9 (m) 1 (n)))) (18 * (m) + 15) (q) (n)) ) rfl rfl (show clOK 96 81 0 0 0 2 7 = true by decide +kernel) rfl (show 0 ≤ 4 by decide) (fun _ => ⟨_, rfl⟩) rfl (c' := 0) (s' := 0) rfl rfl ?_
  refine wp_vret rq_96 rfl rt_96 ⟨?_, ?_⟩
  · rfl
  · rfl

