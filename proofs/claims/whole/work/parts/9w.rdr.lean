/-! The text of results: the steps of entering, on both sides. -/
section RdR
variable {i x q : Int} {s s2 σ M M2 : Mem}

theorem rr_x (hsc : Ev true 64 [aR 5 0] σ (.inl none) s2) (hf : ¬ s2 5 0 2 = -1) : Ev true 137 [aR 10 0] σ (.inr 0) s2 := by
  show wp true 137 0 [some (aR 10 (0)), none] [] σ 0 0 _
  refine wp_seg 2 (P := none) (ls' := [some (aR 10 (0)), none]) (st' := [aR 5 (0)]) (σ' := σ) rq_137 rfl True.intro (i' := 2) rfl ?_
  refine wp_call (C := 5) (As := [aR 5 (0)]) (rest := []) rq_137 hsc rfl rfl (show clOK 137 64 0 0 0 1 5 = true by decide +kernel) rfl (show 0 ≤ 4 by decide) (fun _ => ⟨_, rfl⟩) rfl (c' := 0) (s' := 0) rfl rfl ?_
  refine wp_seg 4 (P := none) (ls' := [some (aR 10 (0)), none]) (st' := [aI (-1), aI (s2 5 (0) 2)]) (σ' := s2) rq_137 rfl True.intro (i' := 7) rfl ?_
  refine wp_icmp rq_137 rfl (fun (h1 : (s2 5 (0) 2) = (-1)) => absurd h1 (show ¬ ((s2 5 (0) 2) = (-1)) from hf)) (fun _ => ?_)
  refine wp_throw rq_137 rfl (hcat_lt (by decide)) (show 0 ≤ 4 by decide) (by decide +kernel) (by decide +kernel) (by decide +kernel) ⟨?_, ?_⟩
  · rfl
  · rfl
theorem rr_s (hsc : Ev true 64 [aR 5 0] σ (.inl none) s2) (hf : s2 5 0 2 = -1) (Q : Out → Mem → Prop) (hq : wp true 137 15 [some (aR 10 (0)), some (aI (0))] [] s2 0 0 Q) : wp true 137 0 [some (aR 10 (0)), none] [] σ 0 0 Q := by
  refine wp_seg 2 (P := none) (ls' := [some (aR 10 (0)), none]) (st' := [aR 5 (0)]) (σ' := σ) rq_137 rfl True.intro (i' := 2) rfl ?_
  refine wp_call (C := 5) (As := [aR 5 (0)]) (rest := []) rq_137 hsc rfl rfl (show clOK 137 64 0 0 0 1 5 = true by decide +kernel) rfl (show 0 ≤ 4 by decide) (fun _ => ⟨_, rfl⟩) rfl (c' := 0) (s' := 0) rfl rfl ?_
  refine wp_seg 4 (P := none) (ls' := [some (aR 10 (0)), none]) (st' := [aI (-1), aI (s2 5 (0) 2)]) (σ' := s2) rq_137 rfl True.intro (i' := 7) rfl ?_
  refine wp_icmp rq_137 rfl (fun _ => ?_) (fun (h1 : ¬ ((s2 5 (0) 2) = (-1))) => absurd (show (s2 5 (0) 2) = (-1) from hf) h1)
  refine wp_seg 2 (P := none) (ls' := [some (aR 10 (0)), some (aI (0))]) (st' := []) (σ' := s2) rq_137 rfl True.intro (i' := 15) rfl ?_
  exact hq
theorem rr_e (h : s 5 0 4 ≤ i) : wp true 137 15 [some (aR 10 (0)), some (aI (i))] [] s 0 0 (fun o' s' => o' = .inl (some (aI (i))) ∧ s' = s) := by
  refine wp_seg 4 (P := none) (ls' := [some (aR 10 (0)), some (aI (i))]) (st' := [aI (s 5 (0) 4), aI (i)]) (σ' := s) rq_137 rfl True.intro (i' := 19) rfl ?_
  refine wp_icmp rq_137 rfl (fun _ => ?_) (fun (h1 : ¬ ((s 5 (0) 4) ≤ (i))) => absurd (show (s 5 (0) 4) ≤ (i) from h) h1)
  refine wp_seg 1 (P := none) (ls' := [some (aR 10 (0)), some (aI (i))]) (st' := [aI (i)]) (σ' := s) rq_137 rfl True.intro (i' := 56) rfl ?_
  refine wp_iret rq_137 rfl rt_137 ⟨?_, ?_⟩
  · rfl
  · rfl
theorem rr_h (h : i < s 5 0 4) (hB2 : zo_has 0 (zo_tpart i 0 s) s = 0) : wp true 137 15 [some (aR 10 (0)), some (aI (i))] [] s 0 0 (fun o' s' => o' = .inl (some (aI (i))) ∧ s' = s) := by
  refine wp_seg 4 (P := none) (ls' := [some (aR 10 (0)), some (aI (i))]) (st' := [aI (s 5 (0) 4), aI (i)]) (σ' := s) rq_137 rfl True.intro (i' := 19) rfl ?_
  refine wp_icmp rq_137 rfl (fun (h1 : (s 5 (0) 4) ≤ (i)) => absurd h1 (show ¬ ((s 5 (0) 4) ≤ (i)) from by omega)) (fun _ => ?_)
  refine wp_seg 7 (P := none) (ls' := [some (aR 10 (0)), some (aI (i))]) (st' := [aI (0), aI (i), aR 5 (0), aR 0 (0)]) (σ' := s) rq_137 rfl True.intro (i' := 27) rfl ?_
  refine wp_call (C := 5) (As := [aR 5 (0), aI (i), aI (0)]) (rest := [aR 0 (0)]) rq_137 (ev_tpart (i) (0) s ) rfl rfl (show clOK 137 63 0 0 0 3 5 = true by decide +kernel) rfl (show 1 ≤ 4 by decide) (fun _ => ⟨_, rfl⟩) rfl (c' := 0) (s' := 0) rfl rfl ?_
  refine wp_call (C := 0) (As := [aR 0 (0), aI (zo_tpart (i) (0) s)]) (rest := []) rq_137 (ev_has (0) (zo_tpart (i) (0) s) s ) rfl rfl (show clOK 137 3 0 0 0 2 0 = true by decide +kernel) rfl (show 0 ≤ 4 by decide) (fun _ => ⟨_, rfl⟩) rfl (c' := 0) (s' := 0) rfl rfl ?_
  refine wp_if rq_137 rfl (fun _ => ?_) (fun (h2 : ¬ ((zo_has (0) (zo_tpart (i) (0) s) s) = 0)) => absurd (show (zo_has (0) (zo_tpart (i) (0) s) s) = 0 from hB2) h2)
  refine wp_seg 1 (P := none) (ls' := [some (aR 10 (0)), some (aI (i))]) (st' := [aI (i)]) (σ' := s) rq_137 rfl True.intro (i' := 56) rfl ?_
  refine wp_iret rq_137 rfl rt_137 ⟨?_, ?_⟩
  · rfl
  · rfl
theorem rr_r (h : i < s 5 0 4) (hB2 : ¬ zo_has 0 (zo_tpart i 0 s) s = 0) (hB3 : zo_eur (zo_tpart i 0 s) (zo_tpart i 1 s) (zo_tpart i 2 s) (zo_tpart i 3 s) s = 0) : wp true 137 15 [some (aR 10 (0)), some (aI (i))] [] s 0 0 (fun o' s' => o' = .inl (some (aI (i))) ∧ s' = (zm_eur (zo_tpart i 0 s) (zo_tpart i 1 s) (zo_tpart i 2 s) (zo_tpart i 3 s) s)) := by
  refine wp_seg 4 (P := none) (ls' := [some (aR 10 (0)), some (aI (i))]) (st' := [aI (s 5 (0) 4), aI (i)]) (σ' := s) rq_137 rfl True.intro (i' := 19) rfl ?_
  refine wp_icmp rq_137 rfl (fun (h1 : (s 5 (0) 4) ≤ (i)) => absurd h1 (show ¬ ((s 5 (0) 4) ≤ (i)) from by omega)) (fun _ => ?_)
  refine wp_seg 7 (P := none) (ls' := [some (aR 10 (0)), some (aI (i))]) (st' := [aI (0), aI (i), aR 5 (0), aR 0 (0)]) (σ' := s) rq_137 rfl True.intro (i' := 27) rfl ?_
  refine wp_call (C := 5) (As := [aR 5 (0), aI (i), aI (0)]) (rest := [aR 0 (0)]) rq_137 (ev_tpart (i) (0) s ) rfl rfl (show clOK 137 63 0 0 0 3 5 = true by decide +kernel) rfl (show 1 ≤ 4 by decide) (fun _ => ⟨_, rfl⟩) rfl (c' := 0) (s' := 0) rfl rfl ?_
  refine wp_call (C := 0) (As := [aR 0 (0), aI (zo_tpart (i) (0) s)]) (rest := []) rq_137 (ev_has (0) (zo_tpart (i) (0) s) s ) rfl rfl (show clOK 137 3 0 0 0 2 0 = true by decide +kernel) rfl (show 0 ≤ 4 by decide) (fun _ => ⟨_, rfl⟩) rfl (c' := 0) (s' := 0) rfl rfl ?_
  refine wp_if rq_137 rfl (fun (h2 : (zo_has (0) (zo_tpart (i) (0) s) s) = 0) => absurd h2 (show ¬ ((zo_has (0) (zo_tpart (i) (0) s) s) = 0) from hB2)) (fun _ => ?_)
  refine wp_seg 5 (P := none) (ls' := [some (aR 10 (0)), some (aI (i))]) (st' := [aI (0), aI (i), aR 5 (0), aR 10 (0)]) (σ' := s) rq_137 rfl True.intro (i' := 35) rfl ?_
  refine wp_call (C := 5) (As := [aR 5 (0), aI (i), aI (0)]) (rest := [aR 10 (0)]) rq_137 (ev_tpart (i) (0) s ) rfl rfl (show clOK 137 63 0 0 0 3 5 = true by decide +kernel) rfl (show 1 ≤ 4 by decide) (fun _ => ⟨_, rfl⟩) rfl (c' := 0) (s' := 0) rfl rfl ?_
  refine wp_seg 4 (P := none) (ls' := [some (aR 10 (0)), some (aI (i))]) (st' := [aI (1), aI (i), aR 5 (0), aI (zo_tpart (i) (0) s), aR 10 (0)]) (σ' := s) rq_137 rfl True.intro (i' := 40) rfl ?_
  refine wp_call (C := 5) (As := [aR 5 (0), aI (i), aI (1)]) (rest := [aI (zo_tpart (i) (0) s), aR 10 (0)]) rq_137 (ev_tpart (i) (1) s ) rfl rfl (show clOK 137 63 0 0 0 3 5 = true by decide +kernel) rfl (show 2 ≤ 4 by decide) (fun _ => ⟨_, rfl⟩) rfl (c' := 0) (s' := 0) rfl rfl ?_
  refine wp_seg 4 (P := none) (ls' := [some (aR 10 (0)), some (aI (i))]) (st' := [aI (2), aI (i), aR 5 (0), aI (zo_tpart (i) (1) s), aI (zo_tpart (i) (0) s), aR 10 (0)]) (σ' := s) rq_137 rfl True.intro (i' := 45) rfl ?_
  refine wp_call (C := 5) (As := [aR 5 (0), aI (i), aI (2)]) (rest := [aI (zo_tpart (i) (1) s), aI (zo_tpart (i) (0) s), aR 10 (0)]) rq_137 (ev_tpart (i) (2) s ) rfl rfl (show clOK 137 63 0 0 0 3 5 = true by decide +kernel) rfl (show 3 ≤ 4 by decide) (fun _ => ⟨_, rfl⟩) rfl (c' := 0) (s' := 0) rfl rfl ?_
  refine wp_seg 4 (P := none) (ls' := [some (aR 10 (0)), some (aI (i))]) (st' := [aI (3), aI (i), aR 5 (0), aI (zo_tpart (i) (2) s), aI (zo_tpart (i) (1) s), aI (zo_tpart (i) (0) s), aR 10 (0)]) (σ' := s) rq_137 rfl True.intro (i' := 50) rfl ?_
  refine wp_call (C := 5) (As := [aR 5 (0), aI (i), aI (3)]) (rest := [aI (zo_tpart (i) (2) s), aI (zo_tpart (i) (1) s), aI (zo_tpart (i) (0) s), aR 10 (0)]) rq_137 (ev_tpart (i) (3) s ) rfl rfl (show clOK 137 63 0 0 0 3 5 = true by decide +kernel) rfl (show 4 ≤ 4 by decide) (fun _ => ⟨_, rfl⟩) rfl (c' := 0) (s' := 0) rfl rfl ?_
  refine wp_call (C := 10) (As := [aR 10 (0), aI (zo_tpart (i) (0) s), aI (zo_tpart (i) (1) s), aI (zo_tpart (i) (2) s), aI (zo_tpart (i) (3) s)]) (rest := []) rq_137 (ev_eur (zo_tpart (i) (0) s) (zo_tpart (i) (1) s) (zo_tpart (i) (2) s) (zo_tpart (i) (3) s) s ) rfl rfl (show clOK 137 150 0 0 0 5 10 = true by decide +kernel) rfl (show 0 ≤ 4 by decide) (fun _ => ⟨_, rfl⟩) rfl (c' := 0) (s' := 0) rfl rfl ?_
  refine wp_if rq_137 rfl (fun _ => ?_) (fun (h3 : ¬ ((zo_eur (zo_tpart (i) (0) s) (zo_tpart (i) (1) s) (zo_tpart (i) (2) s) (zo_tpart (i) (3) s) s) = 0)) => absurd (show (zo_eur (zo_tpart (i) (0) s) (zo_tpart (i) (1) s) (zo_tpart (i) (2) s) (zo_tpart (i) (3) s) s) = 0 from hB3) h3)
  refine wp_seg 1 (P := none) (ls' := [some (aR 10 (0)), some (aI (i))]) (st' := [aI (i)]) (σ' := (zm_eur (zo_tpart (i) (0) s) (zo_tpart (i) (1) s) (zo_tpart (i) (2) s) (zo_tpart (i) (3) s) s)) rq_137 rfl True.intro (i' := 56) rfl ?_
  refine wp_iret rq_137 rfl rt_137 ⟨?_, ?_⟩
  · rfl
  · rfl
theorem rr_g (h : i < s 5 0 4) (hB2 : ¬ zo_has 0 (zo_tpart i 0 s) s = 0) (hB3 : ¬ zo_eur (zo_tpart i 0 s) (zo_tpart i 1 s) (zo_tpart i 2 s) (zo_tpart i 3 s) s = 0) (hw : wr (i + 1) = i + 1) (Q : Out → Mem → Prop) (hq : wp true 137 15 [some (aR 10 (0)), some (aI ((i + 1)))] [] (zm_eur (zo_tpart i 0 s) (zo_tpart i 1 s) (zo_tpart i 2 s) (zo_tpart i 3 s) s) 0 0 Q) : wp true 137 15 [some (aR 10 (0)), some (aI (i))] [] s 0 0 Q := by
  refine wp_seg 4 (P := none) (ls' := [some (aR 10 (0)), some (aI (i))]) (st' := [aI (s 5 (0) 4), aI (i)]) (σ' := s) rq_137 rfl True.intro (i' := 19) rfl ?_
  refine wp_icmp rq_137 rfl (fun (h1 : (s 5 (0) 4) ≤ (i)) => absurd h1 (show ¬ ((s 5 (0) 4) ≤ (i)) from by omega)) (fun _ => ?_)
  refine wp_seg 7 (P := none) (ls' := [some (aR 10 (0)), some (aI (i))]) (st' := [aI (0), aI (i), aR 5 (0), aR 0 (0)]) (σ' := s) rq_137 rfl True.intro (i' := 27) rfl ?_
  refine wp_call (C := 5) (As := [aR 5 (0), aI (i), aI (0)]) (rest := [aR 0 (0)]) rq_137 (ev_tpart (i) (0) s ) rfl rfl (show clOK 137 63 0 0 0 3 5 = true by decide +kernel) rfl (show 1 ≤ 4 by decide) (fun _ => ⟨_, rfl⟩) rfl (c' := 0) (s' := 0) rfl rfl ?_
  refine wp_call (C := 0) (As := [aR 0 (0), aI (zo_tpart (i) (0) s)]) (rest := []) rq_137 (ev_has (0) (zo_tpart (i) (0) s) s ) rfl rfl (show clOK 137 3 0 0 0 2 0 = true by decide +kernel) rfl (show 0 ≤ 4 by decide) (fun _ => ⟨_, rfl⟩) rfl (c' := 0) (s' := 0) rfl rfl ?_
  refine wp_if rq_137 rfl (fun (h2 : (zo_has (0) (zo_tpart (i) (0) s) s) = 0) => absurd h2 (show ¬ ((zo_has (0) (zo_tpart (i) (0) s) s) = 0) from hB2)) (fun _ => ?_)
  refine wp_seg 5 (P := none) (ls' := [some (aR 10 (0)), some (aI (i))]) (st' := [aI (0), aI (i), aR 5 (0), aR 10 (0)]) (σ' := s) rq_137 rfl True.intro (i' := 35) rfl ?_
  refine wp_call (C := 5) (As := [aR 5 (0), aI (i), aI (0)]) (rest := [aR 10 (0)]) rq_137 (ev_tpart (i) (0) s ) rfl rfl (show clOK 137 63 0 0 0 3 5 = true by decide +kernel) rfl (show 1 ≤ 4 by decide) (fun _ => ⟨_, rfl⟩) rfl (c' := 0) (s' := 0) rfl rfl ?_
  refine wp_seg 4 (P := none) (ls' := [some (aR 10 (0)), some (aI (i))]) (st' := [aI (1), aI (i), aR 5 (0), aI (zo_tpart (i) (0) s), aR 10 (0)]) (σ' := s) rq_137 rfl True.intro (i' := 40) rfl ?_
  refine wp_call (C := 5) (As := [aR 5 (0), aI (i), aI (1)]) (rest := [aI (zo_tpart (i) (0) s), aR 10 (0)]) rq_137 (ev_tpart (i) (1) s ) rfl rfl (show clOK 137 63 0 0 0 3 5 = true by decide +kernel) rfl (show 2 ≤ 4 by decide) (fun _ => ⟨_, rfl⟩) rfl (c' := 0) (s' := 0) rfl rfl ?_
  refine wp_seg 4 (P := none) (ls' := [some (aR 10 (0)), some (aI (i))]) (st' := [aI (2), aI (i), aR 5 (0), aI (zo_tpart (i) (1) s), aI (zo_tpart (i) (0) s), aR 10 (0)]) (σ' := s) rq_137 rfl True.intro (i' := 45) rfl ?_
  refine wp_call (C := 5) (As := [aR 5 (0), aI (i), aI (2)]) (rest := [aI (zo_tpart (i) (1) s), aI (zo_tpart (i) (0) s), aR 10 (0)]) rq_137 (ev_tpart (i) (2) s ) rfl rfl (show clOK 137 63 0 0 0 3 5 = true by decide +kernel) rfl (show 3 ≤ 4 by decide) (fun _ => ⟨_, rfl⟩) rfl (c' := 0) (s' := 0) rfl rfl ?_
  refine wp_seg 4 (P := none) (ls' := [some (aR 10 (0)), some (aI (i))]) (st' := [aI (3), aI (i), aR 5 (0), aI (zo_tpart (i) (2) s), aI (zo_tpart (i) (1) s), aI (zo_tpart (i) (0) s), aR 10 (0)]) (σ' := s) rq_137 rfl True.intro (i' := 50) rfl ?_
  refine wp_call (C := 5) (As := [aR 5 (0), aI (i), aI (3)]) (rest := [aI (zo_tpart (i) (2) s), aI (zo_tpart (i) (1) s), aI (zo_tpart (i) (0) s), aR 10 (0)]) rq_137 (ev_tpart (i) (3) s ) rfl rfl (show clOK 137 63 0 0 0 3 5 = true by decide +kernel) rfl (show 4 ≤ 4 by decide) (fun _ => ⟨_, rfl⟩) rfl (c' := 0) (s' := 0) rfl rfl ?_
  refine wp_call (C := 10) (As := [aR 10 (0), aI (zo_tpart (i) (0) s), aI (zo_tpart (i) (1) s), aI (zo_tpart (i) (2) s), aI (zo_tpart (i) (3) s)]) (rest := []) rq_137 (ev_eur (zo_tpart (i) (0) s) (zo_tpart (i) (1) s) (zo_tpart (i) (2) s) (zo_tpart (i) (3) s) s ) rfl rfl (show clOK 137 150 0 0 0 5 10 = true by decide +kernel) rfl (show 0 ≤ 4 by decide) (fun _ => ⟨_, rfl⟩) rfl (c' := 0) (s' := 0) rfl rfl ?_
  refine wp_if rq_137 rfl (fun (h3 : (zo_eur (zo_tpart (i) (0) s) (zo_tpart (i) (1) s) (zo_tpart (i) (2) s) (zo_tpart (i) (3) s) s) = 0) => absurd h3 (show ¬ ((zo_eur (zo_tpart (i) (0) s) (zo_tpart (i) (1) s) (zo_tpart (i) (2) s) (zo_tpart (i) (3) s) s) = 0) from hB3)) (fun _ => ?_)
  refine wp_seg 1 (P := none) (ls' := [some (aR 10 (0)), some (aI (wr (i + 1)))]) (st' := []) (σ' := (zm_eur (zo_tpart (i) (0) s) (zo_tpart (i) (1) s) (zo_tpart (i) (2) s) (zo_tpart (i) (3) s) s)) rq_137 rfl True.intro (i' := 54) rfl ?_
  refine wp_goto rq_137 rfl ?_
  rw [hw]
  exact hq
theorem rm_x (hit : Ev true 240 [aR 11 0] M (.inl (some (aI x))) M2) (hx : x = 0) : Ev true 241 [aR 11 0] M (.inl (some (aI 0))) (up (up (up M2 11 0 10 0) 11 0 13 ((up M2 11 0 10 0) 11 0 11)) 11 0 6 1) := by
  show wp true 241 0 [some (aR 11 (0)), none, none] [] M 0 0 _
  refine wp_seg 1 (P := none) (ls' := [some (aR 11 (0)), none, none]) (st' := [aR 11 (0)]) (σ' := M) rq_241 rfl True.intro (i' := 1) rfl ?_
  refine wp_call (C := 11) (As := [aR 11 (0)]) (rest := []) rq_241 hit rfl rfl (show clOK 241 240 0 0 0 1 11 = true by decide +kernel) rfl (show 0 ≤ 4 by decide) (fun _ => ⟨_, rfl⟩) rfl (c' := 0) (s' := 0) rfl rfl ?_
  refine wp_seg 6 (P := none) (ls' := [some (aR 11 (0)), some (aI (x)), none]) (st' := [aI (x), aR 11 (0)]) (σ' := (up M2 11 (0) 10 (0))) rq_241 rfl True.intro (i' := 8) rfl ?_
  refine wp_if rq_241 rfl (fun _ => ?_) (fun (h1 : ¬ ((x) = 0)) => absurd (show (x) = 0 from by omega) h1)
  refine wp_seg 5 (P := none) (ls' := [some (aR 11 (0)), some (aI (x)), none]) (st' := [aI (x), aR 11 (0)]) (σ' := (up (up M2 11 (0) 10 (0)) 11 (0) 13 ((up M2 11 (0) 10 (0)) 11 (0) 11))) rq_241 rfl True.intro (i' := 16) rfl ?_
  refine wp_if rq_241 rfl (fun _ => ?_) (fun (h2 : ¬ ((x) = 0)) => absurd (show (x) = 0 from by omega) h2)
  refine wp_seg 4 (P := none) (ls' := [some (aR 11 (0)), some (aI (x)), none]) (st' := [aI ((up (up (up M2 11 (0) 10 (0)) 11 (0) 13 ((up M2 11 (0) 10 (0)) 11 (0) 11)) 11 (0) 6 (1)) 11 (0) 6)]) (σ' := (up (up (up M2 11 (0) 10 (0)) 11 (0) 13 ((up M2 11 (0) 10 (0)) 11 (0) 11)) 11 (0) 6 (1))) rq_241 rfl True.intro (i' := 23) rfl ?_
  refine wp_if rq_241 rfl (fun (h3 : ((up (up (up M2 11 (0) 10 (0)) 11 (0) 13 ((up M2 11 (0) 10 (0)) 11 (0) 11)) 11 (0) 6 (1)) 11 (0) 6) ≤ 0) => absurd h3 (show ¬ (((up (up (up M2 11 (0) 10 (0)) 11 (0) 13 ((up M2 11 (0) 10 (0)) 11 (0) 11)) 11 (0) 6 (1)) 11 (0) 6) ≤ 0) from by rw [up_s]; decide)) (fun _ => ?_)
  refine wp_seg 1 (P := none) (ls' := [some (aR 11 (0)), some (aI (x)), none]) (st' := [aI (0)]) (σ' := (up (up (up M2 11 (0) 10 (0)) 11 (0) 13 ((up M2 11 (0) 10 (0)) 11 (0) 11)) 11 (0) 6 (1))) rq_241 rfl True.intro (i' := 25) rfl ?_
  refine wp_iret rq_241 rfl rt_241 ⟨?_, ?_⟩
  · rfl
  · rfl
theorem rm_s (hit : Ev true 240 [aR 11 0] M (.inl (some (aI x))) M2) (hx : x = 1) (Q : Out → Mem → Prop) (hq : wp true 241 28 [some (aR 11 (0)), some (aI (x)), some (aI (0))] [] (up (up (up M2 11 0 10 0) 11 0 13 (-1)) 11 0 6 0) 0 0 Q) : wp true 241 0 [some (aR 11 (0)), none, none] [] M 0 0 Q := by
  refine wp_seg 1 (P := none) (ls' := [some (aR 11 (0)), none, none]) (st' := [aR 11 (0)]) (σ' := M) rq_241 rfl True.intro (i' := 1) rfl ?_
  refine wp_call (C := 11) (As := [aR 11 (0)]) (rest := []) rq_241 hit rfl rfl (show clOK 241 240 0 0 0 1 11 = true by decide +kernel) rfl (show 0 ≤ 4 by decide) (fun _ => ⟨_, rfl⟩) rfl (c' := 0) (s' := 0) rfl rfl ?_
  refine wp_seg 6 (P := none) (ls' := [some (aR 11 (0)), some (aI (x)), none]) (st' := [aI (x), aR 11 (0)]) (σ' := (up M2 11 (0) 10 (0))) rq_241 rfl True.intro (i' := 8) rfl ?_
  refine wp_if rq_241 rfl (fun (h1 : (x) = 0) => absurd h1 (show ¬ ((x) = 0) from by omega)) (fun _ => ?_)
  refine wp_seg 1 (P := none) (ls' := [some (aR 11 (0)), some (aI (x)), none]) (st' := [aI (-1), aR 11 (0)]) (σ' := (up M2 11 (0) 10 (0))) rq_241 rfl True.intro (i' := 10) rfl ?_
  refine wp_goto rq_241 rfl ?_
  refine wp_seg 3 (P := none) (ls' := [some (aR 11 (0)), some (aI (x)), none]) (st' := [aI (x), aR 11 (0)]) (σ' := (up (up M2 11 (0) 10 (0)) 11 (0) 13 (-1))) rq_241 rfl True.intro (i' := 16) rfl ?_
  refine wp_if rq_241 rfl (fun (h2 : (x) = 0) => absurd h2 (show ¬ ((x) = 0) from by omega)) (fun _ => ?_)
  refine wp_seg 1 (P := none) (ls' := [some (aR 11 (0)), some (aI (x)), none]) (st' := [aI (0), aR 11 (0)]) (σ' := (up (up M2 11 (0) 10 (0)) 11 (0) 13 (-1))) rq_241 rfl True.intro (i' := 18) rfl ?_
  refine wp_goto rq_241 rfl ?_
  refine wp_seg 3 (P := none) (ls' := [some (aR 11 (0)), some (aI (x)), none]) (st' := [aI ((up (up (up M2 11 (0) 10 (0)) 11 (0) 13 (-1)) 11 (0) 6 (0)) 11 (0) 6)]) (σ' := (up (up (up M2 11 (0) 10 (0)) 11 (0) 13 (-1)) 11 (0) 6 (0))) rq_241 rfl True.intro (i' := 23) rfl ?_
  refine wp_if rq_241 rfl (fun _ => ?_) (fun (h3 : ¬ (((up (up (up M2 11 (0) 10 (0)) 11 (0) 13 (-1)) 11 (0) 6 (0)) 11 (0) 6) ≤ 0)) => absurd (show ((up (up (up M2 11 (0) 10 (0)) 11 (0) 13 (-1)) 11 (0) 6 (0)) 11 (0) 6) ≤ 0 from by rw [up_s]; decide) h3)
  refine wp_seg 2 (P := none) (ls' := [some (aR 11 (0)), some (aI (x)), some (aI (0))]) (st' := []) (σ' := (up (up (up M2 11 (0) 10 (0)) 11 (0) 13 (-1)) 11 (0) 6 (0))) rq_241 rfl True.intro (i' := 28) rfl ?_
  exact hq
theorem rm_e (h : M 11 0 15 ≤ i) : wp true 241 28 [some (aR 11 (0)), some (aI (x)), some (aI (i))] [] M 0 0 (fun o' s' => o' = .inl (some (aI (i))) ∧ s' = M) := by
  refine wp_seg 3 (P := none) (ls' := [some (aR 11 (0)), some (aI (x)), some (aI (i))]) (st' := [aI (M 11 (0) 15), aI (i)]) (σ' := M) rq_241 rfl True.intro (i' := 31) rfl ?_
  refine wp_icmp rq_241 rfl (fun _ => ?_) (fun (h1 : ¬ ((M 11 (0) 15) ≤ (i))) => absurd (show (M 11 (0) 15) ≤ (i) from h) h1)
  refine wp_seg 1 (P := none) (ls' := [some (aR 11 (0)), some (aI (x)), some (aI (i))]) (st' := [aI (i)]) (σ' := M) rq_241 rfl True.intro (i' := 77) rfl ?_
  refine wp_iret rq_241 rfl rt_241 ⟨?_, ?_⟩
  · rfl
  · rfl
theorem rm_h (hi : 0 ≤ i ∧ i ≤ 10) (h : i < M 11 0 15) (hbo : Ev true 156 [aR 11 0, aI (M 13 192 (wr (4 * i)))] M (.inl (some (aI q))) M) (hq0 : q = 0) : wp true 241 28 [some (aR 11 (0)), some (aI (x)), some (aI (i))] [] M 0 0 (fun o' s' => o' = .inl (some (aI (i))) ∧ s' = M) := by
  have w0 : wr (4 * i) = 4 * i := wr_eq (by omega) (by omega)
  have w1 : wr (4 * i + 1) = 4 * i + 1 := wr_eq (by omega) (by omega)
  have w2 : wr (4 * i + 2) = 4 * i + 2 := wr_eq (by omega) (by omega)
  have w3 : wr (4 * i + 3) = 4 * i + 3 := wr_eq (by omega) (by omega)
  have wt : wr (i + 1) = i + 1 := wr_eq (by omega) (by omega)
  refine wp_seg 3 (P := none) (ls' := [some (aR 11 (0)), some (aI (x)), some (aI (i))]) (st' := [aI (M 11 (0) 15), aI (i)]) (σ' := M) rq_241 rfl True.intro (i' := 31) rfl ?_
  refine wp_icmp rq_241 rfl (fun (h1 : (M 11 (0) 15) ≤ (i)) => absurd h1 (show ¬ ((M 11 (0) 15) ≤ (i)) from by omega)) (fun _ => ?_)
  refine wp_seg 7 (P := some (0 ≤ (wr ((4) * (i))) ∧ (wr ((4) * (i))) < alen M 13 (192))) (ls' := [some (aR 11 (0)), some (aI (x)), some (aI (i))]) (st' := [aI (M 13 (192) (wr ((4) * (i)))), aR 11 (0)]) (σ' := M) rq_241 rfl ?_ (i' := 39) rfl ?_
  · show 0 ≤ (wr ((4) * (i))) ∧ (wr ((4) * (i))) < alen M 13 (192)
    (simp only [w0, w1, w2, w3]; (have h9 : alen M 13 192 = 60 := rfl); exact ⟨by omega, by omega⟩)
  refine wp_call (C := 11) (As := [aR 11 (0), aI (M 13 (192) (wr ((4) * (i))))]) (rest := []) rq_241 hbo rfl rfl (show clOK 241 156 0 0 0 2 11 = true by decide +kernel) rfl (show 0 ≤ 4 by decide) (fun _ => ⟨_, rfl⟩) rfl (c' := 0) (s' := 0) rfl rfl ?_
  refine wp_if rq_241 rfl (fun _ => ?_) (fun (h2 : ¬ ((q) = 0)) => absurd (show (q) = 0 from hq0) h2)
  refine wp_seg 1 (P := none) (ls' := [some (aR 11 (0)), some (aI (x)), some (aI (i))]) (st' := [aI (i)]) (σ' := M) rq_241 rfl True.intro (i' := 77) rfl ?_
  refine wp_iret rq_241 rfl rt_241 ⟨?_, ?_⟩
  · rfl
  · rfl
theorem rm_r (hi : 0 ≤ i ∧ i ≤ 10) (h : i < M 11 0 15) (hbo : Ev true 156 [aR 11 0, aI (M 13 192 (wr (4 * i)))] M (.inl (some (aI q))) M) (hq0 : q = 1) (hen : Ev true 201 [aR 11 0, aI (M 13 192 (wr (4 * i))), aI (M 13 192 (wr (wr (4 * i) + 1))), aI (M 13 192 (wr (wr (4 * i) + 2))), aI (M 13 192 (wr (wr (4 * i) + 3)))] M (.inl (some (aI (zo_menters (M 13 192 (wr (4 * i))) (M 13 192 (wr (wr (4 * i) + 1))) (M 13 192 (wr (wr (4 * i) + 2))) (M 13 192 (wr (wr (4 * i) + 3))) M)))) (zm_menters (M 13 192 (wr (4 * i))) (M 13 192 (wr (wr (4 * i) + 1))) (M 13 192 (wr (wr (4 * i) + 2))) (M 13 192 (wr (wr (4 * i) + 3))) M)) (hB3 : zo_menters (M 13 192 (wr (4 * i))) (M 13 192 (wr (wr (4 * i) + 1))) (M 13 192 (wr (wr (4 * i) + 2))) (M 13 192 (wr (wr (4 * i) + 3))) M < 0) : wp true 241 28 [some (aR 11 (0)), some (aI (x)), some (aI (i))] [] M 0 0 (fun o' s' => o' = .inl (some (aI (i))) ∧ s' = (zm_menters (M 13 192 (wr (4 * i))) (M 13 192 (wr (wr (4 * i) + 1))) (M 13 192 (wr (wr (4 * i) + 2))) (M 13 192 (wr (wr (4 * i) + 3))) M)) := by
  have w0 : wr (4 * i) = 4 * i := wr_eq (by omega) (by omega)
  have w1 : wr (4 * i + 1) = 4 * i + 1 := wr_eq (by omega) (by omega)
  have w2 : wr (4 * i + 2) = 4 * i + 2 := wr_eq (by omega) (by omega)
  have w3 : wr (4 * i + 3) = 4 * i + 3 := wr_eq (by omega) (by omega)
  have wt : wr (i + 1) = i + 1 := wr_eq (by omega) (by omega)
  refine wp_seg 3 (P := none) (ls' := [some (aR 11 (0)), some (aI (x)), some (aI (i))]) (st' := [aI (M 11 (0) 15), aI (i)]) (σ' := M) rq_241 rfl True.intro (i' := 31) rfl ?_
  refine wp_icmp rq_241 rfl (fun (h1 : (M 11 (0) 15) ≤ (i)) => absurd h1 (show ¬ ((M 11 (0) 15) ≤ (i)) from by omega)) (fun _ => ?_)
  refine wp_seg 7 (P := some (0 ≤ (wr ((4) * (i))) ∧ (wr ((4) * (i))) < alen M 13 (192))) (ls' := [some (aR 11 (0)), some (aI (x)), some (aI (i))]) (st' := [aI (M 13 (192) (wr ((4) * (i)))), aR 11 (0)]) (σ' := M) rq_241 rfl ?_ (i' := 39) rfl ?_
  · show 0 ≤ (wr ((4) * (i))) ∧ (wr ((4) * (i))) < alen M 13 (192)
    (simp only [w0, w1, w2, w3]; (have h9 : alen M 13 192 = 60 := rfl); exact ⟨by omega, by omega⟩)
  refine wp_call (C := 11) (As := [aR 11 (0), aI (M 13 (192) (wr ((4) * (i))))]) (rest := []) rq_241 hbo rfl rfl (show clOK 241 156 0 0 0 2 11 = true by decide +kernel) rfl (show 0 ≤ 4 by decide) (fun _ => ⟨_, rfl⟩) rfl (c' := 0) (s' := 0) rfl rfl ?_
  refine wp_if rq_241 rfl (fun (h2 : (q) = 0) => absurd h2 (show ¬ ((q) = 0) from by omega)) (fun _ => ?_)
  refine wp_seg 31 (P := some ((0 ≤ (wr ((4) * (i))) ∧ (wr ((4) * (i))) < alen M 13 (192)) ∧ (0 ≤ (wr ((wr ((4) * (i))) + (1))) ∧ (wr ((wr ((4) * (i))) + (1))) < alen M 13 (192)) ∧ (0 ≤ (wr ((wr ((4) * (i))) + (2))) ∧ (wr ((wr ((4) * (i))) + (2))) < alen M 13 (192)) ∧ (0 ≤ (wr ((wr ((4) * (i))) + (3))) ∧ (wr ((wr ((4) * (i))) + (3))) < alen M 13 (192)))) (ls' := [some (aR 11 (0)), some (aI (x)), some (aI (i))]) (st' := [aI (M 13 (192) (wr ((wr ((4) * (i))) + (3)))), aI (M 13 (192) (wr ((wr ((4) * (i))) + (2)))), aI (M 13 (192) (wr ((wr ((4) * (i))) + (1)))), aI (M 13 (192) (wr ((4) * (i)))), aR 11 (0)]) (σ' := M) rq_241 rfl ?_ (i' := 72) rfl ?_
  · show (0 ≤ (wr ((4) * (i))) ∧ (wr ((4) * (i))) < alen M 13 (192)) ∧ (0 ≤ (wr ((wr ((4) * (i))) + (1))) ∧ (wr ((wr ((4) * (i))) + (1))) < alen M 13 (192)) ∧ (0 ≤ (wr ((wr ((4) * (i))) + (2))) ∧ (wr ((wr ((4) * (i))) + (2))) < alen M 13 (192)) ∧ (0 ≤ (wr ((wr ((4) * (i))) + (3))) ∧ (wr ((wr ((4) * (i))) + (3))) < alen M 13 (192))
    (simp only [w0, w1, w2, w3]; (have h9 : alen M 13 192 = 60 := rfl); exact ⟨by omega, by omega⟩)
  refine wp_call (C := 11) (As := [aR 11 (0), aI (M 13 (192) (wr ((4) * (i)))), aI (M 13 (192) (wr ((wr ((4) * (i))) + (1)))), aI (M 13 (192) (wr ((wr ((4) * (i))) + (2)))), aI (M 13 (192) (wr ((wr ((4) * (i))) + (3))))]) (rest := []) rq_241 hen rfl rfl (show clOK 241 201 0 0 0 5 11 = true by decide +kernel) rfl (show 0 ≤ 4 by decide) (fun _ => ⟨_, rfl⟩) rfl (c' := 0) (s' := 0) rfl rfl ?_
  refine wp_if rq_241 rfl (fun _ => ?_) (fun (h3 : ¬ ((zo_menters (M 13 (192) (wr ((4) * (i)))) (M 13 (192) (wr ((wr ((4) * (i))) + (1)))) (M 13 (192) (wr ((wr ((4) * (i))) + (2)))) (M 13 (192) (wr ((wr ((4) * (i))) + (3)))) M) < 0)) => absurd (show (zo_menters (M 13 (192) (wr ((4) * (i)))) (M 13 (192) (wr ((wr ((4) * (i))) + (1)))) (M 13 (192) (wr ((wr ((4) * (i))) + (2)))) (M 13 (192) (wr ((wr ((4) * (i))) + (3)))) M) < 0 from hB3) h3)
  refine wp_seg 1 (P := none) (ls' := [some (aR 11 (0)), some (aI (x)), some (aI (i))]) (st' := [aI (i)]) (σ' := (zm_menters (M 13 (192) (wr ((4) * (i)))) (M 13 (192) (wr ((wr ((4) * (i))) + (1)))) (M 13 (192) (wr ((wr ((4) * (i))) + (2)))) (M 13 (192) (wr ((wr ((4) * (i))) + (3)))) M)) rq_241 rfl True.intro (i' := 77) rfl ?_
  refine wp_iret rq_241 rfl rt_241 ⟨?_, ?_⟩
  · rfl
  · rfl
theorem rm_g (hi : 0 ≤ i ∧ i ≤ 10) (h : i < M 11 0 15) (hbo : Ev true 156 [aR 11 0, aI (M 13 192 (wr (4 * i)))] M (.inl (some (aI q))) M) (hq0 : q = 1) (hen : Ev true 201 [aR 11 0, aI (M 13 192 (wr (4 * i))), aI (M 13 192 (wr (wr (4 * i) + 1))), aI (M 13 192 (wr (wr (4 * i) + 2))), aI (M 13 192 (wr (wr (4 * i) + 3)))] M (.inl (some (aI (zo_menters (M 13 192 (wr (4 * i))) (M 13 192 (wr (wr (4 * i) + 1))) (M 13 192 (wr (wr (4 * i) + 2))) (M 13 192 (wr (wr (4 * i) + 3))) M)))) (zm_menters (M 13 192 (wr (4 * i))) (M 13 192 (wr (wr (4 * i) + 1))) (M 13 192 (wr (wr (4 * i) + 2))) (M 13 192 (wr (wr (4 * i) + 3))) M)) (hB3 : ¬ zo_menters (M 13 192 (wr (4 * i))) (M 13 192 (wr (wr (4 * i) + 1))) (M 13 192 (wr (wr (4 * i) + 2))) (M 13 192 (wr (wr (4 * i) + 3))) M < 0) (Q : Out → Mem → Prop) (hq : wp true 241 28 [some (aR 11 (0)), some (aI (x)), some (aI ((i + 1)))] [] (zm_menters (M 13 192 (wr (4 * i))) (M 13 192 (wr (wr (4 * i) + 1))) (M 13 192 (wr (wr (4 * i) + 2))) (M 13 192 (wr (wr (4 * i) + 3))) M) 0 0 Q) : wp true 241 28 [some (aR 11 (0)), some (aI (x)), some (aI (i))] [] M 0 0 Q := by
  have w0 : wr (4 * i) = 4 * i := wr_eq (by omega) (by omega)
  have w1 : wr (4 * i + 1) = 4 * i + 1 := wr_eq (by omega) (by omega)
  have w2 : wr (4 * i + 2) = 4 * i + 2 := wr_eq (by omega) (by omega)
  have w3 : wr (4 * i + 3) = 4 * i + 3 := wr_eq (by omega) (by omega)
  have wt : wr (i + 1) = i + 1 := wr_eq (by omega) (by omega)
  refine wp_seg 3 (P := none) (ls' := [some (aR 11 (0)), some (aI (x)), some (aI (i))]) (st' := [aI (M 11 (0) 15), aI (i)]) (σ' := M) rq_241 rfl True.intro (i' := 31) rfl ?_
  refine wp_icmp rq_241 rfl (fun (h1 : (M 11 (0) 15) ≤ (i)) => absurd h1 (show ¬ ((M 11 (0) 15) ≤ (i)) from by omega)) (fun _ => ?_)
  refine wp_seg 7 (P := some (0 ≤ (wr ((4) * (i))) ∧ (wr ((4) * (i))) < alen M 13 (192))) (ls' := [some (aR 11 (0)), some (aI (x)), some (aI (i))]) (st' := [aI (M 13 (192) (wr ((4) * (i)))), aR 11 (0)]) (σ' := M) rq_241 rfl ?_ (i' := 39) rfl ?_
  · show 0 ≤ (wr ((4) * (i))) ∧ (wr ((4) * (i))) < alen M 13 (192)
    (simp only [w0, w1, w2, w3]; (have h9 : alen M 13 192 = 60 := rfl); exact ⟨by omega, by omega⟩)
  refine wp_call (C := 11) (As := [aR 11 (0), aI (M 13 (192) (wr ((4) * (i))))]) (rest := []) rq_241 hbo rfl rfl (show clOK 241 156 0 0 0 2 11 = true by decide +kernel) rfl (show 0 ≤ 4 by decide) (fun _ => ⟨_, rfl⟩) rfl (c' := 0) (s' := 0) rfl rfl ?_
  refine wp_if rq_241 rfl (fun (h2 : (q) = 0) => absurd h2 (show ¬ ((q) = 0) from by omega)) (fun _ => ?_)
  refine wp_seg 31 (P := some ((0 ≤ (wr ((4) * (i))) ∧ (wr ((4) * (i))) < alen M 13 (192)) ∧ (0 ≤ (wr ((wr ((4) * (i))) + (1))) ∧ (wr ((wr ((4) * (i))) + (1))) < alen M 13 (192)) ∧ (0 ≤ (wr ((wr ((4) * (i))) + (2))) ∧ (wr ((wr ((4) * (i))) + (2))) < alen M 13 (192)) ∧ (0 ≤ (wr ((wr ((4) * (i))) + (3))) ∧ (wr ((wr ((4) * (i))) + (3))) < alen M 13 (192)))) (ls' := [some (aR 11 (0)), some (aI (x)), some (aI (i))]) (st' := [aI (M 13 (192) (wr ((wr ((4) * (i))) + (3)))), aI (M 13 (192) (wr ((wr ((4) * (i))) + (2)))), aI (M 13 (192) (wr ((wr ((4) * (i))) + (1)))), aI (M 13 (192) (wr ((4) * (i)))), aR 11 (0)]) (σ' := M) rq_241 rfl ?_ (i' := 72) rfl ?_
  · show (0 ≤ (wr ((4) * (i))) ∧ (wr ((4) * (i))) < alen M 13 (192)) ∧ (0 ≤ (wr ((wr ((4) * (i))) + (1))) ∧ (wr ((wr ((4) * (i))) + (1))) < alen M 13 (192)) ∧ (0 ≤ (wr ((wr ((4) * (i))) + (2))) ∧ (wr ((wr ((4) * (i))) + (2))) < alen M 13 (192)) ∧ (0 ≤ (wr ((wr ((4) * (i))) + (3))) ∧ (wr ((wr ((4) * (i))) + (3))) < alen M 13 (192))
    (simp only [w0, w1, w2, w3]; (have h9 : alen M 13 192 = 60 := rfl); exact ⟨by omega, by omega⟩)
  refine wp_call (C := 11) (As := [aR 11 (0), aI (M 13 (192) (wr ((4) * (i)))), aI (M 13 (192) (wr ((wr ((4) * (i))) + (1)))), aI (M 13 (192) (wr ((wr ((4) * (i))) + (2)))), aI (M 13 (192) (wr ((wr ((4) * (i))) + (3))))]) (rest := []) rq_241 hen rfl rfl (show clOK 241 201 0 0 0 5 11 = true by decide +kernel) rfl (show 0 ≤ 4 by decide) (fun _ => ⟨_, rfl⟩) rfl (c' := 0) (s' := 0) rfl rfl ?_
  refine wp_if rq_241 rfl (fun (h3 : (zo_menters (M 13 (192) (wr ((4) * (i)))) (M 13 (192) (wr ((wr ((4) * (i))) + (1)))) (M 13 (192) (wr ((wr ((4) * (i))) + (2)))) (M 13 (192) (wr ((wr ((4) * (i))) + (3)))) M) < 0) => absurd h3 (show ¬ ((zo_menters (M 13 (192) (wr ((4) * (i)))) (M 13 (192) (wr ((wr ((4) * (i))) + (1)))) (M 13 (192) (wr ((wr ((4) * (i))) + (2)))) (M 13 (192) (wr ((wr ((4) * (i))) + (3)))) M) < 0) from hB3)) (fun _ => ?_)
  refine wp_seg 1 (P := none) (ls' := [some (aR 11 (0)), some (aI (x)), some (aI (wr (i + 1)))]) (st' := []) (σ' := (zm_menters (M 13 (192) (wr ((4) * (i)))) (M 13 (192) (wr ((wr ((4) * (i))) + (1)))) (M 13 (192) (wr ((wr ((4) * (i))) + (2)))) (M 13 (192) (wr ((wr ((4) * (i))) + (3)))) M)) rq_241 rfl True.intro (i' := 75) rfl ?_
  refine wp_goto rq_241 rfl ?_
  rw [wt]
  exact hq
end RdR
