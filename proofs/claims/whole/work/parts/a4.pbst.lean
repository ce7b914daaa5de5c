/-! The bouts of the pools: steps of both sides. -/
section PB
variable {P p s x y l r n : Int} {M M' : Mem}

theorem ab_0 (Q : Out → Mem → Prop) (hq : wp true 26 8 [some (aR 2 (0)), some (aI (p)), some (aI ((rget M (18 * (0) + 7) p))), some (aI (0)), none] [] M 0 0 Q) : wp true 26 0 [some (aR 2 (0)), some (aI (p)), none, none, none] [] M 0 0 Q := by
  refine wp_seg 4 (P := none) (ls' := [some (aR 2 (0)), some (aI (p)), none, none, none]) (st' := [aI (p), aR 7 (7)]) (σ' := M) rq_26 rfl True.intro (i' := 4) rfl ?_
  refine wp_call (C := 7) (As := [aR 7 (7), aI (p)]) (rest := []) rq_26 (ev_get (7) (p) M ) rfl rfl (show clOK 26 78 0 0 0 2 7 = true by decide +kernel) rfl (show 0 ≤ 4 by decide) (fun _ => ⟨_, rfl⟩) rfl (c' := 0) (s' := 0) rfl rfl ?_
  refine wp_seg 3 (P := none) (ls' := [some (aR 2 (0)), some (aI (p)), some (aI (rget M (7) (p))), some (aI (0)), none]) (st' := []) (σ' := M) rq_26 rfl True.intro (i' := 8) rfl ?_
  exact hq
theorem ab_x (hx : 0 ≤ x ∧ x < s) (hs : s ≤ 24) (Q : Out → Mem → Prop) (hq : wp true 26 15 [some (aR 2 (0)), some (aI (p)), some (aI (s)), some (aI (x)), some (aI ((x + 1)))] [] M 0 0 Q) : wp true 26 8 [some (aR 2 (0)), some (aI (p)), some (aI (s)), some (aI (x)), none] [] M 0 0 Q := by
  refine wp_seg 2 (P := none) (ls' := [some (aR 2 (0)), some (aI (p)), some (aI (s)), some (aI (x)), none]) (st' := [aI (s), aI (x)]) (σ' := M) rq_26 rfl True.intro (i' := 10) rfl ?_
  refine wp_icmp rq_26 rfl (fun (h1 : (s) ≤ (x)) => absurd h1 (show ¬ ((s) ≤ (x)) from by omega)) (fun _ => ?_)
  refine wp_seg 4 (P := none) (ls' := [some (aR 2 (0)), some (aI (p)), some (aI (s)), some (aI (x)), some (aI (wr ((x) + (1))))]) (st' := []) (σ' := M) rq_26 rfl True.intro (i' := 15) rfl ?_
  rw [wr_eq (z := x + 1) (by omega) (by omega)]
  exact hq
theorem ab_e (hx : s ≤ x) : wp true 26 8 [some (aR 2 (0)), some (aI (p)), some (aI (s)), some (aI (x)), none] [] M 0 0 (fun o' s' => o' = .inl none ∧ s' = up M 0 0 1 (M 0 0 0)) := by
  refine wp_seg 2 (P := none) (ls' := [some (aR 2 (0)), some (aI (p)), some (aI (s)), some (aI (x)), none]) (st' := [aI (s), aI (x)]) (σ' := M) rq_26 rfl True.intro (i' := 10) rfl ?_
  refine wp_icmp rq_26 rfl (fun _ => ?_) (fun (h1 : ¬ ((s) ≤ (x))) => absurd (show (s) ≤ (x) from by omega) h1)
  refine wp_seg 6 (P := none) (ls' := [some (aR 2 (0)), some (aI (p)), some (aI (s)), some (aI (x)), none]) (st' := []) (σ' := (up M 0 (0) 1 (M 0 (0) 0))) rq_26 rfl True.intro (i' := 42) rfl ?_
  refine wp_vret rq_26 rfl rt_26 ⟨?_, ?_⟩
  · rfl
  · rfl
theorem ab_y (hy : 0 ≤ y ∧ y < s) (hs : s ≤ 24) (Q : Out → Mem → Prop) (hq : wp true 26 15 [some (aR 2 (0)), some (aI (p)), some (aI (s)), some (aI (x)), some (aI ((y + 1)))] [] (zm_badd 0 p (zo_pfencerAt 0 p x M) (zo_pfencerAt 0 p y M) M) 0 0 Q) : wp true 26 15 [some (aR 2 (0)), some (aI (p)), some (aI (s)), some (aI (x)), some (aI (y))] [] M 0 0 Q := by
  refine wp_seg 2 (P := none) (ls' := [some (aR 2 (0)), some (aI (p)), some (aI (s)), some (aI (x)), some (aI (y))]) (st' := [aI (s), aI (y)]) (σ' := M) rq_26 rfl True.intro (i' := 17) rfl ?_
  refine wp_icmp rq_26 rfl (fun (h1 : (s) ≤ (y)) => absurd h1 (show ¬ ((s) ≤ (y)) from by omega)) (fun _ => ?_)
  refine wp_seg 7 (P := none) (ls' := [some (aR 2 (0)), some (aI (p)), some (aI (s)), some (aI (x)), some (aI (y))]) (st' := [aI (x), aI (p), aR 3 (0), aI (p), aR 0 (0)]) (σ' := M) rq_26 rfl True.intro (i' := 25) rfl ?_
  refine wp_call (C := 3) (As := [aR 3 (0), aI (p), aI (x)]) (rest := [aI (p), aR 0 (0)]) rq_26 (ev_pfencerAt (0) (p) (x) M ) rfl rfl (show clOK 26 47 0 0 0 3 3 = true by decide +kernel) rfl (show 2 ≤ 4 by decide) (fun _ => ⟨_, rfl⟩) rfl (c' := 0) (s' := 0) rfl rfl ?_
  refine wp_seg 4 (P := none) (ls' := [some (aR 2 (0)), some (aI (p)), some (aI (s)), some (aI (x)), some (aI (y))]) (st' := [aI (y), aI (p), aR 3 (0), aI (zo_pfencerAt (0) (p) (x) M), aI (p), aR 0 (0)]) (σ' := M) rq_26 rfl True.intro (i' := 30) rfl ?_
  refine wp_call (C := 3) (As := [aR 3 (0), aI (p), aI (y)]) (rest := [aI (zo_pfencerAt (0) (p) (x) M), aI (p), aR 0 (0)]) rq_26 (ev_pfencerAt (0) (p) (y) M ) rfl rfl (show clOK 26 47 0 0 0 3 3 = true by decide +kernel) rfl (show 3 ≤ 4 by decide) (fun _ => ⟨_, rfl⟩) rfl (c' := 0) (s' := 0) rfl rfl ?_
  refine wp_call (C := 0) (As := [aR 0 (0), aI (p), aI (zo_pfencerAt (0) (p) (x) M), aI (zo_pfencerAt (0) (p) (y) M)]) (rest := []) rq_26 (ev_badd (0) (p) (zo_pfencerAt (0) (p) (x) M) (zo_pfencerAt (0) (p) (y) M) M ) rfl rfl (show clOK 26 1 0 0 0 4 0 = true by decide +kernel) rfl (show 0 ≤ 4 by decide) (fun _ => ⟨_, rfl⟩) rfl (c' := 0) (s' := 0) rfl rfl ?_
  refine wp_seg 1 (P := none) (ls' := [some (aR 2 (0)), some (aI (p)), some (aI (s)), some (aI (x)), some (aI (wr (y + 1)))]) (st' := []) (σ' := (zm_badd (0) (p) (zo_pfencerAt (0) (p) (x) M) (zo_pfencerAt (0) (p) (y) M) M)) rq_26 rfl True.intro (i' := 33) rfl ?_
  refine wp_goto rq_26 rfl ?_
  rw [wr_eq (z := y + 1) (by omega) (by omega)]
  exact hq
theorem ab_r (hx : 0 ≤ x ∧ x ≤ 24) (hy : s ≤ y) (Q : Out → Mem → Prop) (hq : wp true 26 8 [some (aR 2 (0)), some (aI (p)), some (aI (s)), some (aI ((x + 1))), none] [] M 0 0 Q) : wp true 26 15 [some (aR 2 (0)), some (aI (p)), some (aI (s)), some (aI (x)), some (aI (y))] [] M 0 0 Q := by
  refine wp_seg 2 (P := none) (ls' := [some (aR 2 (0)), some (aI (p)), some (aI (s)), some (aI (x)), some (aI (y))]) (st' := [aI (s), aI (y)]) (σ' := M) rq_26 rfl True.intro (i' := 17) rfl ?_
  refine wp_icmp rq_26 rfl (fun _ => ?_) (fun (h1 : ¬ ((s) ≤ (y))) => absurd (show (s) ≤ (y) from by omega) h1)
  refine wp_seg 1 (P := none) (ls' := [some (aR 2 (0)), some (aI (p)), some (aI (s)), some (aI (wr (x + 1))), some (aI (y))]) (st' := []) (σ' := M) rq_26 rfl True.intro (i' := 35) rfl ?_
  refine wp_goto rq_26 rfl ?_
  rw [wr_eq (z := x + 1) (by omega) (by omega)]
  exact wp_weak (lessL_c (lessL_c (lessL_c (lessL_c (lessL_n lessL_0))))) hq
theorem pl_0 (Q : Out → Mem → Prop) (hq : wp true 25 42 [some (aR 2 (0)), some (aI (P)), some (aR 7 (184)), some (aI (0)), none, none] [] M 0 0 Q) : wp true 25 40 [some (aR 2 (0)), some (aI (P)), some (aR 7 (184)), some (aI (n)), none, none] [] M 0 0 Q := by
  refine wp_seg 2 (P := none) (ls' := [some (aR 2 (0)), some (aI (P)), some (aR 7 (184)), some (aI (0)), none, none]) (st' := []) (σ' := M) rq_25 rfl True.intro (i' := 42) rfl ?_
  exact hq
theorem pl_s (hp : 0 ≤ p ∧ p < P) (hP : P ≤ 6) (hab : Ev true 26 [aR 2 0, aI p] M (.inl none) M') (Q : Out → Mem → Prop) (hq : wp true 25 42 [some (aR 2 (0)), some (aI (P)), some (aR 7 (184)), some (aI ((p + 1))), none, none] [] M' 0 0 Q) : wp true 25 42 [some (aR 2 (0)), some (aI (P)), some (aR 7 (184)), some (aI (p)), none, none] [] M 0 0 Q := by
  refine wp_seg 2 (P := none) (ls' := [some (aR 2 (0)), some (aI (P)), some (aR 7 (184)), some (aI (p)), none, none]) (st' := [aI (P), aI (p)]) (σ' := M) rq_25 rfl True.intro (i' := 44) rfl ?_
  refine wp_icmp rq_25 rfl (fun (h1 : (P) ≤ (p)) => absurd h1 (show ¬ ((P) ≤ (p)) from by omega)) (fun _ => ?_)
  refine wp_seg 2 (P := none) (ls' := [some (aR 2 (0)), some (aI (P)), some (aR 7 (184)), some (aI (p)), none, none]) (st' := [aI (p), aR 2 (0)]) (σ' := M) rq_25 rfl True.intro (i' := 47) rfl ?_
  refine wp_call (C := 2) (As := [aR 2 (0), aI (p)]) (rest := []) rq_25 hab rfl rfl (show clOK 25 26 0 0 0 2 2 = true by decide +kernel) rfl (show 0 ≤ 4 by decide) (fun _ => ⟨_, rfl⟩) rfl (c' := 0) (s' := 0) rfl rfl ?_
  refine wp_seg 1 (P := none) (ls' := [some (aR 2 (0)), some (aI (P)), some (aR 7 (184)), some (aI (wr (p + 1))), none, none]) (st' := []) (σ' := M') rq_25 rfl True.intro (i' := 49) rfl ?_
  refine wp_goto rq_25 rfl ?_
  rw [wr_eq (z := p + 1) (by omega) (by omega)]
  exact hq
theorem pl_e (hp : P ≤ p) : wp true 25 42 [some (aR 2 (0)), some (aI (P)), some (aR 7 (184)), some (aI (p)), none, none] [] M 0 0 (fun o1 s1 => o1 = .inl none ∧ s1 = up M 2 0 0 1) := by
  refine wp_seg 2 (P := none) (ls' := [some (aR 2 (0)), some (aI (P)), some (aR 7 (184)), some (aI (p)), none, none]) (st' := [aI (P), aI (p)]) (σ' := M) rq_25 rfl True.intro (i' := 44) rfl ?_
  refine wp_icmp rq_25 rfl (fun _ => ?_) (fun (h1 : ¬ ((P) ≤ (p))) => absurd (show (P) ≤ (p) from by omega) h1)
  refine wp_seg 3 (P := none) (ls' := [some (aR 2 (0)), some (aI (P)), some (aR 7 (184)), some (aI (p)), none, none]) (st' := []) (σ' := (up M 2 (0) 0 (1))) rq_25 rfl True.intro (i' := 53) rfl ?_
  refine wp_vret rq_25 rfl rt_25 ⟨?_, ?_⟩
  · rfl
  · rfl
theorem pl_i (Q : Out → Mem → Prop) (hq : wp true 25 6 [some (aR 2 (0)), some (aI (P)), some (aR 7 (184)), some (aI (0)), none, none] [] (zm_popen 0 P M) 0 0 Q) : wp true 25 0 [some (aR 2 (0)), some (aI (P)), some (aR 7 (184)), none, none, none] [] M 0 0 Q := by
  refine wp_seg 3 (P := none) (ls' := [some (aR 2 (0)), some (aI (P)), some (aR 7 (184)), none, none, none]) (st' := [aI (P), aR 3 (0)]) (σ' := M) rq_25 rfl True.intro (i' := 3) rfl ?_
  refine wp_call (C := 3) (As := [aR 3 (0), aI (P)]) (rest := []) rq_25 (ev_popen (0) (P) M ) rfl rfl (show clOK 25 46 0 0 0 2 3 = true by decide +kernel) rfl (show 0 ≤ 4 by decide) (fun _ => ⟨_, rfl⟩) rfl (c' := 0) (s' := 0) rfl rfl ?_
  refine wp_seg 2 (P := none) (ls' := [some (aR 2 (0)), some (aI (P)), some (aR 7 (184)), some (aI (0)), none, none]) (st' := []) (σ' := (zm_popen (0) (P) M)) rq_25 rfl True.intro (i' := 6) rfl ?_
  exact hq
theorem mq_0 (Q : Out → Mem → Prop) (hq : wp true 174 53 [some (aR 11 (0)), some (aI (P)), some (aI (0)), none, none, none] [] M 0 0 Q) : wp true 174 51 [some (aR 11 (0)), some (aI (P)), some (aI (n)), none, none, none] [] M 0 0 Q := by
  refine wp_seg 2 (P := none) (ls' := [some (aR 11 (0)), some (aI (P)), some (aI (0)), none, none, none]) (st' := []) (σ' := M) rq_174 rfl True.intro (i' := 53) rfl ?_
  exact hq
theorem mq_p (hp : p < P) (hmo : Ev true 169 [aR 11 0, aI p] M (.inl (some (aI s))) M) (Q : Out → Mem → Prop) (hq : wp true 174 62 [some (aR 11 (0)), some (aI (P)), some (aI (p)), some (aI (s)), some (aI (0)), none] [] M 0 0 Q) : wp true 174 53 [some (aR 11 (0)), some (aI (P)), some (aI (p)), none, none, none] [] M 0 0 Q := by
  refine wp_seg 2 (P := none) (ls' := [some (aR 11 (0)), some (aI (P)), some (aI (p)), none, none, none]) (st' := [aI (P), aI (p)]) (σ' := M) rq_174 rfl True.intro (i' := 55) rfl ?_
  refine wp_icmp rq_174 rfl (fun (h1 : (P) ≤ (p)) => absurd h1 (show ¬ ((P) ≤ (p)) from by omega)) (fun _ => ?_)
  refine wp_seg 2 (P := none) (ls' := [some (aR 11 (0)), some (aI (P)), some (aI (p)), none, none, none]) (st' := [aI (p), aR 11 (0)]) (σ' := M) rq_174 rfl True.intro (i' := 58) rfl ?_
  refine wp_call (C := 11) (As := [aR 11 (0), aI (p)]) (rest := []) rq_174 hmo rfl rfl (show clOK 174 169 0 0 0 2 11 = true by decide +kernel) rfl (show 0 ≤ 4 by decide) (fun _ => ⟨_, rfl⟩) rfl (c' := 0) (s' := 0) rfl rfl ?_
  refine wp_seg 3 (P := none) (ls' := [some (aR 11 (0)), some (aI (P)), some (aI (p)), some (aI (s)), some (aI (0)), none]) (st' := []) (σ' := M) rq_174 rfl True.intro (i' := 62) rfl ?_
  exact hq
theorem mq_x (hx : 0 ≤ x ∧ x < s) (hs : s ≤ 24) (Q : Out → Mem → Prop) (hq : wp true 174 69 [some (aR 11 (0)), some (aI (P)), some (aI (p)), some (aI (s)), some (aI (x)), some (aI ((x + 1)))] [] M 0 0 Q) : wp true 174 62 [some (aR 11 (0)), some (aI (P)), some (aI (p)), some (aI (s)), some (aI (x)), none] [] M 0 0 Q := by
  refine wp_seg 2 (P := none) (ls' := [some (aR 11 (0)), some (aI (P)), some (aI (p)), some (aI (s)), some (aI (x)), none]) (st' := [aI (s), aI (x)]) (σ' := M) rq_174 rfl True.intro (i' := 64) rfl ?_
  refine wp_icmp rq_174 rfl (fun (h1 : (s) ≤ (x)) => absurd h1 (show ¬ ((s) ≤ (x)) from by omega)) (fun _ => ?_)
  refine wp_seg 4 (P := none) (ls' := [some (aR 11 (0)), some (aI (P)), some (aI (p)), some (aI (s)), some (aI (x)), some (aI (wr ((x) + (1))))]) (st' := []) (σ' := M) rq_174 rfl True.intro (i' := 69) rfl ?_
  rw [wr_eq (z := x + 1) (by omega) (by omega)]
  exact hq
theorem mq_y (hy : 0 ≤ y ∧ y < s) (hs : s ≤ 24) (hB : 0 ≤ M 13 186 3 ∧ M 13 186 3 < 307) (hl1 : Ev true 172 [aR 11 0, aI p, aI x] M (.inl (some (aI l))) M) (hr1 : Ev true 172 [aR 11 0, aI p, aI y] M (.inl (some (aI r))) M) (Q : Out → Mem → Prop) (hq : wp true 174 69 [some (aR 11 (0)), some (aI (P)), some (aI (p)), some (aI (s)), some (aI (x)), some (aI ((y + 1)))] [] (zm_mboutComes l r p M) 0 0 Q) : wp true 174 69 [some (aR 11 (0)), some (aI (P)), some (aI (p)), some (aI (s)), some (aI (x)), some (aI (y))] [] M 0 0 Q := by
  refine wp_seg 2 (P := none) (ls' := [some (aR 11 (0)), some (aI (P)), some (aI (p)), some (aI (s)), some (aI (x)), some (aI (y))]) (st' := [aI (s), aI (y)]) (σ' := M) rq_174 rfl True.intro (i' := 71) rfl ?_
  refine wp_icmp rq_174 rfl (fun (h1 : (s) ≤ (y)) => absurd h1 (show ¬ ((s) ≤ (y)) from by omega)) (fun _ => ?_)
  refine wp_seg 4 (P := none) (ls' := [some (aR 11 (0)), some (aI (P)), some (aI (p)), some (aI (s)), some (aI (x)), some (aI (y))]) (st' := [aI (x), aI (p), aR 11 (0), aR 11 (0)]) (σ' := M) rq_174 rfl True.intro (i' := 76) rfl ?_
  refine wp_call (C := 11) (As := [aR 11 (0), aI (p), aI (x)]) (rest := [aR 11 (0)]) rq_174 hl1 rfl rfl (show clOK 174 172 0 0 0 3 11 = true by decide +kernel) rfl (show 1 ≤ 4 by decide) (fun _ => ⟨_, rfl⟩) rfl (c' := 0) (s' := 0) rfl rfl ?_
  refine wp_seg 3 (P := none) (ls' := [some (aR 11 (0)), some (aI (P)), some (aI (p)), some (aI (s)), some (aI (x)), some (aI (y))]) (st' := [aI (y), aI (p), aR 11 (0), aI (l), aR 11 (0)]) (σ' := M) rq_174 rfl True.intro (i' := 80) rfl ?_
  refine wp_call (C := 11) (As := [aR 11 (0), aI (p), aI (y)]) (rest := [aI (l), aR 11 (0)]) rq_174 hr1 rfl rfl (show clOK 174 172 0 0 0 3 11 = true by decide +kernel) rfl (show 2 ≤ 4 by decide) (fun _ => ⟨_, rfl⟩) rfl (c' := 0) (s' := 0) rfl rfl ?_
  refine wp_seg 1 (P := none) (ls' := [some (aR 11 (0)), some (aI (P)), some (aI (p)), some (aI (s)), some (aI (x)), some (aI (y))]) (st' := [aI (p), aI (r), aI (l), aR 11 (0)]) (σ' := M) rq_174 rfl True.intro (i' := 82) rfl ?_
  refine wp_call (C := 11) (As := [aR 11 (0), aI (l), aI (r), aI (p)]) (rest := []) rq_174 (ev_mboutComes (l) (r) (p) M hB) rfl rfl (show clOK 174 173 0 0 0 4 11 = true by decide +kernel) rfl (show 0 ≤ 4 by decide) (fun _ => ⟨_, rfl⟩) rfl (c' := 0) (s' := 0) rfl rfl ?_
  refine wp_seg 1 (P := none) (ls' := [some (aR 11 (0)), some (aI (P)), some (aI (p)), some (aI (s)), some (aI (x)), some (aI (wr (y + 1)))]) (st' := []) (σ' := (zm_mboutComes (l) (r) (p) M)) rq_174 rfl True.intro (i' := 84) rfl ?_
  refine wp_goto rq_174 rfl ?_
  rw [wr_eq (z := y + 1) (by omega) (by omega)]
  exact hq
theorem mq_r (hx : 0 ≤ x ∧ x ≤ 24) (hy : s ≤ y) (Q : Out → Mem → Prop) (hq : wp true 174 62 [some (aR 11 (0)), some (aI (P)), some (aI (p)), some (aI (s)), some (aI ((x + 1))), none] [] M 0 0 Q) : wp true 174 69 [some (aR 11 (0)), some (aI (P)), some (aI (p)), some (aI (s)), some (aI (x)), some (aI (y))] [] M 0 0 Q := by
  refine wp_seg 2 (P := none) (ls' := [some (aR 11 (0)), some (aI (P)), some (aI (p)), some (aI (s)), some (aI (x)), some (aI (y))]) (st' := [aI (s), aI (y)]) (σ' := M) rq_174 rfl True.intro (i' := 71) rfl ?_
  refine wp_icmp rq_174 rfl (fun _ => ?_) (fun (h1 : ¬ ((s) ≤ (y))) => absurd (show (s) ≤ (y) from by omega) h1)
  refine wp_seg 1 (P := none) (ls' := [some (aR 11 (0)), some (aI (P)), some (aI (p)), some (aI (s)), some (aI (wr (x + 1))), some (aI (y))]) (st' := []) (σ' := M) rq_174 rfl True.intro (i' := 86) rfl ?_
  refine wp_goto rq_174 rfl ?_
  rw [wr_eq (z := x + 1) (by omega) (by omega)]
  exact wp_weak (lessL_c (lessL_c (lessL_c (lessL_c (lessL_c (lessL_n lessL_0)))))) hq
theorem mq_n (hp : 0 ≤ p ∧ p ≤ 6) (hx : s ≤ x) (Q : Out → Mem → Prop) (hq : wp true 174 53 [some (aR 11 (0)), some (aI (P)), some (aI ((p + 1))), none, none, none] [] M 0 0 Q) : wp true 174 62 [some (aR 11 (0)), some (aI (P)), some (aI (p)), some (aI (s)), some (aI (x)), none] [] M 0 0 Q := by
  refine wp_seg 2 (P := none) (ls' := [some (aR 11 (0)), some (aI (P)), some (aI (p)), some (aI (s)), some (aI (x)), none]) (st' := [aI (s), aI (x)]) (σ' := M) rq_174 rfl True.intro (i' := 64) rfl ?_
  refine wp_icmp rq_174 rfl (fun _ => ?_) (fun (h1 : ¬ ((s) ≤ (x))) => absurd (show (s) ≤ (x) from by omega) h1)
  refine wp_seg 1 (P := none) (ls' := [some (aR 11 (0)), some (aI (P)), some (aI (wr (p + 1))), some (aI (s)), some (aI (x)), none]) (st' := []) (σ' := M) rq_174 rfl True.intro (i' := 88) rfl ?_
  refine wp_goto rq_174 rfl ?_
  rw [wr_eq (z := p + 1) (by omega) (by omega)]
  exact wp_weak (lessL_c (lessL_c (lessL_c (lessL_n (lessL_n (lessL_n lessL_0)))))) hq
theorem mq_e (hp : P ≤ p) : wp true 174 53 [some (aR 11 (0)), some (aI (P)), some (aI (p)), none, none, none] [] M 0 0 (fun o1 s1 => o1 = .inl (some (aI ((up (up M 13 186 2 P) 13 186 0 1) 13 186 3))) ∧ s1 = up (up M 13 186 2 P) 13 186 0 1) := by
  refine wp_seg 2 (P := none) (ls' := [some (aR 11 (0)), some (aI (P)), some (aI (p)), none, none, none]) (st' := [aI (P), aI (p)]) (σ' := M) rq_174 rfl True.intro (i' := 55) rfl ?_
  refine wp_icmp rq_174 rfl (fun _ => ?_) (fun (h1 : ¬ ((P) ≤ (p))) => absurd (show (P) ≤ (p) from by omega) h1)
  refine wp_seg 14 (P := some ((0 ≤ (2) ∧ (2) < rowLen (186)) ∧ (0 ≤ (0) ∧ (0) < rowLen (186)) ∧ (0 ≤ (3) ∧ (3) < alen (up (up M 13 (186) (2) (P)) 13 (186) (0) (1)) 13 (186)))) (ls' := [some (aR 11 (0)), some (aI (P)), some (aI (p)), none, none, none]) (st' := [aI ((up (up M 13 (186) (2) (P)) 13 (186) (0) (1)) 13 (186) (3))]) (σ' := (up (up M 13 (186) (2) (P)) 13 (186) (0) (1))) rq_174 rfl ?_ (i' := 103) rfl ?_
  · show (0 ≤ (2) ∧ (2) < rowLen (186)) ∧ (0 ≤ (0) ∧ (0) < rowLen (186)) ∧ (0 ≤ (3) ∧ (3) < alen (up (up M 13 (186) (2) (P)) 13 (186) (0) (1)) 13 (186))
    (first | decide | exact ⟨by decide, (show (1 : Int) < 3330 by decide)⟩ | exact ⟨by decide, (show (2 : Int) < 3330 by decide)⟩ | exact ⟨by decide, (show (3 : Int) < 3330 by decide)⟩ | exact ⟨by decide, (show (0 : Int) < 3330 by decide)⟩ | exact ⟨⟨by decide, (show (2 : Int) < 3330 by decide)⟩, ⟨by decide, (show (0 : Int) < 3330 by decide)⟩, ⟨by decide, (show (3 : Int) < 3330 by decide)⟩⟩ | exact ⟨⟨by decide, (show (0 : Int) < 3330 by decide)⟩, ⟨by decide, (show (3 : Int) < 3330 by decide)⟩⟩)
  refine wp_iret rq_174 rfl rt_174 ⟨?_, ?_⟩
  · rfl
  · rfl
end PB
