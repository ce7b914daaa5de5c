/-! drawPools: the methods. -/
section DPm
variable {p n : Int} {σ M F : Mem}

theorem xp_1 (h : ¬ (1 ≤ p ∧ p ≤ 6)) : Ev true 106 [aR 10 0, aI p] σ (.inr 0) σ := by
  show wp true 106 0 [some (aR 10 (0)), some (aI (p))] [] σ 0 0 _
  refine wp_seg 2 (P := none) (ls' := [some (aR 10 (0)), some (aI (p))]) (st' := [aI (1), aI (p)]) (σ' := σ) rq_106 rfl True.intro (i' := 2) rfl ?_
  refine wp_icmp rq_106 rfl (fun (h1 : (p) < 1) => ?_) (fun (h1 : ¬ ((p) < 1)) => ?_)
  · refine wp_throw rq_106 rfl (hcat_lt (by decide)) (show 0 ≤ 4 by decide) (by decide +kernel) (by decide +kernel) (by decide +kernel) ⟨?_, ?_⟩
    · rfl
    · rfl
  · refine wp_seg 2 (P := none) (ls' := [some (aR 10 (0)), some (aI (p))]) (st' := [aI (6), aI (p)]) (σ' := σ) rq_106 rfl True.intro (i' := 5) rfl ?_
    refine wp_icmp rq_106 rfl (fun (h2 : (p) ≤ 6) => ?_) (fun (h2 : ¬ ((p) ≤ 6)) => ?_)
    · exact absurd ‹p ≤ 6› (by omega)
    · refine wp_throw rq_106 rfl (hcat_lt (by decide)) (show 0 ≤ 4 by decide) (by decide +kernel) (by decide +kernel) (by decide +kernel) ⟨?_, ?_⟩
      · rfl
      · rfl
theorem xp_2 (h1 : 1 ≤ p ∧ p ≤ 6) (hw : wr (p * 3) = 3 * p) (h : ¬ σ 2 0 0 = 0 ∨ σ 6 0 0 < 3 * p) : Ev true 106 [aR 10 0, aI p] σ (.inr 1) σ := by
  show wp true 106 0 [some (aR 10 (0)), some (aI (p))] [] σ 0 0 _
  refine wp_seg 2 (P := none) (ls' := [some (aR 10 (0)), some (aI (p))]) (st' := [aI (1), aI (p)]) (σ' := σ) rq_106 rfl True.intro (i' := 2) rfl ?_
  refine wp_icmp rq_106 rfl (fun (h1 : (p) < 1) => absurd h1 (show ¬ ((p) < 1) from by omega)) (fun _ => ?_)
  refine wp_seg 2 (P := none) (ls' := [some (aR 10 (0)), some (aI (p))]) (st' := [aI (6), aI (p)]) (σ' := σ) rq_106 rfl True.intro (i' := 5) rfl ?_
  refine wp_icmp rq_106 rfl (fun _ => ?_) (fun (h2 : ¬ ((p) ≤ 6)) => absurd (show (p) ≤ 6 from by omega) h2)
  refine wp_seg 3 (P := none) (ls' := [some (aR 10 (0)), some (aI (p))]) (st' := [aI (σ 2 (0) 0)]) (σ' := σ) rq_106 rfl True.intro (i' := 14) rfl ?_
  refine wp_if rq_106 rfl (fun (h3 : ¬ (σ 2 (0) 0) = 0) => ?_) (fun (h3 : ¬ (¬ (σ 2 (0) 0) = 0)) => ?_)
  · refine wp_throw rq_106 rfl (hcat_lt (by decide)) (show 0 ≤ 4 by decide) (by decide +kernel) (by decide +kernel) (by decide +kernel) ⟨?_, ?_⟩
    · rfl
    · rfl
  · refine wp_seg 7 (P := none) (ls' := [some (aR 10 (0)), some (aI (p))]) (st' := [aI (wr ((p) * (3))), aI (σ 6 (0) 0)]) (σ' := σ) rq_106 rfl True.intro (i' := 22) rfl ?_
    refine wp_icmp rq_106 rfl (fun (h4 : (wr ((p) * (3))) ≤ (σ 6 (0) 0)) => ?_) (fun (h4 : ¬ ((wr ((p) * (3))) ≤ (σ 6 (0) 0))) => ?_)
    · exact absurd h (by omega)
    · refine wp_throw rq_106 rfl (hcat_lt (by decide)) (show 0 ≤ 4 by decide) (by decide +kernel) (by decide +kernel) (by decide +kernel) ⟨?_, ?_⟩
      · rfl
      · rfl
theorem xp_3 (h1 : 1 ≤ p ∧ p ≤ 6) (hw : wr (p * 3) = 3 * p) (h : σ 2 0 0 = 0 ∧ 3 * p ≤ σ 6 0 0) (hA : 0 ≤ zm_tally 0 (zm_keep 0 σ) 6 0 0 ∧ zm_tally 0 (zm_keep 0 σ) 6 0 0 ≤ 24) (hFP : Ev true 25 [aR 2 0, aI p, aR 7 184] (zm_rankAll (zm_keep 0 σ)) (.inl none) F) : Ev true 106 [aR 10 0, aI p] σ (.inl (some (aI (F 0 0 0)))) F := by
  show wp true 106 0 [some (aR 10 (0)), some (aI (p))] [] σ 0 0 _
  refine wp_seg 2 (P := none) (ls' := [some (aR 10 (0)), some (aI (p))]) (st' := [aI (1), aI (p)]) (σ' := σ) rq_106 rfl True.intro (i' := 2) rfl ?_
  refine wp_icmp rq_106 rfl (fun (h1 : (p) < 1) => absurd h1 (show ¬ ((p) < 1) from by omega)) (fun _ => ?_)
  refine wp_seg 2 (P := none) (ls' := [some (aR 10 (0)), some (aI (p))]) (st' := [aI (6), aI (p)]) (σ' := σ) rq_106 rfl True.intro (i' := 5) rfl ?_
  refine wp_icmp rq_106 rfl (fun _ => ?_) (fun (h2 : ¬ ((p) ≤ 6)) => absurd (show (p) ≤ 6 from by omega) h2)
  refine wp_seg 3 (P := none) (ls' := [some (aR 10 (0)), some (aI (p))]) (st' := [aI (σ 2 (0) 0)]) (σ' := σ) rq_106 rfl True.intro (i' := 14) rfl ?_
  refine wp_if rq_106 rfl (fun (h3 : ¬ (σ 2 (0) 0) = 0) => absurd h3 (show ¬ (¬ (σ 2 (0) 0) = 0) from by omega)) (fun _ => ?_)
  refine wp_seg 7 (P := none) (ls' := [some (aR 10 (0)), some (aI (p))]) (st' := [aI (wr ((p) * (3))), aI (σ 6 (0) 0)]) (σ' := σ) rq_106 rfl True.intro (i' := 22) rfl ?_
  refine wp_icmp rq_106 rfl (fun _ => ?_) (fun (h4 : ¬ ((wr ((p) * (3))) ≤ (σ 6 (0) 0))) => absurd (show (wr ((p) * (3))) ≤ (σ 6 (0) 0) from by (rw [hw]; omega)) h4)
  refine wp_seg 4 (P := none) (ls' := [some (aR 10 (0)), some (aI (p))]) (st' := [aR 2 (0), aR 1 (0)]) (σ' := σ) rq_106 rfl True.intro (i' := 32) rfl ?_
  refine wp_call (C := 1) (As := [aR 1 (0), aR 2 (0)]) (rest := []) rq_106 (ev_keep (0) σ ) rfl rfl (show clOK 106 21 0 0 0 2 1 = true by decide +kernel) rfl (show 0 ≤ 4 by decide) (fun _ => ⟨_, rfl⟩) rfl (c' := 0) (s' := 0) rfl rfl ?_
  refine wp_seg 4 (P := none) (ls' := [some (aR 10 (0)), some (aI (p))]) (st' := [aR 2 (0), aR 8 (0)]) (σ' := (zm_keep (0) σ)) rq_106 rfl True.intro (i' := 37) rfl ?_
  refine wp_call (C := 8) (As := [aR 8 (0), aR 2 (0)]) (rest := []) rq_106 (ev_rankAll (zm_keep (0) σ) hA) rfl rfl (show clOK 106 91 0 0 0 2 8 = true by decide +kernel) rfl (show 0 ≤ 4 by decide) (fun _ => ⟨_, rfl⟩) rfl (c' := 0) (s' := 0) rfl rfl ?_
  refine wp_seg 6 (P := none) (ls' := [some (aR 10 (0)), some (aI (p))]) (st' := [aR 7 (184), aI (p), aR 2 (0)]) (σ' := (zm_rankAll (zm_keep (0) σ))) rq_106 rfl True.intro (i' := 44) rfl ?_
  refine wp_call (C := 2) (As := [aR 2 (0), aI (p), aR 7 (184)]) (rest := []) rq_106 hFP rfl rfl (show clOK 106 25 0 0 0 3 2 = true by decide +kernel) rfl (show 0 ≤ 4 by decide) (fun _ => ⟨_, rfl⟩) rfl (c' := 0) (s' := 0) rfl rfl ?_
  refine wp_seg 4 (P := none) (ls' := [some (aR 10 (0)), some (aI (p))]) (st' := [aI (F 0 (0) 0)]) (σ' := F) rq_106 rfl True.intro (i' := 49) rfl ?_
  refine wp_iret rq_106 rfl rt_106 ⟨?_, ?_⟩
  · rfl
  · rfl
theorem mp_1 {q : Int} (hin : Ev true 154 [aI p, aI 1, aI 6] M (.inl (some (aI q))) M) (hq : q = 0) : Ev true 174 [aR 11 0, aI p] M (.inl (some (aI 0))) (up M 11 0 6 1) := by
  show wp true 174 0 [some (aR 11 (0)), some (aI (p)), none, none, none, none] [] M 0 0 _
  refine wp_seg 4 (P := none) (ls' := [some (aR 11 (0)), some (aI (p)), none, none, none, none]) (st' := [aI (6), aI (1), aI (p), aR 11 (0)]) (σ' := M) rq_174 rfl True.intro (i' := 4) rfl ?_
  refine wp_call (C := 0) (As := [aI (p), aI (1), aI (6)]) (rest := [aR 11 (0)]) rq_174 hin rfl rfl (show clOK 174 154 2 0 0 3 0 = true by decide +kernel) rfl (show 1 ≤ 4 by decide) (fun h => absurd rfl h) rfl (c' := 0) (s' := 0) rfl rfl ?_
  refine wp_if rq_174 rfl (fun _ => ?_) (fun (h1 : ¬ ((q) = 0)) => absurd (show (q) = 0 from hq) h1)
  refine wp_seg 4 (P := none) (ls' := [some (aR 11 (0)), some (aI (p)), none, none, none, none]) (st' := [aI ((up M 11 (0) 6 (1)) 11 (0) 6)]) (σ' := (up M 11 (0) 6 (1))) rq_174 rfl True.intro (i' := 27) rfl ?_
  refine wp_if rq_174 rfl (fun (h2 : ((up M 11 (0) 6 (1)) 11 (0) 6) ≤ 0) => absurd h2 (show ¬ (((up M 11 (0) 6 (1)) 11 (0) 6) ≤ 0) from by rw [up_s]; decide)) (fun _ => ?_)
  refine wp_seg 1 (P := none) (ls' := [some (aR 11 (0)), some (aI (p)), none, none, none, none]) (st' := [aI (0)]) (σ' := (up M 11 (0) 6 (1))) rq_174 rfl True.intro (i' := 29) rfl ?_
  refine wp_iret rq_174 rfl rt_174 ⟨?_, ?_⟩
  · rfl
  · rfl
theorem mp_2 {q : Int} (hin : Ev true 154 [aI p, aI 1, aI 6] M (.inl (some (aI q))) M) (hq : q = 1) (hB0 : ¬ M 13 186 0 = 0) (h1 : 1 ≤ p) : Ev true 174 [aR 11 0, aI p] M (.inl (some (aI 0))) (up M 11 0 6 2) := by
  show wp true 174 0 [some (aR 11 (0)), some (aI (p)), none, none, none, none] [] M 0 0 _
  refine wp_seg 4 (P := none) (ls' := [some (aR 11 (0)), some (aI (p)), none, none, none, none]) (st' := [aI (6), aI (1), aI (p), aR 11 (0)]) (σ' := M) rq_174 rfl True.intro (i' := 4) rfl ?_
  refine wp_call (C := 0) (As := [aI (p), aI (1), aI (6)]) (rest := [aR 11 (0)]) rq_174 hin rfl rfl (show clOK 174 154 2 0 0 3 0 = true by decide +kernel) rfl (show 1 ≤ 4 by decide) (fun h => absurd rfl h) rfl (c' := 0) (s' := 0) rfl rfl ?_
  refine wp_if rq_174 rfl (fun (h1 : (q) = 0) => absurd h1 (show ¬ ((q) = 0) from by omega)) (fun _ => ?_)
  refine wp_seg 4 (P := some (0 ≤ (0) ∧ (0) < alen M 13 (186))) (ls' := [some (aR 11 (0)), some (aI (p)), none, none, none, none]) (st' := [aI (M 13 (186) (0)), aR 11 (0)]) (σ' := M) rq_174 rfl ?_ (i' := 10) rfl ?_
  · show 0 ≤ (0) ∧ (0) < alen M 13 (186)
    (first | decide | (show (p : Int) ≠ 0; omega) | exact ⟨by decide, (show (1 : Int) < 3330 by decide)⟩ | exact ⟨by decide, (show (0 : Int) < 3330 by decide)⟩ | exact ⟨⟨by decide, (show (1 : Int) < 3330 by decide)⟩, (show (p : Int) ≠ 0 by omega)⟩)
  refine wp_if rq_174 rfl (fun _ => ?_) (fun (h2 : ¬ (¬ (M 13 (186) (0)) = 0)) => absurd (show ¬ (M 13 (186) (0)) = 0 from hB0) h2)
  refine wp_seg 1 (P := none) (ls' := [some (aR 11 (0)), some (aI (p)), none, none, none, none]) (st' := [aI (2), aR 11 (0)]) (σ' := M) rq_174 rfl True.intro (i' := 20) rfl ?_
  refine wp_goto rq_174 rfl ?_
  refine wp_seg 3 (P := none) (ls' := [some (aR 11 (0)), some (aI (p)), none, none, none, none]) (st' := [aI ((up M 11 (0) 6 (2)) 11 (0) 6)]) (σ' := (up M 11 (0) 6 (2))) rq_174 rfl True.intro (i' := 27) rfl ?_
  refine wp_if rq_174 rfl (fun (h3 : ((up M 11 (0) 6 (2)) 11 (0) 6) ≤ 0) => absurd h3 (show ¬ (((up M 11 (0) 6 (2)) 11 (0) 6) ≤ 0) from by rw [up_s]; decide)) (fun _ => ?_)
  refine wp_seg 1 (P := none) (ls' := [some (aR 11 (0)), some (aI (p)), none, none, none, none]) (st' := [aI (0)]) (σ' := (up M 11 (0) 6 (2))) rq_174 rfl True.intro (i' := 29) rfl ?_
  refine wp_iret rq_174 rfl rt_174 ⟨?_, ?_⟩
  · rfl
  · rfl
theorem mp_3 {q : Int} (hin : Ev true 154 [aI p, aI 1, aI 6] M (.inl (some (aI q))) M) (hq : q = 1) (hB0 : M 13 186 0 = 0) (hB1 : wr ((M 13 186 1).tdiv p) < 3) (h1 : 1 ≤ p) : Ev true 174 [aR 11 0, aI p] M (.inl (some (aI 0))) (up M 11 0 6 2) := by
  show wp true 174 0 [some (aR 11 (0)), some (aI (p)), none, none, none, none] [] M 0 0 _
  refine wp_seg 4 (P := none) (ls' := [some (aR 11 (0)), some (aI (p)), none, none, none, none]) (st' := [aI (6), aI (1), aI (p), aR 11 (0)]) (σ' := M) rq_174 rfl True.intro (i' := 4) rfl ?_
  refine wp_call (C := 0) (As := [aI (p), aI (1), aI (6)]) (rest := [aR 11 (0)]) rq_174 hin rfl rfl (show clOK 174 154 2 0 0 3 0 = true by decide +kernel) rfl (show 1 ≤ 4 by decide) (fun h => absurd rfl h) rfl (c' := 0) (s' := 0) rfl rfl ?_
  refine wp_if rq_174 rfl (fun (h1 : (q) = 0) => absurd h1 (show ¬ ((q) = 0) from by omega)) (fun _ => ?_)
  refine wp_seg 4 (P := some (0 ≤ (0) ∧ (0) < alen M 13 (186))) (ls' := [some (aR 11 (0)), some (aI (p)), none, none, none, none]) (st' := [aI (M 13 (186) (0)), aR 11 (0)]) (σ' := M) rq_174 rfl ?_ (i' := 10) rfl ?_
  · show 0 ≤ (0) ∧ (0) < alen M 13 (186)
    (first | decide | (show (p : Int) ≠ 0; omega) | exact ⟨by decide, (show (1 : Int) < 3330 by decide)⟩ | exact ⟨by decide, (show (0 : Int) < 3330 by decide)⟩ | exact ⟨⟨by decide, (show (1 : Int) < 3330 by decide)⟩, (show (p : Int) ≠ 0 by omega)⟩)
  refine wp_if rq_174 rfl (fun (h2 : ¬ (M 13 (186) (0)) = 0) => absurd h2 (show ¬ (¬ (M 13 (186) (0)) = 0) from by omega)) (fun _ => ?_)
  refine wp_seg 7 (P := some ((0 ≤ (1) ∧ (1) < alen M 13 (186)) ∧ ((p : Int) ≠ 0))) (ls' := [some (aR 11 (0)), some (aI (p)), none, none, none, none]) (st' := [aI (3), aI (wr ((M 13 (186) (1)).tdiv (p))), aR 11 (0)]) (σ' := M) rq_174 rfl ?_ (i' := 18) rfl ?_
  · show (0 ≤ (1) ∧ (1) < alen M 13 (186)) ∧ ((p : Int) ≠ 0)
    (first | decide | (show (p : Int) ≠ 0; omega) | exact ⟨by decide, (show (1 : Int) < 3330 by decide)⟩ | exact ⟨by decide, (show (0 : Int) < 3330 by decide)⟩ | exact ⟨⟨by decide, (show (1 : Int) < 3330 by decide)⟩, (show (p : Int) ≠ 0 by omega)⟩)
  refine wp_icmp rq_174 rfl (fun (h3 : 3 ≤ (wr ((M 13 (186) (1)).tdiv (p)))) => absurd h3 (show ¬ (3 ≤ (wr ((M 13 (186) (1)).tdiv (p)))) from by omega)) (fun _ => ?_)
  refine wp_seg 1 (P := none) (ls' := [some (aR 11 (0)), some (aI (p)), none, none, none, none]) (st' := [aI (2), aR 11 (0)]) (σ' := M) rq_174 rfl True.intro (i' := 20) rfl ?_
  refine wp_goto rq_174 rfl ?_
  refine wp_seg 3 (P := none) (ls' := [some (aR 11 (0)), some (aI (p)), none, none, none, none]) (st' := [aI ((up M 11 (0) 6 (2)) 11 (0) 6)]) (σ' := (up M 11 (0) 6 (2))) rq_174 rfl True.intro (i' := 27) rfl ?_
  refine wp_if rq_174 rfl (fun (h4 : ((up M 11 (0) 6 (2)) 11 (0) 6) ≤ 0) => absurd h4 (show ¬ (((up M 11 (0) 6 (2)) 11 (0) 6) ≤ 0) from by rw [up_s]; decide)) (fun _ => ?_)
  refine wp_seg 1 (P := none) (ls' := [some (aR 11 (0)), some (aI (p)), none, none, none, none]) (st' := [aI (0)]) (σ' := (up M 11 (0) 6 (2))) rq_174 rfl True.intro (i' := 29) rfl ?_
  refine wp_iret rq_174 rfl rt_174 ⟨?_, ?_⟩
  · rfl
  · rfl
theorem mp_4 {q : Int} (hin : Ev true 154 [aI p, aI 1, aI 6] M (.inl (some (aI q))) M) (hq : q = 1) (hB0 : M 13 186 0 = 0) (hB1 : 3 ≤ wr ((M 13 186 1).tdiv p)) (h1 : 1 ≤ p) (hp : 0 ≤ (up M 11 0 6 0) 11 0 4 ∧ (up M 11 0 6 0) 11 0 4 ≤ 8) (Q : Out → Mem → Prop) (hQ : wp true 174 34 [some (aR 11 (0)), some (aI (p)), some (aI (0)), none, none, none] [] (zm_mchanges (up M 11 0 6 0)) 0 0 Q) : wp true 174 0 [some (aR 11 (0)), some (aI (p)), none, none, none, none] [] M 0 0 Q := by
  refine wp_seg 4 (P := none) (ls' := [some (aR 11 (0)), some (aI (p)), none, none, none, none]) (st' := [aI (6), aI (1), aI (p), aR 11 (0)]) (σ' := M) rq_174 rfl True.intro (i' := 4) rfl ?_
  refine wp_call (C := 0) (As := [aI (p), aI (1), aI (6)]) (rest := [aR 11 (0)]) rq_174 hin rfl rfl (show clOK 174 154 2 0 0 3 0 = true by decide +kernel) rfl (show 1 ≤ 4 by decide) (fun h => absurd rfl h) rfl (c' := 0) (s' := 0) rfl rfl ?_
  refine wp_if rq_174 rfl (fun (h1 : (q) = 0) => absurd h1 (show ¬ ((q) = 0) from by omega)) (fun _ => ?_)
  refine wp_seg 4 (P := some (0 ≤ (0) ∧ (0) < alen M 13 (186))) (ls' := [some (aR 11 (0)), some (aI (p)), none, none, none, none]) (st' := [aI (M 13 (186) (0)), aR 11 (0)]) (σ' := M) rq_174 rfl ?_ (i' := 10) rfl ?_
  · show 0 ≤ (0) ∧ (0) < alen M 13 (186)
    (first | decide | (show (p : Int) ≠ 0; omega) | exact ⟨by decide, (show (1 : Int) < 3330 by decide)⟩ | exact ⟨by decide, (show (0 : Int) < 3330 by decide)⟩ | exact ⟨⟨by decide, (show (1 : Int) < 3330 by decide)⟩, (show (p : Int) ≠ 0 by omega)⟩)
  refine wp_if rq_174 rfl (fun (h2 : ¬ (M 13 (186) (0)) = 0) => absurd h2 (show ¬ (¬ (M 13 (186) (0)) = 0) from by omega)) (fun _ => ?_)
  refine wp_seg 7 (P := some ((0 ≤ (1) ∧ (1) < alen M 13 (186)) ∧ ((p : Int) ≠ 0))) (ls' := [some (aR 11 (0)), some (aI (p)), none, none, none, none]) (st' := [aI (3), aI (wr ((M 13 (186) (1)).tdiv (p))), aR 11 (0)]) (σ' := M) rq_174 rfl ?_ (i' := 18) rfl ?_
  · show (0 ≤ (1) ∧ (1) < alen M 13 (186)) ∧ ((p : Int) ≠ 0)
    (first | decide | (show (p : Int) ≠ 0; omega) | exact ⟨by decide, (show (1 : Int) < 3330 by decide)⟩ | exact ⟨by decide, (show (0 : Int) < 3330 by decide)⟩ | exact ⟨⟨by decide, (show (1 : Int) < 3330 by decide)⟩, (show (p : Int) ≠ 0 by omega)⟩)
  refine wp_icmp rq_174 rfl (fun _ => ?_) (fun (h3 : ¬ (3 ≤ (wr ((M 13 (186) (1)).tdiv (p))))) => absurd (show 3 ≤ (wr ((M 13 (186) (1)).tdiv (p))) from by omega) h3)
  refine wp_seg 1 (P := none) (ls' := [some (aR 11 (0)), some (aI (p)), none, none, none, none]) (st' := [aI (0), aR 11 (0)]) (σ' := M) rq_174 rfl True.intro (i' := 22) rfl ?_
  refine wp_goto rq_174 rfl ?_
  refine wp_seg 3 (P := none) (ls' := [some (aR 11 (0)), some (aI (p)), none, none, none, none]) (st' := [aI ((up M 11 (0) 6 (0)) 11 (0) 6)]) (σ' := (up M 11 (0) 6 (0))) rq_174 rfl True.intro (i' := 27) rfl ?_
  refine wp_if rq_174 rfl (fun _ => ?_) (fun (h4 : ¬ (((up M 11 (0) 6 (0)) 11 (0) 6) ≤ 0)) => absurd (show ((up M 11 (0) 6 (0)) 11 (0) 6) ≤ 0 from by rw [up_s]; decide) h4)
  refine wp_seg 1 (P := none) (ls' := [some (aR 11 (0)), some (aI (p)), none, none, none, none]) (st' := [aR 11 (0)]) (σ' := (up M 11 (0) 6 (0))) rq_174 rfl True.intro (i' := 31) rfl ?_
  refine wp_call (C := 11) (As := [aR 11 (0)]) (rest := []) rq_174 (ev_mchanges (up M 11 (0) 6 (0)) hp) rfl rfl (show clOK 174 160 0 0 0 1 11 = true by decide +kernel) rfl (show 0 ≤ 4 by decide) (fun _ => ⟨_, rfl⟩) rfl (c' := 0) (s' := 0) rfl rfl ?_
  refine wp_seg 2 (P := none) (ls' := [some (aR 11 (0)), some (aI (p)), some (aI (0)), none, none, none]) (st' := []) (σ' := (zm_mchanges (up M 11 (0) 6 (0)))) rq_174 rfl True.intro (i' := 34) rfl ?_
  exact hQ
end DPm
