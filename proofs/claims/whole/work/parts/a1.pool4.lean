/-! The strongest, before the pools are drawn; one placing. -/
section Str
variable {N x y f b r P j n p : Int} {K X Y M M' : Mem} {c : Cs} {g : Gs}
theorem cnt_00 (h3 : Y 13 186 3 = 0) (w k : Int) : cntG Y w k = 0 := by
  unfold cntG
  rw [h3, sumTo_0]
  rfl
theorem cmp_0 (hk : KP N (cv K 0) g) (hY : Y 13 186 = g) (h3 : g 3 = 0) (hx : 0 ≤ x ∧ x < g 1) (hy : 0 ≤ y ∧ y < g 1) : cmB (wst K (cntG Y)) x y = true ↔ (gf g x 1 < gf g y 1 ∨ (gf g x 1 = gf g y 1 ∧ x < y)) := by
  have i1 := hk.1.1
  have b1 : g 1 ≤ 24 := by unfold I1 at i1; omega
  have h24 : (0 ≤ x ∧ x < 24) ∧ (0 ≤ y ∧ y < 24) := by omega
  have z := cnt_00 (Y := Y) (by rw [hY]; exact h3)
  have gt : ∀ w k, 0 ≤ w → w < 4 → 0 ≤ k → k < 24 → rget (wst K (cntG Y)) (180 + w) k = 0 := fun w k w0 w1 k0 k1 => by
    rw [wst_get (by omega) ⟨k0, k1⟩]
    exact z _ _
  have hs : ∀ i, 0 ≤ i → i < g 1 → rget (wst K (cntG Y)) 2 i = gf g i 1 := fun i i0 i1 => by
    rw [wst_row (by omega), rg_2 (by omega)]
    exact (hk.2.1.2.1 i i0 i1).2.1
  rw [cmB_bfo (V := fun _ => 0) (O := fun _ => 0) (S := fun _ => 0) (R := fun _ => 0) h24.1 h24.2 (fun i i0 i1 => gt 0 i (by decide) (by decide) i0 i1) (fun i i0 i1 => gt 1 i (by decide) (by decide) i0 i1) (fun i i0 i1 => gt 2 i (by decide) (by decide) i0 i1) (fun i i0 i1 => gt 3 i (by decide) (by decide) i0 i1) (fun _ => by decide) (fun _ => by decide) (fun _ => by decide) (fun _ => by decide)]
  unfold bfo
  rw [hs x hx.1 hx.2, hs y hy.1 hy.2]
  simp only [Int.zero_mul, Int.sub_self, Int.lt_irrefl, false_or, true_and]
theorem str_find (hk : KP N (cv K 0) g) (hY : Y 13 186 = g) (h0 : g 0 = 0) (h3 : g 3 = 0) (h1 : M 13 186 1 = g 1) (hm : ∀ x, 0 ≤ x → x < g 1 → mof M x 1 = gf g x 1) (i : Int) : zo_mstrongest i M = if 0 ≤ i ∧ i < (rkO K Y (g 1)).2 then (rkO K Y (g 1)).1 i else -1 := by
  have i1 := hk.1.1
  have b1 : 0 ≤ g 1 ∧ g 1 ≤ 24 := by unfold I1 at i1; omega
  have hin : ∀ e, 0 ≤ e → e < g 1 → inB (wst K (cntG Y)) e = true := fun e e0 e1 => by
    rw [in_kp hk ⟨e0, e1⟩]
    exact decide_eq_true ((hk.1.2.2.1 e e0 e1).2.2.2.1 h0).2.2
  rw [← Srt_find (tot_kp hk hY) (Int.le_refl _) (srt_kp hk hY) i]
  unfold zo_mstrongest
  rw [h1]
  refine fnd_congr fun f f0 f1 => ?_
  unfold fp_mstrongest
  rw [h1, if_pos (hin f f0 f1)]
  have e : sumTo (fstr M f) (g 1) = sumTo (fun e => if inB (wst K (cntG Y)) e = true then (if cmB (wst K (cntG Y)) e f = true then 1 else 0) else 0) (g 1) := sumTo_congr fun e e0 e1 => by
    show fstr M f e = if inB (wst K (cntG Y)) e = true then (if cmB (wst K (cntG Y)) e f = true then 1 else 0) else 0
    rw [if_pos (hin e e0 e1)]
    have hc := cmp_0 hk hY h3 (x := e) (y := f) ⟨e0, e1⟩ ⟨f0, f1⟩
    have hS : (¬ zo_misStronger e f M = 0) ↔ (gf g e 1 < gf g f 1 ∨ (gf g e 1 = gf g f 1 ∧ e < f)) := by
      unfold zo_misStronger
      rw [hm e e0 e1, hm f f0 f1]
      repeat' split
      all_goals omega
    unfold fstr
    by_cases q : zo_misStronger e f M = 0
    · rw [if_pos q, if_neg (fun z => hS.mpr (hc.mp z) q)]
    · rw [if_neg q, if_pos (hc.mpr (hS.mp q))]
  have hb := sumTo_bd (f := fstr M f) (n := g 1) (c := 1) (by decide) b1.1 (fun e _ _ => by unfold fstr; split <;> omega)
  rw [wr_eq (by omega) (by omega), e]

theorem fp_step (hj : 0 ≤ j ∧ j < 24) (h6 : j < M 6 0 0) (hP : 0 < P) (hch : Ev true 48 [aR 3 (0), aI (wr ((j).tdiv (P))), aI (rget M (1) (rget M (184) (j))), aR 6 (0)] M (.inl (some (aI b))) M) (Q : Out → Mem → Prop) (hq : wp true 25 6 [some (aR 2 (0)), some (aI (P)), some (aR 7 (184)), some (aI ((j + 1))), none, none] [] (zm_put 0 b (rget M (184) (j)) 0 M) 0 0 Q) : wp true 25 6 [some (aR 2 (0)), some (aI (P)), some (aR 7 (184)), some (aI (j)), none, none] [] M 0 0 Q := by
  refine wp_seg 4 (P := none) (ls' := [some (aR 2 (0)), some (aI (P)), some (aR 7 (184)), some (aI (j)), none, none]) (st' := [aI (M 6 (0) 0), aI (j)]) (σ' := M) rq_25 rfl True.intro (i' := 10) rfl ?_
  refine wp_icmp rq_25 rfl (fun (h1 : (M 6 (0) 0) ≤ (j)) => absurd h1 (show ¬ ((M 6 (0) 0) ≤ (j)) from by omega)) (fun _ => ?_)
  refine wp_seg 1 (P := none) (ls' := [some (aR 2 (0)), some (aI (P)), some (aR 7 (184)), some (aI (j)), none, none]) (st' := [aI (P)]) (σ' := M) rq_25 rfl True.intro (i' := 12) rfl ?_
  refine wp_if rq_25 rfl (fun (h2 : (P) ≤ 0) => absurd h2 (show ¬ ((P) ≤ 0) from by omega)) (fun _ => ?_)
  refine wp_seg 2 (P := none) (ls' := [some (aR 2 (0)), some (aI (P)), some (aR 7 (184)), some (aI (j)), none, none]) (st' := [aI (j), aR 7 (184)]) (σ' := M) rq_25 rfl True.intro (i' := 15) rfl ?_
  refine wp_call (C := 7) (As := [aR 7 (184), aI (j)]) (rest := []) rq_25 (ev_get (184) (j) M ) rfl rfl (show clOK 25 78 0 0 0 2 7 = true by decide +kernel) rfl (show 0 ≤ 4 by decide) (fun _ => ⟨_, rfl⟩) rfl (c' := 0) (s' := 0) rfl rfl ?_
  refine wp_seg 10 (P := some ((P : Int) ≠ 0)) (ls' := [some (aR 2 (0)), some (aI (P)), some (aR 7 (184)), some (aI (j)), some (aI (rget M (184) (j))), none]) (st' := [aI (rget M (184) (j)), aR 7 (1), aI (wr ((j).tdiv (P))), aR 3 (0)]) (σ' := M) rq_25 rfl ?_ (i' := 26) rfl ?_
  · show (P : Int) ≠ 0
    (show (P : Int) ≠ 0; omega)
  refine wp_call (C := 7) (As := [aR 7 (1), aI (rget M (184) (j))]) (rest := [aI (wr ((j).tdiv (P))), aR 3 (0)]) rq_25 (ev_get (1) (rget M (184) (j)) M ) rfl rfl (show clOK 25 78 0 0 0 2 7 = true by decide +kernel) rfl (show 2 ≤ 4 by decide) (fun _ => ⟨_, rfl⟩) rfl (c' := 0) (s' := 0) rfl rfl ?_
  refine wp_seg 2 (P := none) (ls' := [some (aR 2 (0)), some (aI (P)), some (aR 7 (184)), some (aI (j)), some (aI (rget M (184) (j))), none]) (st' := [aR 6 (0), aI (rget M (1) (rget M (184) (j))), aI (wr ((j).tdiv (P))), aR 3 (0)]) (σ' := M) rq_25 rfl True.intro (i' := 29) rfl ?_
  refine wp_call (C := 3) (As := [aR 3 (0), aI (wr ((j).tdiv (P))), aI (rget M (1) (rget M (184) (j))), aR 6 (0)]) (rest := []) rq_25 hch rfl rfl (show clOK 25 48 0 0 0 4 3 = true by decide +kernel) rfl (show 0 ≤ 4 by decide) (fun _ => ⟨_, rfl⟩) rfl (c' := 0) (s' := 0) rfl rfl ?_
  refine wp_seg 7 (P := none) (ls' := [some (aR 2 (0)), some (aI (P)), some (aR 7 (184)), some (aI (j)), some (aI (rget M (184) (j))), some (aI (b))]) (st' := [aR 6 (0), aI (rget M (184) (j)), aI (b), aR 3 (0)]) (σ' := M) rq_25 rfl True.intro (i' := 37) rfl ?_
  refine wp_call (C := 3) (As := [aR 3 (0), aI (b), aI (rget M (184) (j)), aR 6 (0)]) (rest := []) rq_25 (ev_put (0) (b) (rget M (184) (j)) (0) M ) rfl rfl (show clOK 25 50 0 0 0 4 3 = true by decide +kernel) rfl (show 0 ≤ 4 by decide) (fun _ => ⟨_, rfl⟩) rfl (c' := 0) (s' := 0) rfl rfl ?_
  refine wp_seg 1 (P := none) (ls' := [some (aR 2 (0)), some (aI (P)), some (aR 7 (184)), some (aI (wr (j + 1))), some (aI (rget M (184) (j))), some (aI (b))]) (st' := []) (σ' := (zm_put (0) (b) (rget M (184) (j)) (0) M)) rq_25 rfl True.intro (i' := 39) rfl ?_
  refine wp_goto rq_25 rfl ?_
  rw [wr_eq (z := j + 1) (by omega) (by omega)]
  exact wp_weak (lessL_c (lessL_c (lessL_c (lessL_c (lessL_n (lessL_n lessL_0)))))) hq
theorem fp_end (h6 : M 6 0 0 ≤ j) (Q : Out → Mem → Prop) (hq : wp true 25 40 [some (aR 2 (0)), some (aI (P)), some (aR 7 (184)), some (aI (j)), none, none] [] M 0 0 Q) : wp true 25 6 [some (aR 2 (0)), some (aI (P)), some (aR 7 (184)), some (aI (j)), none, none] [] M 0 0 Q := by
  refine wp_seg 4 (P := none) (ls' := [some (aR 2 (0)), some (aI (P)), some (aR 7 (184)), some (aI (j)), none, none]) (st' := [aI (M 6 (0) 0), aI (j)]) (σ' := M) rq_25 rfl True.intro (i' := 10) rfl ?_
  refine wp_icmp rq_25 rfl (fun _ => ?_) (fun (h1 : ¬ ((M 6 (0) 0) ≤ (j))) => absurd (show (M 6 (0) 0) ≤ (j) from by omega) h1)
  exact hq
theorem mp_step (hj : 0 ≤ j ∧ j < 24) (h1 : j < M 13 186 1) (hP : 0 < P) (hst : Ev true 167 [aR 11 0, aI j] M (.inl (some (aI f))) M) (hgo : Ev true 171 [aR 11 0, aI f, aI (wr ((j).tdiv (P))), aI P] M (.inl none) M') (Q : Out → Mem → Prop) (hq : wp true 174 34 [some (aR 11 (0)), some (aI (P)), some (aI ((j + 1))), none, none, none] [] M' 0 0 Q) : wp true 174 34 [some (aR 11 (0)), some (aI (P)), some (aI (j)), none, none, none] [] M 0 0 Q := by
  refine wp_seg 5 (P := some (0 ≤ (1) ∧ (1) < alen M 13 (186))) (ls' := [some (aR 11 (0)), some (aI (P)), some (aI (j)), none, none, none]) (st' := [aI (M 13 (186) (1)), aI (j)]) (σ' := M) rq_174 rfl ?_ (i' := 39) rfl ?_
  · show 0 ≤ (1) ∧ (1) < alen M 13 (186)
    (first | (show (P : Int) ≠ 0; omega) | exact ⟨by decide, (show (1 : Int) < 3330 by decide)⟩)
  refine wp_icmp rq_174 rfl (fun (h1 : (M 13 (186) (1)) ≤ (j)) => absurd h1 (show ¬ ((M 13 (186) (1)) ≤ (j)) from by omega)) (fun _ => ?_)
  refine wp_seg 3 (P := none) (ls' := [some (aR 11 (0)), some (aI (P)), some (aI (j)), none, none, none]) (st' := [aI (j), aR 11 (0), aR 11 (0)]) (σ' := M) rq_174 rfl True.intro (i' := 43) rfl ?_
  refine wp_call (C := 11) (As := [aR 11 (0), aI (j)]) (rest := [aR 11 (0)]) rq_174 hst rfl rfl (show clOK 174 167 0 0 0 2 11 = true by decide +kernel) rfl (show 1 ≤ 4 by decide) (fun _ => ⟨_, rfl⟩) rfl (c' := 0) (s' := 0) rfl rfl ?_
  refine wp_seg 4 (P := some ((P : Int) ≠ 0)) (ls' := [some (aR 11 (0)), some (aI (P)), some (aI (j)), none, none, none]) (st' := [aI (P), aI (wr ((j).tdiv (P))), aI (f), aR 11 (0)]) (σ' := M) rq_174 rfl ?_ (i' := 48) rfl ?_
  · show (P : Int) ≠ 0
    (first | (show (P : Int) ≠ 0; omega) | exact ⟨by decide, (show (1 : Int) < 3330 by decide)⟩)
  refine wp_call (C := 11) (As := [aR 11 (0), aI (f), aI (wr ((j).tdiv (P))), aI (P)]) (rest := []) rq_174 hgo rfl rfl (show clOK 174 171 0 0 0 4 11 = true by decide +kernel) rfl (show 0 ≤ 4 by decide) (fun _ => ⟨_, rfl⟩) rfl (c' := 0) (s' := 0) rfl rfl ?_
  refine wp_seg 1 (P := none) (ls' := [some (aR 11 (0)), some (aI (P)), some (aI (wr (j + 1))), none, none, none]) (st' := []) (σ' := M') rq_174 rfl True.intro (i' := 50) rfl ?_
  refine wp_goto rq_174 rfl ?_
  rw [wr_eq (z := j + 1) (by omega) (by omega)]
  exact hq
theorem mp_end (h1 : M 13 186 1 ≤ j) (Q : Out → Mem → Prop) (hq : wp true 174 51 [some (aR 11 (0)), some (aI (P)), some (aI (j)), none, none, none] [] M 0 0 Q) : wp true 174 34 [some (aR 11 (0)), some (aI (P)), some (aI (j)), none, none, none] [] M 0 0 Q := by
  refine wp_seg 5 (P := some (0 ≤ (1) ∧ (1) < alen M 13 (186))) (ls' := [some (aR 11 (0)), some (aI (P)), some (aI (j)), none, none, none]) (st' := [aI (M 13 (186) (1)), aI (j)]) (σ' := M) rq_174 rfl ?_ (i' := 39) rfl ?_
  · show 0 ≤ (1) ∧ (1) < alen M 13 (186)
    exact ⟨by decide, (show (1 : Int) < 3330 by decide)⟩
  refine wp_icmp rq_174 rfl (fun _ => ?_) (fun (h1 : ¬ ((M 13 (186) (1)) ≤ (j))) => absurd (show (M 13 (186) (1)) ≤ (j) from by omega) h1)
  exact hq
end Str
