/-! The text of results: one result, the model's rows. -/
section ResM
variable {K : Mem} {s v t : Int} {A : Int → Int}

theorem rh_0y (hl : K 11 0 10 ≤ 60) (hs : 0 ≤ s ∧ s ≤ 60) (ht : 0 ≤ t ∧ t ≤ 9) (h : 0 < (dgc K 3 s)) (Q : Out → Mem → Prop) (hq : wp true 239 15 [some (aR 11 (0))] [] (mm K (s + (dgc K 3 s)) (nvF K s (dgc K 3 s)) t (tu A (4 * t) (nvF K s (dgc K 3 s)))) 0 0 Q) : wp true 239 0 [some (aR 11 (0))] [] (mm K s v t A) 0 0 Q := by
  have w0 : wr (4 * t) = 4 * t := wr_eq (by omega) (by omega)
  have w1 : wr (4 * t + 1) = 4 * t + 1 := wr_eq (by omega) (by omega)
  have w2 : wr (4 * t + 2) = 4 * t + 2 := wr_eq (by omega) (by omega)
  have w3 : wr (4 * t + 3) = 4 * t + 3 := wr_eq (by omega) (by omega)
  have wt : wr (t + 1) = t + 1 := wr_eq (by omega) (by omega)
  have hd : Ev true 238 [aR 11 (0), aI (3)] (mm K s v t A) (.inl (some (aI (1)))) (mm K (s + (dgc K 3 s)) (nvF K s (dgc K 3 s)) t A) := ev_dig_y (x := 3) hl hs (by decide) h
  refine wp_seg 2 (P := none) (ls' := [some (aR 11 (0))]) (st' := [aI (3), aR 11 (0)]) (σ' := (mm K s v t A)) rq_239 rfl True.intro (i' := 2) rfl ?_
  refine wp_call (C := 11) (As := [aR 11 (0), aI (3)]) (rest := []) rq_239 hd rfl rfl (show clOK 239 238 0 0 0 2 11 = true by decide +kernel) rfl (show 0 ≤ 4 by decide) (fun _ => ⟨_, rfl⟩) rfl (c' := 0) (s' := 0) rfl rfl ?_
  refine wp_if rq_239 rfl (fun _ => ?_) (fun (h1 : ¬ (¬ (1 : Int) = (0 : Int))) => absurd (show ¬ (1 : Int) = (0 : Int) from by decide) h1)
  refine wp_seg 9 (P := some (0 ≤ (wr ((4) * ((mm K (s + (dgc K 3 s)) (nvF K s (dgc K 3 s)) t A) 11 (0) 15))) ∧ (wr ((4) * ((mm K (s + (dgc K 3 s)) (nvF K s (dgc K 3 s)) t A) 11 (0) 15))) < rowLen (192))) (ls' := [some (aR 11 (0))]) (st' := []) (σ' := (up (mm K (s + (dgc K 3 s)) (nvF K s (dgc K 3 s)) t A) 13 (192) (wr ((4) * ((mm K (s + (dgc K 3 s)) (nvF K s (dgc K 3 s)) t A) 11 (0) 15))) ((mm K (s + (dgc K 3 s)) (nvF K s (dgc K 3 s)) t A) 11 (0) 12))) rq_239 rfl ?_ (i' := 15) rfl ?_
  · show 0 ≤ (wr ((4) * ((mm K (s + (dgc K 3 s)) (nvF K s (dgc K 3 s)) t A) 11 (0) 15))) ∧ (wr ((4) * ((mm K (s + (dgc K 3 s)) (nvF K s (dgc K 3 s)) t A) 11 (0) 15))) < rowLen (192)
    (simp only [mm_15, um_15, um_r, w0, w1, w2, w3]; (have h9 : rowLen 192 = 60 := rfl); exact ⟨by omega, by omega⟩)
  have em : (up (mm K (s + (dgc K 3 s)) (nvF K s (dgc K 3 s)) t A) 13 (192) (wr ((4) * ((mm K (s + (dgc K 3 s)) (nvF K s (dgc K 3 s)) t A) 11 (0) 15))) ((mm K (s + (dgc K 3 s)) (nvF K s (dgc K 3 s)) t A) 11 (0) 12)) = mm K (s + (dgc K 3 s)) (nvF K s (dgc K 3 s)) t (tu A (4 * t) (nvF K s (dgc K 3 s))) := by (simp only [mm_15, mm_12, mm_11, um_r, um_15, um_11, um_12, w0, w1, w2, w3, wt])
  rw [em]
  exact hq

theorem rh_0n (hl : K 11 0 10 ≤ 60) (hs : 0 ≤ s ∧ s ≤ 60) (ht : 0 ≤ t ∧ t ≤ 9) (h : ¬ 0 < (dgc K 3 s)) : wp true 239 0 [some (aR 11 (0))] [] (mm K s v t A) 0 0 (fun o' s' => o' = .inl (some (aI (0))) ∧ s' = mm K s 0 t A) := by
  have w0 : wr (4 * t) = 4 * t := wr_eq (by omega) (by omega)
  have w1 : wr (4 * t + 1) = 4 * t + 1 := wr_eq (by omega) (by omega)
  have w2 : wr (4 * t + 2) = 4 * t + 2 := wr_eq (by omega) (by omega)
  have w3 : wr (4 * t + 3) = 4 * t + 3 := wr_eq (by omega) (by omega)
  have wt : wr (t + 1) = t + 1 := wr_eq (by omega) (by omega)
  have hd : Ev true 238 [aR 11 (0), aI (3)] (mm K s v t A) (.inl (some (aI (0)))) (mm K s 0 t A) := ev_dig_n (x := 3) hl hs (by decide) h
  refine wp_seg 2 (P := none) (ls' := [some (aR 11 (0))]) (st' := [aI (3), aR 11 (0)]) (σ' := (mm K s v t A)) rq_239 rfl True.intro (i' := 2) rfl ?_
  refine wp_call (C := 11) (As := [aR 11 (0), aI (3)]) (rest := []) rq_239 hd rfl rfl (show clOK 239 238 0 0 0 2 11 = true by decide +kernel) rfl (show 0 ≤ 4 by decide) (fun _ => ⟨_, rfl⟩) rfl (c' := 0) (s' := 0) rfl rfl ?_
  refine wp_if rq_239 rfl (fun (h1 : ¬ (0 : Int) = (0 : Int)) => absurd h1 (show ¬ (¬ (0 : Int) = (0 : Int)) from by decide)) (fun _ => ?_)
  refine wp_seg 1 (P := none) (ls' := [some (aR 11 (0))]) (st' := [aI (0)]) (σ' := (mm K s 0 t A)) rq_239 rfl True.intro (i' := 5) rfl ?_
  refine wp_zret rq_239 rfl rt_239 ?_ ⟨?_, ?_⟩
  · first | exact Or.inl rfl | exact Or.inr rfl
  · rfl
  · rfl

theorem rh_15e (hl : K 11 0 10 ≤ 60) (hs : 0 ≤ s ∧ s ≤ 60) (ht : 0 ≤ t ∧ t ≤ 9) (h : ¬ hrK K s = 61) : wp true 239 15 [some (aR 11 (0))] [] (mm K s v t A) 0 0 (fun o' s' => o' = .inl (some (aI (0))) ∧ s' = mm K s v t A) := by
  have w0 : wr (4 * t) = 4 * t := wr_eq (by omega) (by omega)
  have w1 : wr (4 * t + 1) = 4 * t + 1 := wr_eq (by omega) (by omega)
  have w2 : wr (4 * t + 2) = 4 * t + 2 := wr_eq (by omega) (by omega)
  have w3 : wr (4 * t + 3) = 4 * t + 3 := wr_eq (by omega) (by omega)
  have wt : wr (t + 1) = t + 1 := wr_eq (by omega) (by omega)
  have hk : Ev true 237 [aR 11 (0), aI (61)] (mm K s v t A) (.inl (some (aI (0)))) (mm K s v t A) := ev_skips_n hl hs h
  refine wp_seg 2 (P := none) (ls' := [some (aR 11 (0))]) (st' := [aI (61), aR 11 (0)]) (σ' := (mm K s v t A)) rq_239 rfl True.intro (i' := 17) rfl ?_
  refine wp_call (C := 11) (As := [aR 11 (0), aI (61)]) (rest := []) rq_239 hk rfl rfl (show clOK 239 237 0 0 0 2 11 = true by decide +kernel) rfl (show 0 ≤ 4 by decide) (fun _ => ⟨_, rfl⟩) rfl (c' := 0) (s' := 0) rfl rfl ?_
  refine wp_if rq_239 rfl (fun _ => ?_) (fun (h1 : ¬ ((0 : Int) = (0 : Int))) => absurd (show (0 : Int) = (0 : Int) from by decide) h1)
  refine wp_seg 1 (P := none) (ls' := [some (aR 11 (0))]) (st' := [aI (0)]) (σ' := (mm K s v t A)) rq_239 rfl True.intro (i' := 24) rfl ?_
  refine wp_zret rq_239 rfl rt_239 ?_ ⟨?_, ?_⟩
  · first | exact Or.inl rfl | exact Or.inr rfl
  · rfl
  · rfl

theorem rh_15n (hl : K 11 0 10 ≤ 60) (hs : 0 ≤ s ∧ s ≤ 60) (ht : 0 ≤ t ∧ t ≤ 9) (hs2 : s < 60) (h : hrK K s = 61) (h2 : ¬ 0 < (dgc K 2 (s + 1))) : wp true 239 15 [some (aR 11 (0))] [] (mm K s v t A) 0 0 (fun o' s' => o' = .inl (some (aI (0))) ∧ s' = mm K (s + 1) 0 t A) := by
  have w0 : wr (4 * t) = 4 * t := wr_eq (by omega) (by omega)
  have w1 : wr (4 * t + 1) = 4 * t + 1 := wr_eq (by omega) (by omega)
  have w2 : wr (4 * t + 2) = 4 * t + 2 := wr_eq (by omega) (by omega)
  have w3 : wr (4 * t + 3) = 4 * t + 3 := wr_eq (by omega) (by omega)
  have wt : wr (t + 1) = t + 1 := wr_eq (by omega) (by omega)
  have hk : Ev true 237 [aR 11 (0), aI (61)] (mm K s v t A) (.inl (some (aI (1)))) (mm K (s + 1) v t A) := ev_skips_y hl hs h
  have hd : Ev true 238 [aR 11 (0), aI (2)] (mm K (s + 1) v t A) (.inl (some (aI (0)))) (mm K (s + 1) 0 t A) := ev_dig_n (x := 2) hl (by omega) (by decide) h2
  refine wp_seg 2 (P := none) (ls' := [some (aR 11 (0))]) (st' := [aI (61), aR 11 (0)]) (σ' := (mm K s v t A)) rq_239 rfl True.intro (i' := 17) rfl ?_
  refine wp_call (C := 11) (As := [aR 11 (0), aI (61)]) (rest := []) rq_239 hk rfl rfl (show clOK 239 237 0 0 0 2 11 = true by decide +kernel) rfl (show 0 ≤ 4 by decide) (fun _ => ⟨_, rfl⟩) rfl (c' := 0) (s' := 0) rfl rfl ?_
  refine wp_if rq_239 rfl (fun (h1 : (1 : Int) = (0 : Int)) => absurd h1 (show ¬ ((1 : Int) = (0 : Int)) from by decide)) (fun _ => ?_)
  refine wp_seg 2 (P := none) (ls' := [some (aR 11 (0))]) (st' := [aI (2), aR 11 (0)]) (σ' := (mm K (s + 1) v t A)) rq_239 rfl True.intro (i' := 21) rfl ?_
  refine wp_call (C := 11) (As := [aR 11 (0), aI (2)]) (rest := []) rq_239 hd rfl rfl (show clOK 239 238 0 0 0 2 11 = true by decide +kernel) rfl (show 0 ≤ 4 by decide) (fun _ => ⟨_, rfl⟩) rfl (c' := 0) (s' := 0) rfl rfl ?_
  refine wp_if rq_239 rfl (fun (h2 : ¬ (0 : Int) = (0 : Int)) => absurd h2 (show ¬ (¬ (0 : Int) = (0 : Int)) from by decide)) (fun _ => ?_)
  refine wp_seg 1 (P := none) (ls' := [some (aR 11 (0))]) (st' := [aI (0)]) (σ' := (mm K (s + 1) 0 t A)) rq_239 rfl True.intro (i' := 24) rfl ?_
  refine wp_zret rq_239 rfl rt_239 ?_ ⟨?_, ?_⟩
  · first | exact Or.inl rfl | exact Or.inr rfl
  · rfl
  · rfl

theorem rh_15y (hl : K 11 0 10 ≤ 60) (hs : 0 ≤ s ∧ s ≤ 60) (ht : 0 ≤ t ∧ t ≤ 9) (hs2 : s < 60) (h : hrK K s = 61) (h2 : 0 < (dgc K 2 (s + 1))) (Q : Out → Mem → Prop) (hq : wp true 239 36 [some (aR 11 (0))] [] (mm K (s + 1 + (dgc K 2 (s + 1))) (nvF K (s + 1) (dgc K 2 (s + 1))) t (tu A (4 * t + 1) (nvF K (s + 1) (dgc K 2 (s + 1))))) 0 0 Q) : wp true 239 15 [some (aR 11 (0))] [] (mm K s v t A) 0 0 Q := by
  have w0 : wr (4 * t) = 4 * t := wr_eq (by omega) (by omega)
  have w1 : wr (4 * t + 1) = 4 * t + 1 := wr_eq (by omega) (by omega)
  have w2 : wr (4 * t + 2) = 4 * t + 2 := wr_eq (by omega) (by omega)
  have w3 : wr (4 * t + 3) = 4 * t + 3 := wr_eq (by omega) (by omega)
  have wt : wr (t + 1) = t + 1 := wr_eq (by omega) (by omega)
  have hk : Ev true 237 [aR 11 (0), aI (61)] (mm K s v t A) (.inl (some (aI (1)))) (mm K (s + 1) v t A) := ev_skips_y hl hs h
  have hd : Ev true 238 [aR 11 (0), aI (2)] (mm K (s + 1) v t A) (.inl (some (aI (1)))) (mm K (s + 1 + (dgc K 2 (s + 1))) (nvF K (s + 1) (dgc K 2 (s + 1))) t A) := ev_dig_y (x := 2) hl (by omega) (by decide) h2
  refine wp_seg 2 (P := none) (ls' := [some (aR 11 (0))]) (st' := [aI (61), aR 11 (0)]) (σ' := (mm K s v t A)) rq_239 rfl True.intro (i' := 17) rfl ?_
  refine wp_call (C := 11) (As := [aR 11 (0), aI (61)]) (rest := []) rq_239 hk rfl rfl (show clOK 239 237 0 0 0 2 11 = true by decide +kernel) rfl (show 0 ≤ 4 by decide) (fun _ => ⟨_, rfl⟩) rfl (c' := 0) (s' := 0) rfl rfl ?_
  refine wp_if rq_239 rfl (fun (h1 : (1 : Int) = (0 : Int)) => absurd h1 (show ¬ ((1 : Int) = (0 : Int)) from by decide)) (fun _ => ?_)
  refine wp_seg 2 (P := none) (ls' := [some (aR 11 (0))]) (st' := [aI (2), aR 11 (0)]) (σ' := (mm K (s + 1) v t A)) rq_239 rfl True.intro (i' := 21) rfl ?_
  refine wp_call (C := 11) (As := [aR 11 (0), aI (2)]) (rest := []) rq_239 hd rfl rfl (show clOK 239 238 0 0 0 2 11 = true by decide +kernel) rfl (show 0 ≤ 4 by decide) (fun _ => ⟨_, rfl⟩) rfl (c' := 0) (s' := 0) rfl rfl ?_
  refine wp_if rq_239 rfl (fun _ => ?_) (fun (h2 : ¬ (¬ (1 : Int) = (0 : Int))) => absurd (show ¬ (1 : Int) = (0 : Int) from by decide) h2)
  refine wp_seg 11 (P := some (0 ≤ (wr ((wr ((4) * ((mm K (s + 1 + (dgc K 2 (s + 1))) (nvF K (s + 1) (dgc K 2 (s + 1))) t A) 11 (0) 15))) + (1))) ∧ (wr ((wr ((4) * ((mm K (s + 1 + (dgc K 2 (s + 1))) (nvF K (s + 1) (dgc K 2 (s + 1))) t A) 11 (0) 15))) + (1))) < rowLen (192))) (ls' := [some (aR 11 (0))]) (st' := []) (σ' := (up (mm K (s + 1 + (dgc K 2 (s + 1))) (nvF K (s + 1) (dgc K 2 (s + 1))) t A) 13 (192) (wr ((wr ((4) * ((mm K (s + 1 + (dgc K 2 (s + 1))) (nvF K (s + 1) (dgc K 2 (s + 1))) t A) 11 (0) 15))) + (1))) ((mm K (s + 1 + (dgc K 2 (s + 1))) (nvF K (s + 1) (dgc K 2 (s + 1))) t A) 11 (0) 12))) rq_239 rfl ?_ (i' := 36) rfl ?_
  · show 0 ≤ (wr ((wr ((4) * ((mm K (s + 1 + (dgc K 2 (s + 1))) (nvF K (s + 1) (dgc K 2 (s + 1))) t A) 11 (0) 15))) + (1))) ∧ (wr ((wr ((4) * ((mm K (s + 1 + (dgc K 2 (s + 1))) (nvF K (s + 1) (dgc K 2 (s + 1))) t A) 11 (0) 15))) + (1))) < rowLen (192)
    (simp only [mm_15, um_15, um_r, w0, w1, w2, w3]; (have h9 : rowLen 192 = 60 := rfl); exact ⟨by omega, by omega⟩)
  have em : (up (mm K (s + 1 + (dgc K 2 (s + 1))) (nvF K (s + 1) (dgc K 2 (s + 1))) t A) 13 (192) (wr ((wr ((4) * ((mm K (s + 1 + (dgc K 2 (s + 1))) (nvF K (s + 1) (dgc K 2 (s + 1))) t A) 11 (0) 15))) + (1))) ((mm K (s + 1 + (dgc K 2 (s + 1))) (nvF K (s + 1) (dgc K 2 (s + 1))) t A) 11 (0) 12)) = mm K (s + 1 + (dgc K 2 (s + 1))) (nvF K (s + 1) (dgc K 2 (s + 1))) t (tu A (4 * t + 1) (nvF K (s + 1) (dgc K 2 (s + 1)))) := by (simp only [mm_15, mm_12, mm_11, um_r, um_15, um_11, um_12, w0, w1, w2, w3, wt])
  rw [em]
  exact hq

theorem rh_36e (hl : K 11 0 10 ≤ 60) (hs : 0 ≤ s ∧ s ≤ 60) (ht : 0 ≤ t ∧ t ≤ 9) (h : ¬ hrK K s = 58) : wp true 239 36 [some (aR 11 (0))] [] (mm K s v t A) 0 0 (fun o' s' => o' = .inl (some (aI (0))) ∧ s' = mm K s v t A) := by
  have w0 : wr (4 * t) = 4 * t := wr_eq (by omega) (by omega)
  have w1 : wr (4 * t + 1) = 4 * t + 1 := wr_eq (by omega) (by omega)
  have w2 : wr (4 * t + 2) = 4 * t + 2 := wr_eq (by omega) (by omega)
  have w3 : wr (4 * t + 3) = 4 * t + 3 := wr_eq (by omega) (by omega)
  have wt : wr (t + 1) = t + 1 := wr_eq (by omega) (by omega)
  have hk : Ev true 237 [aR 11 (0), aI (58)] (mm K s v t A) (.inl (some (aI (0)))) (mm K s v t A) := ev_skips_n hl hs h
  refine wp_seg 2 (P := none) (ls' := [some (aR 11 (0))]) (st' := [aI (58), aR 11 (0)]) (σ' := (mm K s v t A)) rq_239 rfl True.intro (i' := 38) rfl ?_
  refine wp_call (C := 11) (As := [aR 11 (0), aI (58)]) (rest := []) rq_239 hk rfl rfl (show clOK 239 237 0 0 0 2 11 = true by decide +kernel) rfl (show 0 ≤ 4 by decide) (fun _ => ⟨_, rfl⟩) rfl (c' := 0) (s' := 0) rfl rfl ?_
  refine wp_if rq_239 rfl (fun _ => ?_) (fun (h1 : ¬ ((0 : Int) = (0 : Int))) => absurd (show (0 : Int) = (0 : Int) from by decide) h1)
  refine wp_seg 1 (P := none) (ls' := [some (aR 11 (0))]) (st' := [aI (0)]) (σ' := (mm K s v t A)) rq_239 rfl True.intro (i' := 45) rfl ?_
  refine wp_zret rq_239 rfl rt_239 ?_ ⟨?_, ?_⟩
  · first | exact Or.inl rfl | exact Or.inr rfl
  · rfl
  · rfl

theorem rh_36n (hl : K 11 0 10 ≤ 60) (hs : 0 ≤ s ∧ s ≤ 60) (ht : 0 ≤ t ∧ t ≤ 9) (hs2 : s < 60) (h : hrK K s = 58) (h2 : ¬ 0 < (dgc K 2 (s + 1))) : wp true 239 36 [some (aR 11 (0))] [] (mm K s v t A) 0 0 (fun o' s' => o' = .inl (some (aI (0))) ∧ s' = mm K (s + 1) 0 t A) := by
  have w0 : wr (4 * t) = 4 * t := wr_eq (by omega) (by omega)
  have w1 : wr (4 * t + 1) = 4 * t + 1 := wr_eq (by omega) (by omega)
  have w2 : wr (4 * t + 2) = 4 * t + 2 := wr_eq (by omega) (by omega)
  have w3 : wr (4 * t + 3) = 4 * t + 3 := wr_eq (by omega) (by omega)
  have wt : wr (t + 1) = t + 1 := wr_eq (by omega) (by omega)
  have hk : Ev true 237 [aR 11 (0), aI (58)] (mm K s v t A) (.inl (some (aI (1)))) (mm K (s + 1) v t A) := ev_skips_y hl hs h
  have hd : Ev true 238 [aR 11 (0), aI (2)] (mm K (s + 1) v t A) (.inl (some (aI (0)))) (mm K (s + 1) 0 t A) := ev_dig_n (x := 2) hl (by omega) (by decide) h2
  refine wp_seg 2 (P := none) (ls' := [some (aR 11 (0))]) (st' := [aI (58), aR 11 (0)]) (σ' := (mm K s v t A)) rq_239 rfl True.intro (i' := 38) rfl ?_
  refine wp_call (C := 11) (As := [aR 11 (0), aI (58)]) (rest := []) rq_239 hk rfl rfl (show clOK 239 237 0 0 0 2 11 = true by decide +kernel) rfl (show 0 ≤ 4 by decide) (fun _ => ⟨_, rfl⟩) rfl (c' := 0) (s' := 0) rfl rfl ?_
  refine wp_if rq_239 rfl (fun (h1 : (1 : Int) = (0 : Int)) => absurd h1 (show ¬ ((1 : Int) = (0 : Int)) from by decide)) (fun _ => ?_)
  refine wp_seg 2 (P := none) (ls' := [some (aR 11 (0))]) (st' := [aI (2), aR 11 (0)]) (σ' := (mm K (s + 1) v t A)) rq_239 rfl True.intro (i' := 42) rfl ?_
  refine wp_call (C := 11) (As := [aR 11 (0), aI (2)]) (rest := []) rq_239 hd rfl rfl (show clOK 239 238 0 0 0 2 11 = true by decide +kernel) rfl (show 0 ≤ 4 by decide) (fun _ => ⟨_, rfl⟩) rfl (c' := 0) (s' := 0) rfl rfl ?_
  refine wp_if rq_239 rfl (fun (h2 : ¬ (0 : Int) = (0 : Int)) => absurd h2 (show ¬ (¬ (0 : Int) = (0 : Int)) from by decide)) (fun _ => ?_)
  refine wp_seg 1 (P := none) (ls' := [some (aR 11 (0))]) (st' := [aI (0)]) (σ' := (mm K (s + 1) 0 t A)) rq_239 rfl True.intro (i' := 45) rfl ?_
  refine wp_zret rq_239 rfl rt_239 ?_ ⟨?_, ?_⟩
  · first | exact Or.inl rfl | exact Or.inr rfl
  · rfl
  · rfl

theorem rh_36y (hl : K 11 0 10 ≤ 60) (hs : 0 ≤ s ∧ s ≤ 60) (ht : 0 ≤ t ∧ t ≤ 9) (hs2 : s < 60) (h : hrK K s = 58) (h2 : 0 < (dgc K 2 (s + 1))) (Q : Out → Mem → Prop) (hq : wp true 239 57 [some (aR 11 (0))] [] (mm K (s + 1 + (dgc K 2 (s + 1))) (nvF K (s + 1) (dgc K 2 (s + 1))) t (tu A (4 * t + 2) (nvF K (s + 1) (dgc K 2 (s + 1))))) 0 0 Q) : wp true 239 36 [some (aR 11 (0))] [] (mm K s v t A) 0 0 Q := by
  have w0 : wr (4 * t) = 4 * t := wr_eq (by omega) (by omega)
  have w1 : wr (4 * t + 1) = 4 * t + 1 := wr_eq (by omega) (by omega)
  have w2 : wr (4 * t + 2) = 4 * t + 2 := wr_eq (by omega) (by omega)
  have w3 : wr (4 * t + 3) = 4 * t + 3 := wr_eq (by omega) (by omega)
  have wt : wr (t + 1) = t + 1 := wr_eq (by omega) (by omega)
  have hk : Ev true 237 [aR 11 (0), aI (58)] (mm K s v t A) (.inl (some (aI (1)))) (mm K (s + 1) v t A) := ev_skips_y hl hs h
  have hd : Ev true 238 [aR 11 (0), aI (2)] (mm K (s + 1) v t A) (.inl (some (aI (1)))) (mm K (s + 1 + (dgc K 2 (s + 1))) (nvF K (s + 1) (dgc K 2 (s + 1))) t A) := ev_dig_y (x := 2) hl (by omega) (by decide) h2
  refine wp_seg 2 (P := none) (ls' := [some (aR 11 (0))]) (st' := [aI (58), aR 11 (0)]) (σ' := (mm K s v t A)) rq_239 rfl True.intro (i' := 38) rfl ?_
  refine wp_call (C := 11) (As := [aR 11 (0), aI (58)]) (rest := []) rq_239 hk rfl rfl (show clOK 239 237 0 0 0 2 11 = true by decide +kernel) rfl (show 0 ≤ 4 by decide) (fun _ => ⟨_, rfl⟩) rfl (c' := 0) (s' := 0) rfl rfl ?_
  refine wp_if rq_239 rfl (fun (h1 : (1 : Int) = (0 : Int)) => absurd h1 (show ¬ ((1 : Int) = (0 : Int)) from by decide)) (fun _ => ?_)
  refine wp_seg 2 (P := none) (ls' := [some (aR 11 (0))]) (st' := [aI (2), aR 11 (0)]) (σ' := (mm K (s + 1) v t A)) rq_239 rfl True.intro (i' := 42) rfl ?_
  refine wp_call (C := 11) (As := [aR 11 (0), aI (2)]) (rest := []) rq_239 hd rfl rfl (show clOK 239 238 0 0 0 2 11 = true by decide +kernel) rfl (show 0 ≤ 4 by decide) (fun _ => ⟨_, rfl⟩) rfl (c' := 0) (s' := 0) rfl rfl ?_
  refine wp_if rq_239 rfl (fun _ => ?_) (fun (h2 : ¬ (¬ (1 : Int) = (0 : Int))) => absurd (show ¬ (1 : Int) = (0 : Int) from by decide) h2)
  refine wp_seg 11 (P := some (0 ≤ (wr ((wr ((4) * ((mm K (s + 1 + (dgc K 2 (s + 1))) (nvF K (s + 1) (dgc K 2 (s + 1))) t A) 11 (0) 15))) + (2))) ∧ (wr ((wr ((4) * ((mm K (s + 1 + (dgc K 2 (s + 1))) (nvF K (s + 1) (dgc K 2 (s + 1))) t A) 11 (0) 15))) + (2))) < rowLen (192))) (ls' := [some (aR 11 (0))]) (st' := []) (σ' := (up (mm K (s + 1 + (dgc K 2 (s + 1))) (nvF K (s + 1) (dgc K 2 (s + 1))) t A) 13 (192) (wr ((wr ((4) * ((mm K (s + 1 + (dgc K 2 (s + 1))) (nvF K (s + 1) (dgc K 2 (s + 1))) t A) 11 (0) 15))) + (2))) ((mm K (s + 1 + (dgc K 2 (s + 1))) (nvF K (s + 1) (dgc K 2 (s + 1))) t A) 11 (0) 12))) rq_239 rfl ?_ (i' := 57) rfl ?_
  · show 0 ≤ (wr ((wr ((4) * ((mm K (s + 1 + (dgc K 2 (s + 1))) (nvF K (s + 1) (dgc K 2 (s + 1))) t A) 11 (0) 15))) + (2))) ∧ (wr ((wr ((4) * ((mm K (s + 1 + (dgc K 2 (s + 1))) (nvF K (s + 1) (dgc K 2 (s + 1))) t A) 11 (0) 15))) + (2))) < rowLen (192)
    (simp only [mm_15, um_15, um_r, w0, w1, w2, w3]; (have h9 : rowLen 192 = 60 := rfl); exact ⟨by omega, by omega⟩)
  have em : (up (mm K (s + 1 + (dgc K 2 (s + 1))) (nvF K (s + 1) (dgc K 2 (s + 1))) t A) 13 (192) (wr ((wr ((4) * ((mm K (s + 1 + (dgc K 2 (s + 1))) (nvF K (s + 1) (dgc K 2 (s + 1))) t A) 11 (0) 15))) + (2))) ((mm K (s + 1 + (dgc K 2 (s + 1))) (nvF K (s + 1) (dgc K 2 (s + 1))) t A) 11 (0) 12)) = mm K (s + 1 + (dgc K 2 (s + 1))) (nvF K (s + 1) (dgc K 2 (s + 1))) t (tu A (4 * t + 2) (nvF K (s + 1) (dgc K 2 (s + 1)))) := by (simp only [mm_15, mm_12, mm_11, um_r, um_15, um_11, um_12, w0, w1, w2, w3, wt])
  rw [em]
  exact hq

theorem rh_57l (hl : K 11 0 10 ≤ 60) (hs : 0 ≤ s ∧ s ≤ 60) (ht : 0 ≤ t ∧ t ≤ 9) (h : hrK K s = 108) (Q : Out → Mem → Prop) (hq : wp true 239 85 [some (aR 11 (0))] [] (mm K (s + 1) v (t + 1) (tu A (4 * t + 3) 0)) 0 0 Q) : wp true 239 57 [some (aR 11 (0))] [] (mm K s v t A) 0 0 Q := by
  have w0 : wr (4 * t) = 4 * t := wr_eq (by omega) (by omega)
  have w1 : wr (4 * t + 1) = 4 * t + 1 := wr_eq (by omega) (by omega)
  have w2 : wr (4 * t + 2) = 4 * t + 2 := wr_eq (by omega) (by omega)
  have w3 : wr (4 * t + 3) = 4 * t + 3 := wr_eq (by omega) (by omega)
  have wt : wr (t + 1) = t + 1 := wr_eq (by omega) (by omega)
  have hk : Ev true 237 [aR 11 (0), aI (108)] (mm K s v t A) (.inl (some (aI (1)))) (mm K (s + 1) v t A) := ev_skips_y hl hs h
  refine wp_seg 10 (P := none) (ls' := [some (aR 11 (0))]) (st' := [aI (108), aR 11 (0), aI (wr ((wr ((4) * ((mm K s v t A) 11 (0) 15))) + (3))), aR 13 (192)]) (σ' := (mm K s v t A)) rq_239 rfl True.intro (i' := 67) rfl ?_
  refine wp_call (C := 11) (As := [aR 11 (0), aI (108)]) (rest := [aI (wr ((wr ((4) * ((mm K s v t A) 11 (0) 15))) + (3))), aR 13 (192)]) rq_239 hk rfl rfl (show clOK 239 237 0 0 0 2 11 = true by decide +kernel) rfl (show 2 ≤ 4 by decide) (fun _ => ⟨_, rfl⟩) rfl (c' := 0) (s' := 0) rfl rfl ?_
  refine wp_if rq_239 rfl (fun (h1 : (1 : Int) = (0 : Int)) => absurd h1 (show ¬ ((1 : Int) = (0 : Int)) from by decide)) (fun _ => ?_)
  refine wp_seg 1 (P := none) (ls' := [some (aR 11 (0))]) (st' := [aI (0), aI (wr ((wr ((4) * ((mm K s v t A) 11 (0) 15))) + (3))), aR 13 (192)]) (σ' := (mm K (s + 1) v t A)) rq_239 rfl True.intro (i' := 70) rfl ?_
  refine wp_goto rq_239 rfl ?_
  refine wp_seg 7 (P := some (0 ≤ (wr ((wr ((4) * ((mm K s v t A) 11 (0) 15))) + (3))) ∧ (wr ((wr ((4) * ((mm K s v t A) 11 (0) 15))) + (3))) < rowLen (192))) (ls' := [some (aR 11 (0))]) (st' := []) (σ' := (up (up (mm K (s + 1) v t A) 13 (192) (wr ((wr ((4) * ((mm K s v t A) 11 (0) 15))) + (3))) (0)) 11 (0) 15 (wr (((up (mm K (s + 1) v t A) 13 (192) (wr ((wr ((4) * ((mm K s v t A) 11 (0) 15))) + (3))) (0)) 11 (0) 15) + (1))))) rq_239 rfl ?_ (i' := 85) rfl ?_
  · show 0 ≤ (wr ((wr ((4) * ((mm K s v t A) 11 (0) 15))) + (3))) ∧ (wr ((wr ((4) * ((mm K s v t A) 11 (0) 15))) + (3))) < rowLen (192)
    (simp only [mm_15, um_15, um_r, w0, w1, w2, w3]; (have h9 : rowLen 192 = 60 := rfl); exact ⟨by omega, by omega⟩)
  have em : (up (up (mm K (s + 1) v t A) 13 (192) (wr ((wr ((4) * ((mm K s v t A) 11 (0) 15))) + (3))) (0)) 11 (0) 15 (wr (((up (mm K (s + 1) v t A) 13 (192) (wr ((wr ((4) * ((mm K s v t A) 11 (0) 15))) + (3))) (0)) 11 (0) 15) + (1)))) = mm K (s + 1) v (t + 1) (tu A (4 * t + 3) 0) := by (simp only [mm_15, mm_12, mm_11, um_r, um_15, um_11, um_12, w0, w1, w2, w3, wt])
  rw [em]
  exact hq

theorem rh_57r (hl : K 11 0 10 ≤ 60) (hs : 0 ≤ s ∧ s ≤ 60) (ht : 0 ≤ t ∧ t ≤ 9) (h : hrK K s = 114) (Q : Out → Mem → Prop) (hq : wp true 239 85 [some (aR 11 (0))] [] (mm K (s + 1) v (t + 1) (tu A (4 * t + 3) 1)) 0 0 Q) : wp true 239 57 [some (aR 11 (0))] [] (mm K s v t A) 0 0 Q := by
  have w0 : wr (4 * t) = 4 * t := wr_eq (by omega) (by omega)
  have w1 : wr (4 * t + 1) = 4 * t + 1 := wr_eq (by omega) (by omega)
  have w2 : wr (4 * t + 2) = 4 * t + 2 := wr_eq (by omega) (by omega)
  have w3 : wr (4 * t + 3) = 4 * t + 3 := wr_eq (by omega) (by omega)
  have wt : wr (t + 1) = t + 1 := wr_eq (by omega) (by omega)
  have hk : Ev true 237 [aR 11 (0), aI (108)] (mm K s v t A) (.inl (some (aI (0)))) (mm K s v t A) := ev_skips_n hl hs (by omega)
  have hk2 : Ev true 237 [aR 11 (0), aI (114)] (mm K s v t A) (.inl (some (aI (1)))) (mm K (s + 1) v t A) := ev_skips_y hl hs h
  refine wp_seg 10 (P := none) (ls' := [some (aR 11 (0))]) (st' := [aI (108), aR 11 (0), aI (wr ((wr ((4) * ((mm K s v t A) 11 (0) 15))) + (3))), aR 13 (192)]) (σ' := (mm K s v t A)) rq_239 rfl True.intro (i' := 67) rfl ?_
  refine wp_call (C := 11) (As := [aR 11 (0), aI (108)]) (rest := [aI (wr ((wr ((4) * ((mm K s v t A) 11 (0) 15))) + (3))), aR 13 (192)]) rq_239 hk rfl rfl (show clOK 239 237 0 0 0 2 11 = true by decide +kernel) rfl (show 2 ≤ 4 by decide) (fun _ => ⟨_, rfl⟩) rfl (c' := 0) (s' := 0) rfl rfl ?_
  refine wp_if rq_239 rfl (fun _ => ?_) (fun (h1 : ¬ ((0 : Int) = (0 : Int))) => absurd (show (0 : Int) = (0 : Int) from by decide) h1)
  refine wp_seg 2 (P := none) (ls' := [some (aR 11 (0))]) (st' := [aI (114), aR 11 (0), aI (wr ((wr ((4) * ((mm K s v t A) 11 (0) 15))) + (3))), aR 13 (192)]) (σ' := (mm K s v t A)) rq_239 rfl True.intro (i' := 73) rfl ?_
  refine wp_call (C := 11) (As := [aR 11 (0), aI (114)]) (rest := [aI (wr ((wr ((4) * ((mm K s v t A) 11 (0) 15))) + (3))), aR 13 (192)]) rq_239 hk2 rfl rfl (show clOK 239 237 0 0 0 2 11 = true by decide +kernel) rfl (show 2 ≤ 4 by decide) (fun _ => ⟨_, rfl⟩) rfl (c' := 0) (s' := 0) rfl rfl ?_
  refine wp_if rq_239 rfl (fun (h2 : (1 : Int) = (0 : Int)) => absurd h2 (show ¬ ((1 : Int) = (0 : Int)) from by decide)) (fun _ => ?_)
  refine wp_seg 1 (P := none) (ls' := [some (aR 11 (0))]) (st' := [aI (1), aI (wr ((wr ((4) * ((mm K s v t A) 11 (0) 15))) + (3))), aR 13 (192)]) (σ' := (mm K (s + 1) v t A)) rq_239 rfl True.intro (i' := 76) rfl ?_
  refine wp_goto rq_239 rfl ?_
  refine wp_seg 7 (P := some (0 ≤ (wr ((wr ((4) * ((mm K s v t A) 11 (0) 15))) + (3))) ∧ (wr ((wr ((4) * ((mm K s v t A) 11 (0) 15))) + (3))) < rowLen (192))) (ls' := [some (aR 11 (0))]) (st' := []) (σ' := (up (up (mm K (s + 1) v t A) 13 (192) (wr ((wr ((4) * ((mm K s v t A) 11 (0) 15))) + (3))) (1)) 11 (0) 15 (wr (((up (mm K (s + 1) v t A) 13 (192) (wr ((wr ((4) * ((mm K s v t A) 11 (0) 15))) + (3))) (1)) 11 (0) 15) + (1))))) rq_239 rfl ?_ (i' := 85) rfl ?_
  · show 0 ≤ (wr ((wr ((4) * ((mm K s v t A) 11 (0) 15))) + (3))) ∧ (wr ((wr ((4) * ((mm K s v t A) 11 (0) 15))) + (3))) < rowLen (192)
    (simp only [mm_15, um_15, um_r, w0, w1, w2, w3]; (have h9 : rowLen 192 = 60 := rfl); exact ⟨by omega, by omega⟩)
  have em : (up (up (mm K (s + 1) v t A) 13 (192) (wr ((wr ((4) * ((mm K s v t A) 11 (0) 15))) + (3))) (1)) 11 (0) 15 (wr (((up (mm K (s + 1) v t A) 13 (192) (wr ((wr ((4) * ((mm K s v t A) 11 (0) 15))) + (3))) (1)) 11 (0) 15) + (1)))) = mm K (s + 1) v (t + 1) (tu A (4 * t + 3) 1) := by (simp only [mm_15, mm_12, mm_11, um_r, um_15, um_11, um_12, w0, w1, w2, w3, wt])
  rw [em]
  exact hq

theorem rh_57o (hl : K 11 0 10 ≤ 60) (hs : 0 ≤ s ∧ s ≤ 60) (ht : 0 ≤ t ∧ t ≤ 9) (h : ¬ hrK K s = 108) (h2 : ¬ hrK K s = 114) (Q : Out → Mem → Prop) (hq : wp true 239 85 [some (aR 11 (0))] [] (mm K s v (t + 1) (tu A (4 * t + 3) (-1))) 0 0 Q) : wp true 239 57 [some (aR 11 (0))] [] (mm K s v t A) 0 0 Q := by
  have w0 : wr (4 * t) = 4 * t := wr_eq (by omega) (by omega)
  have w1 : wr (4 * t + 1) = 4 * t + 1 := wr_eq (by omega) (by omega)
  have w2 : wr (4 * t + 2) = 4 * t + 2 := wr_eq (by omega) (by omega)
  have w3 : wr (4 * t + 3) = 4 * t + 3 := wr_eq (by omega) (by omega)
  have wt : wr (t + 1) = t + 1 := wr_eq (by omega) (by omega)
  have hk : Ev true 237 [aR 11 (0), aI (108)] (mm K s v t A) (.inl (some (aI (0)))) (mm K s v t A) := ev_skips_n hl hs (by omega)
  have hk2 : Ev true 237 [aR 11 (0), aI (114)] (mm K s v t A) (.inl (some (aI (0)))) (mm K s v t A) := ev_skips_n hl hs h2
  refine wp_seg 10 (P := none) (ls' := [some (aR 11 (0))]) (st' := [aI (108), aR 11 (0), aI (wr ((wr ((4) * ((mm K s v t A) 11 (0) 15))) + (3))), aR 13 (192)]) (σ' := (mm K s v t A)) rq_239 rfl True.intro (i' := 67) rfl ?_
  refine wp_call (C := 11) (As := [aR 11 (0), aI (108)]) (rest := [aI (wr ((wr ((4) * ((mm K s v t A) 11 (0) 15))) + (3))), aR 13 (192)]) rq_239 hk rfl rfl (show clOK 239 237 0 0 0 2 11 = true by decide +kernel) rfl (show 2 ≤ 4 by decide) (fun _ => ⟨_, rfl⟩) rfl (c' := 0) (s' := 0) rfl rfl ?_
  refine wp_if rq_239 rfl (fun _ => ?_) (fun (h1 : ¬ ((0 : Int) = (0 : Int))) => absurd (show (0 : Int) = (0 : Int) from by decide) h1)
  refine wp_seg 2 (P := none) (ls' := [some (aR 11 (0))]) (st' := [aI (114), aR 11 (0), aI (wr ((wr ((4) * ((mm K s v t A) 11 (0) 15))) + (3))), aR 13 (192)]) (σ' := (mm K s v t A)) rq_239 rfl True.intro (i' := 73) rfl ?_
  refine wp_call (C := 11) (As := [aR 11 (0), aI (114)]) (rest := [aI (wr ((wr ((4) * ((mm K s v t A) 11 (0) 15))) + (3))), aR 13 (192)]) rq_239 hk2 rfl rfl (show clOK 239 237 0 0 0 2 11 = true by decide +kernel) rfl (show 2 ≤ 4 by decide) (fun _ => ⟨_, rfl⟩) rfl (c' := 0) (s' := 0) rfl rfl ?_
  refine wp_if rq_239 rfl (fun _ => ?_) (fun (h2 : ¬ ((0 : Int) = (0 : Int))) => absurd (show (0 : Int) = (0 : Int) from by decide) h2)
  refine wp_seg 8 (P := some (0 ≤ (wr ((wr ((4) * ((mm K s v t A) 11 (0) 15))) + (3))) ∧ (wr ((wr ((4) * ((mm K s v t A) 11 (0) 15))) + (3))) < rowLen (192))) (ls' := [some (aR 11 (0))]) (st' := []) (σ' := (up (up (mm K s v t A) 13 (192) (wr ((wr ((4) * ((mm K s v t A) 11 (0) 15))) + (3))) (-1)) 11 (0) 15 (wr (((up (mm K s v t A) 13 (192) (wr ((wr ((4) * ((mm K s v t A) 11 (0) 15))) + (3))) (-1)) 11 (0) 15) + (1))))) rq_239 rfl ?_ (i' := 85) rfl ?_
  · show 0 ≤ (wr ((wr ((4) * ((mm K s v t A) 11 (0) 15))) + (3))) ∧ (wr ((wr ((4) * ((mm K s v t A) 11 (0) 15))) + (3))) < rowLen (192)
    (simp only [mm_15, um_15, um_r, w0, w1, w2, w3]; (have h9 : rowLen 192 = 60 := rfl); exact ⟨by omega, by omega⟩)
  have em : (up (up (mm K s v t A) 13 (192) (wr ((wr ((4) * ((mm K s v t A) 11 (0) 15))) + (3))) (-1)) 11 (0) 15 (wr (((up (mm K s v t A) 13 (192) (wr ((wr ((4) * ((mm K s v t A) 11 (0) 15))) + (3))) (-1)) 11 (0) 15) + (1)))) = mm K s v (t + 1) (tu A (4 * t + 3) (-1)) := by (simp only [mm_15, mm_12, mm_11, um_r, um_15, um_11, um_12, w0, w1, w2, w3, wt])
  rw [em]
  exact hq

theorem rh_85y (hl : K 11 0 10 ≤ 60) (hs : 0 ≤ s ∧ s ≤ 60) (h : hrK K s = 59) : wp true 239 85 [some (aR 11 (0))] [] (mm K s v t A) 0 0 (fun o' s' => o' = .inl (some (aI (1))) ∧ s' = (mm K (s + 1) v t A)) := by
  have hk : Ev true 237 [aR 11 (0), aI (59)] (mm K s v t A) (.inl (some (aI (1)))) (mm K (s + 1) v t A) := ev_skips_y hl hs h
  refine wp_seg 2 (P := none) (ls' := [some (aR 11 (0))]) (st' := [aI (59), aR 11 (0)]) (σ' := (mm K s v t A)) rq_239 rfl True.intro (i' := 87) rfl ?_
  refine wp_call (C := 11) (As := [aR 11 (0), aI (59)]) (rest := []) rq_239 hk rfl rfl (show clOK 239 237 0 0 0 2 11 = true by decide +kernel) rfl (show 0 ≤ 4 by decide) (fun _ => ⟨_, rfl⟩) rfl (c' := 0) (s' := 0) rfl rfl ?_
  refine wp_zret rq_239 rfl rt_239 ?_ ⟨?_, ?_⟩
  · first | exact Or.inl rfl | exact Or.inr rfl
  · rfl
  · rfl

theorem rh_85n (hl : K 11 0 10 ≤ 60) (hs : 0 ≤ s ∧ s ≤ 60) (h : ¬ hrK K s = 59) : wp true 239 85 [some (aR 11 (0))] [] (mm K s v t A) 0 0 (fun o' s' => o' = .inl (some (aI (0))) ∧ s' = (mm K s v t A)) := by
  have hk : Ev true 237 [aR 11 (0), aI (59)] (mm K s v t A) (.inl (some (aI (0)))) (mm K s v t A) := ev_skips_n hl hs h
  refine wp_seg 2 (P := none) (ls' := [some (aR 11 (0))]) (st' := [aI (59), aR 11 (0)]) (σ' := (mm K s v t A)) rq_239 rfl True.intro (i' := 87) rfl ?_
  refine wp_call (C := 11) (As := [aR 11 (0), aI (59)]) (rest := []) rq_239 hk rfl rfl (show clOK 239 237 0 0 0 2 11 = true by decide +kernel) rfl (show 0 ≤ 4 by decide) (fun _ => ⟨_, rfl⟩) rfl (c' := 0) (s' := 0) rfl rfl ?_
  refine wp_zret rq_239 rfl rt_239 ?_ ⟨?_, ?_⟩
  · first | exact Or.inl rfl | exact Or.inr rfl
  · rfl
  · rfl

end ResM
