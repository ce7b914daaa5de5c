/-! The table is filled: the class's loops. -/
section FillU
variable {n p B z t j i r : Int} {L R H FA : Int → Int} {K X S : Mem} {c : Cs} {o : Int → Int} {m : Nat}
theorem lf_1 (h90 : c 9 0 = z) (hz : z = 2 ∨ z = 4 ∨ z = 8 ∨ z = 16 ∨ z = 32) (hB : 0 ≤ B ∧ B ≤ 276) (hfa : ∀ t p, 0 ≤ p → p < z → Ev true 99 [aR 9 (0), aI (p)] (wcm K (cAdds c B t L R H)) (.inl (some (aI (FA p)))) (wcm K (cAdds c B t L R H))) (hL : ∀ t, 0 ≤ t → t < z / 2 → L t = FA (2 * t) ∧ R t = FA (2 * t + 1) ∧ H t = 100 + z) (Q : Out → Mem → Prop) (hq : wp true 38 32 [some (aR 2 (0)), some (aR 7 (184)), some (aI (n)), some (aI (z)), none] [] (wcm K (cAdds c B (z / 2) L R H)) 0 0 Q) : ∀ (u : Nat) (t : Int), 0 ≤ t → t + u = z / 2 → wp true 38 7 [some (aR 2 (0)), some (aR 7 (184)), some (aI (n)), some (aI (2 * t)), none] [] (wcm K (cAdds c B t L R H)) 0 0 Q := by
  intro u
  induction u with
  | zero =>
    intro t t0 e
    have e9 : t = z / 2 := by omega
    have k9 : wcm K (cAdds c B t L R H) 9 0 0 = z := by rw [wk_9, cAdds_row (by omega) (by omega)]; exact h90
    rw [e9] at k9 ⊢
    generalize wcm K (cAdds c B (z / 2) L R H) = M at k9 hq ⊢
    rw [show 2 * (z / 2) = z by omega]
    refine wp_seg 4 (P := none) (ls' := [some (aR 2 (0)), some (aR 7 (184)), some (aI (n)), some (aI (z)), none]) (st' := [aI (M 9 (0) 0), aI (z)]) (σ' := M) rq_38 rfl True.intro (i' := 11) rfl ?_
    exact wp_icmp rq_38 rfl (fun (h1 : (M 9 (0) 0) ≤ (z)) => hq) (fun (h1 : ¬ ((M 9 (0) 0) ≤ (z))) => absurd (show (M 9 (0) 0) ≤ (z) by omega) h1)
  | succ u ih =>
    intro t t0 e
    have k9 : wcm K (cAdds c B t L R H) 9 0 0 = z := by rw [wk_9, cAdds_row (by omega) (by omega)]; exact h90
    have hw := badd_w (K := K) (c := c) (L := L) (R := R) (H := H) hB.1 t0 (by omega)
    have hi := ih (t + 1) (by omega) (by omega)
    rw [← hw] at hi
    obtain ⟨l1, l2, l3⟩ := hL t t0 (by omega)
    rw [l1, l2, l3] at hi
    have f1 := hfa t (2 * t) (by omega) (by omega)
    have f2 := hfa t (2 * t + 1) (by omega) (by omega)
    generalize wcm K (cAdds c B t L R H) = M at k9 hi f1 f2 ⊢
    have ew : wr (2 * t + 2) = 2 * (t + 1) := by rw [wr_eq (by omega) (by omega)]; omega
    refine wp_seg 4 (P := none) (ls' := [some (aR 2 (0)), some (aR 7 (184)), some (aI (n)), some (aI (2 * t)), none]) (st' := [aI (M 9 (0) 0), aI (2 * t)]) (σ' := M) rq_38 rfl True.intro (i' := 11) rfl ?_
    refine wp_icmp rq_38 rfl (fun (h1 : (M 9 (0) 0) ≤ (2 * t)) => absurd h1 (by omega)) (fun (h1 : ¬ ((M 9 (0) 0) ≤ (2 * t))) => ?_)
    refine wp_seg 10 (P := none) (ls' := [some (aR 2 (0)), some (aR 7 (184)), some (aI (n)), some (aI (2 * t)), none]) (st' := [aI (2 * t), aR 9 (0), aI (wr ((100) + (M 9 (0) 0))), aR 0 (0)]) (σ' := M) rq_38 rfl True.intro (i' := 22) rfl ?_
    rw [k9]
    refine wp_call (C := 9) (As := [aR 9 (0), aI (2 * t)]) (rest := [aI (wr ((100) + (z))), aR 0 (0)]) rq_38 f1 rfl rfl (show clOK 38 99 0 0 0 2 9 = true by decide +kernel) rfl (show 2 ≤ 4 by decide) (fun _ => ⟨_, rfl⟩) rfl (c' := 0) (s' := 0) rfl rfl ?_
    refine wp_seg 5 (P := none) (ls' := [some (aR 2 (0)), some (aR 7 (184)), some (aI (n)), some (aI (2 * t)), none]) (st' := [aI (wr ((2 * t) + (1))), aR 9 (0), aI (FA (2 * t)), aI (wr ((100) + (z))), aR 0 (0)]) (σ' := M) rq_38 rfl True.intro (i' := 28) rfl ?_
    rw [wr_eq (z := 2 * t + 1) (by omega) (by omega), wr_eq (z := 100 + z) (by omega) (by omega)]
    refine wp_call (C := 9) (As := [aR 9 (0), aI (2 * t + 1)]) (rest := [aI (FA (2 * t)), aI (100 + z), aR 0 (0)]) rq_38 f2 rfl rfl (show clOK 38 99 0 0 0 2 9 = true by decide +kernel) rfl (show 3 ≤ 4 by decide) (fun _ => ⟨_, rfl⟩) rfl (c' := 0) (s' := 0) rfl rfl ?_
    refine wp_call (C := 0) (As := [aR 0 (0), aI (100 + z), aI (FA (2 * t)), aI (FA (2 * t + 1))]) (rest := []) rq_38 (ev_badd (0) (100 + z) (FA (2 * t)) (FA (2 * t + 1)) M) rfl rfl (show clOK 38 1 0 0 0 4 0 = true by decide +kernel) rfl (show 0 ≤ 4 by decide) (fun _ => ⟨_, rfl⟩) rfl (c' := 0) (s' := 0) rfl rfl ?_
    refine wp_seg 1 (P := none) (ls' := [some (aR 2 (0)), some (aR 7 (184)), some (aI (n)), some (aI (wr (2 * t + 2))), none]) (st' := []) (σ' := (zm_badd (0) (100 + z) (FA (2 * t)) (FA (2 * t + 1)) M)) rq_38 rfl True.intro (i' := 31) rfl ?_
    refine wp_goto rq_38 rfl ?_
    rw [ew]
    exact hi
theorem lf_2 (hB : 0 ≤ B ∧ B ≤ 276) (s : Int) (hs : 0 ≤ s ∧ s + r / 2 ≤ 31) (hr : 2 ≤ r ∧ r ≤ 16) (hL : ∀ i, 0 ≤ i → i < r / 2 → L (s + i) = -1 ∧ R (s + i) = -1 ∧ H (s + i) = 100 + r) (Q : Out → Mem → Prop) (hq : wp true 38 58 [some (aR 2 (0)), some (aR 7 (184)), some (aI (n)), some (aI (r)), none] [] (wcm K (cAdds c B (s + r / 2) L R H)) 0 0 Q) : ∀ (u : Nat) (i : Int), 0 ≤ i → i + u = r / 2 → wp true 38 43 [some (aR 2 (0)), some (aR 7 (184)), some (aI (n)), some (aI (r)), some (aI (i))] [] (wcm K (cAdds c B (s + i) L R H)) 0 0 Q := by
  intro u
  have ed : wr (r.tdiv 2) = r / 2 := by rw [td2 (by omega), wr_eq (by omega) (by omega)]
  induction u with
  | zero =>
    intro i i0 e
    have e9 : i = r / 2 := by omega
    rw [e9]
    generalize wcm K (cAdds c B (s + r / 2) L R H) = M at hq ⊢
    refine wp_seg 4 (P := some ((2 : Int) ≠ 0)) (ls' := [some (aR 2 (0)), some (aR 7 (184)), some (aI (n)), some (aI (r)), some (aI (r / 2))]) (st' := [aI (wr ((r).tdiv (2))), aI (r / 2)]) (σ' := M) rq_38 rfl ?_ (i' := 47) rfl ?_
    · show (2 : Int) ≠ 0
      decide
    refine wp_icmp rq_38 rfl (fun (h1 : (wr ((r).tdiv (2))) ≤ (r / 2)) => ?_) (fun (h1 : ¬ ((wr ((r).tdiv (2))) ≤ (r / 2))) => absurd (show (wr ((r).tdiv (2))) ≤ (r / 2) by omega) h1)
    exact wp_weak (lessL_c (lessL_c (lessL_c (lessL_c (lessL_n lessL_0))))) hq
  | succ u ih =>
    intro i i0 e
    have hw := badd_w (K := K) (c := c) (L := L) (R := R) (H := H) (t := s + i) hB.1 (by omega) (by omega)
    have hi := ih (i + 1) (by omega) (by omega)
    obtain ⟨l1, l2, l3⟩ := hL i i0 (by omega)
    rw [l1, l2, l3] at hw
    rw [show s + (i + 1) = s + i + 1 by omega, ← hw] at hi
    generalize wcm K (cAdds c B (s + i) L R H) = M at hi ⊢
    have ew : wr (i + 1) = i + 1 := wr_eq (by omega) (by omega)
    refine wp_seg 4 (P := some ((2 : Int) ≠ 0)) (ls' := [some (aR 2 (0)), some (aR 7 (184)), some (aI (n)), some (aI (r)), some (aI (i))]) (st' := [aI (wr ((r).tdiv (2))), aI (i)]) (σ' := M) rq_38 rfl ?_ (i' := 47) rfl ?_
    · show (2 : Int) ≠ 0
      decide
    refine wp_icmp rq_38 rfl (fun (h1 : (wr ((r).tdiv (2))) ≤ (i)) => absurd h1 (by omega)) (fun (h1 : ¬ ((wr ((r).tdiv (2))) ≤ (i))) => ?_)
    refine wp_seg 7 (P := none) (ls' := [some (aR 2 (0)), some (aR 7 (184)), some (aI (n)), some (aI (r)), some (aI (i))]) (st' := [aI (-1), aI (-1), aI (wr ((100) + (r))), aR 0 (0)]) (σ' := M) rq_38 rfl True.intro (i' := 55) rfl ?_
    rw [wr_eq (z := 100 + r) (by omega) (by omega)]
    refine wp_call (C := 0) (As := [aR 0 (0), aI (100 + r), aI (-1), aI (-1)]) (rest := []) rq_38 (ev_badd (0) (100 + r) (-1) (-1) M) rfl rfl (show clOK 38 1 0 0 0 4 0 = true by decide +kernel) rfl (show 0 ≤ 4 by decide) (fun _ => ⟨_, rfl⟩) rfl (c' := 0) (s' := 0) rfl rfl ?_
    refine wp_seg 1 (P := none) (ls' := [some (aR 2 (0)), some (aR 7 (184)), some (aI (n)), some (aI (r)), some (aI (wr (i + 1)))]) (st' := []) (σ' := (zm_badd (0) (100 + r) (-1) (-1) M)) rq_38 rfl True.intro (i' := 57) rfl ?_
    refine wp_goto rq_38 rfl ?_
    rw [ew]
    exact hi
theorem p2s (m : Nat) (hm : m ≤ 4) : (2 : Int) ^ m ≤ 16 ∧ 1 ≤ (2 : Int) ^ m := by
  have : m = 0 ∨ m = 1 ∨ m = 2 ∨ m = 3 ∨ m = 4 := by omega
  rcases this with rfl | rfl | rfl | rfl | rfl
  all_goals decide
theorem lf_3 (hB : 0 ≤ B ∧ B ≤ 276) (hz : z ≤ 32) (hL : ∀ r i, 2 ≤ r → 2 * r ≤ z → (r = 2 ∨ r = 4 ∨ r = 8 ∨ r = 16) → 0 ≤ i → i < r / 2 → L (z - r + i) = -1 ∧ R (z - r + i) = -1 ∧ H (z - r + i) = 100 + r) (Q : Out → Mem → Prop) (hq : wp true 38 63 [some (aR 2 (0)), some (aR 7 (184)), some (aI (n)), some (aI (1)), none] [] (wcm K (cAdds c B (z - 1) L R H)) 0 0 Q) : ∀ (m : Nat), m ≤ 4 → 2 * (2 : Int) ^ m ≤ z → wp true 38 38 [some (aR 2 (0)), some (aR 7 (184)), some (aI (n)), some (aI ((2 : Int) ^ m)), none] [] (wcm K (cAdds c B (z - (2 : Int) ^ m) L R H)) 0 0 Q := by
  intro m
  induction m with
  | zero =>
    intro _ h
    rw [show (2 : Int) ^ 0 = 1 from rfl]
    generalize wcm K (cAdds c B (z - 1) L R H) = M at hq ⊢
    refine wp_seg 2 (P := none) (ls' := [some (aR 2 (0)), some (aR 7 (184)), some (aI (n)), some (aI (1)), none]) (st' := [aI (2), aI (1)]) (σ' := M) rq_38 rfl True.intro (i' := 40) rfl ?_
    exact wp_icmp rq_38 rfl (fun (h1 : (1 : Int) < 2) => hq) (fun (h1 : ¬ ((1 : Int) < 2)) => absurd (show (1 : Int) < 2 by decide) h1)
  | succ m ih =>
    intro hm h
    have h2 : (2 : Int) ^ (m + 1) = 2 ^ m * 2 := Int.pow_succ 2 m
    have hp := p2s m (by omega)
    have hi := ih (by omega) (by omega)
    have hr4 : (2 : Int) ^ (m + 1) = 2 ∨ (2 : Int) ^ (m + 1) = 4 ∨ (2 : Int) ^ (m + 1) = 8 ∨ (2 : Int) ^ (m + 1) = 16 := by
      have : m = 0 ∨ m = 1 ∨ m = 2 ∨ m = 3 := by omega
      rcases this with rfl | rfl | rfl | rfl
      all_goals decide
    generalize hr : (2 : Int) ^ (m + 1) = r at h2 h hr4 ⊢
    generalize (2 : Int) ^ m = q at h2 hp hi
    have ed : wr (r.tdiv 2) = q := by rw [td2 (by omega), wr_eq (by omega) (by omega)]; omega
    refine wp_seg 2 (P := none) (ls' := [some (aR 2 (0)), some (aR 7 (184)), some (aI (n)), some (aI (r)), none]) (st' := [aI (2), aI (r)]) (σ' := (wcm K (cAdds c B (z - r) L R H))) rq_38 rfl True.intro (i' := 40) rfl ?_
    refine wp_icmp rq_38 rfl (fun (h1 : (r) < 2) => absurd h1 (by omega)) (fun (h1 : ¬ ((r) < 2)) => ?_)
    refine wp_seg 2 (P := none) (ls' := [some (aR 2 (0)), some (aR 7 (184)), some (aI (n)), some (aI (r)), some (aI (0))]) (st' := []) (σ' := (wcm K (cAdds c B (z - r) L R H))) rq_38 rfl True.intro (i' := 43) rfl ?_
    have h0 := lf_2 (n := n) (K := K) (c := c) (B := B) (r := r) (L := L) (R := R) (H := H) hB (z - r) (by omega) (by omega) (fun i i0 i1 => hL r i (by omega) (by omega) hr4 i0 i1) Q ?_ (r / 2).toNat 0 (by decide) (by omega)
    · rw [show z - r + 0 = z - r by omega] at h0
      exact h0
    · rw [show z - r + r / 2 = z - q by omega]
      generalize wcm K (cAdds c B (z - q) L R H) = M at hi ⊢
      refine wp_seg 4 (P := some ((2 : Int) ≠ 0)) (ls' := [some (aR 2 (0)), some (aR 7 (184)), some (aI (n)), some (aI (wr ((r).tdiv (2)))), none]) (st' := []) (σ' := M) rq_38 rfl ?_ (i' := 62) rfl ?_
      · show (2 : Int) ≠ 0
        decide
      refine wp_goto rq_38 rfl ?_
      rw [ed]
      exact hi
theorem lf_4 (h90 : c 9 0 = z) (hz : z = 2 ∨ z = 4 ∨ z = 8 ∨ z = 16 ∨ z = 32) (hB : 0 ≤ B ∧ B ≤ 276) (h01 : c 0 1 = B) (hb : ∀ j, 0 ≤ j → j < z / 2 → zm_passBye 0 (B + j) (wcm K (cBye c B z j L R)) = wcm K (cBye c B z (j + 1) L R)) (Q : Out → Mem → Prop) (hq : wp true 38 82 [some (aR 2 (0)), some (aR 7 (184)), some (aI (n)), some (aI (z / 2)), none] [] (wcm K (cBye c B z (z / 2) L R)) 0 0 Q) : ∀ (u : Nat) (i : Int), 0 ≤ i → i + u = z / 2 → wp true 38 65 [some (aR 2 (0)), some (aR 7 (184)), some (aI (n)), some (aI (i)), none] [] (wcm K (cBye c B z i L R)) 0 0 Q := by
  intro u
  have ed : wr (z.tdiv 2) = z / 2 := by rw [td2 (by omega), wr_eq (by omega) (by omega)]
  have ko : ∀ j C k, C ≠ 21 → C ≠ 22 → C ≠ 19 → cBye c B z j L R C k = c C k := fun j C k q1 q2 q3 => by
    unfold cBye
    rw [if_neg (by omega), if_neg (by omega), if_neg (by omega)]
  have k9 : ∀ j, wcm K (cBye c B z j L R) 9 0 0 = z := fun j => by rw [wk_9, ko _ _ _ (by decide) (by decide) (by decide)]; exact h90
  induction u with
  | zero =>
    intro i i0 e
    have e9 : i = z / 2 := by omega
    have k := k9 (z / 2)
    rw [e9]
    generalize wcm K (cBye c B z (z / 2) L R) = M at hq k ⊢
    refine wp_seg 6 (P := some ((2 : Int) ≠ 0)) (ls' := [some (aR 2 (0)), some (aR 7 (184)), some (aI (n)), some (aI (z / 2)), none]) (st' := [aI (wr ((M 9 (0) 0).tdiv (2))), aI (z / 2)]) (σ' := M) rq_38 rfl ?_ (i' := 71) rfl ?_
    · show (2 : Int) ≠ 0
      decide
    rw [k, ed]
    exact wp_icmp rq_38 rfl (fun (h1 : (z / 2) ≤ (z / 2)) => hq) (fun (h1 : ¬ ((z / 2) ≤ (z / 2))) => absurd (Int.le_refl _) h1)
  | succ u ih =>
    intro i i0 e
    have k := k9 i
    have hi := ih (i + 1) (by omega) (by omega)
    rw [← hb i i0 (by omega)] at hi
    have hbr : zo_boutOfRound 0 z i (wcm K (cBye c B z i L R)) = B + i := by
      rw [cz_br (by rw [ko _ _ _ (by decide) (by decide) (by decide)]; omega) (by rw [ko _ _ _ (by decide) (by decide) (by decide)]; omega) (by omega) (by omega), ko _ _ _ (by decide) (by decide) (by decide), ko _ _ _ (by decide) (by decide) (by decide)]
      omega
    generalize wcm K (cBye c B z i L R) = M at hi k hbr ⊢
    have ew : wr (i + 1) = i + 1 := wr_eq (by omega) (by omega)
    refine wp_seg 6 (P := some ((2 : Int) ≠ 0)) (ls' := [some (aR 2 (0)), some (aR 7 (184)), some (aI (n)), some (aI (i)), none]) (st' := [aI (wr ((M 9 (0) 0).tdiv (2))), aI (i)]) (σ' := M) rq_38 rfl ?_ (i' := 71) rfl ?_
    · show (2 : Int) ≠ 0
      decide
    refine wp_icmp rq_38 rfl (fun (h1 : (wr ((M 9 (0) 0).tdiv (2))) ≤ (i)) => absurd h1 (by rw [k, ed]; omega)) (fun (h1 : ¬ ((wr ((M 9 (0) 0).tdiv (2))) ≤ (i))) => ?_)
    refine wp_seg 6 (P := none) (ls' := [some (aR 2 (0)), some (aR 7 (184)), some (aI (n)), some (aI (i)), none]) (st' := [aI (i), aI (M 9 (0) 0), aR 2 (0), aR 2 (0)]) (σ' := M) rq_38 rfl True.intro (i' := 78) rfl ?_
    rw [k]
    refine wp_call (C := 2) (As := [aR 2 (0), aI (z), aI (i)]) (rest := [aR 2 (0)]) rq_38 (ev_boutOfRound (0) (z) (i) M) rfl rfl (show clOK 38 37 0 0 0 3 2 = true by decide +kernel) rfl (show 1 ≤ 4 by decide) (fun _ => ⟨_, rfl⟩) rfl (c' := 0) (s' := 0) rfl rfl ?_
    rw [hbr]
    refine wp_call (C := 2) (As := [aR 2 (0), aI (B + i)]) (rest := []) rq_38 (ev_passBye (0) (B + i) M) rfl rfl (show clOK 38 39 0 0 0 2 2 = true by decide +kernel) rfl (show 0 ≤ 4 by decide) (fun _ => ⟨_, rfl⟩) rfl (c' := 0) (s' := 0) rfl rfl ?_
    refine wp_seg 1 (P := none) (ls' := [some (aR 2 (0)), some (aR 7 (184)), some (aI (n)), some (aI (wr (i + 1))), none]) (st' := []) (σ' := (zm_passBye (0) (B + i) M)) rq_38 rfl True.intro (i' := 81) rfl ?_
    refine wp_goto rq_38 rfl ?_
    rw [ew]
    exact hi
end FillU
