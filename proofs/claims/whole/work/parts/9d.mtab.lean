/-! The table is drawn: the model's loops. -/
def gSd (g : Gs) (n : Int) (o : Int → Int) (j : Int) : Gs := fun k => if 222 ≤ k ∧ k < 222 + j then o (k - 222) else if k = 8 then n else g k
section MTab
variable {n B z t j i r u b : Int} {L R H FA : Int → Int} {K X S M : Mem} {g : Gs} {o : Int → Int} {m : Nat}
theorem gSd_s (i0 : 0 ≤ i) : gs (gSd g n o i) (222 + i) (o i) = gSd g n o (i + 1) := by
  funext k
  unfold gs gSd
  by_cases q : k = 222 + i
  · rw [if_pos q, if_pos (by omega)]
    exact congrArg o (by omega)
  · rw [if_neg q]
    by_cases q2 : 222 ≤ k ∧ k < 222 + i
    · rw [if_pos q2, if_pos (by omega)]
    · rw [if_neg q2, if_neg (show ¬ (222 ≤ k ∧ k < 222 + (i + 1)) by omega)]
theorem gSd_8 : gSd g n o i 8 = n := by
  unfold gSd
  rw [if_neg (by omega), if_pos rfl]

theorem mtb_1 (hn : 0 ≤ n ∧ n ≤ 24) (hra : ∀ i, 0 ≤ i → i < n → Ev true 210 [aR 11 0, aI i] (wg X (gSd g n o i)) (.inl (some (aI (o i)))) (wg X (gSd g n o i))) (Q : Out → Mem → Prop) (hq : wp true 217 57 [some (aR 11 (0)), some (aI (n)), none, none] [] (wg X (gSd g n o n)) 0 0 Q) : ∀ (u : Nat) (i : Int), 0 ≤ i → i + u = n → wp true 217 40 [some (aR 11 (0)), some (aI (i)), none, none] [] (wg X (gSd g n o i)) 0 0 Q := by
  intro u
  induction u with
  | zero =>
    intro i i0 e
    have e9 : i = n := by omega
    have h8 : (wg X (gSd g n o n)) 13 186 8 = n := by rw [wg_r, gSd_8]
    rw [e9]
    generalize wg X (gSd g n o n) = M at h8 hq ⊢
    refine wp_seg 5 (P := some (0 ≤ (8) ∧ (8) < alen M 13 (186))) (ls' := [some (aR 11 (0)), some (aI (n)), none, none]) (st' := [aI (M 13 (186) (8)), aI (n)]) (σ' := M) rq_217 rfl ?_ (i' := 45) rfl ?_
    · show 0 ≤ (8) ∧ (8) < alen M 13 (186)
      (first | decide | exact Or.inl rfl | exact Or.inr rfl | ((try simp only [al_g, al_k, al_p, al_c, al_r, al_t, al_o, rl_g, rl_k, rl_p, rl_c, rl_r, rl_t, rl_o]); (try simp (disch := omega) only [wr_eq]); omega))
    refine wp_icmp rq_217 rfl (fun _ => ?_) (fun (h1 : ¬ ((M 13 (186) (8)) ≤ (n))) => absurd (show (M 13 (186) (8)) ≤ (n) from by omega) h1)
    exact hq
  | succ u ih =>
    intro i i0 e
    have h8 : (wg X (gSd g n o i)) 13 186 8 = n := by rw [wg_r, gSd_8]
    have hi := ih (i + 1) (by omega) (by omega)
    rw [← gSd_s i0, ← up_wg] at hi
    have hRA := hra i i0 (by omega)
    have w2 : wr (222 + i) = 222 + i := wr_eq (by omega) (by omega)
    generalize wg X (gSd g n o i) = M at h8 hi hRA ⊢
    refine wp_seg 5 (P := some (0 ≤ (8) ∧ (8) < alen M 13 (186))) (ls' := [some (aR 11 (0)), some (aI (i)), none, none]) (st' := [aI (M 13 (186) (8)), aI (i)]) (σ' := M) rq_217 rfl ?_ (i' := 45) rfl ?_
    · show 0 ≤ (8) ∧ (8) < alen M 13 (186)
      (first | decide | exact Or.inl rfl | exact Or.inr rfl | ((try simp only [al_g, al_k, al_p, al_c, al_r, al_t, al_o, rl_g, rl_k, rl_p, rl_c, rl_r, rl_t, rl_o]); (try simp (disch := omega) only [wr_eq]); omega))
    refine wp_icmp rq_217 rfl (fun (h1 : (M 13 (186) (8)) ≤ (i)) => absurd h1 (show ¬ ((M 13 (186) (8)) ≤ (i)) from by omega)) (fun _ => ?_)
    refine wp_seg 7 (P := none) (ls' := [some (aR 11 (0)), some (aI (i)), none, none]) (st' := [aI (i), aR 11 (0), aI (wr ((222) + (i))), aR 13 (186)]) (σ' := M) rq_217 rfl True.intro (i' := 53) rfl ?_
    refine wp_call (C := 11) (As := [aR 11 (0), aI (i)]) (rest := [aI (wr ((222) + (i))), aR 13 (186)]) rq_217 hRA rfl rfl (show clOK 217 210 0 0 0 2 11 = true by decide +kernel) rfl (show 2 ≤ 4 by decide) (fun _ => ⟨_, rfl⟩) rfl (c' := 0) (s' := 0) rfl rfl ?_
    refine wp_seg 2 (P := some (0 ≤ (wr ((222) + (i))) ∧ (wr ((222) + (i))) < rowLen (186))) (ls' := [some (aR 11 (0)), some (aI (wr (i + 1))), none, none]) (st' := []) (σ' := (up M 13 (186) (wr ((222) + (i))) (o (i)))) rq_217 rfl ?_ (i' := 56) rfl ?_
    · show 0 ≤ (wr ((222) + (i))) ∧ (wr ((222) + (i))) < rowLen (186)
      (first | decide | exact Or.inl rfl | exact Or.inr rfl | ((try simp only [al_g, al_k, al_p, al_c, al_r, al_t, al_o, rl_g, rl_k, rl_p, rl_c, rl_r, rl_t, rl_o]); (try simp (disch := omega) only [wr_eq]); omega))
    refine wp_goto rq_217 rfl ?_
    rw [w2, wr_eq (z := i + 1) (by omega) (by omega)]
    exact hi

theorem mtb_2s (h8 : M 13 186 8 = n) (hu : 0 ≤ u ∧ u ≤ 32) (Q : Out → Mem → Prop) (hq : n ≤ u → wp true 217 70 [some (aR 11 (0)), some (aI (u)), none, none] [] M 0 0 Q) (hs : u < n → wp true 217 59 [some (aR 11 (0)), some (aI (u * 2)), none, none] [] M 0 0 Q) : wp true 217 59 [some (aR 11 (0)), some (aI (u)), none, none] [] M 0 0 Q := by
  refine wp_seg 5 (P := some (0 ≤ (8) ∧ (8) < alen M 13 (186))) (ls' := [some (aR 11 (0)), some (aI (u)), none, none]) (st' := [aI (M 13 (186) (8)), aI (u)]) (σ' := M) rq_217 rfl ?_ (i' := 64) rfl ?_
  · show 0 ≤ (8) ∧ (8) < alen M 13 (186)
    (first | decide | exact Or.inl rfl | exact Or.inr rfl | ((try simp only [al_g, al_k, al_p, al_c, al_r, al_t, al_o, rl_g, rl_k, rl_p, rl_c, rl_r, rl_t, rl_o]); (try simp (disch := omega) only [wr_eq]); omega))
  refine wp_icmp rq_217 rfl (fun (h1 : (M 13 (186) (8)) ≤ (u)) => ?_) (fun (h1 : ¬ ((M 13 (186) (8)) ≤ (u))) => ?_)
  · exact hq (by omega)
  · refine wp_seg 4 (P := none) (ls' := [some (aR 11 (0)), some (aI (wr ((u) * (2)))), none, none]) (st' := []) (σ' := M) rq_217 rfl True.intro (i' := 69) rfl ?_
    refine wp_goto rq_217 rfl ?_
    rw [wr_eq (by omega) (by omega)]
    exact hs (by omega)
theorem mtb_2 (h8 : M 13 186 8 = n) (hn : 2 ≤ n ∧ n ≤ 24) (Q : Out → Mem → Prop) (hq : wp true 217 70 [some (aR 11 (0)), some (aI (szO n)), none, none] [] M 0 0 Q) : wp true 217 59 [some (aR 11 (0)), some (aI (2)), none, none] [] M 0 0 Q := by
  refine mtb_2s h8 (by decide) Q (fun h => ?_) (fun h => mtb_2s h8 (by decide) Q (fun h => ?_) (fun h => mtb_2s h8 (by decide) Q (fun h => ?_) (fun h => mtb_2s h8 (by decide) Q (fun h => ?_) (fun h => mtb_2s h8 (by decide) Q (fun h => ?_) (fun h => absurd h (by omega))))))
  · have e : szO n = 2 := by unfold szO; rw [if_pos (by omega)]
    rw [e] at hq; exact hq
  · have e : szO n = 4 := by unfold szO; rw [if_neg (by omega), if_pos (by omega)]
    rw [e] at hq; exact hq
  · have e : szO n = 8 := by unfold szO; rw [if_neg (by omega), if_neg (by omega), if_pos (by omega)]
    rw [e] at hq; exact hq
  · have e : szO n = 16 := by unfold szO; rw [if_neg (by omega), if_neg (by omega), if_neg (by omega), if_pos (by omega)]
    rw [e] at hq; exact hq
  · have e : szO n = 32 := by unfold szO; rw [if_neg (by omega), if_neg (by omega), if_neg (by omega), if_neg (by omega)]
    rw [e] at hq; exact hq

theorem mtb_3a (hz : z = 2 ∨ z = 4 ∨ z = 8 ∨ z = 16 ∨ z = 32) (hB : 0 ≤ B ∧ B ≤ 276) (hsd : ∀ p, 0 ≤ p → p < z → X 13 190 p = FA p ∧ 1 ≤ FA p) (h8 : g 8 ≤ 24) (hsT : ∀ p, 0 ≤ p → p < z → (if FA p ≤ g 8 then g (221 + FA p) else -1) = o p) (hL : ∀ t, 0 ≤ t → t < z / 2 → L t = o (2 * t) ∧ R t = o (2 * t + 1) ∧ H t = 100 + z) (Q : Out → Mem → Prop) (hq : wp true 217 138 [some (aR 11 (0)), some (aI (z)), some (aI (z)), none] [] (wg X (gAdds g B (z / 2) L R H)) 0 0 Q) : ∀ (u : Nat) (i : Int), 0 ≤ i → i + u = z / 2 → wp true 217 98 [some (aR 11 (0)), some (aI (z)), some (aI (z)), some (aI (i))] [] (wg X (gAdds g B i L R H)) 0 0 Q := by
  intro u
  have ed : wr (z.tdiv 2) = z / 2 := by rw [td2 (by omega), wr_eq (by omega) (by omega)]
  induction u with
  | zero =>
    intro i i0 e
    have e9 : i = z / 2 := by omega
    rw [← e9] at hq
    generalize wg X (gAdds g B i L R H) = M at hq ⊢
    refine wp_seg 4 (P := some ((2 : Int) ≠ 0)) (ls' := [some (aR 11 (0)), some (aI (z)), some (aI (z)), some (aI (i))]) (st' := [aI (wr ((z).tdiv (2))), aI (i)]) (σ' := M) rq_217 rfl ?_ (i' := 102) rfl ?_
    · show (2 : Int) ≠ 0
      (first | decide | exact Or.inl rfl | exact Or.inr rfl | ((try simp only [al_g, al_k, al_p, al_c, al_r, al_t, al_o, rl_g, rl_k, rl_p, rl_c, rl_r, rl_t, rl_o]); (try simp (disch := omega) only [wr_eq]); omega))
    refine wp_icmp rq_217 rfl (fun _ => ?_) (fun (h1 : ¬ ((wr ((z).tdiv (2))) ≤ (i))) => absurd (show (wr ((z).tdiv (2))) ≤ (i) from by omega) h1)
    exact wp_weak (lessL_c (lessL_c (lessL_c (lessL_n lessL_0)))) hq
  | succ u ih =>
    intro i i0 e
    have hw := bout_w (X := X) (g := g) (L := L) (R := R) (H := H) hB.1 i0 (by omega)
    have hi := ih (i + 1) (by omega) (by omega)
    rw [← hw] at hi
    obtain ⟨l1, l2, l3⟩ := hL i i0 (by omega)
    rw [l1, l2, l3] at hi
    have m3 : (wg X (gAdds g B i L R H)) 13 186 3 = B + i := by rw [wg_r, gAdds_n hB.1]
    have hB3 : 0 ≤ (wg X (gAdds g B i L R H)) 13 186 3 ∧ (wg X (gAdds g B i L R H)) 13 186 3 < 307 := by omega
    have m8 : (wg X (gAdds g B i L R H)) 13 186 8 = g 8 := by rw [wg_r, gAdds_lo (by omega) (by decide)]
    have mr : ∀ p, 0 ≤ p → p < z → (wg X (gAdds g B i L R H)) 13 190 p = FA p := fun p p0 p1 => by rw [wg_o (by omega)]; exact (hsd p p0 p1).1
    have ms : ∀ p, 0 ≤ p → p < z → zo_mseedTaken (FA p) (wg X (gAdds g B i L R H)) = o p := fun p p0 p1 => by
      have f1 := (hsd p p0 p1).2
      rw [← hsT p p0 p1]
      unfold zo_mseedTaken
      rw [m8]
      by_cases q : FA p ≤ g 8
      · rw [if_pos q, if_pos q, wr_eq (z := 222 + FA p) (by omega) (by omega), wr_eq (by omega) (by omega), wg_r, gAdds_lo (by omega) (by omega), show 222 + FA p - 1 = 221 + FA p by omega]
      · rw [if_neg q, if_neg q]
    have f0 := (hsd (2 * i) (by omega) (by omega)).2
    have f1 := (hsd (2 * i + 1) (by omega) (by omega)).2
    have w0 : wr (2 * i) = 2 * i := wr_eq (by omega) (by omega)
    have w1 : wr (wr (2 * i) + 1) = 2 * i + 1 := by rw [w0]; exact wr_eq (by omega) (by omega)
    have r1 : (wg X (gAdds g B i L R H)) 13 190 (wr (wr (2 * i) + 1)) = FA (2 * i + 1) := by rw [w1]; exact mr (2 * i + 1) (by omega) (by omega)
    have r0 : (wg X (gAdds g B i L R H)) 13 190 (wr (2 * i)) = FA (2 * i) := by rw [w0]; exact mr (2 * i) (by omega) (by omega)
    have s0 := ms (2 * i) (by omega) (by omega)
    have s1 := ms (2 * i + 1) (by omega) (by omega)
    clear mr ms
    generalize wg X (gAdds g B i L R H) = M at hi hB3 m8 r0 r1 s0 s1 ⊢
    refine wp_seg 4 (P := some ((2 : Int) ≠ 0)) (ls' := [some (aR 11 (0)), some (aI (z)), some (aI (z)), some (aI (i))]) (st' := [aI (wr ((z).tdiv (2))), aI (i)]) (σ' := M) rq_217 rfl ?_ (i' := 102) rfl ?_
    · show (2 : Int) ≠ 0
      (first | decide | exact Or.inl rfl | exact Or.inr rfl | ((try simp only [al_g, al_k, al_p, al_c, al_r, al_t, al_o, rl_g, rl_k, rl_p, rl_c, rl_r, rl_t, rl_o]); (try simp (disch := omega) only [wr_eq]); omega))
    refine wp_icmp rq_217 rfl (fun (h1 : (wr ((z).tdiv (2))) ≤ (i)) => absurd h1 (show ¬ ((wr ((z).tdiv (2))) ≤ (i)) from by omega)) (fun _ => ?_)
    refine wp_seg 3 (P := none) (ls' := [some (aR 11 (0)), some (aI (z)), some (aI (z)), some (aI (i))]) (st' := [aI (z), aI (z), aR 11 (0)]) (σ' := M) rq_217 rfl True.intro (i' := 106) rfl ?_
    refine wp_icmp rq_217 rfl (fun (h2 : ¬ (z) = (z)) => absurd h2 (show ¬ (¬ (z) = (z)) from fun z9 => z9 rfl)) (fun _ => ?_)
    refine wp_seg 7 (P := some (0 ≤ (wr ((2) * (i))) ∧ (wr ((2) * (i))) < alen M 13 (190))) (ls' := [some (aR 11 (0)), some (aI (z)), some (aI (z)), some (aI (i))]) (st' := [aI (M 13 (190) (wr ((2) * (i)))), aR 11 (0), aR 11 (0)]) (σ' := M) rq_217 rfl ?_ (i' := 114) rfl ?_
    · show 0 ≤ (wr ((2) * (i))) ∧ (wr ((2) * (i))) < alen M 13 (190)
      (first | decide | exact Or.inl rfl | exact Or.inr rfl | ((try simp only [al_g, al_k, al_p, al_c, al_r, al_t, al_o, rl_g, rl_k, rl_p, rl_c, rl_r, rl_t, rl_o]); (try simp (disch := omega) only [wr_eq]); omega))
    refine wp_call (C := 11) (As := [aR 11 (0), aI (M 13 (190) (wr ((2) * (i))))]) (rest := [aR 11 (0)]) rq_217 (ev_mseedTaken (M 13 (190) (wr ((2) * (i)))) M (by first | (rw [r0]; exact f0) | (rw [r1]; exact f1)) (by omega)) rfl rfl (show clOK 217 216 0 0 0 2 11 = true by decide +kernel) rfl (show 1 ≤ 4 by decide) (fun _ => ⟨_, rfl⟩) rfl (c' := 0) (s' := 0) rfl rfl ?_
    refine wp_goto rq_217 rfl ?_
    refine wp_seg 2 (P := none) (ls' := [some (aR 11 (0)), some (aI (z)), some (aI (z)), some (aI (i))]) (st' := [aI (z), aI (z), aI (zo_mseedTaken (M 13 (190) (wr ((2) * (i)))) M), aR 11 (0)]) (σ' := M) rq_217 rfl True.intro (i' := 119) rfl ?_
    refine wp_icmp rq_217 rfl (fun (h3 : ¬ (z) = (z)) => absurd h3 (show ¬ (¬ (z) = (z)) from fun z9 => z9 rfl)) (fun _ => ?_)
    refine wp_seg 9 (P := some (0 ≤ (wr ((wr ((2) * (i))) + (1))) ∧ (wr ((wr ((2) * (i))) + (1))) < alen M 13 (190))) (ls' := [some (aR 11 (0)), some (aI (z)), some (aI (z)), some (aI (i))]) (st' := [aI (M 13 (190) (wr ((wr ((2) * (i))) + (1)))), aR 11 (0), aI (zo_mseedTaken (M 13 (190) (wr ((2) * (i)))) M), aR 11 (0)]) (σ' := M) rq_217 rfl ?_ (i' := 129) rfl ?_
    · show 0 ≤ (wr ((wr ((2) * (i))) + (1))) ∧ (wr ((wr ((2) * (i))) + (1))) < alen M 13 (190)
      (first | decide | exact Or.inl rfl | exact Or.inr rfl | ((try simp only [al_g, al_k, al_p, al_c, al_r, al_t, al_o, rl_g, rl_k, rl_p, rl_c, rl_r, rl_t, rl_o]); (try simp (disch := omega) only [wr_eq]); omega))
    refine wp_call (C := 11) (As := [aR 11 (0), aI (M 13 (190) (wr ((wr ((2) * (i))) + (1))))]) (rest := [aI (zo_mseedTaken (M 13 (190) (wr ((2) * (i)))) M), aR 11 (0)]) rq_217 (ev_mseedTaken (M 13 (190) (wr ((wr ((2) * (i))) + (1)))) M (by first | (rw [r0]; exact f0) | (rw [r1]; exact f1)) (by omega)) rfl rfl (show clOK 217 216 0 0 0 2 11 = true by decide +kernel) rfl (show 2 ≤ 4 by decide) (fun _ => ⟨_, rfl⟩) rfl (c' := 0) (s' := 0) rfl rfl ?_
    refine wp_goto rq_217 rfl ?_
    refine wp_seg 3 (P := none) (ls' := [some (aR 11 (0)), some (aI (z)), some (aI (z)), some (aI (i))]) (st' := [aI (wr ((100) + (z))), aI (zo_mseedTaken (M 13 (190) (wr ((wr ((2) * (i))) + (1)))) M), aI (zo_mseedTaken (M 13 (190) (wr ((2) * (i)))) M), aR 11 (0)]) (σ' := M) rq_217 rfl True.intro (i' := 135) rfl ?_
    refine wp_call (C := 11) (As := [aR 11 (0), aI (zo_mseedTaken (M 13 (190) (wr ((2) * (i)))) M), aI (zo_mseedTaken (M 13 (190) (wr ((wr ((2) * (i))) + (1)))) M), aI (wr ((100) + (z)))]) (rest := []) rq_217 (ev_mboutComes (zo_mseedTaken (M 13 (190) (wr ((2) * (i)))) M) (zo_mseedTaken (M 13 (190) (wr ((wr ((2) * (i))) + (1)))) M) (wr ((100) + (z))) M hB3) rfl rfl (show clOK 217 173 0 0 0 4 11 = true by decide +kernel) rfl (show 0 ≤ 4 by decide) (fun _ => ⟨_, rfl⟩) rfl (c' := 0) (s' := 0) rfl rfl ?_
    refine wp_seg 1 (P := none) (ls' := [some (aR 11 (0)), some (aI (z)), some (aI (z)), some (aI (wr (i + 1)))]) (st' := []) (σ' := (zm_mboutComes (zo_mseedTaken (M 13 (190) (wr ((2) * (i)))) M) (zo_mseedTaken (M 13 (190) (wr ((wr ((2) * (i))) + (1)))) M) (wr ((100) + (z))) M)) rq_217 rfl True.intro (i' := 137) rfl ?_
    refine wp_goto rq_217 rfl ?_
    rw [wr_eq (z := i + 1) (by omega) (by omega), wr_eq (z := 100 + z) (by omega) (by omega), r0, r1, s0, s1]
    exact hi

theorem mtb_3b (hz : z ≤ 32) (hB : 0 ≤ B ∧ B ≤ 276) (s : Int) (hs : 0 ≤ s ∧ s + r / 2 ≤ 31) (hr : 2 ≤ r ∧ r ≤ 16) (hrz : ¬ r = z) (hL : ∀ i, 0 ≤ i → i < r / 2 → L (s + i) = -1 ∧ R (s + i) = -1 ∧ H (s + i) = 100 + r) (Q : Out → Mem → Prop) (hq : wp true 217 138 [some (aR 11 (0)), some (aI (z)), some (aI (r)), none] [] (wg X (gAdds g B (s + r / 2) L R H)) 0 0 Q) : ∀ (u : Nat) (i : Int), 0 ≤ i → i + u = r / 2 → wp true 217 98 [some (aR 11 (0)), some (aI (z)), some (aI (r)), some (aI (i))] [] (wg X (gAdds g B (s + i) L R H)) 0 0 Q := by
  intro u
  have ed : wr (r.tdiv 2) = r / 2 := by rw [td2 (by omega), wr_eq (by omega) (by omega)]
  induction u with
  | zero =>
    intro i i0 e
    have e9 : i = r / 2 := by omega
    rw [← e9] at hq
    generalize wg X (gAdds g B (s + i) L R H) = M at hq ⊢
    refine wp_seg 4 (P := some ((2 : Int) ≠ 0)) (ls' := [some (aR 11 (0)), some (aI (z)), some (aI (r)), some (aI (i))]) (st' := [aI (wr ((r).tdiv (2))), aI (i)]) (σ' := M) rq_217 rfl ?_ (i' := 102) rfl ?_
    · show (2 : Int) ≠ 0
      (first | decide | exact Or.inl rfl | exact Or.inr rfl | ((try simp only [al_g, al_k, al_p, al_c, al_r, al_t, al_o, rl_g, rl_k, rl_p, rl_c, rl_r, rl_t, rl_o]); (try simp (disch := omega) only [wr_eq]); omega))
    refine wp_icmp rq_217 rfl (fun _ => ?_) (fun (h1 : ¬ ((wr ((r).tdiv (2))) ≤ (i))) => absurd (show (wr ((r).tdiv (2))) ≤ (i) from by omega) h1)
    exact wp_weak (lessL_c (lessL_c (lessL_c (lessL_n lessL_0)))) hq
  | succ u ih =>
    intro i i0 e
    have hw := bout_w (X := X) (g := g) (L := L) (R := R) (H := H) (t := s + i) hB.1 (by omega) (by omega)
    have hi := ih (i + 1) (by omega) (by omega)
    obtain ⟨l1, l2, l3⟩ := hL i i0 (by omega)
    rw [l1, l2, l3] at hw
    rw [show s + (i + 1) = s + i + 1 by omega, ← hw] at hi
    have m3 : (wg X (gAdds g B (s + i) L R H)) 13 186 3 = B + (s + i) := by rw [wg_r, gAdds_n hB.1]
    have hB3 : 0 ≤ (wg X (gAdds g B (s + i) L R H)) 13 186 3 ∧ (wg X (gAdds g B (s + i) L R H)) 13 186 3 < 307 := by omega
    generalize wg X (gAdds g B (s + i) L R H) = M at hi hB3 ⊢
    refine wp_seg 4 (P := some ((2 : Int) ≠ 0)) (ls' := [some (aR 11 (0)), some (aI (z)), some (aI (r)), some (aI (i))]) (st' := [aI (wr ((r).tdiv (2))), aI (i)]) (σ' := M) rq_217 rfl ?_ (i' := 102) rfl ?_
    · show (2 : Int) ≠ 0
      (first | decide | exact Or.inl rfl | exact Or.inr rfl | ((try simp only [al_g, al_k, al_p, al_c, al_r, al_t, al_o, rl_g, rl_k, rl_p, rl_c, rl_r, rl_t, rl_o]); (try simp (disch := omega) only [wr_eq]); omega))
    refine wp_icmp rq_217 rfl (fun (h1 : (wr ((r).tdiv (2))) ≤ (i)) => absurd h1 (show ¬ ((wr ((r).tdiv (2))) ≤ (i)) from by omega)) (fun _ => ?_)
    refine wp_seg 3 (P := none) (ls' := [some (aR 11 (0)), some (aI (z)), some (aI (r)), some (aI (i))]) (st' := [aI (z), aI (r), aR 11 (0)]) (σ' := M) rq_217 rfl True.intro (i' := 106) rfl ?_
    refine wp_icmp rq_217 rfl (fun _ => ?_) (fun (h2 : ¬ (¬ (r) = (z))) => absurd (show ¬ (r) = (z) from by omega) h2)
    refine wp_seg 3 (P := none) (ls' := [some (aR 11 (0)), some (aI (z)), some (aI (r)), some (aI (i))]) (st' := [aI (z), aI (r), aI (-1), aR 11 (0)]) (σ' := M) rq_217 rfl True.intro (i' := 119) rfl ?_
    refine wp_icmp rq_217 rfl (fun _ => ?_) (fun (h3 : ¬ (¬ (r) = (z))) => absurd (show ¬ (r) = (z) from by omega) h3)
    refine wp_seg 4 (P := none) (ls' := [some (aR 11 (0)), some (aI (z)), some (aI (r)), some (aI (i))]) (st' := [aI (wr ((100) + (r))), aI (-1), aI (-1), aR 11 (0)]) (σ' := M) rq_217 rfl True.intro (i' := 135) rfl ?_
    refine wp_call (C := 11) (As := [aR 11 (0), aI (-1), aI (-1), aI (wr ((100) + (r)))]) (rest := []) rq_217 (ev_mboutComes (-1) (-1) (wr ((100) + (r))) M hB3) rfl rfl (show clOK 217 173 0 0 0 4 11 = true by decide +kernel) rfl (show 0 ≤ 4 by decide) (fun _ => ⟨_, rfl⟩) rfl (c' := 0) (s' := 0) rfl rfl ?_
    refine wp_seg 1 (P := none) (ls' := [some (aR 11 (0)), some (aI (z)), some (aI (r)), some (aI (wr (i + 1)))]) (st' := []) (σ' := (zm_mboutComes (-1) (-1) (wr ((100) + (r))) M)) rq_217 rfl True.intro (i' := 137) rfl ?_
    refine wp_goto rq_217 rfl ?_
    rw [wr_eq (z := i + 1) (by omega) (by omega), wr_eq (z := 100 + r) (by omega) (by omega)]
    exact hi

theorem mtb_3 (hB : 0 ≤ B ∧ B ≤ 276) (hz : z ≤ 32) (hL : ∀ r i, 2 ≤ r → 2 * r ≤ z → (r = 2 ∨ r = 4 ∨ r = 8 ∨ r = 16) → 0 ≤ i → i < r / 2 → L (z - r + i) = -1 ∧ R (z - r + i) = -1 ∧ H (z - r + i) = 100 + r) (Q : Out → Mem → Prop) (hq : wp true 217 143 [some (aR 11 (0)), some (aI (z)), some (aI (1)), none] [] (wg X (gAdds g B (z - 1) L R H)) 0 0 Q) : ∀ (m : Nat), m ≤ 4 → 2 * (2 : Int) ^ m ≤ z → wp true 217 93 [some (aR 11 (0)), some (aI (z)), some (aI ((2 : Int) ^ m)), none] [] (wg X (gAdds g B (z - (2 : Int) ^ m) L R H)) 0 0 Q := by
  intro m
  induction m with
  | zero =>
    intro _ h
    rw [show (2 : Int) ^ 0 = 1 from rfl]
    generalize wg X (gAdds g B (z - 1) L R H) = M at hq ⊢
    refine wp_seg 2 (P := none) (ls' := [some (aR 11 (0)), some (aI (z)), some (aI (1)), none]) (st' := [aI (2), aI (1)]) (σ' := M) rq_217 rfl True.intro (i' := 95) rfl ?_
    refine wp_icmp rq_217 rfl (fun _ => ?_) (fun (h1 : ¬ ((1 : Int) < (2 : Int))) => absurd (show (1 : Int) < (2 : Int) from by decide) h1)
    exact hq
  | succ m ih =>
    intro hm h
    have h2 : (2 : Int) ^ (m + 1) = 2 ^ m * 2 := Int.pow_succ 2 m
    have hp := p2s m (by omega)
    have hi := ih (by omega) (by omega)
    have hr4 : (2 : Int) ^ (m + 1) = 2 ∨ (2 : Int) ^ (m + 1) = 4 ∨ (2 : Int) ^ (m + 1) = 8 ∨ (2 : Int) ^ (m + 1) = 16 := by
      have : m = 0 ∨ m = 1 ∨ m = 2 ∨ m = 3 := by omega
      rcases this with rfl | rfl | rfl | rfl
      all_goals decide
    generalize hr : (2 : Int) ^ (m + 1) = r at h2 h hr4 ⊢
    generalize (2 : Int) ^ m = q at h2 hp hi
    have ed : wr (r.tdiv 2) = q := by rw [td2 (by omega), wr_eq (by omega) (by omega)]; omega
    have h0 := mtb_3b (z := z) (X := X) (g := g) (B := B) (r := r) (L := L) (R := R) (H := H) hz hB (z - r) (by omega) (by omega) (by omega) (fun i i0 i1 => hL r i (by omega) (by omega) hr4 i0 i1) Q ?_ (r / 2).toNat 0 (by decide) (by omega)
    · rw [show z - r + 0 = z - r by omega] at h0
      generalize wg X (gAdds g B (z - r) L R H) = M at h0 ⊢
      refine wp_seg 2 (P := none) (ls' := [some (aR 11 (0)), some (aI (z)), some (aI (r)), none]) (st' := [aI (2), aI (r)]) (σ' := M) rq_217 rfl True.intro (i' := 95) rfl ?_
      refine wp_icmp rq_217 rfl (fun (h1 : (r) < 2) => absurd h1 (show ¬ ((r) < 2) from by omega)) (fun _ => ?_)
      refine wp_seg 2 (P := none) (ls' := [some (aR 11 (0)), some (aI (z)), some (aI (r)), some (aI (0))]) (st' := []) (σ' := M) rq_217 rfl True.intro (i' := 98) rfl ?_
      exact h0
    · rw [show z - r + r / 2 = z - q by omega]
      generalize wg X (gAdds g B (z - q) L R H) = M at hi ⊢
      refine wp_seg 4 (P := some ((2 : Int) ≠ 0)) (ls' := [some (aR 11 (0)), some (aI (z)), some (aI (wr ((r).tdiv (2)))), none]) (st' := []) (σ' := M) rq_217 rfl ?_ (i' := 142) rfl ?_
      · show (2 : Int) ≠ 0
        (first | decide | exact Or.inl rfl | exact Or.inr rfl | ((try simp only [al_g, al_k, al_p, al_c, al_r, al_t, al_o, rl_g, rl_k, rl_p, rl_c, rl_r, rl_t, rl_o]); (try simp (disch := omega) only [wr_eq]); omega))
      refine wp_goto rq_217 rfl ?_
      rw [ed]
      exact hi
end MTab
