/-! The table is drawn: the model. -/
def gBye (g : Gs) (B z j : Int) (L R : Int → Int) : Gs := fun k => if 250 + 10 * B ≤ k ∧ k < 250 + 10 * (B + j) ∧ (k - 250) % 10 = 4 ∧ R ((k - 250) / 10 - B) = -1 then 4 else if 250 + 10 * B ≤ k ∧ k < 250 + 10 * (B + j) ∧ (k - 250) % 10 = 5 ∧ R ((k - 250) / 10 - B) = -1 then 0 else if 250 + 10 * (B + z / 2) ≤ k ∧ (k - 250) % 10 < 2 ∧ 2 * ((k - 250) / 10 - (B + z / 2)) + (k - 250) % 10 < j ∧ R (2 * ((k - 250) / 10 - (B + z / 2)) + (k - 250) % 10) = -1 then L (2 * ((k - 250) / 10 - (B + z / 2)) + (k - 250) % 10) else g k
def gTf (g : Gs) (B n : Int) (o : Int → Int) : Gs := gs (gs (gs (gSd g n o n) 4 (szO n)) 5 B) 0 2
def gTab (g : Gs) (B n : Int) (o : Int → Int) : Gs := gBye (gAdds (gTf g B n o) B (szO n - 1) (tL o n) (tR o n) (tH n)) B (szO n) (szO n / 2) (tL o n) (tR o n)
section MTb2
variable {n B z t j i r u b w : Int} {L R H FA : Int → Int} {K X S M σ : Mem} {g : Gs} {o : Int → Int} {m : Nat}
theorem gBye_0 : gBye g B z 0 L R = g := by
  funext k
  unfold gBye
  rw [if_neg (by omega), if_neg (by omega), if_neg (by omega)]
theorem gBye_lo {k : Int} (h : k < 250 + 10 * B) (hz : 0 ≤ z) : gBye g B z j L R k = g k := by
  unfold gBye
  rw [if_neg (by omega), if_neg (by omega), if_neg (by omega)]
/-- a bout's cells behind the byes -/
theorem gBye_at (hz : z = 2 ∨ z = 4 ∨ z = 8 ∨ z = 16 ∨ z = 32) (hj : 0 ≤ j ∧ j ≤ z / 2) (i0 : 0 ≤ i) (hw : 0 ≤ w ∧ w < 10) : ga (gBye g B z j L R) (B + i) w = if i < j ∧ w = 4 ∧ R i = -1 then 4 else if i < j ∧ w = 5 ∧ R i = -1 then 0 else if z / 2 ≤ i ∧ w < 2 ∧ 2 * (i - z / 2) + w < j ∧ R (2 * (i - z / 2) + w) = -1 then L (2 * (i - z / 2) + w) else ga g (B + i) w := by
  unfold ga gBye
  rw [show (250 + 10 * (B + i) + w - 250) % 10 = w by omega, show (250 + 10 * (B + i) + w - 250) / 10 - B = i by omega, show (250 + 10 * (B + i) + w - 250) / 10 - (B + z / 2) = i - z / 2 by omega]
  by_cases q1 : i < j ∧ w = 4 ∧ R i = -1
  · rw [if_pos q1, if_pos ⟨by omega, by omega, q1.2.1, q1.2.2⟩]
  · rw [if_neg q1, if_neg (show ¬ (250 + 10 * B ≤ 250 + 10 * (B + i) + w ∧ 250 + 10 * (B + i) + w < 250 + 10 * (B + j) ∧ w = 4 ∧ R i = -1) from fun x => q1 ⟨by omega, x.2.2.1, x.2.2.2⟩)]
    by_cases q2 : i < j ∧ w = 5 ∧ R i = -1
    · rw [if_pos q2, if_pos ⟨by omega, by omega, q2.2.1, q2.2.2⟩]
    · rw [if_neg q2, if_neg (show ¬ (250 + 10 * B ≤ 250 + 10 * (B + i) + w ∧ 250 + 10 * (B + i) + w < 250 + 10 * (B + j) ∧ w = 5 ∧ R i = -1) from fun x => q2 ⟨by omega, x.2.2.1, x.2.2.2⟩)]
      by_cases q3 : z / 2 ≤ i ∧ w < 2 ∧ 2 * (i - z / 2) + w < j ∧ R (2 * (i - z / 2) + w) = -1
      · rw [if_pos q3, if_pos ⟨by omega, q3.2.1, q3.2.2.1, q3.2.2.2⟩]
      · rw [if_neg q3, if_neg (show ¬ (250 + 10 * (B + z / 2) ≤ 250 + 10 * (B + i) + w ∧ w < 2 ∧ 2 * (i - z / 2) + w < j ∧ R (2 * (i - z / 2) + w) = -1) from fun x => q3 ⟨by omega, x.2.1, x.2.2.1, x.2.2.2⟩)]
theorem gBye_n (h : ¬ R j = -1) : gBye g B z (j + 1) L R = gBye g B z j L R := by
  funext k
  unfold gBye
  by_cases u1 : 250 + 10 * B ≤ k ∧ k < 250 + 10 * (B + j) ∧ (k - 250) % 10 = 4 ∧ R ((k - 250) / 10 - B) = -1
  · rw [if_pos u1, if_pos ⟨u1.1, by omega, u1.2.2.1, u1.2.2.2⟩]
  · rw [if_neg u1, if_neg (show ¬ (250 + 10 * B ≤ k ∧ k < 250 + 10 * (B + (j + 1)) ∧ (k - 250) % 10 = 4 ∧ R ((k - 250) / 10 - B) = -1) from fun x => by
      by_cases e : (k - 250) / 10 - B = j
      · have := x.2.2.2; rw [e] at this; exact h this
      · exact u1 ⟨x.1, by omega, x.2.2.1, x.2.2.2⟩)]
    by_cases u2 : 250 + 10 * B ≤ k ∧ k < 250 + 10 * (B + j) ∧ (k - 250) % 10 = 5 ∧ R ((k - 250) / 10 - B) = -1
    · rw [if_pos u2, if_pos ⟨u2.1, by omega, u2.2.2.1, u2.2.2.2⟩]
    · rw [if_neg u2, if_neg (show ¬ (250 + 10 * B ≤ k ∧ k < 250 + 10 * (B + (j + 1)) ∧ (k - 250) % 10 = 5 ∧ R ((k - 250) / 10 - B) = -1) from fun x => by
        by_cases e : (k - 250) / 10 - B = j
        · have := x.2.2.2; rw [e] at this; exact h this
        · exact u2 ⟨x.1, by omega, x.2.2.1, x.2.2.2⟩)]
      by_cases u3 : 250 + 10 * (B + z / 2) ≤ k ∧ (k - 250) % 10 < 2 ∧ 2 * ((k - 250) / 10 - (B + z / 2)) + (k - 250) % 10 < j ∧ R (2 * ((k - 250) / 10 - (B + z / 2)) + (k - 250) % 10) = -1
      · rw [if_pos u3, if_pos ⟨u3.1, u3.2.1, by omega, u3.2.2.2⟩]
      · rw [if_neg u3, if_neg (show ¬ (250 + 10 * (B + z / 2) ≤ k ∧ (k - 250) % 10 < 2 ∧ 2 * ((k - 250) / 10 - (B + z / 2)) + (k - 250) % 10 < j + 1 ∧ R (2 * ((k - 250) / 10 - (B + z / 2)) + (k - 250) % 10) = -1) from fun x => by
          by_cases e : 2 * ((k - 250) / 10 - (B + z / 2)) + (k - 250) % 10 = j
          · have := x.2.2.2; rw [e] at this; exact h this
          · exact u3 ⟨x.1, x.2.1, by omega, x.2.2.2⟩)]
theorem gBye_y (hz : z = 4 ∨ z = 8 ∨ z = 16 ∨ z = 32) (hj : 0 ≤ j ∧ j < z / 2) (h : R j = -1) : gs (gs (gs (gBye g B z j L R) (250 + 10 * (B + j) + 4) 4) (250 + 10 * (B + j) + 5) 0) (250 + 10 * (B + (z + j) / 2) + j % 2) (L j) = gBye g B z (j + 1) L R := by
  funext k
  by_cases e3 : k = 250 + 10 * (B + (z + j) / 2) + j % 2
  · rw [gs_s e3, e3]
    have hx : 2 * ((250 + 10 * (B + (z + j) / 2) + j % 2 - 250) / 10 - (B + z / 2)) + (250 + 10 * (B + (z + j) / 2) + j % 2 - 250) % 10 = j := by omega
    unfold gBye
    rw [hx, if_neg (by omega), if_neg (by omega), if_pos ⟨by omega, by omega, by omega, h⟩]
  · rw [gs_o e3]
    by_cases e5 : k = 250 + 10 * (B + j) + 5
    · rw [gs_s e5, e5]
      have hx : (250 + 10 * (B + j) + 5 - 250) / 10 - B = j := by omega
      unfold gBye
      rw [hx, if_neg (by omega), if_pos ⟨by omega, by omega, by omega, h⟩]
    · rw [gs_o e5]
      by_cases e4 : k = 250 + 10 * (B + j) + 4
      · rw [gs_s e4, e4]
        have hx : (250 + 10 * (B + j) + 4 - 250) / 10 - B = j := by omega
        unfold gBye
        rw [hx, if_pos ⟨by omega, by omega, by omega, h⟩]
      · rw [gs_o e4]
        unfold gBye
        by_cases u1 : 250 + 10 * B ≤ k ∧ k < 250 + 10 * (B + j) ∧ (k - 250) % 10 = 4 ∧ R ((k - 250) / 10 - B) = -1
        · rw [if_pos u1, if_pos (show 250 + 10 * B ≤ k ∧ k < 250 + 10 * (B + (j + 1)) ∧ (k - 250) % 10 = 4 ∧ R ((k - 250) / 10 - B) = -1 from ⟨u1.1, by omega, u1.2.2.1, u1.2.2.2⟩)]
        · rw [if_neg u1, if_neg (show ¬ (250 + 10 * B ≤ k ∧ k < 250 + 10 * (B + (j + 1)) ∧ (k - 250) % 10 = 4 ∧ R ((k - 250) / 10 - B) = -1) from fun x => u1 ⟨x.1, by omega, x.2.2.1, x.2.2.2⟩)]
          by_cases u2 : 250 + 10 * B ≤ k ∧ k < 250 + 10 * (B + j) ∧ (k - 250) % 10 = 5 ∧ R ((k - 250) / 10 - B) = -1
          · rw [if_pos u2, if_pos (show 250 + 10 * B ≤ k ∧ k < 250 + 10 * (B + (j + 1)) ∧ (k - 250) % 10 = 5 ∧ R ((k - 250) / 10 - B) = -1 from ⟨u2.1, by omega, u2.2.2.1, u2.2.2.2⟩)]
          · rw [if_neg u2, if_neg (show ¬ (250 + 10 * B ≤ k ∧ k < 250 + 10 * (B + (j + 1)) ∧ (k - 250) % 10 = 5 ∧ R ((k - 250) / 10 - B) = -1) from fun x => u2 ⟨x.1, by omega, x.2.2.1, x.2.2.2⟩)]
            by_cases u3 : 250 + 10 * (B + z / 2) ≤ k ∧ (k - 250) % 10 < 2 ∧ 2 * ((k - 250) / 10 - (B + z / 2)) + (k - 250) % 10 < j ∧ R (2 * ((k - 250) / 10 - (B + z / 2)) + (k - 250) % 10) = -1
            · rw [if_pos u3, if_pos (show 250 + 10 * (B + z / 2) ≤ k ∧ (k - 250) % 10 < 2 ∧ 2 * ((k - 250) / 10 - (B + z / 2)) + (k - 250) % 10 < j + 1 ∧ R (2 * ((k - 250) / 10 - (B + z / 2)) + (k - 250) % 10) = -1 from ⟨u3.1, u3.2.1, by omega, u3.2.2.2⟩)]
            · rw [if_neg u3, if_neg (show ¬ (250 + 10 * (B + z / 2) ≤ k ∧ (k - 250) % 10 < 2 ∧ 2 * ((k - 250) / 10 - (B + z / 2)) + (k - 250) % 10 < j + 1 ∧ R (2 * ((k - 250) / 10 - (B + z / 2)) + (k - 250) % 10) = -1) from fun x => u3 ⟨x.1, x.2.1, by omega, x.2.2.2⟩)]
theorem tab_hyp (h : TabP g b) : (100 ≤ ga g b 7 → 102 ≤ ga g b 7 ∧ ga g b 7 ≤ 132) ∧ (102 < ga g b 7 → 0 ≤ b - gF g (ga g b 7 - 100) ∧ b - gF g (ga g b 7 - 100) < 32 ∧ 0 ≤ gF g (ga g b 7 - 100) ∧ 0 ≤ gF g ((ga g b 7 - 100) / 2) ∧ gF g ((ga g b 7 - 100) / 2) + (b - gF g (ga g b 7 - 100)) / 2 < 307) := by
  obtain ⟨f1, f2, f3, f4, f5, f6⟩ := tabF h
  obtain ⟨t1, t2, t3, t4⟩ := h
  refine ⟨fun _ => by omega, fun q => ?_⟩
  rw [f2, f3 (by omega)]
  clear f2 f3
  omega
theorem mwin_y (hz : z = 4 ∨ z = 8 ∨ z = 16 ∨ z = 32) (hB : 0 ≤ B ∧ B ≤ 276) (h4 : g 4 = z) (h5 : g 5 = B) (h7 : ∀ i, 0 ≤ i → i < z / 2 → ga g (B + i) 7 = 100 + z ∧ ga g (B + i) 0 = L i) (hj : 0 ≤ j ∧ j < z / 2) (h : R j = -1) : Ev true 194 [aR 11 0, aI (B + j), aI 0] (mput (wg X (gBye g B z j L R)) (B + j) 4 4) (.inl none) (wg X (gBye g B z (j + 1) L R)) := by
  have hz5 : z = 2 ∨ z = 4 ∨ z = 8 ∨ z = 16 ∨ z = 32 := by omega
  obtain ⟨a7, a0⟩ := h7 j hj.1 hj.2
  rw [mput_wg]
  generalize hG : gs (gBye g B z j L R) (250 + 10 * (B + j) + 4) 4 = G
  have g4 : G 4 = z := by rw [← hG, gs_o (by omega), gBye_lo (by omega) (by omega)]; exact h4
  have g5 : G 5 = B := by rw [← hG, gs_o (by omega), gBye_lo (by omega) (by omega)]; exact h5
  have gw : ∀ w, 0 ≤ w → w < 10 → w ≠ 4 → w ≠ 5 → ga G (B + j) w = ga g (B + j) w := fun w w0 w1 q4 q5 => by
    have e : ga G (B + j) w = ga (gBye g B z j L R) (B + j) w := by rw [← hG]; exact gs_o (by omega)
    rw [e, gBye_at hz5 (by omega) hj.1 ⟨w0, w1⟩, if_neg (by omega), if_neg (by omega), if_neg (by omega)]
  have hT : TabP G (B + j) := by
    refine ⟨by omega, by omega, by omega, ?_⟩
    rw [gw 7 (by decide) (by decide) (by decide) (by decide), a7, g4, g5]
    have : rnd (z - (B + j - B)) = z := by
      unfold rnd
      repeat' split
      all_goals omega
    rw [this]
  obtain ⟨t1, t2⟩ := tab_hyp hT
  have e := ev_mwins (B + j) 0 (wg X G) (by omega) (by decide) (by rw [wg_r]; omega) (by rw [mat_wg]; exact t1) (by simp only [mat_wg, fo_wg]; exact t2)
  rw [wins_t hT (Or.inl rfl)] at e
  have eW : gWinT G (B + j) 0 = gBye g B z (j + 1) L R := by
    rw [← gBye_y hz hj h, hG]
    unfold gWinT
    rw [g4, g5, if_pos (by omega), show B + j - B = j by omega, gw 0 (by decide) (by decide) (by decide) (by decide), a0]
  rw [eW] at e
  exact e

theorem mtb_4 (hz : z = 2 ∨ z = 4 ∨ z = 8 ∨ z = 16 ∨ z = 32) (hB : 0 ≤ B ∧ B ≤ 276) (h4 : g 4 = z) (h5 : g 5 = B) (h7 : ∀ i, 0 ≤ i → i < z / 2 → ga g (B + i) 7 = 100 + z ∧ ga g (B + i) 0 = L i ∧ ga g (B + i) 1 = R i ∧ 0 ≤ L i ∧ (R i = -1 ∨ 0 ≤ R i) ∧ (z = 2 → 0 ≤ R i)) (Q : Out → Mem → Prop) (hq : wp true 217 180 [some (aR 11 (0)), some (aI (z)), some (aI (B + z / 2)), none] [] (wg X (gBye g B z (z / 2) L R)) 0 0 Q) : ∀ (u : Nat) (j : Int), 0 ≤ j → j + u = z / 2 → wp true 217 148 [some (aR 11 (0)), some (aI (z)), some (aI (B + j)), none] [] (wg X (gBye g B z j L R)) 0 0 Q := by
  intro u
  have ed : wr (z.tdiv 2) = z / 2 := by rw [td2 (by omega), wr_eq (by omega) (by omega)]
  induction u with
  | zero =>
    intro j j0 e
    have e9 : j = z / 2 := by omega
    have m5 : (wg X (gBye g B z j L R)) 13 186 5 = B := by rw [wg_r, gBye_lo (by omega) (by omega)]; exact h5
    rw [← e9] at hq
    generalize wg X (gBye g B z j L R) = M at hq m5 ⊢
    refine wp_seg 9 (P := some ((0 ≤ (5) ∧ (5) < alen M 13 (186)) ∧ ((2 : Int) ≠ 0))) (ls' := [some (aR 11 (0)), some (aI (z)), some (aI (B + j)), none]) (st' := [aI (wr ((M 13 (186) (5)) + (wr ((z).tdiv (2))))), aI (B + j)]) (σ' := M) rq_217 rfl ?_ (i' := 157) rfl ?_
    · show (0 ≤ (5) ∧ (5) < alen M 13 (186)) ∧ ((2 : Int) ≠ 0)
      (first | decide | exact Or.inl rfl | exact Or.inr rfl | ((try simp only [al_g, al_k, al_p, al_c, al_r, al_t, al_o, rl_g, rl_k, rl_p, rl_c, rl_r, rl_t, rl_o]); (try simp (disch := omega) only [wr_eq]); omega))
    refine wp_icmp rq_217 rfl (fun _ => ?_) (fun (h1 : ¬ ((wr ((M 13 (186) (5)) + (wr ((z).tdiv (2))))) ≤ (B + j))) => absurd (show (wr ((M 13 (186) (5)) + (wr ((z).tdiv (2))))) ≤ (B + j) from by rw [m5, ed, wr_eq (by omega) (by omega)]; omega) h1)
    exact hq
  | succ u ih =>
    intro j j0 e
    have hi := ih (j + 1) (by omega) (by omega)
    obtain ⟨a7, a0, a1, l0, r01, z2⟩ := h7 j j0 (by omega)
    have m5 : (wg X (gBye g B z j L R)) 13 186 5 = B := by rw [wg_r, gBye_lo (by omega) (by omega)]; exact h5
    have gw : ∀ w, 0 ≤ w → w < 2 → mat (wg X (gBye g B z j L R)) (B + j) w = ga g (B + j) w := fun w w0 w1 => by
      rw [mat_wg, gBye_at hz (by omega) j0 (by omega), if_neg (by omega), if_neg (by omega), if_neg (by omega)]
    have m0 := gw 0 (by decide) (by decide)
    have m1 := gw 1 (by decide) (by decide)
    have hb3 : 0 ≤ B + j ∧ B + j < 307 := by omega
    have hm0 : mat (mput (wg X (gBye g B z j L R)) (B + j) 4 4) (B + j) 0 = L j := by
      rw [mput_wg, mat_wg]
      show gs _ _ _ (250 + 10 * (B + j) + 0) = _
      rw [gs_o (by omega)]
      have := m0
      rw [mat_wg] at this
      exact this.trans a0
    have hw9 : ¬ (0 ≤ mat (wg X (gBye g B z j L R)) (B + j) 0 ∧ 0 ≤ mat (wg X (gBye g B z j L R)) (B + j) 1) → Ev true 194 [aR 11 0, aI (B + j), aI 0] (mput (wg X (gBye g B z j L R)) (B + j) 4 4) (.inl none) (wg X (gBye g B z (j + 1) L R)) := fun q => by
      rw [m0, m1, a0, a1] at q
      have rj : R j = -1 := by omega
      exact mwin_y (by omega) hB h4 h5 (fun i i0 i1 => ⟨(h7 i i0 i1).1, (h7 i i0 i1).2.1⟩) ⟨j0, by omega⟩ rj
    have hk9 : (0 ≤ mat (wg X (gBye g B z j L R)) (B + j) 0 ∧ 0 ≤ mat (wg X (gBye g B z j L R)) (B + j) 1) → wg X (gBye g B z j L R) = wg X (gBye g B z (j + 1) L R) := fun q => by
      rw [m0, m1, a0, a1] at q
      rw [gBye_n (show ¬ R j = -1 by omega)]
    clear m0 m1 gw
    generalize wg X (gBye g B z (j + 1) L R) = N9 at hi hw9 hk9
    generalize wg X (gBye g B z j L R) = M at hw9 hk9 hm0 m5 ⊢
    have ew : wr (B + j + 1) = B + (j + 1) := by rw [wr_eq (by omega) (by omega)]; omega
    refine wp_seg 9 (P := some ((0 ≤ (5) ∧ (5) < alen M 13 (186)) ∧ ((2 : Int) ≠ 0))) (ls' := [some (aR 11 (0)), some (aI (z)), some (aI (B + j)), none]) (st' := [aI (wr ((M 13 (186) (5)) + (wr ((z).tdiv (2))))), aI (B + j)]) (σ' := M) rq_217 rfl ?_ (i' := 157) rfl ?_
    · show (0 ≤ (5) ∧ (5) < alen M 13 (186)) ∧ ((2 : Int) ≠ 0)
      (first | decide | exact Or.inl rfl | exact Or.inr rfl | ((try simp only [al_g, al_k, al_p, al_c, al_r, al_t, al_o, rl_g, rl_k, rl_p, rl_c, rl_r, rl_t, rl_o]); (try simp (disch := omega) only [wr_eq]); omega))
    refine wp_icmp rq_217 rfl (fun (h1 : (wr ((M 13 (186) (5)) + (wr ((z).tdiv (2))))) ≤ (B + j)) => absurd h1 (show ¬ ((wr ((M 13 (186) (5)) + (wr ((z).tdiv (2))))) ≤ (B + j)) from by rw [m5, ed, wr_eq (by omega) (by omega)]; omega)) (fun _ => ?_)
    refine wp_seg 2 (P := none) (ls' := [some (aR 11 (0)), some (aI (z)), some (aI (B + j)), none]) (st' := [aI (B + j), aR 11 (0)]) (σ' := M) rq_217 rfl True.intro (i' := 160) rfl ?_
    by_cases h2 : 0 ≤ mat M (B + j) 0 ∧ 0 ≤ mat M (B + j) 1
    · refine wp_call (C := 11) (As := [aR 11 (0), aI (B + j)]) (rest := []) rq_217 (ev_misKnown_y (B + j) M hb3 h2) rfl rfl (show clOK 217 189 0 0 0 2 11 = true by decide +kernel) rfl (show 0 ≤ 4 by decide) (fun _ => ⟨_, rfl⟩) rfl (c' := 0) (s' := 0) rfl rfl ?_
      refine wp_if rq_217 rfl (fun _ => ?_) (fun (h3 : ¬ (¬ (1 : Int) = (0 : Int))) => absurd (show ¬ (1 : Int) = (0 : Int) from by decide) h3)
      refine wp_seg 1 (P := none) (ls' := [some (aR 11 (0)), some (aI (z)), some (aI (wr (B + j + 1))), none]) (st' := []) (σ' := M) rq_217 rfl True.intro (i' := 179) rfl ?_
      refine wp_goto rq_217 rfl ?_
      rw [ew]
      rw [hk9 h2]
      exact hi
    · refine wp_call (C := 11) (As := [aR 11 (0), aI (B + j)]) (rest := []) rq_217 (ev_misKnown_n (B + j) M hb3 h2) rfl rfl (show clOK 217 189 0 0 0 2 11 = true by decide +kernel) rfl (show 0 ≤ 4 by decide) (fun _ => ⟨_, rfl⟩) rfl (c' := 0) (s' := 0) rfl rfl ?_
      refine wp_if rq_217 rfl (fun (h4 : ¬ (0 : Int) = (0 : Int)) => absurd h4 (show ¬ (¬ (0 : Int) = (0 : Int)) from by decide)) (fun _ => ?_)
      refine wp_seg 4 (P := none) (ls' := [some (aR 11 (0)), some (aI (z)), some (aI (B + j)), none]) (st' := [aI (4), aI (4), aI (B + j), aR 11 (0)]) (σ' := M) rq_217 rfl True.intro (i' := 166) rfl ?_
      refine wp_call (C := 11) (As := [aR 11 (0), aI (B + j), aI (4), aI (4)]) (rest := []) rq_217 (ev_mput (B + j) (4) (4) M hb3 (by decide)) rfl rfl (show clOK 217 159 0 0 0 4 11 = true by decide +kernel) rfl (show 0 ≤ 4 by decide) (fun _ => ⟨_, rfl⟩) rfl (c' := 0) (s' := 0) rfl rfl ?_
      refine wp_seg 5 (P := none) (ls' := [some (aR 11 (0)), some (aI (z)), some (aI (B + j)), none]) (st' := [aI (0), aI (B + j), aR 11 (0), aI (B + j), aR 11 (0)]) (σ' := (mput M (B + j) (4) (4))) rq_217 rfl True.intro (i' := 172) rfl ?_
      refine wp_call (C := 11) (As := [aR 11 (0), aI (B + j), aI (0)]) (rest := [aI (B + j), aR 11 (0)]) rq_217 (ev_mat (B + j) (0) (mput M (B + j) (4) (4)) hb3 (by decide)) rfl rfl (show clOK 217 158 0 0 0 3 11 = true by decide +kernel) rfl (show 2 ≤ 4 by decide) (fun _ => ⟨_, rfl⟩) rfl (c' := 0) (s' := 0) rfl rfl ?_
      refine wp_if rq_217 rfl (fun (h5 : (mat (mput M (B + j) (4) (4)) (B + j) (0)) < 0) => absurd h5 (show ¬ ((mat (mput M (B + j) (4) (4)) (B + j) (0)) < 0) from by rw [hm0]; omega)) (fun _ => ?_)
      refine wp_seg 1 (P := none) (ls' := [some (aR 11 (0)), some (aI (z)), some (aI (B + j)), none]) (st' := [aI (0), aI (B + j), aR 11 (0)]) (σ' := (mput M (B + j) (4) (4))) rq_217 rfl True.intro (i' := 175) rfl ?_
      refine wp_goto rq_217 rfl ?_
      refine wp_call (C := 11) (As := [aR 11 (0), aI (B + j), aI (0)]) (rest := []) rq_217 (hw9 h2) rfl rfl (show clOK 217 194 0 0 0 3 11 = true by decide +kernel) rfl (show 0 ≤ 4 by decide) (fun _ => ⟨_, rfl⟩) rfl (c' := 0) (s' := 0) rfl rfl ?_
      refine wp_seg 1 (P := none) (ls' := [some (aR 11 (0)), some (aI (z)), some (aI (wr (B + j + 1))), none]) (st' := []) (σ' := N9) rq_217 rfl True.intro (i' := 179) rfl ?_
      refine wp_goto rq_217 rfl ?_
      rw [ew]
      exact hi

theorem ev_ydrawTable_n (σ : Mem) (n : Int) (hB : 0 ≤ σ 13 186 3 ∧ σ 13 186 3 ≤ 307) (hST0 : Ev true 177 [aR 11 0] σ (.inl (some (aI n))) σ) (hN : ¬ (σ 13 186 0 = 1 ∧ ¬ 0 < wr (wr (sumTo (fo_minState 0 σ) (σ 13 186 3)) + wr (sumTo (fo_minState 1 σ) (σ 13 186 3))) ∧ 2 ≤ n)) : Ev true 217 [aR 11 0] σ (.inl (some (aI 0))) (up σ 11 0 6 1) := by
  show wp true 217 0 [some (aR 11 (0)), none, none, none] [] σ 0 0 _
  refine wp_seg 6 (P := some (0 ≤ (0) ∧ (0) < alen σ 13 (186))) (ls' := [some (aR 11 (0)), none, none, none]) (st' := [aI (1), aI (σ 13 (186) (0)), aR 11 (0)]) (σ' := σ) rq_217 rfl ?_ (i' := 6) rfl ?_
  · show 0 ≤ (0) ∧ (0) < alen σ 13 (186)
    (first | decide | exact Or.inl rfl | exact Or.inr rfl | ((try simp only [al_g, al_k, al_p, al_c, al_r, al_t, al_o, rl_g, rl_k, rl_p, rl_c, rl_r, rl_t, rl_o]); (try simp (disch := omega) only [wr_eq]); omega))
  refine wp_icmp rq_217 rfl (fun (h1 : ¬ (σ 13 (186) (0)) = 1) => ?_) (fun (h1 : ¬ (¬ (σ 13 (186) (0)) = 1)) => ?_)
  · refine wp_seg 1 (P := none) (ls' := [some (aR 11 (0)), none, none, none]) (st' := [aI (1), aR 11 (0)]) (σ' := σ) rq_217 rfl True.intro (i' := 20) rfl ?_
    refine wp_goto rq_217 rfl ?_
    refine wp_seg 3 (P := none) (ls' := [some (aR 11 (0)), none, none, none]) (st' := [aI (1)]) (σ' := (up σ 11 (0) 6 (1))) rq_217 rfl True.intro (i' := 25) rfl ?_
    refine wp_if rq_217 rfl (fun (h2 : (1 : Int) ≤ (0 : Int)) => absurd h2 (show ¬ ((1 : Int) ≤ (0 : Int)) from by decide)) (fun _ => ?_)
    refine wp_seg 1 (P := none) (ls' := [some (aR 11 (0)), none, none, none]) (st' := [aI (0)]) (σ' := (up σ 11 (0) 6 (1))) rq_217 rfl True.intro (i' := 27) rfl ?_
    refine wp_iret rq_217 rfl rt_217 ⟨?_, ?_⟩
    · rfl
    · rfl
  · refine wp_seg 2 (P := none) (ls' := [some (aR 11 (0)), none, none, none]) (st' := [aI (0), aR 11 (0), aR 11 (0)]) (σ' := σ) rq_217 rfl True.intro (i' := 9) rfl ?_
    refine wp_call (C := 11) (As := [aR 11 (0), aI (0)]) (rest := [aR 11 (0)]) rq_217 (ev_minState (0) σ (by exact hB)) rfl rfl (show clOK 217 214 0 0 0 2 11 = true by decide +kernel) rfl (show 1 ≤ 4 by decide) (fun _ => ⟨_, rfl⟩) rfl (c' := 0) (s' := 0) rfl rfl ?_
    refine wp_seg 2 (P := none) (ls' := [some (aR 11 (0)), none, none, none]) (st' := [aI (1), aR 11 (0), aI (wr (sumTo (fo_minState (0) σ) (σ 13 (186) (3)))), aR 11 (0)]) (σ' := σ) rq_217 rfl True.intro (i' := 12) rfl ?_
    refine wp_call (C := 11) (As := [aR 11 (0), aI (1)]) (rest := [aI (wr (sumTo (fo_minState (0) σ) (σ 13 (186) (3)))), aR 11 (0)]) rq_217 (ev_minState (1) σ (by exact hB)) rfl rfl (show clOK 217 214 0 0 0 2 11 = true by decide +kernel) rfl (show 2 ≤ 4 by decide) (fun _ => ⟨_, rfl⟩) rfl (c' := 0) (s' := 0) rfl rfl ?_
    refine wp_seg 1 (P := none) (ls' := [some (aR 11 (0)), none, none, none]) (st' := [aI (wr ((wr (sumTo (fo_minState (0) σ) (σ 13 (186) (3)))) + (wr (sumTo (fo_minState (1) σ) (σ 13 (186) (3)))))), aR 11 (0)]) (σ' := σ) rq_217 rfl True.intro (i' := 14) rfl ?_
    refine wp_if rq_217 rfl (fun (h3 : 0 < (wr ((wr (sumTo (fo_minState (0) σ) (σ 13 (186) (3)))) + (wr (sumTo (fo_minState (1) σ) (σ 13 (186) (3))))))) => ?_) (fun (h3 : ¬ (0 < (wr ((wr (sumTo (fo_minState (0) σ) (σ 13 (186) (3)))) + (wr (sumTo (fo_minState (1) σ) (σ 13 (186) (3)))))))) => ?_)
    · refine wp_seg 1 (P := none) (ls' := [some (aR 11 (0)), none, none, none]) (st' := [aI (1), aR 11 (0)]) (σ' := σ) rq_217 rfl True.intro (i' := 20) rfl ?_
      refine wp_goto rq_217 rfl ?_
      refine wp_seg 3 (P := none) (ls' := [some (aR 11 (0)), none, none, none]) (st' := [aI (1)]) (σ' := (up σ 11 (0) 6 (1))) rq_217 rfl True.intro (i' := 25) rfl ?_
      refine wp_if rq_217 rfl (fun (h4 : (1 : Int) ≤ (0 : Int)) => absurd h4 (show ¬ ((1 : Int) ≤ (0 : Int)) from by decide)) (fun _ => ?_)
      refine wp_seg 1 (P := none) (ls' := [some (aR 11 (0)), none, none, none]) (st' := [aI (0)]) (σ' := (up σ 11 (0) 6 (1))) rq_217 rfl True.intro (i' := 27) rfl ?_
      refine wp_iret rq_217 rfl rt_217 ⟨?_, ?_⟩
      · rfl
      · rfl
    · refine wp_seg 1 (P := none) (ls' := [some (aR 11 (0)), none, none, none]) (st' := [aR 11 (0), aR 11 (0)]) (σ' := σ) rq_217 rfl True.intro (i' := 16) rfl ?_
      refine wp_call (C := 11) (As := [aR 11 (0)]) (rest := [aR 11 (0)]) rq_217 hST0 rfl rfl (show clOK 217 177 0 0 0 1 11 = true by decide +kernel) rfl (show 1 ≤ 4 by decide) (fun _ => ⟨_, rfl⟩) rfl (c' := 0) (s' := 0) rfl rfl ?_
      refine wp_seg 1 (P := none) (ls' := [some (aR 11 (0)), none, none, none]) (st' := [aI (2), aI (n), aR 11 (0)]) (σ' := σ) rq_217 rfl True.intro (i' := 18) rfl ?_
      refine wp_icmp rq_217 rfl (fun (h5 : 2 ≤ (n)) => ?_) (fun (h5 : ¬ (2 ≤ (n))) => ?_)
      · refine wp_seg 4 (P := none) (ls' := [some (aR 11 (0)), none, none, none]) (st' := [aI (0)]) (σ' := (up σ 11 (0) 6 (0))) rq_217 rfl True.intro (i' := 25) rfl ?_
        refine wp_if rq_217 rfl (fun _ => ?_) (fun (h6 : ¬ ((0 : Int) ≤ (0 : Int))) => absurd (show (0 : Int) ≤ (0 : Int) from by decide) h6)
        exact absurd ⟨by omega, by omega, by omega⟩ hN
      · refine wp_seg 1 (P := none) (ls' := [some (aR 11 (0)), none, none, none]) (st' := [aI (1), aR 11 (0)]) (σ' := σ) rq_217 rfl True.intro (i' := 20) rfl ?_
        refine wp_goto rq_217 rfl ?_
        refine wp_seg 3 (P := none) (ls' := [some (aR 11 (0)), none, none, none]) (st' := [aI (1)]) (σ' := (up σ 11 (0) 6 (1))) rq_217 rfl True.intro (i' := 25) rfl ?_
        refine wp_if rq_217 rfl (fun (h7 : (1 : Int) ≤ (0 : Int)) => absurd h7 (show ¬ ((1 : Int) ≤ (0 : Int)) from by decide)) (fun _ => ?_)
        refine wp_seg 1 (P := none) (ls' := [some (aR 11 (0)), none, none, none]) (st' := [aI (0)]) (σ' := (up σ 11 (0) 6 (1))) rq_217 rfl True.intro (i' := 27) rfl ?_
        refine wp_iret rq_217 rfl rt_217 ⟨?_, ?_⟩
        · rfl
        · rfl

theorem ydt_0 (σ : Mem) (n : Int) (hB : 0 ≤ σ 13 186 3 ∧ σ 13 186 3 ≤ 307) (hST0 : Ev true 177 [aR 11 0] σ (.inl (some (aI n))) σ) (k1 : σ 13 186 0 = 1) (k2 : ¬ 0 < wr (wr (sumTo (fo_minState 0 σ) (σ 13 186 3)) + wr (sumTo (fo_minState 1 σ) (σ 13 186 3)))) (k3 : 2 ≤ n) (Q : Out → Mem → Prop) (hq : wp true 217 28 [some (aR 11 (0)), none, none, none] [] (up σ 11 0 6 0) 0 0 Q) : wp true 217 0 [some (aR 11 (0)), none, none, none] [] σ 0 0 Q := by
  refine wp_seg 6 (P := some (0 ≤ (0) ∧ (0) < alen σ 13 (186))) (ls' := [some (aR 11 (0)), none, none, none]) (st' := [aI (1), aI (σ 13 (186) (0)), aR 11 (0)]) (σ' := σ) rq_217 rfl ?_ (i' := 6) rfl ?_
  · show 0 ≤ (0) ∧ (0) < alen σ 13 (186)
    (first | decide | exact Or.inl rfl | exact Or.inr rfl | ((try simp only [al_g, al_k, al_p, al_c, al_r, al_t, al_o, rl_g, rl_k, rl_p, rl_c, rl_r, rl_t, rl_o]); (try simp (disch := omega) only [wr_eq]); omega))
  refine wp_icmp rq_217 rfl (fun (h1 : ¬ (σ 13 (186) (0)) = 1) => absurd h1 (show ¬ (¬ (σ 13 (186) (0)) = 1) from fun z9 => z9 k1)) (fun _ => ?_)
  refine wp_seg 2 (P := none) (ls' := [some (aR 11 (0)), none, none, none]) (st' := [aI (0), aR 11 (0), aR 11 (0)]) (σ' := σ) rq_217 rfl True.intro (i' := 9) rfl ?_
  refine wp_call (C := 11) (As := [aR 11 (0), aI (0)]) (rest := [aR 11 (0)]) rq_217 (ev_minState (0) σ (by exact hB)) rfl rfl (show clOK 217 214 0 0 0 2 11 = true by decide +kernel) rfl (show 1 ≤ 4 by decide) (fun _ => ⟨_, rfl⟩) rfl (c' := 0) (s' := 0) rfl rfl ?_
  refine wp_seg 2 (P := none) (ls' := [some (aR 11 (0)), none, none, none]) (st' := [aI (1), aR 11 (0), aI (wr (sumTo (fo_minState (0) σ) (σ 13 (186) (3)))), aR 11 (0)]) (σ' := σ) rq_217 rfl True.intro (i' := 12) rfl ?_
  refine wp_call (C := 11) (As := [aR 11 (0), aI (1)]) (rest := [aI (wr (sumTo (fo_minState (0) σ) (σ 13 (186) (3)))), aR 11 (0)]) rq_217 (ev_minState (1) σ (by exact hB)) rfl rfl (show clOK 217 214 0 0 0 2 11 = true by decide +kernel) rfl (show 2 ≤ 4 by decide) (fun _ => ⟨_, rfl⟩) rfl (c' := 0) (s' := 0) rfl rfl ?_
  refine wp_seg 1 (P := none) (ls' := [some (aR 11 (0)), none, none, none]) (st' := [aI (wr ((wr (sumTo (fo_minState (0) σ) (σ 13 (186) (3)))) + (wr (sumTo (fo_minState (1) σ) (σ 13 (186) (3)))))), aR 11 (0)]) (σ' := σ) rq_217 rfl True.intro (i' := 14) rfl ?_
  refine wp_if rq_217 rfl (fun (h2 : 0 < (wr ((wr (sumTo (fo_minState (0) σ) (σ 13 (186) (3)))) + (wr (sumTo (fo_minState (1) σ) (σ 13 (186) (3))))))) => absurd h2 (show ¬ (0 < (wr ((wr (sumTo (fo_minState (0) σ) (σ 13 (186) (3)))) + (wr (sumTo (fo_minState (1) σ) (σ 13 (186) (3))))))) from k2)) (fun _ => ?_)
  refine wp_seg 1 (P := none) (ls' := [some (aR 11 (0)), none, none, none]) (st' := [aR 11 (0), aR 11 (0)]) (σ' := σ) rq_217 rfl True.intro (i' := 16) rfl ?_
  refine wp_call (C := 11) (As := [aR 11 (0)]) (rest := [aR 11 (0)]) rq_217 hST0 rfl rfl (show clOK 217 177 0 0 0 1 11 = true by decide +kernel) rfl (show 1 ≤ 4 by decide) (fun _ => ⟨_, rfl⟩) rfl (c' := 0) (s' := 0) rfl rfl ?_
  refine wp_seg 1 (P := none) (ls' := [some (aR 11 (0)), none, none, none]) (st' := [aI (2), aI (n), aR 11 (0)]) (σ' := σ) rq_217 rfl True.intro (i' := 18) rfl ?_
  refine wp_icmp rq_217 rfl (fun _ => ?_) (fun (h3 : ¬ (2 ≤ (n))) => absurd (show 2 ≤ (n) from k3) h3)
  refine wp_seg 4 (P := none) (ls' := [some (aR 11 (0)), none, none, none]) (st' := [aI (0)]) (σ' := (up σ 11 (0) 6 (0))) rq_217 rfl True.intro (i' := 25) rfl ?_
  refine wp_if rq_217 rfl (fun _ => ?_) (fun (h4 : ¬ ((0 : Int) ≤ (0 : Int))) => absurd (show (0 : Int) ≤ (0 : Int) from by decide) h4)
  exact hq

theorem ydt_1 (σ : Mem) (n : Int) (hp : 0 ≤ σ 11 0 4 ∧ σ 11 0 4 ≤ 8) (hLay : LayOK (zm_mchanges σ)) (hST0 : Ev true 177 [aR 11 0] (laid (zm_mchanges σ)) (.inl (some (aI n))) (laid (zm_mchanges σ))) (Q : Out → Mem → Prop) (hq : wp true 217 40 [some (aR 11 (0)), some (aI (0)), none, none] [] (up (laid (zm_mchanges σ)) 13 186 8 n) 0 0 Q) : wp true 217 28 [some (aR 11 (0)), none, none, none] [] σ 0 0 Q := by
  refine wp_seg 1 (P := none) (ls' := [some (aR 11 (0)), none, none, none]) (st' := [aR 11 (0)]) (σ' := σ) rq_217 rfl True.intro (i' := 29) rfl ?_
  refine wp_call (C := 11) (As := [aR 11 (0)]) (rest := []) rq_217 (ev_mchanges σ (by exact hp)) rfl rfl (show clOK 217 160 0 0 0 1 11 = true by decide +kernel) rfl (show 0 ≤ 4 by decide) (fun _ => ⟨_, rfl⟩) rfl (c' := 0) (s' := 0) rfl rfl ?_
  refine wp_seg 1 (P := none) (ls' := [some (aR 11 (0)), none, none, none]) (st' := [aR 11 (0)]) (σ' := (zm_mchanges  σ)) rq_217 rfl True.intro (i' := 31) rfl ?_
  refine wp_call (C := 11) (As := [aR 11 (0)]) (rest := []) rq_217 (ev_mlays (zm_mchanges σ) hLay) rfl rfl (show clOK 217 204 0 0 0 1 11 = true by decide +kernel) rfl (show 0 ≤ 4 by decide) (fun _ => ⟨_, rfl⟩) rfl (c' := 0) (s' := 0) rfl rfl ?_
  refine wp_seg 4 (P := none) (ls' := [some (aR 11 (0)), none, none, none]) (st' := [aR 11 (0), aI (8), aR 13 (186)]) (σ' := (laid (zm_mchanges  σ))) rq_217 rfl True.intro (i' := 36) rfl ?_
  refine wp_call (C := 11) (As := [aR 11 (0)]) (rest := [aI (8), aR 13 (186)]) rq_217 hST0 rfl rfl (show clOK 217 177 0 0 0 1 11 = true by decide +kernel) rfl (show 2 ≤ 4 by decide) (fun _ => ⟨_, rfl⟩) rfl (c' := 0) (s' := 0) rfl rfl ?_
  refine wp_seg 3 (P := some (0 ≤ (8) ∧ (8) < rowLen (186))) (ls' := [some (aR 11 (0)), some (aI (0)), none, none]) (st' := []) (σ' := (up (laid (zm_mchanges  σ)) 13 (186) (8) (n))) rq_217 rfl ?_ (i' := 40) rfl ?_
  · show 0 ≤ (8) ∧ (8) < rowLen (186)
    (first | decide | exact Or.inl rfl | exact Or.inr rfl | ((try simp only [al_g, al_k, al_p, al_c, al_r, al_t, al_o, rl_g, rl_k, rl_p, rl_c, rl_r, rl_t, rl_o]); (try simp (disch := omega) only [wr_eq]); omega))
  exact hq

theorem ydt_2 (Q : Out → Mem → Prop) (hq : wp true 217 59 [some (aR 11 (0)), some (aI (2)), none, none] [] M 0 0 Q) : wp true 217 57 [some (aR 11 (0)), some (aI (i)), none, none] [] M 0 0 Q := by
  refine wp_seg 2 (P := none) (ls' := [some (aR 11 (0)), some (aI (2)), none, none]) (st' := []) (σ' := M) rq_217 rfl True.intro (i' := 59) rfl ?_
  exact hq

theorem ydt_3 (m : Nat) (hm : m ≤ 4) (hu : u = 2 ^ (m + 1)) (Q : Out → Mem → Prop) (hq : wp true 217 93 [some (aR 11 (0)), some (aI (u)), some (aI (u)), none] [] (wsd (up (up (up M 13 186 4 u) 13 186 5 ((up M 13 186 4 u) 13 186 3)) 13 186 0 2) (HH (up (up (up M 13 186 4 u) 13 186 5 ((up M 13 186 4 u) 13 186 3)) 13 186 0 2) m)) 0 0 Q) : wp true 217 70 [some (aR 11 (0)), some (aI (u)), none, none] [] M 0 0 Q := by
  refine wp_seg 20 (P := some ((0 ≤ (4) ∧ (4) < rowLen (186)) ∧ (0 ≤ (3) ∧ (3) < alen (up M 13 (186) (4) (u)) 13 (186)) ∧ (0 ≤ (5) ∧ (5) < rowLen (186)) ∧ (0 ≤ (0) ∧ (0) < rowLen (186)))) (ls' := [some (aR 11 (0)), some (aI (u)), none, none]) (st' := [aI (u), aR 11 (0)]) (σ' := (up (up (up M 13 (186) (4) (u)) 13 (186) (5) ((up M 13 (186) (4) (u)) 13 (186) (3))) 13 (186) (0) (2))) rq_217 rfl ?_ (i' := 90) rfl ?_
  · show (0 ≤ (4) ∧ (4) < rowLen (186)) ∧ (0 ≤ (3) ∧ (3) < alen (up M 13 (186) (4) (u)) 13 (186)) ∧ (0 ≤ (5) ∧ (5) < rowLen (186)) ∧ (0 ≤ (0) ∧ (0) < rowLen (186))
    (first | decide | exact Or.inl rfl | exact Or.inr rfl | ((try simp only [al_g, al_k, al_p, al_c, al_r, al_t, al_o, rl_g, rl_k, rl_p, rl_c, rl_r, rl_t, rl_o]); (try simp (disch := omega) only [wr_eq]); omega))
  refine wp_call (C := 11) (As := [aR 11 (0), aI (u)]) (rest := []) rq_217 (ev_mstand u m hm hu (up (up (up M 13 (186) (4) (u)) 13 (186) (5) ((up M 13 (186) (4) (u)) 13 (186) (3))) 13 (186) (0) (2))) rfl rfl (show clOK 217 215 0 0 0 2 11 = true by decide +kernel) rfl (show 0 ≤ 4 by decide) (fun _ => ⟨_, rfl⟩) rfl (c' := 0) (s' := 0) rfl rfl ?_
  refine wp_seg 2 (P := none) (ls' := [some (aR 11 (0)), some (aI (u)), some (aI (u)), none]) (st' := []) (σ' := (wsd (up (up (up M 13 (186) (4) (u)) 13 (186) (5) ((up M 13 (186) (4) (u)) 13 (186) (3))) 13 (186) (0) (2)) (HH (up (up (up M 13 (186) (4) (u)) 13 (186) (5) ((up M 13 (186) (4) (u)) 13 (186) (3))) 13 (186) (0) (2)) m))) rq_217 rfl True.intro (i' := 93) rfl ?_
  exact hq

theorem ydt_4 (hz : 2 ≤ z) (Q : Out → Mem → Prop) (hq : wp true 217 98 [some (aR 11 (0)), some (aI (z)), some (aI (z)), some (aI (0))] [] M 0 0 Q) : wp true 217 93 [some (aR 11 (0)), some (aI (z)), some (aI (z)), none] [] M 0 0 Q := by
  refine wp_seg 2 (P := none) (ls' := [some (aR 11 (0)), some (aI (z)), some (aI (z)), none]) (st' := [aI (2), aI (z)]) (σ' := M) rq_217 rfl True.intro (i' := 95) rfl ?_
  refine wp_icmp rq_217 rfl (fun (h1 : (z) < 2) => absurd h1 (show ¬ ((z) < 2) from by omega)) (fun _ => ?_)
  refine wp_seg 2 (P := none) (ls' := [some (aR 11 (0)), some (aI (z)), some (aI (z)), some (aI (0))]) (st' := []) (σ' := M) rq_217 rfl True.intro (i' := 98) rfl ?_
  exact hq

theorem ydt_5 (hz : 0 ≤ z ∧ z ≤ 32) (Q : Out → Mem → Prop) (hq : wp true 217 93 [some (aR 11 (0)), some (aI (z)), some (aI (z / 2)), none] [] M 0 0 Q) : wp true 217 138 [some (aR 11 (0)), some (aI (z)), some (aI (z)), none] [] M 0 0 Q := by
  have ed : wr (z.tdiv 2) = z / 2 := by rw [td2 (by omega), wr_eq (by omega) (by omega)]
  refine wp_seg 4 (P := some ((2 : Int) ≠ 0)) (ls' := [some (aR 11 (0)), some (aI (z)), some (aI (wr ((z).tdiv (2)))), none]) (st' := []) (σ' := M) rq_217 rfl ?_ (i' := 142) rfl ?_
  · show (2 : Int) ≠ 0
    (first | decide | exact Or.inl rfl | exact Or.inr rfl | ((try simp only [al_g, al_k, al_p, al_c, al_r, al_t, al_o, rl_g, rl_k, rl_p, rl_c, rl_r, rl_t, rl_o]); (try simp (disch := omega) only [wr_eq]); omega))
  refine wp_goto rq_217 rfl ?_
  rw [ed]
  exact hq

theorem ydt_6 (h5 : M 13 186 5 = B) (Q : Out → Mem → Prop) (hq : wp true 217 148 [some (aR 11 (0)), some (aI (z)), some (aI (B)), none] [] M 0 0 Q) : wp true 217 143 [some (aR 11 (0)), some (aI (z)), some (aI (r)), none] [] M 0 0 Q := by
  refine wp_seg 5 (P := some (0 ≤ (5) ∧ (5) < alen M 13 (186))) (ls' := [some (aR 11 (0)), some (aI (z)), some (aI (M 13 (186) (5))), none]) (st' := []) (σ' := M) rq_217 rfl ?_ (i' := 148) rfl ?_
  · show 0 ≤ (5) ∧ (5) < alen M 13 (186)
    (first | decide | exact Or.inl rfl | exact Or.inr rfl | ((try simp only [al_g, al_k, al_p, al_c, al_r, al_t, al_o, rl_g, rl_k, rl_p, rl_c, rl_r, rl_t, rl_o]); (try simp (disch := omega) only [wr_eq]); omega))
  rw [h5]
  exact hq

theorem ydt_7 : wp true 217 180 [some (aR 11 (0)), some (aI (z)), some (aI (b)), none] [] M 0 0 (fun o' σ2 => o' = .inl (some (aI z)) ∧ σ2 = M) := by
  refine wp_seg 1 (P := none) (ls' := [some (aR 11 (0)), some (aI (z)), some (aI (b)), none]) (st' := [aI (z)]) (σ' := M) rq_217 rfl True.intro (i' := 181) rfl ?_
  refine wp_iret rq_217 rfl rt_217 ⟨?_, ?_⟩
  · rfl
  · rfl
end MTb2
