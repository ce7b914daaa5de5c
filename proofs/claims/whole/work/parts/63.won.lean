/-! A bout is won, of a pool or of the table. -/
section Won
variable {N b s : Int} {c c0 : Cs} {g g0 : Gs}
theorem tab_of (h : IV g) (h0 : 0 ≤ b) (hb : b < g 3) (hp : pB g ≤ b) : TabP g b ∧ pB g = g 5 ∧ 0 < g 4 := by
  have i1 := h.1
  have ib := h.2.1 b h0 hb
  unfold IB at ib
  have h7 := ib.2.2.2.2.2.2.2.2.2.2.2.2.2.2.1 hp
  clear ib
  unfold I1 at i1
  have h4 : ¬ g 4 = 0 := fun q => by
    unfold pB at hp
    rw [if_pos q] at hp
    omega
  unfold TabP
  have e : pB g = g 5 := by unfold pB; rw [if_neg h4]
  rw [e] at hp ⊢
  refine ⟨⟨by omega, by omega, by omega, h7⟩, rfl, by omega⟩
/-- what the model's finishing needs -/
theorem fin_hyp (h : IV g) (h0 : 0 ≤ b) (hb : b < g 3) : g 4 ≤ 32 ∧ (100 ≤ ga g b 7 → 102 ≤ ga g b 7 ∧ ga g b 7 ≤ 132) ∧ (102 < ga g b 7 → 0 ≤ b - gF g (ga g b 7 - 100) ∧ b - gF g (ga g b 7 - 100) < 32 ∧ 0 ≤ gF g (ga g b 7 - 100) ∧ 0 ≤ gF g ((ga g b 7 - 100) / 2) ∧ gF g ((ga g b 7 - 100) / 2) + (b - gF g (ga g b 7 - 100)) / 2 < 307) := by
  have h4 : g 4 ≤ 32 := by have i1 := h.1; unfold I1 at i1; omega
  refine ⟨h4, ?_⟩
  by_cases hp : pB g ≤ b
  · obtain ⟨hT, -⟩ := tab_of h h0 hb hp
    obtain ⟨f1, f2, f3, f4, f5, f6⟩ := tabF hT
    obtain ⟨t1, t2, t3, t4⟩ := hT
    refine ⟨fun _ => by omega, fun q => ?_⟩
    rw [f2, f3 (by omega)]
    clear f2 f3
    omega
  · have ib := h.2.1 b h0 hb
    have i2 : g 2 ≤ 6 := by have i1 := h.1; unfold I1 at i1; omega
    unfold IB at ib
    have h7 := ib.2.2.2.2.2.2.2.2.2.2.2.2.2.1 (by omega)
    clear ib
    exact ⟨fun q => by omega, fun q => by omega⟩
theorem fin_all (hk : KP N c g) (h0 : 0 ≤ b) (hb : b < g 3) (h4 : ga g b 4 = 0 ∨ ga g b 4 = 1) (h01 : 0 ≤ ga g b 0 ∧ 0 ≤ ga g b 1) (hs : s = 0 ∨ s = 1) (h6 : g 6 = b ∨ g 6 = -1) (eg : ∀ k, ¬ k = 250 + 10 * b + 2 → ¬ k = 250 + 10 * b + 3 → g0 k = g k) (ec : ∀ C k, ¬ (C = 20 ∧ (k = 2 * b ∨ k = 2 * b + 1)) → c0 C k = c C k) (ex : c0 20 (2 * b) = ga g0 b 2) (ey : c0 20 (2 * b + 1) = ga g0 b 3) (hx : 0 ≤ ga g0 b 2 ∧ ga g0 b 2 ≤ 15) (hy : 0 ≤ ga g0 b 3 ∧ ga g0 b 3 ≤ 15) : ∃ c' g', (∀ σ, zm_win 0 b s (wcm σ c0) = wcm σ c') ∧ (∀ σ, zm_mfinishes b s (wg σ g0) = wg σ g') ∧ KP N c' g' ∧ g' 3 = g 3 ∧ ga g' b 4 = 2 ∧ ga g' b 5 = s ∧ g' 6 = -1 := by
  obtain ⟨hi, hr, hX⟩ := hk
  have hI1 := hi.1
  have b3 : g 3 ≤ 307 ∧ g 1 ≤ 24 ∧ 0 ≤ g 2 ∧ g 2 ≤ 6 := by unfold I1 at hI1; omega
  have ib := hi.2.1 b h0 hb
  have hr1 := hr.1
  have hr3 := hr.2.2.1 b h0 hb
  unfold R1 at hr1
  unfold R3b at hr3
  by_cases hp : pB g ≤ b
  · obtain ⟨hT, ep, h4p⟩ := tab_of hi h0 hb hp
    have hP : FinP g b s (ga g0 b 2) (ga g0 b 3) := ⟨⟨h0, hb, hp, h4p⟩, h4, h01, hs, hx, hy, h6⟩
    have hf := FinG_of hT hs h6 h0 eg
    have hc := FinC_of hr hP hT hf c0 ec ex ey
    have hl : 0 ≤ ga g b (1 - s) ∧ ga g b (1 - s) < 24 := by
      unfold IB at ib
      rcases hs with rfl | rfl
      · show 0 ≤ ga g b 1 ∧ ga g b 1 < 24; omega
      · show 0 ≤ ga g b 0 ∧ ga g b 0 < 24; omega
    have e19 : c0 19 (2 * b + (1 - s)) = ga g b (1 - s) := by
      rw [ec _ _ (by omega)]
      rcases hs with rfl | rfl
      · exact hr3.2.1
      · rw [show 2 * b + (1 - 1) = 2 * b by omega]; exact hr3.1
    have hT1 : TabP (gs g0 (250 + 10 * b + 4) 2) b := by
      have e : ∀ k, ¬ k = 250 + 10 * b + 2 → ¬ k = 250 + 10 * b + 3 → ¬ k = 250 + 10 * b + 4 → gs g0 (250 + 10 * b + 4) 2 k = g k := fun k q1 q2 q3 => by rw [gs_o q3]; exact eg k q1 q2
      have e7 : ga (gs g0 (250 + 10 * b + 4) 2) b 7 = ga g b 7 := e _ (by omega) (by omega) (by omega)
      unfold TabP at hT ⊢
      rw [e 4 (by omega) (by omega) (by omega), e 5 (by omega) (by omega) (by omega), e7]
      exact hT
    obtain ⟨f1, f2, f3, f4, f5, f6⟩ := hf
    have hh : FinG g (gFin (gWinT (gs g0 (250 + 10 * b + 4) 2) b s) b) b s (ga g0 b 2) (ga g0 b 3) := ⟨f1, f2, f3, f4, f5, f6⟩
    refine ⟨_, _, fun σ => cwin_t hT hs h0 (by rw [ec _ _ (by omega), hr1.2.2.2.2.2.2.1, ep]) (by rw [ec _ _ (by omega)]; exact hr1.2.2.2.2.2.2.2.1) (by rw [ec _ _ (by omega)]; exact hr3.2.2.2.2.2.2.1) (by rw [e19]; exact hl), fun σ => fin_wg (wins_t hT1 hs), ⟨IV_fin hi hP hh, RV_fin hi hr hP hh hc, ?_⟩, f1 3 (by decide) (by decide) (by decide), f4.2.2.1, f4.2.2.2, f2⟩
    have b4 : g 4 = 2 ∨ g 4 = 4 ∨ g 4 = 8 ∨ g 4 = 16 ∨ g 4 = 32 := hT.1
    have b5 : 0 ≤ g 5 ∧ g 5 ≤ b := ⟨hT.2.1.1, hT.2.2.1.1⟩
    refine IX_fr hi hX (f1 1 (by decide) (by decide) (by decide)) (f1 4 (by decide) (by decide) (by decide)) (fun _ => f1 5 (by decide) (by decide) (by decide)) (f1 8 (by decide) (by decide) (by decide)) ?_ (fun k k0 k1 => f1 k (by omega) (by omega) (by omega)) (fun f w q0 q1 q2 => f1 _ (by omega) (by omega) (by omega)) (fun b' w q0 q1 q2 => f3 b' w q0 (by omega) (by omega) (by omega) (by omega)) (fun _ p p0 p1 => f3 _ _ (by omega) (by omega) (by omega) (by omega) (by omega))
    unfold pB
    rw [f1 3 (by decide) (by decide) (by decide), f1 4 (by decide) (by decide) (by decide), f1 5 (by decide) (by decide) (by decide)]
  · have hp' : b < pB g := by omega
    generalize hw : gs (gs g0 (250 + 10 * b + 4) 2) (250 + 10 * b + 5) s = w
    have ew : ∀ k, (k < 250 + 10 * b + 2 ∨ 250 + 10 * b + 5 < k) → w k = g k := fun k q => by rw [← hw, gs_o (by omega), gs_o (by omega)]; exact eg k (by omega) (by omega)
    have w2 : w (250 + 10 * b + 2) = ga g0 b 2 := by rw [← hw, gs_o (by omega), gs_o (by omega)]; rfl
    have w3 : w (250 + 10 * b + 3) = ga g0 b 3 := by rw [← hw, gs_o (by omega), gs_o (by omega)]; rfl
    have w4 : w (250 + 10 * b + 4) = 2 := by rw [← hw, gs_o (by omega), gs_s rfl]
    have w5 : w (250 + 10 * b + 5) = s := by rw [← hw, gs_s rfl]
    have w6 : gFin w b 6 = -1 := by
      unfold gFin
      have e6 : w 6 = g 6 := ew 6 (by omega)
      rw [e6]
      by_cases q : g 6 = b
      · rw [if_neg (by omega), gs_s rfl]
      · rw [if_pos q, gs_s rfl]; omega
    have eg' : ∀ k, k ≠ 6 → (k < 250 + 10 * b + 2 ∨ 250 + 10 * b + 5 < k) → gFin w b k = g k := fun k q1 q2 => by rw [gFin_6 q1]; exact ew k q2
    have ho : ∀ b' w', 0 ≤ b' → 0 ≤ w' → w' < 10 → b' ≠ b → ga (gFin w b) b' w' = ga g b' w' := fun b' w' q0 q1 q2 q3 => eg' _ (by omega) (by omega)
    have a0 : ga (gFin w b) b 0 = ga g b 0 := eg' _ (by omega) (by omega)
    have a1 : ga (gFin w b) b 1 = ga g b 1 := eg' _ (by omega) (by omega)
    have a2 : ga (gFin w b) b 2 = ga g0 b 2 := (gFin_6 (by omega)).trans w2
    have a3 : ga (gFin w b) b 3 = ga g0 b 3 := (gFin_6 (by omega)).trans w3
    have a4 : ga (gFin w b) b 4 = 2 := (gFin_6 (by omega)).trans w4
    have a5 : ga (gFin w b) b 5 = s := (gFin_6 (by omega)).trans w5
    have a6 : ga (gFin w b) b 6 = ga g b 6 := eg' _ (by omega) (by omega)
    have a7 : ga (gFin w b) b 7 = ga g b 7 := eg' _ (by omega) (by omega)
    have ep : pB (gFin w b) = pB g := by unfold pB; rw [eg' 3 (by decide) (by omega), eg' 4 (by decide) (by omega), eg' 5 (by decide) (by omega)]
    have hiB := ib
    unfold IB at ib
    have q7 := ib.2.2.2.2.2.2.2.2.2.2.2.2.2.1 hp'
    have q6 := ib.2.2.2.2.1
    have q5 := ib.2.1
    have q4 := ib.2.2.1
    clear ib
    have TT : TQ g (gFin w b) b := fun q => absurd q hp
    have hIV : IV (gFin w b) := by
      refine IV_b hi h0 hb (fun k k0 k6 k7 => eg' k k6 (by omega)) ho ?_ ?_ ?_ TT
      · rw [eg' 7 (by decide) (by omega)]; unfold I1 at hI1; omega
      · rw [w6]; omega
      · unfold IB
        rw [a0, a1, a2, a3, a4, a5, a6, a7, w6, ep, eg' 1 (by decide) (by omega), eg' 2 (by decide) (by omega)]
        have hsn : (-1 ≤ s ∧ s ≤ 1) ∧ 0 ≤ s := by omega
        refine ⟨by decide, q5, q4, hsn.1, q6, hx, hy, fun q => absurd q (by decide), fun q => absurd q (by omega), fun q => absurd q (by decide), fun q => absurd q (by decide), fun _ => ⟨hsn.2, h01⟩, fun q => absurd q (by decide), fun _ => q7, fun q => absurd q hp, fun q => absurd q (by decide)⟩
    have e19 : c0 19 (2 * b + s) = ga g b s := by
      rw [ec _ _ (by omega)]
      rcases hs with rfl | rfl
      · rw [show 2 * b + 0 = 2 * b by omega]; exact hr3.1
      · exact hr3.2.1
    refine ⟨cset (cset (cset c0 21 b 2) 22 b (c0 19 (2 * b + s))) 2 2 (-1), gFin w b, fun σ => cwin_p ⟨h0, by omega⟩ hs (by rw [ec _ _ (by omega), hr1.2.2.2.2.2.2.1]; exact hp'), fun σ => fin_wg ((wins_p (by show (gs g0 (250 + 10 * b + 4) 2) (250 + 10 * b + 7) < 100; rw [gs_o (by omega), eg _ (by omega) (by omega)]; show ga g b 7 < 100; omega) h0).trans (by rw [hw])), ⟨hIV, ?_, ?_⟩, eg' 3 (by decide) (by omega), a4, a5, w6⟩
    · refine RV_b hi hr h0 hb (fun k k0 k6 k7 => eg' k k6 (by omega)) ho (fun C k q1 q2 q3 q4 => ?_) ?_ ?_ (fun b' q0 q1 => ?_) ?_ TT ?_
      · rw [cset_o (by omega), cset_o (by omega), cset_o (by omega)]; exact ec C k (by omega)
      · rw [cset_o (by omega), cset_o (by omega), cset_o (by omega), ec _ _ (by omega), eg' 7 (by decide) (by omega)]; exact hr1.2.1
      · rw [cset_s ⟨rfl, rfl⟩, w6]
      · simp (disch := omega) only [cset_o, ec]
        simp only [true_and, and_self]
      · unfold R3b
        rw [a0, a1, a2, a3, a4, a5, a6, a7, if_neg (by omega)]
        have as : ga (gFin w b) b s = ga g b s := by
          rcases hs with rfl | rfl
          · exact a0
          · exact a1
        rw [as]
        refine ⟨?_, ?_, ?_, ?_, ?_, ?_, ?_, ?_⟩
        · rw [cset_o (by omega), cset_o (by omega), cset_o (by omega), ec _ _ (by omega)]; exact hr3.1
        · rw [cset_o (by omega), cset_o (by omega), cset_o (by omega), ec _ _ (by omega)]; exact hr3.2.1
        · rw [cset_o (by omega), cset_o (by omega), cset_o (by omega)]; exact ex
        · rw [cset_o (by omega), cset_o (by omega), cset_o (by omega)]; exact ey
        · rw [cset_o (by omega), cset_o (by omega), cset_s ⟨rfl, rfl⟩]
        · rw [cset_o (by omega), cset_s ⟨rfl, rfl⟩]; exact e19
        · rw [cset_o (by omega), cset_o (by omega), cset_o (by omega), ec _ _ (by omega)]; exact hr3.2.2.2.2.2.2.1
        · rw [cset_o (by omega), cset_o (by omega), cset_o (by omega), ec _ _ (by omega)]; exact hr3.2.2.2.2.2.2.2
      · intro q; rw [w6] at q; omega
    · have b3' : pB g ≤ g 3 := by unfold I1 at hI1; unfold pB; split <;> omega
      have b5 : 0 < g 4 → pB g = g 5 := fun q => by unfold pB; rw [if_neg (by omega)]
      refine IX_fr hi hX (eg' 1 (by decide) (by omega)) (eg' 4 (by decide) (by omega)) (fun _ => eg' 5 (by decide) (by omega)) (eg' 8 (by decide) (by omega)) ep (fun k k0 k1 => eg' k (by omega) (by omega)) (fun f w' q0 q1 q2 => eg' _ (by omega) (by omega)) (fun b' w' q0 q1 q2 => ?_) (fun q p p0 p1 => ?_)
      · by_cases hbb : b' = b
        · subst hbb
          rcases q2 with rfl | rfl
          · exact a0
          · exact a1
        · exact ho b' w' q0 (by omega) (by omega) hbb
      · exact ho _ _ (by have := b5 q; omega) (by omega) (by omega) (by have := b5 q; omega)
end Won
