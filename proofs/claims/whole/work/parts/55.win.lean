/-! Winning a bout, on both sides. -/
theorem fiN_s {r b u : Int} {n : Nat} (h : ¬ u ≤ r) (hb : 0 ≤ b ∧ b ≤ 1000) (hu : 0 < u ∧ u ≤ 32) : fiN r (n + 1) b u = fiN r n (b + u / 2) (u / 2) := by
  rw [fiN, if_neg h, td2 (by omega), wr_eq (z := u / 2) (by omega) (by omega), wr_eq (by omega) (by omega)]
theorem fiN_e {r b u : Int} {n : Nat} (h : u ≤ r) : fiN r (n + 1) b u = b := by rw [fiN, if_pos h]
theorem gF_r {g : Gs} {r : Int} (h4 : g 4 = 2 ∨ g 4 = 4 ∨ g 4 = 8 ∨ g 4 = 16 ∨ g 4 = 32) (h5 : 0 ≤ g 5 ∧ g 5 ≤ 276) (hr : r = 1 ∨ r = 2 ∨ r = 4 ∨ r = 8 ∨ r = 16 ∨ r = 32) (hle : r ≤ g 4) : gF g r = g 5 + g 4 - r := by
  unfold gF
  generalize g 5 = b at h5 ⊢
  rcases h4 with h | h | h | h | h
  all_goals
    rw [h] at hle ⊢
    rcases hr with rfl | rfl | rfl | rfl | rfl | rfl
    all_goals first | (exfalso; omega) | (simp (disch := omega) only [fiN_s, fiN_e, Int.reduceDiv]; omega)
theorem rnd_p (u : Int) : rnd u = 2 ∨ rnd u = 4 ∨ rnd u = 8 ∨ rnd u = 16 ∨ rnd u = 32 := by
  unfold rnd
  repeat' split
  all_goals omega
theorem rnd_b {u s : Int} (hs : s = 2 ∨ s = 4 ∨ s = 8 ∨ s = 16 ∨ s = 32) (h : 2 ≤ u ∧ u ≤ s) : rnd u ≤ s ∧ u ≤ rnd u ∧ (rnd u = 2 ∨ rnd u < 2 * u) := by
  unfold rnd
  repeat' split
  all_goals omega
/-- where the bout stands in the table -/
def TabP (g : Gs) (b : Int) : Prop := (g 4 = 2 ∨ g 4 = 4 ∨ g 4 = 8 ∨ g 4 = 16 ∨ g 4 = 32) ∧ (0 ≤ g 5 ∧ g 5 ≤ 276) ∧ (g 5 ≤ b ∧ b < g 5 + g 4 - 1) ∧ ga g b 7 = 100 + rnd (g 4 - (b - g 5))
def gWinT (g : Gs) (b s : Int) : Gs := if b - g 5 < g 4 - 2 then gs (gs g (250 + 10 * b + 5) s) (250 + 10 * (g 5 + (g 4 + (b - g 5)) / 2) + (b - g 5) % 2) (ga g b s) else gs (gs g (250 + 10 * b + 5) s) 0 3
theorem tabF {g : Gs} {b : Int} (h : TabP g b) : (b - g 5 < g 4 - 2 ↔ ¬ ga g b 7 = 102) ∧ gF g (ga g b 7 - 100) = g 5 + g 4 - (ga g b 7 - 100) ∧ (ga g b 7 ≠ 102 → gF g ((ga g b 7 - 100) / 2) = g 5 + g 4 - (ga g b 7 - 100) / 2) ∧ (ga g b 7 = 102 ∨ ga g b 7 = 104 ∨ ga g b 7 = 108 ∨ ga g b 7 = 116 ∨ ga g b 7 = 132) ∧ g 4 - (ga g b 7 - 100) ≤ b - g 5 ∧ b - g 5 < g 4 - (ga g b 7 - 100) / 2 := by
  obtain ⟨h4, h5, hb, h7⟩ := h
  have h1 := rnd_p (g 4 - (b - g 5))
  have h2 := rnd_b h4 (u := g 4 - (b - g 5)) (by omega)
  rw [h7]
  generalize rnd (g 4 - (b - g 5)) = r at h1 h2 ⊢
  have e1 : 100 + r - 100 = r := by omega
  rw [e1]
  refine ⟨by omega, gF_r h4 h5 (by omega) h2.1, fun hr => gF_r h4 h5 (by omega) (by omega), by omega, by omega, by omega⟩
theorem wins_t {σ : Mem} {g : Gs} {b s : Int} (h : TabP g b) (hs : s = 0 ∨ s = 1) : zm_mwins b s (wg σ g) = wg σ (gWinT g b s) := by
  obtain ⟨f1, f2, f3, f4, f5, f6⟩ := tabF h
  obtain ⟨h4, h5, hb, h7⟩ := h
  have hG : ∀ r, gF (gs g (250 + 10 * b + 5) s) r = gF g r := fun r => by unfold gF; rw [gs_o (by omega), gs_o (by omega)]
  have e7 : ga (gs g (250 + 10 * b + 5) s) b 7 = ga g b 7 := by unfold ga; rw [gs_o (by omega)]
  have es : ga (gs g (250 + 10 * b + 5) s) b s = ga g b s := by unfold ga; rw [gs_o (by omega)]
  unfold zm_mwins gWinT
  rw [mput_wg]
  simp only [mat_wg, fo_wg, hG, e7, es]
  rw [if_pos (by omega), wr_eq (z := ga g b 7 - 100) (by omega) (by omega)]
  by_cases hf : ga g b 7 = 102
  · rw [if_neg (by omega), if_neg (by omega), up_wg]
  · rw [if_pos (by omega), if_pos (by omega)]
    rw [td2 (by omega), wr_eq (z := (ga g b 7 - 100) / 2) (by omega) (by omega), f2, f3 hf, wr_eq (z := b - _) (by omega) (by omega), td2 (by omega), tm2 (by omega), wr_eq (z := (b - _) / 2) (by omega) (by omega), wr_eq (z := _ + (b - _) / 2) (by omega) (by omega), wr_eq (by omega) (by omega)]
    rw [mput_wg]
    have e1 : g 5 + g 4 - (ga g b 7 - 100) / 2 + (b - (g 5 + g 4 - (ga g b 7 - 100))) / 2 = g 5 + (g 4 + (b - g 5)) / 2 := by omega
    have e2 : 0 + (b - (g 5 + g 4 - (ga g b 7 - 100))) % 2 = (b - g 5) % 2 := by omega
    rw [e1, e2]
theorem wins_p {σ : Mem} {g : Gs} {b s : Int} (h : ga g b 7 < 100) (hb : 0 ≤ b) : zm_mwins b s (wg σ g) = wg σ (gs g (250 + 10 * b + 5) s) := by
  unfold zm_mwins
  rw [mput_wg]
  simp only [mat_wg]
  rw [if_neg]
  unfold ga at h ⊢
  rw [gs_o (by omega)]
  omega
def gFin (w : Gs) (b : Int) : Gs := if ¬ w 6 = b then gs w 6 (w 6) else gs w 6 (-1)
theorem fin_wg {σ : Mem} {g w : Gs} {b s : Int} (h : zm_mwins b s (wg σ (gs g (250 + 10 * b + 4) 2)) = wg σ w) : zm_mfinishes b s (wg σ g) = wg σ (gFin w b) := by
  unfold zm_mfinishes gFin
  rw [mput_wg, h]
  simp only [wg_r, up_wg]
  by_cases e : w 6 = b
  · rw [if_neg (by omega), if_neg (by omega)]
  · rw [if_pos e, if_pos e]
theorem gFin_6 {w : Gs} {b k : Int} (h : ¬ k = 6) : gFin w b k = w k := by
  unfold gFin
  split
  · exact gs_o h
  · exact gs_o h
/-- the numbers after a bout of the table is won -/
theorem FinG_of {g g0 : Gs} {b s : Int} (h : TabP g b) (hs : s = 0 ∨ s = 1) (h6 : g 6 = b ∨ g 6 = -1) (hb0 : 0 ≤ b) (e : ∀ k, ¬ (k = 250 + 10 * b + 2) → ¬ (k = 250 + 10 * b + 3) → g0 k = g k) : FinG g (gFin (gWinT (gs g0 (250 + 10 * b + 4) 2) b s) b) b s (ga g0 b 2) (ga g0 b 3) := by
  obtain ⟨h4, h5, hb, h7⟩ := h
  generalize hg1 : gs g0 (250 + 10 * b + 4) 2 = g1
  have e1 : ∀ k, ¬ (k = 250 + 10 * b + 2) → ¬ (k = 250 + 10 * b + 3) → ¬ (k = 250 + 10 * b + 4) → g1 k = g k := fun k a1 a2 a3 => by rw [← hg1, gs_o a3]; exact e k a1 a2
  have g15 : g1 5 = g 5 := e1 5 (by omega) (by omega) (by omega)
  have g14 : g1 4 = g 4 := e1 4 (by omega) (by omega) (by omega)
  have eas : ga g1 b s = ga g b s := e1 _ (by omega) (by omega) (by omega)
  have e14 : ga g1 b 4 = 2 := by rw [← hg1]; exact gs_s rfl
  have e12 : ga g1 b 2 = ga g0 b 2 := by rw [← hg1]; exact gs_o (by omega)
  have e13 : ga g1 b 3 = ga g0 b 3 := by rw [← hg1]; exact gs_o (by omega)
  have hw6 : gWinT g1 b s 6 = g 6 := by
    unfold gWinT
    split
    · rw [gs_o (by omega), gs_o (by omega)]; exact e1 6 (by omega) (by omega) (by omega)
    · rw [gs_o (by omega), gs_o (by omega)]; exact e1 6 (by omega) (by omega) (by omega)
  have hlt : (b - g1 5 < g1 4 - 2) ↔ (b - g 5 < g 4 - 2) := by rw [g15, g14]
  refine ⟨fun k hk h0 hk6 => ?_, ?_, fun b' w q0 q1 q2 q3 q4 => ?_, ⟨?_, ?_, ?_, ?_⟩, fun q => ?_, ?_⟩
  · rw [gFin_6 hk6]
    unfold gWinT
    rw [g15, g14]
    split
    · rw [gs_o (by omega), gs_o (by omega)]; exact e1 k (by omega) (by omega) (by omega)
    · rw [gs_o (by omega), gs_o (by omega)]; exact e1 k (by omega) (by omega) (by omega)
  · unfold gFin
    rw [hw6]
    by_cases q : g 6 = b
    · rw [if_neg (by omega)]; exact gs_s rfl
    · rw [if_pos q, gs_s rfl]; omega
  · show gFin _ _ _ = g _
    rw [gFin_6 (by omega)]
    unfold gWinT
    rw [g15, g14]
    split
    · rename_i q
      rw [gs_o (by clear e e1; omega), gs_o (by clear e e1; omega)]; exact e1 _ (by clear e e1; omega) (by clear e e1; omega) (by clear e e1; omega)
    · rw [gs_o (by clear e e1; omega), gs_o (by clear e e1; omega)]; exact e1 _ (by clear e e1; omega) (by clear e e1; omega) (by clear e e1; omega)
  · rw [← e12]
    show gFin _ _ _ = g1 _
    rw [gFin_6 (by omega)]
    unfold gWinT
    rw [g15, g14]
    split
    · rw [gs_o (by omega), gs_o (by omega)]
    · rw [gs_o (by omega), gs_o (by omega)]
  · rw [← e13]
    show gFin _ _ _ = g1 _
    rw [gFin_6 (by omega)]
    unfold gWinT
    rw [g15, g14]
    split
    · rw [gs_o (by omega), gs_o (by omega)]
    · rw [gs_o (by omega), gs_o (by omega)]
  · rw [← e14]
    show gFin _ _ _ = g1 _
    rw [gFin_6 (by omega)]
    unfold gWinT
    rw [g15, g14]
    split
    · rw [gs_o (by omega), gs_o (by omega)]
    · rw [gs_o (by omega), gs_o (by omega)]
  · show gFin _ _ _ = s
    rw [gFin_6 (by omega)]
    unfold gWinT
    rw [g15, g14]
    split
    · rw [gs_o (by omega), gs_s rfl]
    · rw [gs_o (by omega), gs_s rfl]
  · show gFin _ _ _ = _
    rw [gFin_6 (by omega)]
    unfold gWinT
    rw [g15, g14, if_pos q, gs_s rfl]
    exact eas
  · rw [gFin_6 (by omega)]
    unfold gWinT
    rw [g15, g14]
    split
    · rw [gs_o (by omega), gs_o (by omega)]; exact e1 0 (by omega) (by omega) (by omega)
    · exact gs_s rfl
/-- the class's cells after a bout of the table is won -/
def cWinT (c : Cs) (b s z u : Int) : Cs :=
  if b - z < u - 2 then cset (cset (cset (cset (cset c 21 b 2) 22 b (c 19 (2 * b + s))) 2 2 (-1)) 26 (c 19 (2 * b + (1 - s))) (c 23 b - 100)) 19 (2 * (z + (u + (b - z)) / 2) + (b - z) % 2) (c 19 (2 * b + s))
  else cset (cset (cset (cset (cset c 21 b 2) 22 b (c 19 (2 * b + s))) 2 2 (-1)) 26 (c 19 (2 * b + (1 - s))) (c 23 b - 100)) 2 0 3
theorem cwin_t {σ : Mem} {c : Cs} {g : Gs} {b s : Int} (h : TabP g b) (hs : s = 0 ∨ s = 1) (hb0 : 0 ≤ b) (c01 : c 0 1 = g 5) (c90 : c 9 0 = g 4) (c23 : c 23 b = ga g b 7) (hl : 0 ≤ c 19 (2 * b + (1 - s)) ∧ c 19 (2 * b + (1 - s)) < 24) : zm_win 0 b s (wcm σ c) = wcm σ (cWinT c b s (g 5) (g 4)) := by
  obtain ⟨f1, f2, f3, f4, f5, f6⟩ := tabF h
  obtain ⟨h4, h5, hb, h7⟩ := h
  have hb3 : 0 ≤ b ∧ b < 307 := by omega
  unfold zm_win
  rw [cz_cl hb3 (by omega), wu_2, cz_op, cset_o (by omega), cset_o (by omega), cset_o (by omega), if_pos (show c 0 1 ≤ b by omega), if_neg (by omega)]
  rw [wr_eq (z := 1 - s) (by omega) (by omega), cz_fe hb3 (by omega), cset_o (by omega), cset_o (by omega), cset_o (by omega)]
  rw [cz_rd hb3 (by rw [cset_o (by omega), cset_o (by omega), cset_o (by omega), c23]; omega), cset_o (by omega), cset_o (by omega), cset_o (by omega), z0, ws_16 hl]
  unfold zm_advance cWinT
  rw [cz_rd hb3 (by rw [cset_o (by omega), cset_o (by omega), cset_o (by omega), cset_o (by omega), c23]; omega), cset_o (by omega), cset_o (by omega), cset_o (by omega), cset_o (by omega), c23]
  by_cases hf : ga g b 7 = 102
  · rw [if_neg (by omega), if_neg (by omega), wu_2]
  · rw [if_pos (by omega), if_pos (by omega)]
    generalize hC4 : cset (cset (cset (cset c 21 b 2) 22 b (c 19 (2 * b + s))) 2 2 (-1)) 26 (c 19 (2 * b + (1 - s))) (ga g b 7 - 100) = c4
    have k01 : c4 0 1 = g 5 := by rw [← hC4, cset_o (by omega), cset_o (by omega), cset_o (by omega), cset_o (by omega)]; exact c01
    have k90 : c4 9 0 = g 4 := by rw [← hC4, cset_o (by omega), cset_o (by omega), cset_o (by omega), cset_o (by omega)]; exact c90
    have hbr : ∀ r i, (-100 ≤ r ∧ r ≤ 100) → (-100 ≤ i ∧ i ≤ 1000) → zo_boutOfRound 0 r i (wcm σ c4) = g 5 + g 4 - r + i := fun r i q1 q2 => by
      rw [cz_br (by omega) (by omega) q1 q2, k01, k90]
    have k22 : c4 22 b = c 19 (2 * b + s) := by rw [← hC4, cset_o (by omega), cset_o (by omega), cset_s ⟨rfl, rfl⟩]
    rw [hbr (ga g b 7 - 100) 0 (by omega) (by omega), wr_eq (z := b - _) (by omega) (by omega), td2 (x := ga g b 7 - 100) (by omega), td2 (x := b - _) (by omega), tm2 (by omega), wr_eq (z := (ga g b 7 - 100) / 2) (by omega) (by omega), wr_eq (z := (b - _) / 2) (by omega) (by omega), hbr ((ga g b 7 - 100) / 2) _ (by omega) (by omega)]
    have e1 : g 5 + g 4 - (ga g b 7 - 100) / 2 + (b - (g 5 + g 4 - (ga g b 7 - 100) + 0)) / 2 = g 5 + (g 4 + (b - g 5)) / 2 := by omega
    have e2 : (b - (g 5 + g 4 - (ga g b 7 - 100) + 0)) % 2 = (b - g 5) % 2 := by omega
    rw [e1, e2, wr_eq (z := 2 * _) (by omega) (by omega), wr_eq (by omega) (by omega), z0, z0, wr_12g hb3, k22, ws_9 (by omega)]
theorem cwin_p {σ : Mem} {c : Cs} {b s : Int} (hb : 0 ≤ b ∧ b < 307) (hs : s = 0 ∨ s = 1) (h : b < c 0 1) : zm_win 0 b s (wcm σ c) = wcm σ (cset (cset (cset c 21 b 2) 22 b (c 19 (2 * b + s))) 2 2 (-1)) := by
  unfold zm_win
  rw [cz_cl hb (by omega), wu_2, cz_op, cset_o (by omega), cset_o (by omega), cset_o (by omega), if_neg (show ¬ c 0 1 ≤ b by omega), if_pos (by omega)]
theorem FinC_of {c : Cs} {g g' : Gs} {N b s x y : Int} (hr : RV N c g) (hp : FinP g b s x y) (hT : TabP g b) (hf : FinG g g' b s x y) (c0 : Cs) (e : ∀ C k, ¬ (C = 20 ∧ (k = 2 * b ∨ k = 2 * b + 1)) → c0 C k = c C k) (ex : c0 20 (2 * b) = x) (ey : c0 20 (2 * b + 1) = y) : FinC c (cWinT c0 b s (g 5) (g 4)) g g' b s x y := by
  obtain ⟨⟨p1, p2, p3, p4⟩, p5, p6, p7, p8, p9, pa⟩ := hp
  obtain ⟨h4, h5, hb, h7⟩ := hT
  have h00 := hf.2.2.2.2.2
  clear hf
  obtain ⟨r1, -, r3, -, -, -, -⟩ := hr
  have hb3 := r3 b p1 p2
  unfold R3b at hb3
  unfold R1 at r1
  have es : c0 19 (2 * b + s) = ga g b s := by
    rw [e 19 _ (by omega)]
    rcases p7 with rfl | rfl
    · rw [Int.add_zero]; exact hb3.1
    · exact hb3.2.1
  have eo : c0 19 (2 * b + (1 - s)) = ga g b (1 - s) := by
    rw [e 19 _ (by omega)]
    rcases p7 with rfl | rfl
    · exact hb3.2.1
    · rw [show 2 * b + (1 - 1) = 2 * b by omega]; exact hb3.1
  have e23 : c0 23 b = ga g b 7 := by rw [e 23 b (by omega)]; exact hb3.2.2.2.2.2.2.1
  have e20 : c0 2 0 = g 0 := by rw [e 2 0 (by omega)]; exact r1.1
  clear hb3 r1 r3 p5 p8 p9 pa
  unfold cWinT
  rw [es, eo, e23]
  by_cases hlt : b - g 5 < g 4 - 2
  · rw [if_pos hlt] at h00 ⊢
    refine ⟨fun C k a1 a2 a3 a4 a5 a6 a7 => ?_, ?_, ?_, ?_, ?_, ?_, ?_, ?_, fun _ => cset_s ⟨rfl, rfl⟩⟩
    · rw [cset_o (fun q => a7 ⟨hlt, q.1, q.2⟩), cset_o a6, cset_o a2, cset_o (fun q => a5 ⟨Or.inr q.1, q.2⟩), cset_o (fun q => a5 ⟨Or.inl q.1, q.2⟩)]
      exact e C k a4
    · rw [cset_o (by omega), cset_o (by omega), cset_o (by omega), cset_o (by omega), cset_o (by omega), h00]; exact e20
    · rw [cset_o (by omega), cset_o (by omega), cset_s ⟨rfl, rfl⟩]
    · rw [cset_o (by omega), cset_o (by omega), cset_o (by omega), cset_o (by omega), cset_o (by omega)]; exact ex
    · rw [cset_o (by omega), cset_o (by omega), cset_o (by omega), cset_o (by omega), cset_o (by omega)]; exact ey
    · rw [cset_o (by omega), cset_o (by omega), cset_o (by omega), cset_o (by omega), cset_s ⟨rfl, rfl⟩]
    · rw [cset_o (by omega), cset_o (by omega), cset_o (by omega), cset_s ⟨rfl, rfl⟩]
    · rw [cset_o (by omega), cset_s ⟨rfl, rfl⟩]
  · rw [if_neg hlt] at h00 ⊢
    refine ⟨fun C k a1 a2 a3 a4 a5 a6 a7 => ?_, ?_, ?_, ?_, ?_, ?_, ?_, ?_, fun q => absurd q hlt⟩
    · rw [cset_o a1, cset_o a6, cset_o a2, cset_o (fun q => a5 ⟨Or.inr q.1, q.2⟩), cset_o (fun q => a5 ⟨Or.inl q.1, q.2⟩)]
      exact e C k a4
    · rw [cset_s ⟨rfl, rfl⟩, h00]
    · rw [cset_o (by omega), cset_o (by omega), cset_s ⟨rfl, rfl⟩]
    · rw [cset_o (by omega), cset_o (by omega), cset_o (by omega), cset_o (by omega), cset_o (by omega)]; exact ex
    · rw [cset_o (by omega), cset_o (by omega), cset_o (by omega), cset_o (by omega), cset_o (by omega)]; exact ey
    · rw [cset_o (by omega), cset_o (by omega), cset_o (by omega), cset_o (by omega), cset_s ⟨rfl, rfl⟩]
    · rw [cset_o (by omega), cset_o (by omega), cset_o (by omega), cset_s ⟨rfl, rfl⟩]
    · rw [cset_o (by omega), cset_s ⟨rfl, rfl⟩]
