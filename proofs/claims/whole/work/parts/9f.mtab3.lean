/-! The table is drawn: the model, all of it. -/
section MTb3
variable {n B z t j i r u b w : Int} {K X S M σ : Mem} {g : Gs} {o : Int → Int} {m : Nat}
theorem wsd_wg {h : Int → Int} : wsd (wg X g) h = wg (wsd X h) g := by
  funext C r k
  unfold wsd wg
  by_cases q : C = 13 ∧ r = 190
  · rw [if_pos q, if_neg (by omega)]; exact (if_pos q).symm
  · rw [if_neg q]
    by_cases q2 : C = 13 ∧ r = 186
    · rw [if_pos q2, if_pos q2]
    · rw [if_neg q2, if_neg q2]; exact (if_neg q).symm
theorem gTf_f (hB : 0 ≤ B) : gTf g B n o 8 = n ∧ gTf g B n o 4 = szO n ∧ gTf g B n o 5 = B ∧ gTf g B n o 0 = 2 ∧ gTf g B n o 3 = g 3 ∧ (∀ k, 0 ≤ k → k < n → gTf g B n o (222 + k) = o k) ∧ (∀ k, k ≠ 8 → k ≠ 4 → k ≠ 5 → k ≠ 0 → ¬ (222 ≤ k ∧ k < 222 + n) → gTf g B n o k = g k) := by
  unfold gTf
  refine ⟨?_, ?_, ?_, ?_, ?_, fun k k0 k1 => ?_, fun k q1 q2 q3 q4 q5 => ?_⟩
  · rw [gs_o (by omega), gs_o (by omega), gs_o (by omega)]; exact gSd_8
  · rw [gs_o (by omega), gs_o (by omega), gs_s rfl]
  · rw [gs_o (by omega), gs_s rfl]
  · rw [gs_s rfl]
  · rw [gs_o (by omega), gs_o (by omega), gs_o (by omega)]
    unfold gSd
    rw [if_neg (by omega), if_neg (by omega)]
  · rw [gs_o (by omega), gs_o (by omega), gs_o (by omega)]
    unfold gSd
    rw [if_pos (by omega)]
    exact congrArg o (by omega)
  · rw [gs_o q4, gs_o q3, gs_o q2]
    unfold gSd
    rw [if_neg q5, if_neg q1]
/-- the model's memory behind the drawing -/
def dtX (σ : Mem) (n : Int) (o : Int → Int) : Mem := wsd (laid (zm_mchanges (up σ 11 0 6 0))) (HH (wg (laid (zm_mchanges (up σ 11 0 6 0))) (gTf (σ 13 186) (σ 13 186 3) n o)) (lgO n - 1))
theorem ev_ydrawTable_y (σ : Mem) (n : Int) (o : Int → Int) (hn : 2 ≤ n ∧ n ≤ 24) (hB : 0 ≤ σ 13 186 3 ∧ σ 13 186 3 ≤ 276) (ho : ∀ i, 0 ≤ i → i < n → 0 ≤ o i) (hp : 0 ≤ σ 11 0 4 ∧ σ 11 0 4 ≤ 8) (hLay : LayOK (zm_mchanges (up σ 11 0 6 0)))
    (hS1 : Ev true 177 [aR 11 0] σ (.inl (some (aI n))) σ) (hS2 : Ev true 177 [aR 11 0] (laid (zm_mchanges (up σ 11 0 6 0))) (.inl (some (aI n))) (laid (zm_mchanges (up σ 11 0 6 0)))) (h0 : σ 13 186 0 = 1) (h1 : ¬ 0 < wr (wr (sumTo (fo_minState 0 σ) (σ 13 186 3)) + wr (sumTo (fo_minState 1 σ) (σ 13 186 3))))
    (hra : ∀ i, 0 ≤ i → i < n → Ev true 210 [aR 11 0, aI i] (wg (laid (zm_mchanges (up σ 11 0 6 0))) (gSd (σ 13 186) n o i)) (.inl (some (aI (o i)))) (wg (laid (zm_mchanges (up σ 11 0 6 0))) (gSd (σ 13 186) n o i))) : Ev true 217 [aR 11 0] σ (.inl (some (aI (szO n)))) (wg (dtX σ n o) (gTab (σ 13 186) (σ 13 186 3) n o)) := by
  obtain ⟨f1, f2, f3, f4, f5⟩ := szO_f hn
  have row : (laid (zm_mchanges (up σ 11 0 6 0))) 13 186 = σ 13 186 := by
    funext k
    rw [laid_o (by omega), mch_g]
    exact up_o (by omega)
  show wp true 217 0 [some (aR 11 (0)), none, none, none] [] σ 0 0 _
  refine ydt_0 σ n (by omega) hS1 h0 h1 hn.1 _ ?_
  refine ydt_1 (up σ 11 0 6 0) n hp hLay hS2 _ ?_
  unfold dtX
  generalize laid (zm_mchanges (up σ 11 0 6 0)) = X at row hra ⊢
  generalize hg : σ 13 186 = g at row hra hB ⊢
  generalize hB3 : g 3 = B at hB ⊢
  have e1 : up X 13 186 8 n = wg X (gSd g n o 0) := by
    have e : X = wg X g := by rw [← row]; exact (wg_id X).symm
    have e2 : up X 13 186 8 n = up (wg X g) 13 186 8 n := by rw [← e]
    rw [e2, up_wg]
    congr 1
    funext k
    unfold gs gSd
    rw [if_neg (show ¬ (222 ≤ k ∧ k < 222 + 0) by omega)]
  rw [e1]
  refine mtb_1 (n := n) (X := X) (g := g) (o := o) (by omega) hra _ ?_ n.toNat 0 (by decide) (by omega)
  refine ydt_2 _ ?_
  refine mtb_2 (by rw [wg_r]; exact gSd_8) hn _ ?_
  have hm : ∃ k : Nat, lgO n = k + 1 := ⟨lgO n - 1, by omega⟩
  obtain ⟨m, hm⟩ := hm
  have h2 : (2 : Int) ^ (m + 1) = 2 ^ m * 2 := Int.pow_succ 2 m
  refine ydt_3 m (by omega) (by rw [f1, hm]) _ ?_
  have e2 : up (up (up (wg X (gSd g n o n)) 13 186 4 (szO n)) 13 186 5 ((up (wg X (gSd g n o n)) 13 186 4 (szO n)) 13 186 3)) 13 186 0 2 = wg X (gTf g B n o) := by
    have e3 : (up (wg X (gSd g n o n)) 13 186 4 (szO n)) 13 186 3 = B := by
      rw [up_o (by omega), wg_r]
      unfold gSd
      rw [if_neg (by omega), if_neg (by omega)]
      exact hB3
    rw [e3, up_wg, up_wg, up_wg]
    rfl
  rw [e2, wsd_wg, show lgO n - 1 = m by omega]
  have hx : ∀ p, 0 ≤ p → p < szO n → (wsd X (HH (wg X (gTf g B n o)) m)) 13 190 p = sdN (lgO n) p ∧ 1 ≤ sdN (lgO n) p := fun p p0 p1 => by
    refine ⟨?_, (sdN_b _ _).1⟩
    rw [wsd_r, HH_sd _ _ p p0 (by rw [← hm, ← f1]; exact p1), hm]
  generalize wsd X (HH (wg X (gTf g B n o)) m) = X' at hx ⊢
  obtain ⟨t8, t4, t5, t0, t3, t222, to⟩ := gTf_f (g := g) (B := B) (n := n) (o := o) hB.1
  have hrn : ∀ u, szO n / 2 < u → u ≤ szO n → rnd u = szO n := fun u u0 u1 => by
    unfold rnd
    repeat' split
    all_goals omega
  refine ydt_4 (by omega) _ ?_
  have h3a := mtb_3a (X := X') (z := szO n) (B := B) (g := gTf g B n o) (L := tL o n) (R := tR o n) (H := tH n) (FA := fun p => sdN (lgO n) p) (o := fun p => seat o n (sdN (lgO n) p)) f2 hB hx (by rw [t8]; exact hn.2) (fun p p0 p1 => by
    have s1 := (sdN_b (lgO n) p).1
    show (if sdN (lgO n) p ≤ gTf g B n o 8 then gTf g B n o (221 + sdN (lgO n) p) else -1) = seat o n (sdN (lgO n) p)
    rw [t8]
    unfold seat
    rw [if_neg (show ¬ sdN (lgO n) p < 1 by omega)]
    by_cases q : sdN (lgO n) p ≤ n
    · rw [if_pos q, if_neg (by omega), show 221 + sdN (lgO n) p = 222 + (sdN (lgO n) p - 1) by omega]
      exact t222 _ (by omega) (by omega)
    · rw [if_neg q, if_pos (by omega)]) (fun t t0 t1 => ⟨by unfold tL; rw [if_pos t1], by unfold tR; rw [if_pos t1], by unfold tH; rw [hrn (szO n - t) (by omega) (by omega)]⟩) (fun o' σ2 => o' = .inl (some (aI (szO n))) ∧ σ2 = wg X' (gTab g B n o)) ?_ (szO n / 2).toNat 0 (by decide) (by omega)
  · rw [gAdds_0 (by rw [t3]; exact hB3)] at h3a
    exact h3a
  refine ydt_5 (by omega) _ ?_
  have h3b := mtb_3 (X := X') (z := szO n) (B := B) (g := gTf g B n o) (L := tL o n) (R := tR o n) (H := tH n) hB (by omega) (fun r i r0 r1 r2 i0 i1 => ⟨by unfold tL; rw [if_neg (by omega)], by unfold tR; rw [if_neg (by omega)], by
    have e : rnd (szO n - (szO n - r + i)) = r := by
      unfold rnd
      repeat' split
      all_goals omega
    unfold tH
    rw [e]⟩) (fun o' σ2 => o' = .inl (some (aI (szO n))) ∧ σ2 = wg X' (gTab g B n o)) ?_ m (by omega) (by rw [hm] at f1; omega)
  · rw [hm] at f1
    rw [show (2 : Int) ^ m = szO n / 2 by omega, show szO n - szO n / 2 = szO n / 2 by omega] at h3b
    exact h3b
  refine ydt_6 (B := B) (by rw [wg_r, gAdds_lo (by omega) (by omega)]; exact t5) _ ?_
  have hat : ∀ i w, 0 ≤ i → i < szO n - 1 → 0 ≤ w → w < 10 → ga (gAdds (gTf g B n o) B (szO n - 1) (tL o n) (tR o n) (tH n)) (B + i) w = if w = 0 then tL o n i else if w = 1 then tR o n i else if w = 5 ∨ w = 6 then -1 else if w = 7 then tH n i else 0 := fun i w i0 i1 w0 w1 => gAdds_at i0 i1 ⟨w0, w1⟩
  have h4 := mtb_4 (X := X') (z := szO n) (B := B) (g := gAdds (gTf g B n o) B (szO n - 1) (tL o n) (tR o n) (tH n)) (L := tL o n) (R := tR o n) f2 hB (by rw [gAdds_lo (by omega) (by omega)]; exact t4) (by rw [gAdds_lo (by omega) (by omega)]; exact t5) (fun i i0 i1 => by
    have s0 := sdN_l hn i
    have s1 := (sdN_b (lgO n) (2 * i + 1)).1
    refine ⟨?_, hat i 0 i0 (by omega) (by decide) (by decide), hat i 1 i0 (by omega) (by decide) (by decide), ?_, ?_, fun z2 => ?_⟩
    · rw [hat i 7 i0 (by omega) (by decide) (by decide)]
      show tH n i = _
      unfold tH
      rw [hrn (szO n - i) (by omega) (by omega)]
    · rw [tL_at hn i1]
      exact ho _ (by omega) (by omega)
    · unfold tR seat
      rw [if_pos i1, if_neg (by omega)]
      by_cases q : n < sdN (lgO n) (2 * i + 1)
      · rw [if_pos q]; exact Or.inl rfl
      · rw [if_neg q]; exact Or.inr (ho _ (by omega) (by omega))
    · rw [show i = 0 by omega, tR_2 (by omega)]
      exact ho 1 (by decide) (by omega)) (fun o' σ2 => o' = .inl (some (aI (szO n))) ∧ σ2 = wg X' (gTab g B n o)) ydt_7 (szO n / 2).toNat 0 (by decide) (by omega)
  rw [gBye_0, show B + 0 = B by omega] at h4
  exact h4
end MTb3
