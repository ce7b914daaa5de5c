/-! The class's tally is what the model counts: the loop. -/
section Tally2
variable {N b s f : Int} {σ K Y : Mem} {c : Cs} {g : Gs}
theorem cside2 {H : Int → Int → Int} (hs01 : s = 0 ∨ s = 1) (hF : zo_fencerOn 0 b s K = f) (hf : 0 ≤ f ∧ f < 24) (hw : rget K 12 b = f ↔ mat Y b 5 = s) (t1 : zo_touchesOn 0 b s K = mat Y b (2 + s)) (t2 : zo_touchesOn 0 b (1 - s) K = mat Y b (3 - s)) : zm_countSide 0 b s (wst K (fun w k => wr (H w k))) = wst K (fun w k => wr (H w k + if f = k then cs Y b s w else 0)) := by
  rw [cside (by rw [hF]; exact hf), hF, t1, wr_eq (z := 1 - s) (by omega) (by omega), t2]
  refine wst_congr fun w k w0 w1 k0 k1 => ?_
  have e0 : wr (H w k) = wr (H w k + 0) := by rw [Int.add_zero]
  by_cases q : ¬ rget K 12 b = f
  · rw [if_pos q]
    have q5 : ¬ mat Y b 5 = s := fun x => q (hw.mpr x)
    by_cases hk : f = k
    · subst hk
      rw [if_pos rfl]
      have h4 : w = 0 ∨ w = 1 ∨ w = 2 ∨ w = 3 := by omega
      rcases h4 with rfl | rfl | rfl | rfl
      · rw [hs_o (by omega), hs_o (by omega), hs_o (by omega)]
        unfold cs
        rw [if_pos rfl, if_neg q5]
        exact e0
      · rw [hs_o (by omega), hs_o (by omega), hs_s ⟨rfl, rfl⟩, wr_wl]
        rfl
      · rw [hs_o (by omega), hs_s ⟨rfl, rfl⟩, wr_wl]
        rfl
      · rw [hs_s ⟨rfl, rfl⟩, wr_wl]
        rfl
    · rw [if_neg hk, hs_o (by omega), hs_o (by omega), hs_o (by omega)]
      exact e0
  · rw [if_neg q]
    have q5 : mat Y b 5 = s := hw.mp (by omega)
    by_cases hk : f = k
    · subst hk
      rw [if_pos rfl]
      have h4 : w = 0 ∨ w = 1 ∨ w = 2 ∨ w = 3 := by omega
      rcases h4 with rfl | rfl | rfl | rfl
      · rw [hs_s ⟨rfl, rfl⟩, wr_wl]
        unfold cs
        rw [if_pos rfl, if_pos q5]
      · rw [hs_o (by omega), hs_o (by omega), hs_o (by omega), hs_s ⟨rfl, rfl⟩, wr_wl]
        rfl
      · rw [hs_o (by omega), hs_o (by omega), hs_s ⟨rfl, rfl⟩, wr_wl]
        rfl
      · rw [hs_o (by omega), hs_s ⟨rfl, rfl⟩, wr_wl]
        rfl
    · rw [if_neg hk, hs_o (by omega), hs_o (by omega), hs_o (by omega), hs_o (by omega)]
      exact e0
theorem fill_wst : rfill (rfill (rfill (rfill σ 180 0) 181 0) 182 0) 183 0 = wst σ (fun _ _ => 0) := by
  funext C r k
  unfold wst
  by_cases q : C = 13 ∧ 180 ≤ r ∧ r < 184 ∧ 0 ≤ k ∧ k < 24
  · rw [if_pos q]
    obtain ⟨rfl, q1, q2, q3, q4⟩ := q
    have hr : r = 180 ∨ r = 181 ∨ r = 182 ∨ r = 183 := by omega
    rcases hr with rfl | rfl | rfl | rfl
    · rw [rfill_o (by omega), rfill_o (by omega), rfill_o (by omega), rfill_s (by rw [rl_st (by decide)]; omega)]
    · rw [rfill_o (by omega), rfill_o (by omega), rfill_s (by rw [rl_st (by decide)]; omega)]
    · rw [rfill_o (by omega), rfill_s (by rw [rl_st (by decide)]; omega)]
    · rw [rfill_s (by rw [rl_st (by decide)]; omega)]
  · rw [if_neg q]
    have e : ∀ r0 (τ : Mem), (180 ≤ r0 ∧ r0 < 184) → rfill τ r0 0 C r k = τ C r k := fun r0 τ h => by
      unfold rfill rfillTo
      rw [rl_st h, if_neg]
      rintro ⟨x1, x2, x3, x4⟩
      exact q ⟨x1, by omega, by omega, x3, x4⟩
    rw [e _ _ (by decide), e _ _ (by decide), e _ _ (by decide), e _ _ (by decide)]
theorem tal_n (hk : KP N c g) (hY : Y 13 186 = g) (n : Nat) : (n : Int) ≤ pB g → itM (fm_tally 0) n (wst (wcm K c) (fun _ _ => 0)) = wst (wcm K c) (fun w k => wr (sumTo (ctk Y (4 * k + w)) n)) := by
  have hpB := pB_le hk.1
  have i1 := hk.1.1
  have b3 : g 3 ≤ 307 ∧ g 1 ≤ 24 := by unfold I1 at i1; omega
  induction n with
  | zero =>
    intro _
    rw [show ((0 : Nat) : Int) = 0 from rfl, itM_0]
    rfl
  | succ n ih =>
    intro hn
    have hn' : (n : Int) < pB g := by omega
    rw [show ((n + 1 : Nat) : Int) = (n : Int) + 1 from rfl, itM_s _ _ (by omega), ih (by omega)]
    generalize hi : (n : Int) = i at hn' ⊢
    have h0 : 0 ≤ i ∧ i < 307 := by omega
    have h3 := hk.2.1.2.2.1 i h0.1 (by omega)
    have ib := hk.1.2.1 i h0.1 (by omega)
    unfold R3b at h3
    have hs1 : ∀ k, sumTo (ctk Y k) (i + 1) = sumTo (ctk Y k) i + ctk Y k i := fun k => sumTo_s _ h0.1
    have hti := tab_iff hk.1 h0.1 (by omega)
    have h7 : ¬ 100 ≤ mat Y i 7 := fun q => by
      rw [mat_row, hY] at q
      have := hti.mp q
      omega
    unfold fm_tally
    rw [z0, wst_row (by omega), wr_11g h0, h3.2.2.2.2.1]
    have e4 : mat Y i 4 = ga g i 4 := by rw [mat_row, hY]
    by_cases q : ga g i 4 = 2
    · rw [if_neg (by omega)]
      unfold IB at ib
      have hlr := ib.2.2.2.2.2.2.2.2.2.2.2.2.2.1 hn'
      have h5 := ib.2.2.2.2.2.2.2.2.2.2.2.1 q
      have h51 := ib.2.2.2.1.2
      have l0 := ib.2.1.2
      have l1 := ib.2.2.1.2
      clear ib
      have f0 : zo_fencerOn 0 i 0 (wcm K c) = ga g i 0 := by rw [cz_fe h0 (by decide), show 2 * i + 0 = 2 * i by omega]; exact h3.1
      have f1 : zo_fencerOn 0 i 1 (wcm K c) = ga g i 1 := by rw [cz_fe h0 (by decide)]; exact h3.2.1
      have t0 : zo_touchesOn 0 i 0 (wcm K c) = mat Y i 2 := by rw [cz_to h0 (by decide), show 2 * i + 0 = 2 * i by omega, mat_row, hY]; exact h3.2.2.1
      have t1 : zo_touchesOn 0 i 1 (wcm K c) = mat Y i 3 := by rw [cz_to h0 (by decide), mat_row, hY]; exact h3.2.2.2.1
      have e5 : mat Y i 5 = ga g i 5 := by rw [mat_row, hY]
      have w12 : rget (wcm K c) 12 i = ga g i (ga g i 5) := by
        rw [wr_12g h0]
        have := h3.2.2.2.2.2.1
        rw [if_neg (by omega)] at this
        exact this
      have h501 : ga g i 5 = 0 ∨ ga g i 5 = 1 := by omega
      have hw0 : rget (wcm K c) 12 i = ga g i 0 ↔ mat Y i 5 = 0 := by
        rw [w12, e5]
        rcases h501 with x | x
        · rw [x]; omega
        · rw [x]; omega
      have hw1 : rget (wcm K c) 12 i = ga g i 1 ↔ mat Y i 5 = 1 := by
        rw [w12, e5]
        rcases h501 with x | x
        · rw [x]; omega
        · rw [x]; omega
      rw [cside2 (Y := Y) (H := fun w k => sumTo (ctk Y (4 * k + w)) i) (Or.inl rfl) f0 (by omega) hw0 t0 t1]
      rw [cside2 (Y := Y) (H := fun w k => sumTo (ctk Y (4 * k + w)) i + if ga g i 0 = k then cs Y i 0 w else 0) (Or.inr rfl) f1 (by omega) hw1 t1 t0]
      refine wst_congr fun w k w0 w1 k0 k1 => ?_
      rw [hs1]
      congr 1
      rw [Int.add_assoc]
      congr 1
      unfold ctk
      rw [if_neg h7, if_pos (show mat Y i 4 = 2 by rw [e4]; exact q), show (4 * k + w) / 4 = k by omega, show (4 * k + w) % 4 = w by omega]
      simp only [mat_row2, hY]
    · rw [if_pos q]
      refine wst_congr fun w k w0 w1 k0 k1 => ?_
      rw [hs1]
      have : ctk Y (4 * k + w) i = 0 := by
        unfold ctk
        rw [if_neg h7, if_neg (by rw [e4]; exact q)]
      rw [this, Int.add_zero]
/-- no bout of the table is counted -/
theorem cnt_pB (hk : KP N c g) (hY : Y 13 186 = g) (k : Int) : sumTo (ctk Y k) (pB g) = sumTo (ctk Y k) (g 3) := by
  have hpB := pB_le hk.1
  have key : ∀ (m : Nat), pB g + m ≤ g 3 → sumTo (ctk Y k) (pB g + m) = sumTo (ctk Y k) (pB g) := by
    intro m
    induction m with
    | zero => intro _; rw [show pB g + ((0 : Nat) : Int) = pB g by omega]
    | succ m ih =>
      intro h
      rw [show pB g + ((m + 1 : Nat) : Int) = (pB g + m) + 1 by omega, sumTo_s _ (by omega), ih (by omega)]
      have hti := tab_iff hk.1 (b := pB g + m) (by omega) (by omega)
      have : ctk Y k (pB g + m) = 0 := by
        unfold ctk
        rw [if_pos (by rw [mat_row, hY]; exact hti.mpr (by omega))]
      rw [this, Int.add_zero]
  have := key (g 3 - pB g).toNat (by omega)
  rw [show pB g + (((g 3 - pB g).toNat : Nat) : Int) = g 3 by omega] at this
  exact this.symm
/-- the counts: 0 victories, 1 bouts, 2 scored, 3 received -/
def cntG (Y : Mem) (w k : Int) : Int := wr (sumTo (ctk Y (4 * k + w)) (Y 13 186 3))
theorem tally_eq (h : J N σ σ) : zm_tally 0 σ = wst σ (cntG σ) := by
  have hpB := pB_le h.1.1
  unfold zm_tally
  rw [fill_wst, wst_o (by omega)]
  have e01 : σ 0 0 1 = pB (σ 13 186) := h.1.2.1.1.2.2.2.2.2.2.1
  rw [e01]
  have e := tal_n (K := σ) (Y := σ) h.1 rfl (pB (σ 13 186)).toNat (by omega)
  rw [wcm_id, show (((pB (σ 13 186)).toNat : Nat) : Int) = pB (σ 13 186) by omega] at e
  rw [e]
  refine wst_congr fun w k w0 w1 k0 k1 => ?_
  unfold cntG
  rw [cnt_pB h.1 rfl]
end Tally2
