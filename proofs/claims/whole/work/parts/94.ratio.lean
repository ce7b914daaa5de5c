/-! The ratio of victories: both sides. -/
section Rto
variable {N f : Int} {σ : Mem}
theorem enc_fin (s : Bool) (c : Nat) (q : Int) (hq : q ≤ 971) (hc : c < 9007199254740992) : FP.Core.encode FP.Core.b64 (.fin s c q) % 9223372036854775808 ≤ 9218868437227405312 := by
  have t : FP.Core.b64.tails = 4503599627370496 := by decide
  have x : FP.Core.b64.exps = 2048 := by decide
  have m : FP.Core.b64.qmin = -1074 := by decide
  unfold FP.Core.encode FP.Core.assemble
  dsimp only
  rw [t, x, m]
  have hs : s.toNat = 0 ∨ s.toNat = 1 := by cases s; exact Or.inl rfl; exact Or.inr rfl
  generalize s.toNat = z at hs ⊢
  by_cases h : c < 4503599627370496
  · rw [if_pos h]
    rcases hs with rfl | rfl
    · omega
    · omega
  · rw [if_neg h]
    rcases hs with rfl | rfl
    · omega
    · omega
theorem enc_inf (s : Bool) : FP.Core.encode FP.Core.b64 (.inf s) % 9223372036854775808 ≤ 9218868437227405312 := by
  cases s
  · decide
  · decide
theorem enc_bound (s : Bool) (c : Nat) (q : Int) (hc : c < 9007199254740992) : FP.Core.encode FP.Core.b64 (FP.Core.bound FP.Core.b64 s c q) % 9223372036854775808 ≤ 9218868437227405312 := by
  have m : FP.Core.b64.qmax = 971 := by decide
  unfold FP.Core.bound
  rw [m]
  by_cases h : q ≤ 971
  · rw [if_pos h]; exact enc_fin s c q h hc
  · rw [if_neg h]; exact enc_inf s
theorem enc_rr (s : Bool) (n d : Nat) (e : Int) : FP.Core.encode FP.Core.b64 (FP.Core.roundRatio FP.Core.b64 s n d e) % 9223372036854775808 ≤ 9218868437227405312 := by
  have p : 2 ^ FP.Core.b64.p = 9007199254740992 := by decide
  have t : FP.Core.b64.tails = 4503599627370496 := by decide
  have m : FP.Core.b64.qmin = -1074 := by decide
  unfold FP.Core.roundRatio
  by_cases h : n = 0
  · rw [if_pos h, m]
    exact enc_fin s 0 (-1074) (by decide) (by decide)
  · rw [if_neg h]
    unfold FP.Core.roundAt FP.Core.settle
    rw [p, t]
    by_cases h2 : FP.Core.nearest (FP.Core.unitsNum n e (FP.Core.quantum FP.Core.b64 n d e)) (FP.Core.unitsDen d e (FP.Core.quantum FP.Core.b64 n d e)) < 9007199254740992
    · rw [if_pos h2]
      exact enc_bound _ _ _ h2
    · rw [if_neg h2]
      exact enc_bound _ _ _ (by decide)
def ratc (n : Nat) : Bool := match FP.Core.decode FP.Core.b64 (FP.i2d (Int32.ofInt (n : Int))).toNat with
  | .fin _ c _ => decide (n = 0) || decide (0 < c)
  | _ => false
theorem ratc_all : (List.range 615).all ratc = true := by decide +kernel
theorem ratc_of {n : Nat} (h : n < 615) : ∃ s c q, FP.Core.decode FP.Core.b64 (FP.i2d (Int32.ofInt (n : Int))).toNat = .fin s c q ∧ (n = 0 ∨ 0 < c) := by
  have e := List.all_eq_true.mp ratc_all n (List.mem_range.mpr h)
  unfold ratc at e
  split at e
  · rename_i s c q hd
    refine ⟨s, c, q, hd, ?_⟩
    simp only [Bool.or_eq_true, decide_eq_true_eq] at e
    exact e
  · cases e
theorem vf_of {a b : Int} (ha : 0 ≤ a ∧ a < 615) (hb : 0 < b ∧ b < 615) : vf_n64 (FP.ddiv (FP.i2d (Int32.ofInt a)) (FP.i2d (Int32.ofInt b))) := by
  obtain ⟨s, c, q, h1, -⟩ := ratc_of (n := a.toNat) (by omega)
  obtain ⟨t, d, r, h2, h3⟩ := ratc_of (n := b.toNat) (by omega)
  rw [show ((a.toNat : Nat) : Int) = a by omega] at h1
  rw [show ((b.toNat : Nat) : Int) = b by omega] at h2
  have hd : ¬ d = 0 := by omega
  have e : FP.Core.div FP.Core.b64 (FP.i2d (Int32.ofInt a)).toNat (FP.i2d (Int32.ofInt b)).toNat % 9223372036854775808 ≤ 9218868437227405312 := by
    unfold FP.Core.div
    rw [h1, h2]
    show FP.Core.encode FP.Core.b64 (if d = 0 then (if c = 0 then FP.Core.Datum.nan else .inf (s != t)) else FP.Core.roundRatio FP.Core.b64 (s != t) c d (q - r)) % 9223372036854775808 ≤ 9218868437227405312
    rw [if_neg hd]
    exact enc_rr _ _ _ _
  unfold vf_n64
  show (FP.ddiv (FP.i2d (Int32.ofInt a)) (FP.i2d (Int32.ofInt b)) &&& 0x7fffffffffffffff).toNat ≤ 9218868437227405312
  rw [UInt64.toNat_and]
  show (FP.Core.div FP.Core.b64 (FP.i2d (Int32.ofInt a)).toNat (FP.i2d (Int32.ofInt b)).toNat % 18446744073709551616) &&& 9223372036854775807 ≤ 9218868437227405312
  rw [show (9223372036854775807 : Nat) = 2 ^ 63 - 1 from rfl, Nat.and_two_pow_sub_one_eq_mod]
  generalize FP.Core.div FP.Core.b64 (FP.i2d (Int32.ofInt a)).toNat (FP.i2d (Int32.ofInt b)).toNat = z at e ⊢
  omega
theorem cnt_b2 (h : J N σ σ) {w k : Int} (hw : w = 0 ∨ w = 1) : 0 ≤ cntG σ w k ∧ cntG σ w k < 615 := by
  have i1 := h.1.1.1
  have b3 : 0 ≤ σ 13 186 3 ∧ σ 13 186 3 ≤ 307 := by unfold I1 at i1; omega
  have := sumTo_bd (f := ctk σ (4 * k + w)) (n := σ 13 186 3) (c := 2) (by decide) b3.1 (fun b q0 q1 => by
    have hc : ∀ s, 0 ≤ cs σ b s ((4 * k + w) % 4) ∧ cs σ b s ((4 * k + w) % 4) ≤ 1 := fun s => by
      rw [show (4 * k + w) % 4 = w by omega]
      unfold cs
      rcases hw with rfl | rfl
      · rw [if_pos rfl]
        split <;> omega
      · rw [if_neg (by decide), if_pos rfl]
        omega
    have c0 := hc 0
    have c1 := hc 1
    unfold ctk
    repeat' split
    all_goals omega)
  unfold cntG
  rw [wr_eq (by omega) (by omega)]
  omega
theorem hq_ratio (h : J N σ σ) : ¬ rget (zm_tally 0 σ) 181 f ≤ 0 → vf_n64 (FP.ddiv (FP.i2d (Int32.ofInt (rget (zm_tally 0 σ) 180 f))) (FP.i2d (Int32.ofInt (rget (zm_tally 0 σ) 181 f)))) := fun q => by
  by_cases q2 : 0 ≤ f ∧ f < 24
  · have g0 : rget (zm_tally 0 σ) 180 f = cntG σ 0 f := by rw [tally_eq h]; exact tal_get (w := 0) (by decide) (by omega)
    have g1 : rget (zm_tally 0 σ) 181 f = cntG σ 1 f := by rw [tally_eq h]; exact tal_get (w := 1) (by decide) (by omega)
    rw [g0]
    rw [g1] at q ⊢
    have b0 := cnt_b2 h (w := 0) (k := f) (Or.inl rfl)
    have b1 := cnt_b2 h (w := 1) (k := f) (Or.inr rfl)
    exact vf_of b0 (by omega)
  · exfalso
    apply q
    unfold rget
    rw [if_neg (by rw [rl_st (by decide)]; exact q2)]
    decide
theorem ca_ratio (h : J N σ σ) : ∃ v F, Ev true 207 [aR 11 0, aI f] (zm_xratio f σ) (.inl (some (aD v))) F ∧ J N F F ∧ ((zo_xratio f σ = .inl (some (aD v)) ∧ F 11 0 6 = 0) ∨ ∃ E, zo_xratio f σ = .inr E ∧ F 11 0 6 = (if E = 2 then 1 else 2)) := by
  have r1 := J_R1 h
  have rg := J_rg h
  by_cases hf : 0 ≤ f ∧ f < σ 13 186 1
  · have ea : zm_xratio f σ = talM σ := by
      unfold zm_xratio
      rw [if_neg (by omega), tally_eq h]
      by_cases q : 0 < rget (wst σ (cntG σ)) 181 f
      · rw [if_pos q]; rfl
      · rw [if_neg q]; rfl
    have g0 : rget (zm_tally 0 σ) 180 f = cntG σ 0 f := by rw [tally_eq h]; exact tal_get (w := 0) (by decide) (by omega)
    have g1 : rget (zm_tally 0 σ) 181 f = cntG σ 1 f := by rw [tally_eq h]; exact tal_get (w := 1) (by decide) (by omega)
    have l0 : laid (up (talM σ) 11 0 6 0) 13 189 (4 * f) = cntG σ 0 f := by have := laid_v (σ := σ) (v := 0) (w := 0) (k := f) (by decide) (by omega); rw [Int.add_zero] at this; exact this
    have l1 : laid (up (talM σ) 11 0 6 0) 13 189 (4 * f + 1) = cntG σ 1 f := laid_v (w := 1) (k := f) (by decide) (by omega)
    have w1 : wr (4 * f) = 4 * f := wr_eq (by omega) (by omega)
    have w2 : wr (4 * f + 1) = 4 * f + 1 := wr_eq (by omega) (by omega)
    have b1 := cntG_b h 1 f
    rw [ea]
    refine ⟨_, _, ev_yratio f _ (by rw [tal_row]; exact rg.2.1) (lay_ok h tal_row) (fun _ _ q => ?_), ?_, ?_⟩
    · rw [l1] at q ⊢
      rw [l0]
      have c0 := cnt_b2 h (w := 0) (k := f) (Or.inl rfl)
      have c1 := cnt_b2 h (w := 1) (k := f) (Or.inr rfl)
      exact vf_of c0 (by omega)
    · unfold zm_yratio
      rw [tal_row, if_pos hf, w1, w2, l1]
      by_cases q : cntG σ 1 f = 0
      · rw [if_neg (by omega)]
        refine J_cells h (fun C r k z => ?_)
        rw [up_o (by unfold clsP modP at z; omega), laid_o (by unfold clsP modP at z; omega), up_o (by unfold clsP modP at z; omega)]
        exact wst_o (by unfold clsP modP at z; omega)
      · rw [if_pos q]
        refine J_cells h (fun C r k z => ?_)
        rw [up_o (by unfold clsP modP at z; omega), laid_o (by unfold clsP modP at z; omega), up_o (by unfold clsP modP at z; omega)]
        exact wst_o (by unfold clsP modP at z; omega)
    · unfold zm_yratio zo_yratio zo_xratio
      rw [if_neg (by omega), g0, g1, tal_row, if_pos hf, if_pos hf, w1, w2, l0, l1]
      by_cases q : cntG σ 1 f = 0
      · right
        rw [if_neg (show ¬ 0 < cntG σ 1 f by omega), if_neg (show ¬ ¬ cntG σ 1 f = 0 by omega)]
        exact ⟨5, rfl, up_s _ _ _ _ _⟩
      · left
        rw [if_pos (show 0 < cntG σ 1 f by omega), if_pos q, if_pos q]
        exact ⟨rfl, up_s _ _ _ _ _⟩
  · have ea : zm_xratio f σ = σ := by unfold zm_xratio; rw [if_pos (by omega)]
    have eo : zo_xratio f σ = .inr 2 := by unfold zo_xratio; rw [if_pos (by omega)]
    rw [ea, eo]
    refine ⟨_, _, ev_yratio f σ rg.2.1 (lay_ok h rfl) (fun q1 q2 => absurd ⟨q1, q2⟩ hf), ?_, ?_⟩
    · unfold zm_yratio
      rw [if_neg hf]; exact J_thr h
    · right
      unfold zm_yratio
      rw [if_neg hf]
      exact ⟨2, rfl, up_s _ _ _ _ _⟩
end Rto
