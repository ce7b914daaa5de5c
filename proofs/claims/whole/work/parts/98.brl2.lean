/-! A relay begins: both sides. -/
section Brl
variable {N M a b c q i : Int} {σ K X F : Mem} {c' : Cs} {g' : Gs}
theorem J_chg2 (h : J N σ σ) (hN : N ≤ M) (hk : KP M c' g') (e1 : ∀ C r k, clsP C r k → F C r k = wcm (zm_keep 0 σ) c' C r k) (e2 : ∀ C r k, modP C r k → F C r k = wg (zm_mchanges σ) g' C r k) : J M F F := J_mod (J_cls (J_push h hN hk.1 hk.2.1 hk.2.2) e1) e2
/-- the order of the meet that is kept, and how many it holds -/
def oS (σ : Mem) : Int → Int := (rkO (zm_keep 0 σ) σ (σ 13 186 1)).1
def nS (σ : Mem) : Int := (rkO (zm_keep 0 σ) σ (σ 13 186 1)).2
def clP (σ : Mem) (c i : Int) : Bool := decide (gf (σ 13 186) (oS σ i) 0 = c)
def vS (σ : Mem) (c q : Int) : Int := if kth (clP σ c) (q - 1) (nS σ) = -1 then -1 else oS σ (kth (clP σ c) (q - 1) (nS σ))
def rkS0 (σ : Mem) : Mem := rkM (zm_keep 0 σ) σ (σ 13 186 1)
theorem nS_b (h : J N σ σ) : (0 ≤ nS σ ∧ nS σ ≤ σ 13 186 1) ∧ nS σ ≤ 24 := by
  have rb := rank_b (kp_keep h) (Y := σ) rfl
  have rg := J_rg h
  unfold nS
  omega
theorem oS_at (h : J N σ σ) (i0 : 0 ≤ i) (i1 : i < nS σ) : (0 ≤ oS σ i ∧ oS σ i < σ 13 186 1) ∧ gf (σ 13 186) (oS σ i) 2 = 0 := rank_at (kp_keep h) (Y := σ) rfl i0 i1
theorem rkS0_eq (h : J N σ σ) : zm_rankAll (zm_keep 0 σ) = rkS0 σ := rkA_kp (kp_keep h) rfl
theorem rkS0_n : rkS0 σ 8 0 0 = nS σ := by
  unfold rkS0 rkM
  exact wor_n
theorem rkS0_o (hi : 0 ≤ i ∧ i < 24) : rget (rkS0 σ) 184 i = oS σ i := wor_get hi
theorem rkS0_c {C : Nat} {r k : Int} (h1 : ¬ (C = 13 ∧ 180 ≤ r ∧ r ≤ 184)) (h2 : ¬ C = 8) : rkS0 σ C r k = zm_keep 0 σ C r k := rkM_o h1 h2
theorem keep_cl (h : J N σ σ) {x : Int} (hx : 0 ≤ x ∧ x < σ 13 186 1) : rget (zm_keep 0 σ) 1 x = gf (σ 13 186) x 0 := by
  have rg := J_rg h
  rw [rg_1 (by omega)]
  exact ((kp_keep h).2.1.2.1 x hx.1 hx.2).1
theorem hv_S (h : J N σ σ) (hX : agF X (σ 13 186)) (hc : ∀ w k, 0 ≤ w → w < 4 → 0 ≤ k → k < 24 → X 13 189 (4 * k + w) = cntG σ w k) (hq : 1 ≤ q ∧ q ≤ 3) : Ev true 225 [aR 11 0, aI c, aI q] X (.inl (some (aI (vS σ c q)))) X := by
  have rg := J_rg h
  have nb := nS_b h
  have x1 : X 13 186 1 = σ 13 186 1 := hX 1 (Or.inl rfl)
  have e := ev_mclubPlace c q X (by rw [x1]; exact rg.2.1) (by omega) (oS σ) (nS σ) (by omega) (by rw [x1]; exact stay_kp (kp_keep h) rfl hX) (fun i i0 i1 => by
    rw [x1, rank_find (kp_keep h) (Y := σ) rfl hX hc i]
    exact if_pos ⟨i0, i1⟩) (fun i i0 i1 => by have := (oS_at h i0 i1).1; omega)
  have e2 : zo_mclubPlace c q (oS σ) (nS σ) X = vS σ c q := by
    unfold zo_mclubPlace vS
    have ek : kth (fun i => decide (mof X (oS σ i) 0 = c)) (q - 1) (nS σ) = kth (clP σ c) (q - 1) (nS σ) := kth_congr fun i i0 i1 => by
      have := (oS_at h i0 i1).1
      unfold clP
      rw [ag_f hX this.1 (by omega) (by decide) (by decide)]
    rw [ek]
  rw [e2] at e
  exact e
theorem cic_S (h : J N σ σ) : wr (sumTo (fo_countInClub 0 c σ) (σ 6 0 0)) = cntP (clP σ c) (nS σ) := by
  have rg := J_rg h
  have r1 := J_R1 h
  have nb := nS_b h
  have bb := cntP_b (P := clP σ c) nb.1.1
  have e : sumTo (fo_countInClub 0 c σ) (σ 13 186 1) = cntP (clP σ c) (nS σ) := by
    have s := rank_sum (kp_keep h) (Y := σ) rfl (fun f => if gf (σ 13 186) f 0 = c then 1 else 0)
    refine (sumTo_congr fun f f0 f1 => ?_).trans (s.trans (sumTo_congr fun i i0 i1 => ?_))
    · have ex := ex_kp h.1 ⟨f0, f1⟩
      have ec := (h.1.2.1.2.1 f f0 f1).1
      unfold fo_countInClub
      rw [z0, rg_1 (by omega), ec]
      by_cases q : gf (σ 13 186) f 2 = 0
      · rw [if_pos q, if_neg (fun z => z (ex.mpr q))]
        by_cases q2 : gf (σ 13 186) f 0 = c
        · rw [if_neg (fun z => z q2), if_pos q2]
        · rw [if_pos q2, if_neg q2]
      · rw [if_neg q, if_pos (fun z => q (ex.mp z))]
    · show (if gf (σ 13 186) (oS σ i) 0 = c then (1 : Int) else 0) = if clP σ c i = true then 1 else 0
      unfold clP
      by_cases q : gf (σ 13 186) (oS σ i) 0 = c
      · rw [if_pos q, if_pos (decide_eq_true q)]
      · rw [if_neg q, if_neg (fun z => q (of_decide_eq_true z))]
  rw [r1.2.2.2.1, e, wr_eq (by omega) (by omega)]
theorem vS_at (h : J N σ σ) (hq : 1 ≤ q ∧ q ≤ cntP (clP σ c) (nS σ)) : kth (clP σ c) (q - 1) (nS σ) ≠ -1 ∧ vS σ c q = oS σ (kth (clP σ c) (q - 1) (nS σ)) ∧ 0 ≤ vS σ c q := by
  have nb := nS_b h
  rcases kth_f (P := clP σ c) (j := q - 1) nb.1.1 with ⟨-, e⟩ | ⟨k1, -⟩
  · omega
  · have o := (oS_at h k1.1 k1.2).1
    have e : vS σ c q = oS σ (kth (clP σ c) (q - 1) (nS σ)) := by
      unfold vS
      rw [if_neg (by omega)]
    exact ⟨by omega, e, by rw [e]; omega⟩
theorem vS_no (h : J N σ σ) (hq : cntP (clP σ c) (nS σ) < q) : vS σ c q = -1 := by
  have nb := nS_b h
  rcases kth_f (P := clP σ c) (j := q - 1) nb.1.1 with ⟨e, -⟩ | ⟨-, -, -, -, e⟩
  · unfold vS
    rw [if_pos e]
  · omega
/-- the team's cells -/
def tS (σ : Mem) (a b k : Int) : Int := if k < 3 then vS σ a (k + 1) else vS σ b (k - 2)
def cRl (σ : Mem) (a b : Int) : Cs := fun C k => if C = 4 ∧ 0 ≤ k ∧ k < 8 then (if k = 0 then 1 else if k = 1 then a else if k = 2 then b else if k = 6 then -1 else 0) else if C = 27 ∧ 0 ≤ k ∧ k < 6 then tS σ a b k else cv (zm_keep 0 σ) 0 C k
def gRl (σ : Mem) (a b : Int) : Gs := fun k => if k = 9 then 1 else if k = 10 then a else if k = 11 then b else if 12 ≤ k ∧ k < 18 then tS σ a b (k - 12) else if 18 ≤ k ∧ k < 21 then 0 else if k = 21 then -1 else if k = 22 then 0 else σ 13 186 k
theorem KP_rl (h : J N σ σ) : KP N (cRl σ a b) (gRl σ a b) := by
  have i1 := J_I1 h
  unfold I1 at i1
  have e9 : gRl σ a b 9 = 1 := rfl
  refine KP_rel (kp_keep h) (fun k k7 k9 => ?_) ?_ ?_ (fun C k q1 q2 q3 => ?_) ?_ ?_
  · unfold gRl
    rw [if_neg (by omega), if_neg (by omega), if_neg (by omega), if_neg (by omega), if_neg (by omega), if_neg (by omega), if_neg (by omega)]
  · show 0 ≤ σ 13 186 7 ∧ σ 13 186 7 ≤ 2147483647
    omega
  · unfold IRl
    rw [e9, show gRl σ a b 18 = 0 from rfl, show gRl σ a b 19 = 0 from rfl, show gRl σ a b 20 = 0 from rfl, show gRl σ a b 22 = 0 from rfl]
    omega
  · unfold cRl
    rw [if_neg (by omega), if_neg (by omega)]
  · have : cRl σ a b 2 1 = cv (zm_keep 0 σ) 0 2 1 := by unfold cRl; rw [if_neg (by omega), if_neg (by omega)]
    rw [this]
    exact (kp_keep h).2.1.1.2.1
  · refine ⟨rfl, rfl, rfl, rfl, rfl, fun _ => ⟨rfl, rfl, rfl, fun i i0 i1 => ?_⟩⟩
    unfold cRl gRl
    rw [if_neg (by omega), if_pos ⟨rfl, i0, i1⟩, if_neg (by omega), if_neg (by omega), if_neg (by omega), if_pos (by omega), show 12 + i - 12 = i by omega]
/-- the class's memory behind the choice of the teams -/
def rl1 (σ : Mem) (a b : Int) : Mem := zm_rstart 0 a b (rkS0 σ)
def rl2 (σ : Mem) (a b : Int) : Mem := zm_chooseTeam a 0 (nS σ) (rl1 σ a b)
def rl3 (σ : Mem) (a b : Int) : Mem := zm_chooseTeam b 3 (nS σ) (rl2 σ a b)
theorem rl1_o {C : Nat} {r k : Int} (h1 : ¬ C = 4) : rl1 σ a b C r k = rkS0 σ C r k := by
  unfold rl1 zm_rstart
  rw [up_o (by omega), up_o (by omega), up_o (by omega), up_o (by omega), up_o (by omega), up_o (by omega), up_o (by omega), up_o (by omega)]
theorem rl1_r {r k : Int} : rget (rl1 σ a b) r k = rget (rkS0 σ) r k := by
  unfold rget
  rw [rl1_o (by decide)]
theorem rl2_r {r k : Int} (h : ¬ r = 17) : rget (rl2 σ a b) r k = rget (rkS0 σ) r k := by
  unfold rl2 zm_chooseTeam
  rw [tmA_r h, rl1_r]
theorem rl_pR (h : J N σ σ) (hX : ∀ r k, ¬ r = 17 → rget X r k = rget (rkS0 σ) r k) (i0 : 0 ≤ i) (i1 : i < nS σ) : pR X c i = clP σ c i := by
  have nb := nS_b h
  unfold pR clP
  rw [hX 184 i (by decide), rkS0_o (by omega), hX 1 _ (by decide)]
  have o := (oS_at h i0 i1).1
  have e : rget (rkS0 σ) 1 (oS σ i) = rget (zm_keep 0 σ) 1 (oS σ i) := by
    unfold rget
    rw [rkS0_c (by omega) (by decide)]
  rw [e, keep_cl h o]
theorem rl_cell (h : J N σ σ) (hX : ∀ r k, ¬ r = 17 → rget X r k = rget (rkS0 σ) r k) {z k : Int} (hz : 0 ≤ z) (h3 : 3 ≤ cntP (clP σ c) (nS σ)) (hk : z ≤ k ∧ k < z + 3) : zm_chooseTeam c z (nS σ) X 13 17 k = vS σ c (k - z + 1) := by
  have nb := nS_b h
  have ec : cntP (pR X c) (nS σ) = cntP (clP σ c) (nS σ) := cntP_congr fun i i0 i1 => rl_pR h hX i0 i1
  have ek : kth (pR X c) (k - z) (nS σ) = kth (clP σ c) (k - z) (nS σ) := kth_congr fun i i0 i1 => rl_pR h hX i0 i1
  have v := vS_at (c := c) (q := k - z + 1) h (by omega)
  rw [show k - z + 1 - 1 = k - z by omega] at v
  have hk2 := kth_f (P := clP σ c) (j := k - z) nb.1.1
  unfold zm_chooseTeam tmA
  have m3 : min3 (cntP (pR X c) (nS σ)) = 3 := by
    rw [ec]
    unfold min3
    split <;> omega
  rw [m3, if_pos ⟨rfl, rfl, hk.1, hk.2⟩, ek, v.2.1]
  unfold oR
  rw [hX 184 _ (by decide), rkS0_o (by omega)]
theorem rl_of (h : J N σ σ) (hX : ∀ r k, ¬ r = 17 → rget X r k = rget (rkS0 σ) r k) {z k r : Int} {C : Nat} (hk : ¬ (C = 13 ∧ r = 17 ∧ z ≤ k ∧ k < z + 3)) : zm_chooseTeam c z (nS σ) X C r k = X C r k := by
  unfold zm_chooseTeam tmA
  have m3 : min3 (cntP (pR X c) (nS σ)) ≤ 3 := by
    unfold min3
    split <;> omega
  rw [if_neg (by omega)]
theorem rl3_cls (h : J N σ σ) (h3 : 3 ≤ cntP (clP σ a) (nS σ)) (h4 : 3 ≤ cntP (clP σ b) (nS σ)) (C : Nat) (r k : Int) (q : clsP C r k) : rl3 σ a b C r k = wcm (zm_keep 0 σ) (cRl σ a b) C r k := by
  have x1 : ∀ r k, ¬ r = 17 → rget (rl1 σ a b) r k = rget (rkS0 σ) r k := fun r k _ => rl1_r
  have x2 : ∀ r k, ¬ r = 17 → rget (rl2 σ a b) r k = rget (rkS0 σ) r k := fun r k e => rl2_r e
  by_cases q17 : C = 13 ∧ r = 17 ∧ 0 ≤ k ∧ k < 6
  · obtain ⟨rfl, rfl, k0, k1⟩ := q17
    have e : wcm (zm_keep 0 σ) (cRl σ a b) 13 17 k = tS σ a b k := by
      rw [wcm_row (by decide)]
      show cRl σ a b 27 k = _
      unfold cRl
      rw [if_neg (by omega), if_pos ⟨rfl, k0, k1⟩]
    rw [e]
    unfold rl3 tS
    by_cases k3 : k < 3
    · rw [if_pos k3, rl_of h x2 (by omega)]
      have := rl_cell (c := a) (z := 0) (k := k) h x1 (by decide) h3 (by omega)
      rw [show k - 0 + 1 = k + 1 by omega] at this
      exact this
    · rw [if_neg k3]
      have := rl_cell (c := b) (z := 3) (k := k) h x2 (by decide) h4 (by omega)
      rw [show k - 3 + 1 = k - 2 by omega] at this
      exact this
  · have e : rl3 σ a b C r k = rl1 σ a b C r k := by
      unfold rl3
      rw [rl_of h x2 (by omega)]
      unfold rl2
      exact rl_of h x1 (by omega)
    rw [e]
    by_cases q4 : C = 4 ∧ r = 0
    · obtain ⟨rfl, rfl⟩ := q4
      have e2 : wcm (zm_keep 0 σ) (cRl σ a b) 4 0 k = cRl σ a b 4 k := if_pos ⟨by decide, rfl⟩
      rw [e2]
      unfold rl1 zm_rstart cRl
      by_cases k8 : 0 ≤ k ∧ k < 8
      · rw [if_pos ⟨rfl, k8⟩]
        have hk : k = 0 ∨ k = 1 ∨ k = 2 ∨ k = 3 ∨ k = 4 ∨ k = 5 ∨ k = 6 ∨ k = 7 := by omega
        rcases hk with rfl | rfl | rfl | rfl | rfl | rfl | rfl | rfl
        all_goals rfl
      · rw [if_neg (by omega), if_neg (by omega), up_o (by omega), up_o (by omega), up_o (by omega), up_o (by omega), up_o (by omega), up_o (by omega), up_o (by omega), up_o (by omega), rkS0_c (by omega) (by omega)]
        rfl
    · have e3 : rl1 σ a b C r k = zm_keep 0 σ C r k := by
        by_cases c4 : C = 4
        · subst c4
          unfold rl1 zm_rstart
          rw [up_o (by omega), up_o (by omega), up_o (by omega), up_o (by omega), up_o (by omega), up_o (by omega), up_o (by omega), up_o (by omega), rkS0_c (by omega) (by omega)]
        · rw [rl1_o c4, rkS0_c (by unfold clsP at q; omega) (by unfold clsP at q; omega)]
      rw [e3]
      by_cases qw : (C = 0 ∨ C = 2 ∨ C = 3 ∨ C = 4 ∨ C = 6 ∨ C = 9) ∧ r = 0
      · have : wcm (zm_keep 0 σ) (cRl σ a b) C r k = cRl σ a b C k := if_pos qw
        rw [this]
        unfold cRl cv
        rw [if_neg (by omega), if_neg (by omega), if_pos (by omega), qw.2]
      · by_cases qr : C = 13 ∧ 0 ≤ r ∧ r < 18
        · obtain ⟨rfl, r0, r1⟩ := qr
          rw [wcm_row ⟨r0, r1⟩]
          unfold cRl cv
          rw [if_neg (by omega), if_neg (by omega), if_neg (by omega), show (18 * 0 + (((10 + r.toNat : Nat) : Int) - 10)) = r by omega]
        · exact (wcm_o qw qr).symm
theorem rl3_o {C : Nat} {r k : Int} (h1 : ¬ C = 4) (h2 : ¬ (C = 13 ∧ r = 17)) : rl3 σ a b C r k = rkS0 σ C r k := by
  unfold rl3 rl2 zm_chooseTeam
  rw [tmA_o h2, tmA_o h2, rl1_o h1]
theorem rl3_mod (h : J N σ σ) {C : Nat} {r k : Int} (q : C = 11 ∨ (C = 13 ∧ 186 ≤ r)) : rl3 σ a b C r k = σ C r k := by
  rw [rl3_o (by omega) (by omega), rkS0_c (by omega) (by omega)]
  obtain ⟨k1, k2, k3, k4⟩ := keep_facts h.2.1 h.1
  rcases q with q | ⟨rfl, q⟩
  · exact k1 _ _ _ (by omega) (by omega) (by omega)
  · exact k2 _ (by omega) _
theorem ca_beginRelay (h : J N σ σ) : Cal N 228 [aR 11 0, aI a, aI b] (zo_xbeginRelay a b σ) (zm_xbeginRelay a b σ) (fun E => if E = 0 then 1 else 2) := by
  have r1 := J_R1 h
  have rg := J_rg h
  have p0 : σ 2 0 0 = σ 13 186 0 := r1.1
  have nb := nS_b h
  have ica : ∀ x, (zo_isClub x σ = 0) ↔ ¬ (0 ≤ x ∧ x ≤ 7) := fun x => by
    unfold zo_isClub
    repeat' split
    all_goals omega
  have hv : ∀ X : Mem, X 13 186 = σ 13 186 → ∀ (c q : Int) (Z : Mem), 1 ≤ q → q ≤ 3 → (∀ k, k = 1 ∨ (30 ≤ k ∧ k < 222) → Z 13 186 k = X 13 186 k) → (Z 13 189 = (laid (up X 11 0 6 0)) 13 189) → Ev true 225 [aR 11 0, aI c, aI q] Z (.inl (some (aI (vS σ c q)))) Z := fun X hX c q Z q1 q2 z1 z2 => by
    refine hv_S h (fun k hk => by rw [z1 k hk, hX]) (fun w k w0 w1 k0 k1 => ?_) ⟨q1, q2⟩
    rw [z2]
    exact laid_cn (Y := σ) (show (up X 11 0 6 0) 13 186 = σ 13 186 from hX) w k w0 w1 k0 k1
  have lay0 : ∀ X : Mem, X 13 186 = σ 13 186 → LayOK (up X 11 0 6 0) := fun X hX => lay_ok h hX
  have e0 : (laid (up σ 11 0 6 0)) 13 186 0 = σ 13 186 0 := laid_o (by omega)
  -- refused
  have bad : ∀ (t : Int) (E : Nat), zm_xbeginRelay a b σ = σ → zo_xbeginRelay a b σ = .inr E → (zm_ybeginRelay (vS σ) a b σ = up σ 11 0 6 t ∨ zm_ybeginRelay (vS σ) a b σ = up (laid (up σ 11 0 6 0)) 11 0 6 t) → t = (if E = 0 then 1 else 2) → Cal N 228 [aR 11 0, aI a, aI b] (zo_xbeginRelay a b σ) (zm_xbeginRelay a b σ) (fun E => if E = 0 then 1 else 2) := fun t E ea eo em et => by
    rw [ea, eo]
    refine ⟨_, _, ev_ybeginRelay (vS σ) a b σ rg.2.2.2.2.2.2.1 (lay0 σ rfl) (hv σ rfl), ?_, Or.inr ⟨E, rfl, ?_, ?_⟩⟩
    · rcases em with em | em
      · rw [em]; exact J_thr h
      · rw [em]
        refine J_cells h (fun C r k q => ?_)
        rw [up_o (by unfold clsP modP at q; omega), laid_o (by unfold clsP modP at q; omega), up_o (by unfold clsP modP at q; omega)]
    · rcases em with em | em
      · rw [em, up_s]; exact et
      · rw [em, up_s]; exact et
    · show 0 < (if E = 0 then (1 : Int) else 2)
      split <;> decide
  by_cases qa : 0 ≤ a ∧ a ≤ 7
  · by_cases qb : 0 ≤ b ∧ b ≤ 7
    · have na : ¬ zo_isClub a σ = 0 := fun z => (ica a).mp z qa
      have nb' : ¬ zo_isClub b σ = 0 := fun z => (ica b).mp z qb
      by_cases qe : a = b
      · refine bad 1 0 ?_ ?_ (Or.inl ?_) rfl
        · unfold zm_xbeginRelay; rw [if_neg na, if_neg nb', if_neg (fun z => z qe)]
        · unfold zo_xbeginRelay; rw [if_neg na, if_neg nb', if_neg (fun z => z qe)]
        · unfold zm_ybeginRelay; rw [if_pos qa, if_pos qb, if_pos qe]
      · by_cases qp : σ 13 186 0 < 2
        · have ph : σ 2 0 0 = 0 ∨ σ 2 0 0 = 1 := by omega
          refine bad 2 1 ?_ ?_ (Or.inr ?_) rfl
          · unfold zm_xbeginRelay
            rw [if_neg na, if_neg nb', if_pos qe]
            rcases ph with q | q
            · rw [if_pos q]
            · rw [if_neg (by omega), if_neg (fun z => z q)]
          · unfold zo_xbeginRelay
            rw [if_neg na, if_neg nb', if_pos qe]
            rcases ph with q | q
            · rw [if_pos q]
            · rw [if_neg (by omega), if_neg (fun z => z q)]
          · unfold zm_ybeginRelay; rw [if_pos qa, if_pos qb, if_neg qe, e0, if_pos qp]
        · have ph0 : ¬ σ 2 0 0 = 0 := by omega
          have ph1 : ¬ σ 2 0 0 = 1 := by omega
          by_cases qA : cntP (clP σ a) (nS σ) < 3
          · refine bad 2 1 ?_ ?_ (Or.inr ?_) rfl
            · unfold zm_xbeginRelay; rw [if_neg na, if_neg nb', if_pos qe, if_neg ph0, if_pos ph1, cic_S h, if_pos qA]
            · unfold zo_xbeginRelay; rw [if_neg na, if_neg nb', if_pos qe, if_neg ph0, if_pos ph1, cic_S h, if_pos qA]
            · unfold zm_ybeginRelay; rw [if_pos qa, if_pos qb, if_neg qe, e0, if_neg qp, vS_no h qA, if_pos (by decide)]
          · have vA := vS_at (c := a) (q := 3) h (by omega)
            by_cases qB : cntP (clP σ b) (nS σ) < 3
            · refine bad 2 1 ?_ ?_ (Or.inr ?_) rfl
              · unfold zm_xbeginRelay; rw [if_neg na, if_neg nb', if_pos qe, if_neg ph0, if_pos ph1, cic_S h, if_neg qA, cic_S h, if_neg (by omega)]
              · unfold zo_xbeginRelay; rw [if_neg na, if_neg nb', if_pos qe, if_neg ph0, if_pos ph1, cic_S h, if_neg qA, cic_S h, if_neg (by omega)]
              · unfold zm_ybeginRelay; rw [if_pos qa, if_pos qb, if_neg qe, e0, if_neg qp, if_neg (by omega), vS_no h qB, if_neg (by decide)]
            · have vB := vS_at (c := b) (q := 3) h (by omega)
              have n1 : zm_rstart 0 a b (rkS0 σ) 8 0 0 = nS σ := (rl1_o (by decide)).trans rkS0_n
              have n2 : (zm_chooseTeam a 0 (nS σ) (zm_rstart 0 a b (rkS0 σ))) 8 0 0 = nS σ := by
                unfold zm_chooseTeam
                rw [tmA_o (by omega)]
                exact n1
              have ea : zm_xbeginRelay a b σ = rl3 σ a b := by
                unfold zm_xbeginRelay
                rw [if_neg na, if_neg nb', if_pos qe, if_neg ph0, if_pos ph1, cic_S h, if_neg qA, cic_S h, if_pos (by omega), rkS0_eq h, n1, n2]
                rfl
              have eo : zo_xbeginRelay a b σ = .inl (some (aI (zo_nextOfFirst 0 (rl3 σ a b)))) := by
                unfold zo_xbeginRelay
                rw [if_neg na, if_neg nb', if_pos qe, if_neg ph0, if_pos ph1, cic_S h, if_neg qA, cic_S h, if_pos (by omega), rkS0_eq h, n1, n2]
                rfl
              have row : rl3 σ a b 13 186 = σ 13 186 := funext fun k => rl3_mod h (Or.inr ⟨rfl, by decide⟩)
              have pa : 0 ≤ rl3 σ a b 11 0 4 ∧ rl3 σ a b 11 0 4 ≤ 8 := by rw [rl3_mod h (Or.inl rfl)]; exact rg.2.2.2.2.2.2.1
              have l0 : (laid (up (rl3 σ a b) 11 0 6 0)) 13 186 0 = σ 13 186 0 := (laid_o (by omega)).trans (congrFun row 0)
              rw [ea, eo]
              have hev := ev_ybeginRelay (vS σ) a b (rl3 σ a b) pa (lay0 _ row) (hv _ row)
              -- the model's memory
              have em : zm_ybeginRelay (vS σ) a b (rl3 σ a b) = (up (up (up (up (up (up (up (up (up (up (up (up (up (up (zm_mchanges  (up (laid (up (rl3 σ a b) 11 (0) 6 (0))) 11 (0) 6 (0))) 13 (186) (9) (1)) 13 (186) (10) (a)) 13 (186) (11) (b)) 13 (186) (12) (vS σ (a) (1))) 13 (186) (13) (vS σ (a) (2))) 13 (186) (14) (vS σ (a) (3))) 13 (186) (15) (vS σ (b) (1))) 13 (186) (16) (vS σ (b) (2))) 13 (186) (17) (vS σ (b) (3))) 13 (186) (18) (0)) 13 (186) (19) (0)) 13 (186) (20) (0)) 13 (186) (21) (-1)) 13 (186) (22) (0)) := by
                unfold zm_ybeginRelay
                rw [if_pos qa, if_pos qb, if_neg qe, l0, if_neg qp, if_neg (by omega), if_pos (by omega)]
              have eov : zo_ybeginRelay (vS σ) a b (rl3 σ a b) = zo_mlegFencer 0 (zm_ybeginRelay (vS σ) a b (rl3 σ a b)) := by
                rw [em]
                unfold zo_ybeginRelay
                rw [if_pos qa, if_pos qb, if_neg qe, l0, if_neg qp, if_neg (by omega), if_pos (by omega)]
              generalize hFF : zm_ybeginRelay (vS σ) a b (rl3 σ a b) = F at hev em eov
              -- cells before the fourteen
              have hp2 : 0 ≤ (up (laid (up (rl3 σ a b) 11 0 6 0)) 11 0 6 0) 11 0 4 ∧ (up (laid (up (rl3 σ a b) 11 0 6 0)) 11 0 6 0) 11 0 4 ≤ 8 := by
                rw [up_o (by omega), laid_o (by omega), up_o (by omega)]; exact pa
              obtain ⟨m1, -⟩ := mch_facts hp2
              have fo : ∀ C r k, ¬ (C = 13 ∧ r = 186 ∧ 9 ≤ k ∧ k ≤ 22) → F C r k = zm_mchanges (up (laid (up (rl3 σ a b) 11 0 6 0)) 11 0 6 0) C r k := fun C r k z => by
                rw [em, up_o (by omega), up_o (by omega), up_o (by omega), up_o (by omega), up_o (by omega), up_o (by omega), up_o (by omega), up_o (by omega), up_o (by omega), up_o (by omega), up_o (by omega), up_o (by omega), up_o (by omega), up_o (by omega)]
              have base : ∀ C r k, ¬ (C = 11 ∧ (k = 4 ∨ k = 6)) → ¬ (C = 13 ∧ (r = 188 ∨ r = 189)) → zm_mchanges (up (laid (up (rl3 σ a b) 11 0 6 0)) 11 0 6 0) C r k = rl3 σ a b C r k := fun C r k z1 z2 => by
                rw [m1 _ _ _ (by omega) (by omega), up_o (by omega), laid_o (by omega), up_o (by omega)]
              have hJ : J N F F := by
                refine J_chg2 (c' := cRl σ a b) (g' := gRl σ a b) h (Int.le_refl N) (KP_rl h) (fun C r k z => ?_) (fun C r k z => ?_)
                · rw [fo _ _ _ (by unfold clsP at z; omega), base _ _ _ (by unfold clsP at z; omega) (by unfold clsP at z; omega)]
                  exact rl3_cls h (by omega) (by omega) C r k z
                · by_cases z6 : C = 13 ∧ r = 186
                  · obtain ⟨rfl, rfl⟩ := z6
                    rw [wg_r]
                    by_cases z9 : 9 ≤ k ∧ k ≤ 22
                    · rw [em]
                      have hk : k = 9 ∨ k = 10 ∨ k = 11 ∨ k = 12 ∨ k = 13 ∨ k = 14 ∨ k = 15 ∨ k = 16 ∨ k = 17 ∨ k = 18 ∨ k = 19 ∨ k = 20 ∨ k = 21 ∨ k = 22 := by omega
                      rcases hk with rfl | rfl | rfl | rfl | rfl | rfl | rfl | rfl | rfl | rfl | rfl | rfl | rfl | rfl
                      all_goals rfl
                    · rw [fo _ _ _ (by omega), base _ _ _ (by omega) (by omega), rl3_mod h (Or.inr ⟨rfl, by decide⟩)]
                      unfold gRl
                      rw [if_neg (by omega), if_neg (by omega), if_neg (by omega), if_neg (by omega), if_neg (by omega), if_neg (by omega), if_neg (by omega)]
                  · rw [wg_o z6, fo _ _ _ (by omega)]
                    refine mch_cong (fun C r k z => ?_) rg.2.2.2.2.2.2.1 C r k z
                    rw [up_o (by unfold modP at z; omega), laid_o (by unfold modP at z; omega), up_o (by unfold modP at z; omega)]
                    exact rl3_mod h (by unfold modP at z; omega)
              refine ⟨_, F, hev, hJ, Or.inl ⟨_, rfl, ?_, ?_⟩⟩
              · rw [fo _ _ _ (by omega), m1 _ _ _ (by omega) (by omega), up_s]
              · rw [eov]
                have h9 : F 13 186 9 = 1 := by rw [em]; rfl
                rw [← (leg_eq hJ h9).1]
                unfold zo_nextOfFirst
                have f4 : F 4 0 3 = rl3 σ a b 4 0 3 := (fo _ _ _ (by omega)).trans (base _ _ _ (by omega) (by omega))
                have f18 : ∀ k, F 18 0 k = rl3 σ a b 18 0 k := fun k => (fo _ _ _ (by omega)).trans (base _ _ _ (by omega) (by omega))
                have f17 : ∀ k, rget F (18 * 0 + 17) k = rget (rl3 σ a b) (18 * 0 + 17) k := fun k => by
                  unfold rget
                  rw [fo _ _ _ (by omega), base _ _ _ (by omega) (by omega)]
                rw [f4, f18, f17]
                rfl
    · have na : ¬ zo_isClub a σ = 0 := fun z => (ica a).mp z qa
      refine bad 1 0 ?_ ?_ (Or.inl ?_) rfl
      · unfold zm_xbeginRelay; rw [if_neg na, if_pos ((ica b).mpr qb)]
      · unfold zo_xbeginRelay; rw [if_neg na, if_pos ((ica b).mpr qb)]
      · unfold zm_ybeginRelay; rw [if_pos qa, if_neg qb]
  · refine bad 1 0 ?_ ?_ (Or.inl ?_) rfl
    · unfold zm_xbeginRelay; rw [if_pos ((ica a).mpr qa)]
    · unfold zo_xbeginRelay; rw [if_pos ((ica a).mpr qa)]
    · unfold zm_ybeginRelay; rw [if_neg qa]
end Brl
