/-! The j-th that is so; who has a place in a club. -/
def cntP (P : Int → Bool) (n : Int) : Int := sumTo (fun i => if P i = true then 1 else 0) n
def kthp (P : Int → Bool) (j i : Int) : Bool := if P i = true then decide (cntP P i = j) else false
def kth (P : Int → Bool) (j n : Int) : Int := fnd (kthp P j) 0 n
section Kth
variable {P Q : Int → Bool} {i j n : Int}
theorem cntP_s (h : 0 ≤ i) : cntP P (i + 1) = cntP P i + if P i = true then 1 else 0 := sumTo_s (fun i => if P i = true then 1 else 0) h
theorem cntP_0 : cntP P 0 = 0 := rfl
theorem cntP_mono (i0 : 0 ≤ i) (m : Nat) : cntP P i ≤ cntP P (i + m) := by
  induction m with
  | zero => rw [show i + ((0 : Nat) : Int) = i by omega]; exact Int.le_refl _
  | succ m ih =>
    rw [show i + ((m + 1 : Nat) : Int) = i + m + 1 by omega, cntP_s (by omega)]
    split <;> omega
theorem cntP_le (i0 : 0 ≤ i) (h : i ≤ j) : cntP P i ≤ cntP P j := by
  have := cntP_mono (P := P) i0 (j - i).toNat
  rw [show i + ((j - i).toNat : Int) = j by omega] at this
  exact this
theorem cntP_b (h : 0 ≤ n) : 0 ≤ cntP P n ∧ cntP P n ≤ n := by
  have := sumTo_bd (f := fun i => if P i = true then 1 else 0) (n := n) (c := 1) (by decide) h (fun e _ _ => by split <;> omega)
  unfold cntP
  omega
theorem kth_is (i0 : 0 ≤ i) (i1 : i < n) (h : P i = true) : kth P (cntP P i) n = i := by
  refine fnd_is i1 (by unfold kthp; rw [if_pos h]; exact decide_eq_true rfl) _ 0 rfl i0 (fun k k0 k1 z => ?_)
  unfold kthp at z
  by_cases hk : P k = true
  · rw [if_pos hk] at z
    have z2 := of_decide_eq_true z
    have s := cntP_s (P := P) k0
    rw [if_pos hk] at s
    have := cntP_le (P := P) (i := k + 1) (j := i) (by omega) (by omega)
    omega
  · rw [if_neg hk] at z; cases z
theorem kth_f (n0 : 0 ≤ n) : (kth P j n = -1 ∧ (j < 0 ∨ cntP P n ≤ j)) ∨ ((0 ≤ kth P j n ∧ kth P j n < n) ∧ P (kth P j n) = true ∧ cntP P (kth P j n) = j ∧ 0 ≤ j ∧ j < cntP P n) := by
  have ff := fnd_facts (p := kthp P j) (n := n) _ 0 rfl
  rcases ff with ⟨f1, f2⟩ | ⟨f1, f2, f3, -⟩
  · left
    refine ⟨f1, ?_⟩
    by_cases hj : j < 0
    · exact Or.inl hj
    · right
      have key : ∀ m : Nat, (m : Int) ≤ n → cntP P m ≤ j := by
        intro m
        induction m with
        | zero => intro _; rw [show ((0 : Nat) : Int) = 0 from rfl, cntP_0]; omega
        | succ m ih =>
          intro hm
          have h1 := ih (by omega)
          rw [show ((m + 1 : Nat) : Int) = (m : Int) + 1 from rfl, cntP_s (by omega)]
          by_cases hp : P (m : Int) = true
          · rw [if_pos hp]
            by_cases e : cntP P m = j
            · exact absurd (by unfold kthp; rw [if_pos hp]; exact decide_eq_true e) (f2 m (by omega) (by omega))
            · omega
          · rw [if_neg hp]; omega
      have := key n.toNat (by omega)
      rw [show (n.toNat : Int) = n by omega] at this
      exact this
  · right
    have f1' : 0 ≤ kth P j n := f1
    have f2' : kth P j n < n := f2
    have f3' : kthp P j (kth P j n) = true := f3
    generalize kth P j n = k at f1' f2' f3' ⊢
    unfold kthp at f3'
    by_cases hk : P k = true
    · rw [if_pos hk] at f3'
      have e := of_decide_eq_true f3'
      have s := cntP_s (P := P) f1'
      rw [if_pos hk] at s
      have l := cntP_le (P := P) (i := k + 1) (j := n) (by omega) (by omega)
      have b := cntP_b (P := P) (n := k) f1'
      exact ⟨⟨f1', f2'⟩, hk, e, by omega, by omega⟩
    · rw [if_neg hk] at f3'; cases f3'
theorem cntP_congr (h : ∀ i, 0 ≤ i → i < n → P i = Q i) : cntP P n = cntP Q n := sumTo_congr fun i i0 i1 => by rw [h i i0 i1]
theorem kth_congr (h : ∀ i, 0 ≤ i → i < n → P i = Q i) : kth P j n = kth Q j n := fnd_congr fun i i0 i1 => by
  unfold kthp
  rw [h i i0 i1, cntP_congr (fun k k0 k1 => h k k0 (by omega))]
end Kth
theorem lp_mclubPlace (c q : Int) (σ : Mem) (hF : 0 ≤ σ 13 186 1 ∧ σ 13 186 1 ≤ 24) (hq9 : 1 ≤ q ∧ q ≤ 24) (o : Int → Int) (n : Int) (hn : 0 ≤ n ∧ n ≤ 24) (hS : wr (sumTo (fo_mstaying σ) (σ 13 186 1)) = n) (hO : ∀ i, 0 ≤ i → i < n → fnd (fp_mrankedAt i σ) 0 (σ 13 186 1) = o i) (hb : ∀ i, 0 ≤ i → i < n → 0 ≤ o i ∧ o i < 24) : ∀ (m : Nat) (i a : Int), a = cntP (fun i => decide (mof σ (o i) 0 = c)) i → 0 ≤ i → i ≤ n → (n - i).toNat < m → wp true 225 4 [some (aR 11 (0)), some (aI (c)), some (aI (q)), some (aI (a)), some (aI (i)), none] [] σ 0 0 (fun o' σ2 => o' = .inl (some (aI (if fnd (kthp (fun i => decide (mof σ (o i) 0 = c)) (q - 1)) i n = -1 then -1 else o (fnd (kthp (fun i => decide (mof σ (o i) 0 = c)) (q - 1)) i n)))) ∧ σ2 = σ) := by
  intro m
  induction m with
  | zero =>
    intro i a ha i0 i1 hm
    exact absurd hm (by omega)
  | succ m ih =>
    intro i a ha i0 i1 hm
    refine wp_seg 2 (P := none) (ls' := [some (aR 11 (0)), some (aI (c)), some (aI (q)), some (aI (a)), some (aI (i)), none]) (st' := [aR 11 (0), aI (i)]) (σ' := σ) rq_225 rfl True.intro (i' := 6) rfl ?_
    refine wp_call (C := 11) (As := [aR 11 (0)]) (rest := [aI (i)]) rq_225 (ev_mstaying σ (by exact hF)) rfl rfl (show clOK 225 177 0 0 0 1 11 = true by decide +kernel) rfl (show 1 ≤ 4 by decide) (fun _ => ⟨_, rfl⟩) rfl (c' := 0) (s' := 0) rfl rfl ?_
    refine wp_icmp rq_225 rfl (fun (h1 : (wr (sumTo (fo_mstaying σ) (σ 13 (186) (1)))) ≤ (i)) => ?_) (fun (h1 : ¬ ((wr (sumTo (fo_mstaying σ) (σ 13 (186) (1)))) ≤ (i))) => ?_)
    · refine wp_seg 1 (P := none) (ls' := [some (aR 11 (0)), some (aI (c)), some (aI (q)), some (aI (a)), some (aI (i)), none]) (st' := [aI (-1)]) (σ' := σ) rq_225 rfl True.intro (i' := 38) rfl ?_
      refine wp_iret rq_225 rfl rt_225 ⟨?_, ?_⟩
      · (show (Sum.inl (some (aI (-1))) : Out) = .inl (some (aI (if fnd (kthp (fun i => decide (mof σ (o i) 0 = c)) (q - 1)) i n = -1 then -1 else o (fnd (kthp (fun i => decide (mof σ (o i) 0 = c)) (q - 1)) i n)))); rw [fnd_end (by omega), if_pos rfl])
      · rfl
    · refine wp_seg 2 (P := none) (ls' := [some (aR 11 (0)), some (aI (c)), some (aI (q)), some (aI (a)), some (aI (i)), none]) (st' := [aI (i), aR 11 (0)]) (σ' := σ) rq_225 rfl True.intro (i' := 10) rfl ?_
      refine wp_call (C := 11) (As := [aR 11 (0), aI (i)]) (rest := []) rq_225 (ev_mrankedAt (i) σ (by exact hF)) rfl rfl (show clOK 225 210 0 0 0 2 11 = true by decide +kernel) rfl (show 0 ≤ 4 by decide) (fun _ => ⟨_, rfl⟩) rfl (c' := 0) (s' := 0) rfl rfl ?_
      refine wp_seg 5 (P := none) (ls' := [some (aR 11 (0)), some (aI (c)), some (aI (q)), some (aI (a)), some (aI (i)), some (aI (fnd (fp_mrankedAt (i) σ) (0) (σ 13 (186) (1))))]) (st' := [aI (0), aI (fnd (fp_mrankedAt (i) σ) (0) (σ 13 (186) (1))), aR 11 (0), aI (a)]) (σ' := σ) rq_225 rfl True.intro (i' := 16) rfl ?_
      refine wp_call (C := 11) (As := [aR 11 (0), aI (fnd (fp_mrankedAt (i) σ) (0) (σ 13 (186) (1))), aI (0)]) (rest := [aI (a)]) rq_225 (ev_mof (fnd (fp_mrankedAt (i) σ) (0) (σ 13 (186) (1))) (0) σ (by rw [hO i i0 (by omega)]; exact hb i i0 (by omega)) (by decide)) rfl rfl (show clOK 225 157 0 0 0 3 11 = true by decide +kernel) rfl (show 1 ≤ 4 by decide) (fun _ => ⟨_, rfl⟩) rfl (c' := 0) (s' := 0) rfl rfl ?_
      refine wp_seg 1 (P := none) (ls' := [some (aR 11 (0)), some (aI (c)), some (aI (q)), some (aI (a)), some (aI (i)), some (aI (fnd (fp_mrankedAt (i) σ) (0) (σ 13 (186) (1))))]) (st' := [aI (c), aI (mof σ (fnd (fp_mrankedAt (i) σ) (0) (σ 13 (186) (1))) (0)), aI (a)]) (σ' := σ) rq_225 rfl True.intro (i' := 18) rfl ?_
      refine wp_icmp rq_225 rfl (fun (h2 : ¬ (mof σ (fnd (fp_mrankedAt (i) σ) (0) (σ 13 (186) (1))) (0)) = (c)) => ?_) (fun (h2 : ¬ (¬ (mof σ (fnd (fp_mrankedAt (i) σ) (0) (σ 13 (186) (1))) (0)) = (c))) => ?_)
      · refine wp_seg 6 (P := none) (ls' := [some (aR 11 (0)), some (aI (c)), some (aI (q)), some (aI (wr ((a) + (0)))), some (aI (i)), some (aI (fnd (fp_mrankedAt (i) σ) (0) (σ 13 (186) (1))))]) (st' := [aI (0), aI (fnd (fp_mrankedAt (i) σ) (0) (σ 13 (186) (1))), aR 11 (0)]) (σ' := σ) rq_225 rfl True.intro (i' := 27) rfl ?_
        refine wp_call (C := 11) (As := [aR 11 (0), aI (fnd (fp_mrankedAt (i) σ) (0) (σ 13 (186) (1))), aI (0)]) (rest := []) rq_225 (ev_mof (fnd (fp_mrankedAt (i) σ) (0) (σ 13 (186) (1))) (0) σ (by rw [hO i i0 (by omega)]; exact hb i i0 (by omega)) (by decide)) rfl rfl (show clOK 225 157 0 0 0 3 11 = true by decide +kernel) rfl (show 0 ≤ 4 by decide) (fun _ => ⟨_, rfl⟩) rfl (c' := 0) (s' := 0) rfl rfl ?_
        refine wp_seg 1 (P := none) (ls' := [some (aR 11 (0)), some (aI (c)), some (aI (q)), some (aI (wr ((a) + (0)))), some (aI (i)), some (aI (fnd (fp_mrankedAt (i) σ) (0) (σ 13 (186) (1))))]) (st' := [aI (c), aI (mof σ (fnd (fp_mrankedAt (i) σ) (0) (σ 13 (186) (1))) (0))]) (σ' := σ) rq_225 rfl True.intro (i' := 29) rfl ?_
        refine wp_icmp rq_225 rfl (fun (h3 : ¬ (mof σ (fnd (fp_mrankedAt (i) σ) (0) (σ 13 (186) (1))) (0)) = (c)) => ?_) (fun (h3 : ¬ (¬ (mof σ (fnd (fp_mrankedAt (i) σ) (0) (σ 13 (186) (1))) (0)) = (c))) => ?_)
        · refine wp_seg 1 (P := none) (ls' := [some (aR 11 (0)), some (aI (c)), some (aI (q)), some (aI (wr ((a) + (0)))), some (aI (wr (i + 1))), some (aI (fnd (fp_mrankedAt (i) σ) (0) (σ 13 (186) (1))))]) (st' := []) (σ' := σ) rq_225 rfl True.intro (i' := 36) rfl ?_
          refine wp_goto rq_225 rfl ?_
          have es := cntP_s (P := (fun i => decide (mof σ (o i) 0 = c))) i0
          have bb := cntP_b (P := (fun i => decide (mof σ (o i) 0 = c))) i0
          have z1 := h2
          rw [hO i i0 (by omega)] at z1
          have ep : ¬ (fun i => decide (mof σ (o i) 0 = c)) i = true := fun z => by (have z3 := of_decide_eq_true z; exact absurd z3 (by omega))
          rw [if_neg ep] at es
          have ew : wr (i + 1) = i + 1 := wr_eq (by omega) (by omega)
          have ea : wr ((a) + (0)) = cntP (fun i => decide (mof σ (o i) 0 = c)) (i + 1) := by (rw [wr_eq (by omega) (by omega)]; omega)
          have ek : ¬ kthp (fun i => decide (mof σ (o i) 0 = c)) (q - 1) i = true := by (unfold kthp; rw [if_neg ep]; decide)
          have h9 := ih (i + 1) (wr ((a) + (0))) ea (by omega) (by omega) (by omega)
          rw [← fnd_n (by omega) ek] at h9
          rw [ew]
          exact wp_weak (lessL_c (lessL_c (lessL_c (lessL_c (lessL_c (lessL_n lessL_0)))))) h9
        · refine wp_seg 2 (P := none) (ls' := [some (aR 11 (0)), some (aI (c)), some (aI (q)), some (aI (wr ((a) + (0)))), some (aI (i)), some (aI (fnd (fp_mrankedAt (i) σ) (0) (σ 13 (186) (1))))]) (st' := [aI (q), aI (wr ((a) + (0)))]) (σ' := σ) rq_225 rfl True.intro (i' := 32) rfl ?_
          refine wp_icmp rq_225 rfl (fun (h4 : ¬ (wr ((a) + (0))) = (q)) => ?_) (fun (h4 : ¬ (¬ (wr ((a) + (0))) = (q))) => ?_)
          · refine wp_seg 1 (P := none) (ls' := [some (aR 11 (0)), some (aI (c)), some (aI (q)), some (aI (wr ((a) + (0)))), some (aI (wr (i + 1))), some (aI (fnd (fp_mrankedAt (i) σ) (0) (σ 13 (186) (1))))]) (st' := []) (σ' := σ) rq_225 rfl True.intro (i' := 36) rfl ?_
            refine wp_goto rq_225 rfl ?_
            have es := cntP_s (P := (fun i => decide (mof σ (o i) 0 = c))) i0
            have bb := cntP_b (P := (fun i => decide (mof σ (o i) 0 = c))) i0
            have z1 := h2
            rw [hO i i0 (by omega)] at z1
            have ep : ¬ (fun i => decide (mof σ (o i) 0 = c)) i = true := fun z => by (have z3 := of_decide_eq_true z; exact absurd z3 (by omega))
            rw [if_neg ep] at es
            have ew : wr (i + 1) = i + 1 := wr_eq (by omega) (by omega)
            have ea : wr ((a) + (0)) = cntP (fun i => decide (mof σ (o i) 0 = c)) (i + 1) := by (rw [wr_eq (by omega) (by omega)]; omega)
            exact absurd (show mof σ (o i) 0 = c by (have z6 := h3; rw [hO i i0 (by omega)] at z6; omega)) (by omega)
          · refine wp_seg 1 (P := none) (ls' := [some (aR 11 (0)), some (aI (c)), some (aI (q)), some (aI (wr ((a) + (0)))), some (aI (i)), some (aI (fnd (fp_mrankedAt (i) σ) (0) (σ 13 (186) (1))))]) (st' := [aI (fnd (fp_mrankedAt (i) σ) (0) (σ 13 (186) (1)))]) (σ' := σ) rq_225 rfl True.intro (i' := 34) rfl ?_
            refine wp_iret rq_225 rfl rt_225 ⟨?_, ?_⟩
            · (have e9 : mof σ (o i) 0 = c := by (have z := h3; rw [hO i i0 (by omega)] at z; omega))
              have ep : (fun i => decide (mof σ (o i) 0 = c)) i = true := decide_eq_true e9
              have es := cntP_s (P := (fun i => decide (mof σ (o i) 0 = c))) i0
              have bb := cntP_b (P := (fun i => decide (mof σ (o i) 0 = c))) i0
              rw [if_pos ep] at es
              have e7 : cntP (fun i => decide (mof σ (o i) 0 = c)) i = q - 1 := by (have z := h4; rw [wr_eq (by omega) (by omega)] at z; omega)
              have ek : kthp (fun i => decide (mof σ (o i) 0 = c)) (q - 1) i = true := by (unfold kthp; rw [if_pos ep]; exact decide_eq_true e7)
              rw [fnd_y (by omega) ek, if_neg (by omega), hO i i0 (by omega)]
            · rfl
      · refine wp_seg 1 (P := none) (ls' := [some (aR 11 (0)), some (aI (c)), some (aI (q)), some (aI (a)), some (aI (i)), some (aI (fnd (fp_mrankedAt (i) σ) (0) (σ 13 (186) (1))))]) (st' := [aI (1), aI (a)]) (σ' := σ) rq_225 rfl True.intro (i' := 20) rfl ?_
        refine wp_goto rq_225 rfl ?_
        refine wp_seg 5 (P := none) (ls' := [some (aR 11 (0)), some (aI (c)), some (aI (q)), some (aI (wr ((a) + (1)))), some (aI (i)), some (aI (fnd (fp_mrankedAt (i) σ) (0) (σ 13 (186) (1))))]) (st' := [aI (0), aI (fnd (fp_mrankedAt (i) σ) (0) (σ 13 (186) (1))), aR 11 (0)]) (σ' := σ) rq_225 rfl True.intro (i' := 27) rfl ?_
        refine wp_call (C := 11) (As := [aR 11 (0), aI (fnd (fp_mrankedAt (i) σ) (0) (σ 13 (186) (1))), aI (0)]) (rest := []) rq_225 (ev_mof (fnd (fp_mrankedAt (i) σ) (0) (σ 13 (186) (1))) (0) σ (by rw [hO i i0 (by omega)]; exact hb i i0 (by omega)) (by decide)) rfl rfl (show clOK 225 157 0 0 0 3 11 = true by decide +kernel) rfl (show 0 ≤ 4 by decide) (fun _ => ⟨_, rfl⟩) rfl (c' := 0) (s' := 0) rfl rfl ?_
        refine wp_seg 1 (P := none) (ls' := [some (aR 11 (0)), some (aI (c)), some (aI (q)), some (aI (wr ((a) + (1)))), some (aI (i)), some (aI (fnd (fp_mrankedAt (i) σ) (0) (σ 13 (186) (1))))]) (st' := [aI (c), aI (mof σ (fnd (fp_mrankedAt (i) σ) (0) (σ 13 (186) (1))) (0))]) (σ' := σ) rq_225 rfl True.intro (i' := 29) rfl ?_
        refine wp_icmp rq_225 rfl (fun (h5 : ¬ (mof σ (fnd (fp_mrankedAt (i) σ) (0) (σ 13 (186) (1))) (0)) = (c)) => ?_) (fun (h5 : ¬ (¬ (mof σ (fnd (fp_mrankedAt (i) σ) (0) (σ 13 (186) (1))) (0)) = (c))) => ?_)
        · refine wp_seg 1 (P := none) (ls' := [some (aR 11 (0)), some (aI (c)), some (aI (q)), some (aI (wr ((a) + (1)))), some (aI (wr (i + 1))), some (aI (fnd (fp_mrankedAt (i) σ) (0) (σ 13 (186) (1))))]) (st' := []) (σ' := σ) rq_225 rfl True.intro (i' := 36) rfl ?_
          refine wp_goto rq_225 rfl ?_
          have es := cntP_s (P := (fun i => decide (mof σ (o i) 0 = c))) i0
          have bb := cntP_b (P := (fun i => decide (mof σ (o i) 0 = c))) i0
          have z1 := h2
          rw [hO i i0 (by omega)] at z1
          have ep : (fun i => decide (mof σ (o i) 0 = c)) i = true := decide_eq_true (show mof σ (o i) 0 = c by omega)
          rw [if_pos ep] at es
          have ew : wr (i + 1) = i + 1 := wr_eq (by omega) (by omega)
          have ea : wr ((a) + (1)) = cntP (fun i => decide (mof σ (o i) 0 = c)) (i + 1) := by (rw [wr_eq (by omega) (by omega)]; omega)
          exact absurd (show mof σ (o i) 0 = c by omega) (by have z6 := h5; rw [hO i i0 (by omega)] at z6; omega)
        · refine wp_seg 2 (P := none) (ls' := [some (aR 11 (0)), some (aI (c)), some (aI (q)), some (aI (wr ((a) + (1)))), some (aI (i)), some (aI (fnd (fp_mrankedAt (i) σ) (0) (σ 13 (186) (1))))]) (st' := [aI (q), aI (wr ((a) + (1)))]) (σ' := σ) rq_225 rfl True.intro (i' := 32) rfl ?_
          refine wp_icmp rq_225 rfl (fun (h6 : ¬ (wr ((a) + (1))) = (q)) => ?_) (fun (h6 : ¬ (¬ (wr ((a) + (1))) = (q))) => ?_)
          · refine wp_seg 1 (P := none) (ls' := [some (aR 11 (0)), some (aI (c)), some (aI (q)), some (aI (wr ((a) + (1)))), some (aI (wr (i + 1))), some (aI (fnd (fp_mrankedAt (i) σ) (0) (σ 13 (186) (1))))]) (st' := []) (σ' := σ) rq_225 rfl True.intro (i' := 36) rfl ?_
            refine wp_goto rq_225 rfl ?_
            have es := cntP_s (P := (fun i => decide (mof σ (o i) 0 = c))) i0
            have bb := cntP_b (P := (fun i => decide (mof σ (o i) 0 = c))) i0
            have z1 := h2
            rw [hO i i0 (by omega)] at z1
            have ep : (fun i => decide (mof σ (o i) 0 = c)) i = true := decide_eq_true (show mof σ (o i) 0 = c by omega)
            rw [if_pos ep] at es
            have ew : wr (i + 1) = i + 1 := wr_eq (by omega) (by omega)
            have ea : wr ((a) + (1)) = cntP (fun i => decide (mof σ (o i) 0 = c)) (i + 1) := by (rw [wr_eq (by omega) (by omega)]; omega)
            have ek : ¬ kthp (fun i => decide (mof σ (o i) 0 = c)) (q - 1) i = true := by (unfold kthp; rw [if_pos ep]; intro z; have z4 := of_decide_eq_true z; have z5 := h6; rw [wr_eq (by omega) (by omega)] at z5; omega)
            have h9 := ih (i + 1) (wr ((a) + (1))) ea (by omega) (by omega) (by omega)
            rw [← fnd_n (by omega) ek] at h9
            rw [ew]
            exact wp_weak (lessL_c (lessL_c (lessL_c (lessL_c (lessL_c (lessL_n lessL_0)))))) h9
          · refine wp_seg 1 (P := none) (ls' := [some (aR 11 (0)), some (aI (c)), some (aI (q)), some (aI (wr ((a) + (1)))), some (aI (i)), some (aI (fnd (fp_mrankedAt (i) σ) (0) (σ 13 (186) (1))))]) (st' := [aI (fnd (fp_mrankedAt (i) σ) (0) (σ 13 (186) (1)))]) (σ' := σ) rq_225 rfl True.intro (i' := 34) rfl ?_
            refine wp_iret rq_225 rfl rt_225 ⟨?_, ?_⟩
            · (have e9 : mof σ (o i) 0 = c := by (have z := h5; rw [hO i i0 (by omega)] at z; omega))
              have ep : (fun i => decide (mof σ (o i) 0 = c)) i = true := decide_eq_true e9
              have es := cntP_s (P := (fun i => decide (mof σ (o i) 0 = c))) i0
              have bb := cntP_b (P := (fun i => decide (mof σ (o i) 0 = c))) i0
              rw [if_pos ep] at es
              have e7 : cntP (fun i => decide (mof σ (o i) 0 = c)) i = q - 1 := by (have z := h6; rw [wr_eq (by omega) (by omega)] at z; omega)
              have ek : kthp (fun i => decide (mof σ (o i) 0 = c)) (q - 1) i = true := by (unfold kthp; rw [if_pos ep]; exact decide_eq_true e7)
              rw [fnd_y (by omega) ek, if_neg (by omega), hO i i0 (by omega)]
            · rfl
def zo_mclubPlace (c q : Int) (o : Int → Int) (n : Int) (σ : Mem) : Int := if kth (fun i => decide (mof σ (o i) 0 = c)) (q - 1) n = -1 then -1 else o (kth (fun i => decide (mof σ (o i) 0 = c)) (q - 1) n)
theorem ev_mclubPlace (c q : Int) (σ : Mem) (hF : 0 ≤ σ 13 186 1 ∧ σ 13 186 1 ≤ 24) (hq9 : 1 ≤ q ∧ q ≤ 24) (o : Int → Int) (n : Int) (hn : 0 ≤ n ∧ n ≤ 24) (hS : wr (sumTo (fo_mstaying σ) (σ 13 186 1)) = n) (hO : ∀ i, 0 ≤ i → i < n → fnd (fp_mrankedAt i σ) 0 (σ 13 186 1) = o i) (hb : ∀ i, 0 ≤ i → i < n → 0 ≤ o i ∧ o i < 24) : Ev true 225 [aR 11 0, aI c, aI q] σ (.inl (some (aI (zo_mclubPlace c q o n σ)))) σ := by
  show wp true 225 0 [some (aR 11 (0)), some (aI (c)), some (aI (q)), none, none, none] [] σ 0 0 _
  refine wp_seg 4 (P := none) (ls' := [some (aR 11 (0)), some (aI (c)), some (aI (q)), some (aI (0)), some (aI (0)), none]) (st' := []) (σ' := σ) rq_225 rfl True.intro (i' := 4) rfl ?_
  exact lp_mclubPlace c q σ hF hq9 o n hn hS hO hb ((n - 0).toNat + 1) 0 0 rfl (by decide) hn.1 (by omega)
