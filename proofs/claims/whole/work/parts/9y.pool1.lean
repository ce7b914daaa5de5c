/-! Choosing a pool: the model. -/
def pkP (r P i : Int) : Int := if (r : Int).tmod 2 = 0 then i else P - 1 - i
def chB (sz cc : Int → Int) (r P : Int) : Nat → Int
  | 0 => -1
  | k + 1 => if sz (pkP r P k) = r then (if chB sz cc r P k < 0 then pkP r P k else if cc (pkP r P k) < cc (chB sz cc r P k) then pkP r P k else chB sz cc r P k) else chB sz cc r P k
def mSz (M : Mem) (p : Int) : Int := wr (sumTo (fo_mmembersOf p M) (M 13 186 1))
def mCc (M : Mem) (c p : Int) : Int := wr (sumTo (fo_mclubmates p c M) (M 13 186 1))
section Choose
variable {r P p b f i : Int} {M : Mem} {sz cc sz' cc' : Int → Int}
theorem pkP_b (h0 : 0 ≤ i) (h1 : i < P) : 0 ≤ pkP r P i ∧ pkP r P i < P := by
  unfold pkP
  split <;> omega
theorem chB_s {k : Nat} : chB sz cc r P (k + 1) = if sz (pkP r P k) = r then (if chB sz cc r P k < 0 then pkP r P k else if cc (pkP r P k) < cc (chB sz cc r P k) then pkP r P k else chB sz cc r P k) else chB sz cc r P k := rfl
theorem chB_f : ∀ k : Nat, (k : Int) ≤ P → (chB sz cc r P k = -1 ∧ ∀ i : Nat, i < k → ¬ sz (pkP r P i) = r) ∨ ((0 ≤ chB sz cc r P k ∧ chB sz cc r P k < P) ∧ sz (chB sz cc r P k) = r) := by
  intro k
  induction k with
  | zero => intro _; exact Or.inl ⟨rfl, fun i h => absurd h (Nat.not_lt_zero i)⟩
  | succ k ih =>
    intro hk
    have pb := pkP_b (r := r) (P := P) (i := k) (by omega) (by omega)
    rw [chB_s]
    by_cases q : sz (pkP r P k) = r
    · simp only [if_pos q]
      rcases ih (by omega) with ⟨e, -⟩ | h
      · simp only [e, if_pos (show (-1 : Int) < 0 by decide)]
        exact Or.inr ⟨pb, q⟩
      · simp only [if_neg (show ¬ chB sz cc r P k < 0 by omega)]
        split
        · exact Or.inr ⟨pb, q⟩
        · exact Or.inr h
    · simp only [if_neg q]
      rcases ih (by omega) with ⟨e, h⟩ | h
      · refine Or.inl ⟨e, fun i hi => ?_⟩
        by_cases z : i = k
        · rw [z]; exact q
        · exact h i (by omega)
      · exact Or.inr h
theorem chB_congr (hs : ∀ p, 0 ≤ p → p < P → sz p = sz' p) (hc : ∀ p, 0 ≤ p → p < P → cc p = cc' p) : ∀ k : Nat, (k : Int) ≤ P → chB sz cc r P k = chB sz' cc' r P k := by
  intro k
  induction k with
  | zero => intro _; rfl
  | succ k ih =>
    intro hk
    have e := ih (by omega)
    have pb := pkP_b (r := r) (P := P) (i := k) (by omega) (by omega)
    show (if _ then _ else _) = (if _ then _ else _)
    rw [hs _ pb.1 pb.2, ← e]
    by_cases q : sz' (pkP r P k) = r
    · rw [if_pos q, if_pos q]
      by_cases q2 : chB sz cc r P k < 0
      · rw [if_pos q2, if_pos q2]
      · rw [if_neg q2, if_neg q2]
        rcases chB_f (sz := sz) (cc := cc) (r := r) (P := P) k (by omega) with ⟨z, -⟩ | ⟨z, -⟩
        · omega
        · rw [hc _ pb.1 pb.2, hc _ z.1 z.2]
    · rw [if_neg q, if_neg q]

theorem gp_e (hf : 0 ≤ f ∧ f < 24) (hF : 0 ≤ M 13 186 1 ∧ M 13 186 1 ≤ 24) (hP : 0 ≤ P ∧ P ≤ 6) (hi : 0 ≤ i ∧ i < P) (hr : (r : Int).tmod 2 = 0) (Q : Out → Mem → Prop) (hq : wp true 171 4 [some (aR 11 (0)), some (aI (f)), some (aI (r)), some (aI (P)), some (aI ((if mSz M i = r then (if b < 0 then i else if mCc M (mof M f 0) i < mCc M (mof M f 0) b then i else b) else b))), some (aI ((i + 1))), none, none] [] M 0 0 Q) : wp true 171 4 [some (aR 11 (0)), some (aI (f)), some (aI (r)), some (aI (P)), some (aI (b)), some (aI (i)), none, none] [] M 0 0 Q := by
  refine wp_seg 2 (P := none) (ls' := [some (aR 11 (0)), some (aI (f)), some (aI (r)), some (aI (P)), some (aI (b)), some (aI (i)), none, none]) (st' := [aI (P), aI (i)]) (σ' := M) rq_171 rfl True.intro (i' := 6) rfl ?_
  refine wp_icmp rq_171 rfl (fun (h1 : (P) ≤ (i)) => absurd h1 (show ¬ ((P) ≤ (i)) from by omega)) (fun _ => ?_)
  refine wp_seg 3 (P := some ((2 : Int) ≠ 0)) (ls' := [some (aR 11 (0)), some (aI (f)), some (aI (r)), some (aI (P)), some (aI (b)), some (aI (i)), none, none]) (st' := [aI ((r : Int).tmod (2))]) (σ' := M) rq_171 rfl ?_ (i' := 10) rfl ?_
  · show (2 : Int) ≠ 0
    (show ((2 : Int) ≠ 0); decide)
  refine wp_if rq_171 rfl (fun (h2 : ¬ ((r : Int).tmod (2)) = 0) => absurd h2 (show ¬ (¬ ((r : Int).tmod (2)) = 0) from fun z => z hr)) (fun _ => ?_)
  refine wp_seg 1 (P := none) (ls' := [some (aR 11 (0)), some (aI (f)), some (aI (r)), some (aI (P)), some (aI (b)), some (aI (i)), none, none]) (st' := [aI (i)]) (σ' := M) rq_171 rfl True.intro (i' := 12) rfl ?_
  refine wp_goto rq_171 rfl ?_
  refine wp_seg 2 (P := none) (ls' := [some (aR 11 (0)), some (aI (f)), some (aI (r)), some (aI (P)), some (aI (b)), some (aI (i)), some (aI (i)), none]) (st' := [aI (b)]) (σ' := M) rq_171 rfl True.intro (i' := 20) rfl ?_
  refine wp_if rq_171 rfl (fun (h3 : (b) < 0) => ?_) (fun (h3 : ¬ ((b) < 0)) => ?_)
  · refine wp_seg 1 (P := none) (ls' := [some (aR 11 (0)), some (aI (f)), some (aI (r)), some (aI (P)), some (aI (b)), some (aI (i)), some (aI (i)), none]) (st' := [aI (1)]) (σ' := M) rq_171 rfl True.intro (i' := 37) rfl ?_
    refine wp_goto rq_171 rfl ?_
    refine wp_seg 3 (P := none) (ls' := [some (aR 11 (0)), some (aI (f)), some (aI (r)), some (aI (P)), some (aI (b)), some (aI (i)), some (aI (i)), some (aI (1))]) (st' := [aI (i), aR 11 (0)]) (σ' := M) rq_171 rfl True.intro (i' := 42) rfl ?_
    refine wp_call (C := 11) (As := [aR 11 (0), aI (i)]) (rest := []) rq_171 (ev_mmembersOf (i) M hF) rfl rfl (show clOK 171 169 0 0 0 2 11 = true by decide +kernel) rfl (show 0 ≤ 4 by decide) (fun _ => ⟨_, rfl⟩) rfl (c' := 0) (s' := 0) rfl rfl ?_
    refine wp_seg 1 (P := none) (ls' := [some (aR 11 (0)), some (aI (f)), some (aI (r)), some (aI (P)), some (aI (b)), some (aI (i)), some (aI (i)), some (aI (1))]) (st' := [aI (r), aI (wr (sumTo (fo_mmembersOf (i) M) (M 13 186 1)))]) (σ' := M) rq_171 rfl True.intro (i' := 44) rfl ?_
    refine wp_icmp rq_171 rfl (fun (h4 : ¬ (wr (sumTo (fo_mmembersOf (i) M) (M 13 186 1))) = (r)) => ?_) (fun (h4 : ¬ (¬ (wr (sumTo (fo_mmembersOf (i) M) (M 13 186 1))) = (r))) => ?_)
    · refine wp_seg 3 (P := none) (ls' := [some (aR 11 (0)), some (aI (f)), some (aI (r)), some (aI (P)), some (aI (b)), some (aI (wr (i + 1))), some (aI (i)), some (aI (1))]) (st' := []) (σ' := M) rq_171 rfl True.intro (i' := 52) rfl ?_
      refine wp_goto rq_171 rfl ?_
      have z1 : ¬ mSz M i = r := h4
      rw [if_neg z1] at hq
      rw [wr_eq (z := i + 1) (by omega) (by omega)]
      exact wp_weak (lessL_c (lessL_c (lessL_c (lessL_c (lessL_c (lessL_c (lessL_n (lessL_n lessL_0)))))))) hq
    · refine wp_seg 1 (P := none) (ls' := [some (aR 11 (0)), some (aI (f)), some (aI (r)), some (aI (P)), some (aI (b)), some (aI (i)), some (aI (i)), some (aI (1))]) (st' := [aI (1)]) (σ' := M) rq_171 rfl True.intro (i' := 46) rfl ?_
      refine wp_if rq_171 rfl (fun (h5 : (1 : Int) = (0 : Int)) => absurd h5 (show ¬ ((1 : Int) = (0 : Int)) from by decide)) (fun _ => ?_)
      refine wp_seg 1 (P := none) (ls' := [some (aR 11 (0)), some (aI (f)), some (aI (r)), some (aI (P)), some (aI (b)), some (aI (i)), some (aI (i)), some (aI (1))]) (st' := [aI (i)]) (σ' := M) rq_171 rfl True.intro (i' := 48) rfl ?_
      refine wp_goto rq_171 rfl ?_
      refine wp_seg 2 (P := none) (ls' := [some (aR 11 (0)), some (aI (f)), some (aI (r)), some (aI (P)), some (aI (i)), some (aI (wr (i + 1))), some (aI (i)), some (aI (1))]) (st' := []) (σ' := M) rq_171 rfl True.intro (i' := 52) rfl ?_
      refine wp_goto rq_171 rfl ?_
      have z1 : mSz M i = r := Decidable.of_not_not h4
      rw [if_pos z1, if_pos h3] at hq
      rw [wr_eq (z := i + 1) (by omega) (by omega)]
      exact wp_weak (lessL_c (lessL_c (lessL_c (lessL_c (lessL_c (lessL_c (lessL_n (lessL_n lessL_0)))))))) hq
  · refine wp_seg 5 (P := none) (ls' := [some (aR 11 (0)), some (aI (f)), some (aI (r)), some (aI (P)), some (aI (b)), some (aI (i)), some (aI (i)), none]) (st' := [aI (0), aI (f), aR 11 (0), aI (i), aR 11 (0)]) (σ' := M) rq_171 rfl True.intro (i' := 26) rfl ?_
    refine wp_call (C := 11) (As := [aR 11 (0), aI (f), aI (0)]) (rest := [aI (i), aR 11 (0)]) rq_171 (ev_mof (f) (0) M hf (by decide)) rfl rfl (show clOK 171 157 0 0 0 3 11 = true by decide +kernel) rfl (show 2 ≤ 4 by decide) (fun _ => ⟨_, rfl⟩) rfl (c' := 0) (s' := 0) rfl rfl ?_
    refine wp_call (C := 11) (As := [aR 11 (0), aI (i), aI (mof M (f) (0))]) (rest := []) rq_171 (ev_mclubmates (i) (mof M (f) (0)) M hF) rfl rfl (show clOK 171 170 0 0 0 3 11 = true by decide +kernel) rfl (show 0 ≤ 4 by decide) (fun _ => ⟨_, rfl⟩) rfl (c' := 0) (s' := 0) rfl rfl ?_
    refine wp_seg 5 (P := none) (ls' := [some (aR 11 (0)), some (aI (f)), some (aI (r)), some (aI (P)), some (aI (b)), some (aI (i)), some (aI (i)), none]) (st' := [aI (0), aI (f), aR 11 (0), aI (b), aR 11 (0), aI (wr (sumTo (fo_mclubmates (i) (mof M (f) (0)) M) (M 13 186 1)))]) (σ' := M) rq_171 rfl True.intro (i' := 33) rfl ?_
    refine wp_call (C := 11) (As := [aR 11 (0), aI (f), aI (0)]) (rest := [aI (b), aR 11 (0), aI (wr (sumTo (fo_mclubmates (i) (mof M (f) (0)) M) (M 13 186 1)))]) rq_171 (ev_mof (f) (0) M hf (by decide)) rfl rfl (show clOK 171 157 0 0 0 3 11 = true by decide +kernel) rfl (show 3 ≤ 4 by decide) (fun _ => ⟨_, rfl⟩) rfl (c' := 0) (s' := 0) rfl rfl ?_
    refine wp_call (C := 11) (As := [aR 11 (0), aI (b), aI (mof M (f) (0))]) (rest := [aI (wr (sumTo (fo_mclubmates (i) (mof M (f) (0)) M) (M 13 186 1)))]) rq_171 (ev_mclubmates (b) (mof M (f) (0)) M hF) rfl rfl (show clOK 171 170 0 0 0 3 11 = true by decide +kernel) rfl (show 1 ≤ 4 by decide) (fun _ => ⟨_, rfl⟩) rfl (c' := 0) (s' := 0) rfl rfl ?_
    refine wp_icmp rq_171 rfl (fun (h6 : (wr (sumTo (fo_mclubmates (b) (mof M (f) (0)) M) (M 13 186 1))) ≤ (wr (sumTo (fo_mclubmates (i) (mof M (f) (0)) M) (M 13 186 1)))) => ?_) (fun (h6 : ¬ ((wr (sumTo (fo_mclubmates (b) (mof M (f) (0)) M) (M 13 186 1))) ≤ (wr (sumTo (fo_mclubmates (i) (mof M (f) (0)) M) (M 13 186 1))))) => ?_)
    · refine wp_seg 4 (P := none) (ls' := [some (aR 11 (0)), some (aI (f)), some (aI (r)), some (aI (P)), some (aI (b)), some (aI (i)), some (aI (i)), some (aI (0))]) (st' := [aI (i), aR 11 (0)]) (σ' := M) rq_171 rfl True.intro (i' := 42) rfl ?_
      refine wp_call (C := 11) (As := [aR 11 (0), aI (i)]) (rest := []) rq_171 (ev_mmembersOf (i) M hF) rfl rfl (show clOK 171 169 0 0 0 2 11 = true by decide +kernel) rfl (show 0 ≤ 4 by decide) (fun _ => ⟨_, rfl⟩) rfl (c' := 0) (s' := 0) rfl rfl ?_
      refine wp_seg 1 (P := none) (ls' := [some (aR 11 (0)), some (aI (f)), some (aI (r)), some (aI (P)), some (aI (b)), some (aI (i)), some (aI (i)), some (aI (0))]) (st' := [aI (r), aI (wr (sumTo (fo_mmembersOf (i) M) (M 13 186 1)))]) (σ' := M) rq_171 rfl True.intro (i' := 44) rfl ?_
      refine wp_icmp rq_171 rfl (fun (h7 : ¬ (wr (sumTo (fo_mmembersOf (i) M) (M 13 186 1))) = (r)) => ?_) (fun (h7 : ¬ (¬ (wr (sumTo (fo_mmembersOf (i) M) (M 13 186 1))) = (r))) => ?_)
      · refine wp_seg 3 (P := none) (ls' := [some (aR 11 (0)), some (aI (f)), some (aI (r)), some (aI (P)), some (aI (b)), some (aI (wr (i + 1))), some (aI (i)), some (aI (0))]) (st' := []) (σ' := M) rq_171 rfl True.intro (i' := 52) rfl ?_
        refine wp_goto rq_171 rfl ?_
        have z1 : ¬ mSz M i = r := h7
        rw [if_neg z1] at hq
        rw [wr_eq (z := i + 1) (by omega) (by omega)]
        exact wp_weak (lessL_c (lessL_c (lessL_c (lessL_c (lessL_c (lessL_c (lessL_n (lessL_n lessL_0)))))))) hq
      · refine wp_seg 1 (P := none) (ls' := [some (aR 11 (0)), some (aI (f)), some (aI (r)), some (aI (P)), some (aI (b)), some (aI (i)), some (aI (i)), some (aI (0))]) (st' := [aI (0)]) (σ' := M) rq_171 rfl True.intro (i' := 46) rfl ?_
        refine wp_if rq_171 rfl (fun _ => ?_) (fun (h8 : ¬ ((0 : Int) = (0 : Int))) => absurd (show (0 : Int) = (0 : Int) from by decide) h8)
        refine wp_seg 3 (P := none) (ls' := [some (aR 11 (0)), some (aI (f)), some (aI (r)), some (aI (P)), some (aI (b)), some (aI (wr (i + 1))), some (aI (i)), some (aI (0))]) (st' := []) (σ' := M) rq_171 rfl True.intro (i' := 52) rfl ?_
        refine wp_goto rq_171 rfl ?_
        have z1 : mSz M i = r := Decidable.of_not_not h7
        have z2 : ¬ mCc M (mof M f 0) i < mCc M (mof M f 0) b := Int.not_lt.mpr h6
        rw [if_pos z1, if_neg h3, if_neg z2] at hq
        rw [wr_eq (z := i + 1) (by omega) (by omega)]
        exact wp_weak (lessL_c (lessL_c (lessL_c (lessL_c (lessL_c (lessL_c (lessL_n (lessL_n lessL_0)))))))) hq
    · refine wp_seg 1 (P := none) (ls' := [some (aR 11 (0)), some (aI (f)), some (aI (r)), some (aI (P)), some (aI (b)), some (aI (i)), some (aI (i)), none]) (st' := [aI (1)]) (σ' := M) rq_171 rfl True.intro (i' := 37) rfl ?_
      refine wp_goto rq_171 rfl ?_
      refine wp_seg 3 (P := none) (ls' := [some (aR 11 (0)), some (aI (f)), some (aI (r)), some (aI (P)), some (aI (b)), some (aI (i)), some (aI (i)), some (aI (1))]) (st' := [aI (i), aR 11 (0)]) (σ' := M) rq_171 rfl True.intro (i' := 42) rfl ?_
      refine wp_call (C := 11) (As := [aR 11 (0), aI (i)]) (rest := []) rq_171 (ev_mmembersOf (i) M hF) rfl rfl (show clOK 171 169 0 0 0 2 11 = true by decide +kernel) rfl (show 0 ≤ 4 by decide) (fun _ => ⟨_, rfl⟩) rfl (c' := 0) (s' := 0) rfl rfl ?_
      refine wp_seg 1 (P := none) (ls' := [some (aR 11 (0)), some (aI (f)), some (aI (r)), some (aI (P)), some (aI (b)), some (aI (i)), some (aI (i)), some (aI (1))]) (st' := [aI (r), aI (wr (sumTo (fo_mmembersOf (i) M) (M 13 186 1)))]) (σ' := M) rq_171 rfl True.intro (i' := 44) rfl ?_
      refine wp_icmp rq_171 rfl (fun (h9 : ¬ (wr (sumTo (fo_mmembersOf (i) M) (M 13 186 1))) = (r)) => ?_) (fun (h9 : ¬ (¬ (wr (sumTo (fo_mmembersOf (i) M) (M 13 186 1))) = (r))) => ?_)
      · refine wp_seg 3 (P := none) (ls' := [some (aR 11 (0)), some (aI (f)), some (aI (r)), some (aI (P)), some (aI (b)), some (aI (wr (i + 1))), some (aI (i)), some (aI (1))]) (st' := []) (σ' := M) rq_171 rfl True.intro (i' := 52) rfl ?_
        refine wp_goto rq_171 rfl ?_
        have z1 : ¬ mSz M i = r := h9
        rw [if_neg z1] at hq
        rw [wr_eq (z := i + 1) (by omega) (by omega)]
        exact wp_weak (lessL_c (lessL_c (lessL_c (lessL_c (lessL_c (lessL_c (lessL_n (lessL_n lessL_0)))))))) hq
      · refine wp_seg 1 (P := none) (ls' := [some (aR 11 (0)), some (aI (f)), some (aI (r)), some (aI (P)), some (aI (b)), some (aI (i)), some (aI (i)), some (aI (1))]) (st' := [aI (1)]) (σ' := M) rq_171 rfl True.intro (i' := 46) rfl ?_
        refine wp_if rq_171 rfl (fun (h10 : (1 : Int) = (0 : Int)) => absurd h10 (show ¬ ((1 : Int) = (0 : Int)) from by decide)) (fun _ => ?_)
        refine wp_seg 1 (P := none) (ls' := [some (aR 11 (0)), some (aI (f)), some (aI (r)), some (aI (P)), some (aI (b)), some (aI (i)), some (aI (i)), some (aI (1))]) (st' := [aI (i)]) (σ' := M) rq_171 rfl True.intro (i' := 48) rfl ?_
        refine wp_goto rq_171 rfl ?_
        refine wp_seg 2 (P := none) (ls' := [some (aR 11 (0)), some (aI (f)), some (aI (r)), some (aI (P)), some (aI (i)), some (aI (wr (i + 1))), some (aI (i)), some (aI (1))]) (st' := []) (σ' := M) rq_171 rfl True.intro (i' := 52) rfl ?_
        refine wp_goto rq_171 rfl ?_
        have z1 : mSz M i = r := Decidable.of_not_not h9
        have z2 : mCc M (mof M f 0) i < mCc M (mof M f 0) b := Int.not_le.mp h6
        rw [if_pos z1, if_neg h3, if_pos z2] at hq
        rw [wr_eq (z := i + 1) (by omega) (by omega)]
        exact wp_weak (lessL_c (lessL_c (lessL_c (lessL_c (lessL_c (lessL_c (lessL_n (lessL_n lessL_0)))))))) hq
theorem gp_o (hf : 0 ≤ f ∧ f < 24) (hF : 0 ≤ M 13 186 1 ∧ M 13 186 1 ≤ 24) (hP : 0 ≤ P ∧ P ≤ 6) (hi : 0 ≤ i ∧ i < P) (hr : ¬ (r : Int).tmod 2 = 0) (hpk : wr (wr (P - 1) - i) = p) (Q : Out → Mem → Prop) (hq : wp true 171 4 [some (aR 11 (0)), some (aI (f)), some (aI (r)), some (aI (P)), some (aI ((if mSz M p = r then (if b < 0 then p else if mCc M (mof M f 0) p < mCc M (mof M f 0) b then p else b) else b))), some (aI ((i + 1))), none, none] [] M 0 0 Q) : wp true 171 4 [some (aR 11 (0)), some (aI (f)), some (aI (r)), some (aI (P)), some (aI (b)), some (aI (i)), none, none] [] M 0 0 Q := by
  refine wp_seg 2 (P := none) (ls' := [some (aR 11 (0)), some (aI (f)), some (aI (r)), some (aI (P)), some (aI (b)), some (aI (i)), none, none]) (st' := [aI (P), aI (i)]) (σ' := M) rq_171 rfl True.intro (i' := 6) rfl ?_
  refine wp_icmp rq_171 rfl (fun (h1 : (P) ≤ (i)) => absurd h1 (show ¬ ((P) ≤ (i)) from by omega)) (fun _ => ?_)
  refine wp_seg 3 (P := some ((2 : Int) ≠ 0)) (ls' := [some (aR 11 (0)), some (aI (f)), some (aI (r)), some (aI (P)), some (aI (b)), some (aI (i)), none, none]) (st' := [aI ((r : Int).tmod (2))]) (σ' := M) rq_171 rfl ?_ (i' := 10) rfl ?_
  · show (2 : Int) ≠ 0
    (show ((2 : Int) ≠ 0); decide)
  refine wp_if rq_171 rfl (fun _ => ?_) (fun (h2 : ¬ (¬ ((r : Int).tmod (2)) = 0)) => absurd (show ¬ ((r : Int).tmod (2)) = 0 from hr) h2)
  refine wp_seg 7 (P := none) (ls' := [some (aR 11 (0)), some (aI (f)), some (aI (r)), some (aI (P)), some (aI (b)), some (aI (i)), some (aI (wr ((wr ((P) - (1))) - (i)))), none]) (st' := [aI (b)]) (σ' := M) rq_171 rfl True.intro (i' := 20) rfl ?_
  refine wp_if rq_171 rfl (fun (h3 : (b) < 0) => ?_) (fun (h3 : ¬ ((b) < 0)) => ?_)
  · refine wp_seg 1 (P := none) (ls' := [some (aR 11 (0)), some (aI (f)), some (aI (r)), some (aI (P)), some (aI (b)), some (aI (i)), some (aI (wr ((wr ((P) - (1))) - (i)))), none]) (st' := [aI (1)]) (σ' := M) rq_171 rfl True.intro (i' := 37) rfl ?_
    refine wp_goto rq_171 rfl ?_
    refine wp_seg 3 (P := none) (ls' := [some (aR 11 (0)), some (aI (f)), some (aI (r)), some (aI (P)), some (aI (b)), some (aI (i)), some (aI (wr ((wr ((P) - (1))) - (i)))), some (aI (1))]) (st' := [aI (wr ((wr ((P) - (1))) - (i))), aR 11 (0)]) (σ' := M) rq_171 rfl True.intro (i' := 42) rfl ?_
    refine wp_call (C := 11) (As := [aR 11 (0), aI (wr ((wr ((P) - (1))) - (i)))]) (rest := []) rq_171 (ev_mmembersOf (wr ((wr ((P) - (1))) - (i))) M hF) rfl rfl (show clOK 171 169 0 0 0 2 11 = true by decide +kernel) rfl (show 0 ≤ 4 by decide) (fun _ => ⟨_, rfl⟩) rfl (c' := 0) (s' := 0) rfl rfl ?_
    refine wp_seg 1 (P := none) (ls' := [some (aR 11 (0)), some (aI (f)), some (aI (r)), some (aI (P)), some (aI (b)), some (aI (i)), some (aI (wr ((wr ((P) - (1))) - (i)))), some (aI (1))]) (st' := [aI (r), aI (wr (sumTo (fo_mmembersOf (wr ((wr ((P) - (1))) - (i))) M) (M 13 186 1)))]) (σ' := M) rq_171 rfl True.intro (i' := 44) rfl ?_
    refine wp_icmp rq_171 rfl (fun (h4 : ¬ (wr (sumTo (fo_mmembersOf (wr ((wr ((P) - (1))) - (i))) M) (M 13 186 1))) = (r)) => ?_) (fun (h4 : ¬ (¬ (wr (sumTo (fo_mmembersOf (wr ((wr ((P) - (1))) - (i))) M) (M 13 186 1))) = (r))) => ?_)
    · refine wp_seg 3 (P := none) (ls' := [some (aR 11 (0)), some (aI (f)), some (aI (r)), some (aI (P)), some (aI (b)), some (aI (wr (i + 1))), some (aI (wr ((wr ((P) - (1))) - (i)))), some (aI (1))]) (st' := []) (σ' := M) rq_171 rfl True.intro (i' := 52) rfl ?_
      refine wp_goto rq_171 rfl ?_
      have z1 : ¬ mSz M (wr ((wr ((P) - (1))) - (i))) = r := h4
      rw [hpk] at z1
      rw [if_neg z1] at hq
      rw [wr_eq (z := i + 1) (by omega) (by omega)]
      exact wp_weak (lessL_c (lessL_c (lessL_c (lessL_c (lessL_c (lessL_c (lessL_n (lessL_n lessL_0)))))))) hq
    · refine wp_seg 1 (P := none) (ls' := [some (aR 11 (0)), some (aI (f)), some (aI (r)), some (aI (P)), some (aI (b)), some (aI (i)), some (aI (wr ((wr ((P) - (1))) - (i)))), some (aI (1))]) (st' := [aI (1)]) (σ' := M) rq_171 rfl True.intro (i' := 46) rfl ?_
      refine wp_if rq_171 rfl (fun (h5 : (1 : Int) = (0 : Int)) => absurd h5 (show ¬ ((1 : Int) = (0 : Int)) from by decide)) (fun _ => ?_)
      refine wp_seg 1 (P := none) (ls' := [some (aR 11 (0)), some (aI (f)), some (aI (r)), some (aI (P)), some (aI (b)), some (aI (i)), some (aI (wr ((wr ((P) - (1))) - (i)))), some (aI (1))]) (st' := [aI (wr ((wr ((P) - (1))) - (i)))]) (σ' := M) rq_171 rfl True.intro (i' := 48) rfl ?_
      refine wp_goto rq_171 rfl ?_
      refine wp_seg 2 (P := none) (ls' := [some (aR 11 (0)), some (aI (f)), some (aI (r)), some (aI (P)), some (aI (wr ((wr ((P) - (1))) - (i)))), some (aI (wr (i + 1))), some (aI (wr ((wr ((P) - (1))) - (i)))), some (aI (1))]) (st' := []) (σ' := M) rq_171 rfl True.intro (i' := 52) rfl ?_
      refine wp_goto rq_171 rfl ?_
      have z1 : mSz M (wr ((wr ((P) - (1))) - (i))) = r := Decidable.of_not_not h4
      rw [hpk] at z1
      rw [if_pos z1, if_pos h3] at hq
      rw [hpk]
      rw [wr_eq (z := i + 1) (by omega) (by omega)]
      exact wp_weak (lessL_c (lessL_c (lessL_c (lessL_c (lessL_c (lessL_c (lessL_n (lessL_n lessL_0)))))))) hq
  · refine wp_seg 5 (P := none) (ls' := [some (aR 11 (0)), some (aI (f)), some (aI (r)), some (aI (P)), some (aI (b)), some (aI (i)), some (aI (wr ((wr ((P) - (1))) - (i)))), none]) (st' := [aI (0), aI (f), aR 11 (0), aI (wr ((wr ((P) - (1))) - (i))), aR 11 (0)]) (σ' := M) rq_171 rfl True.intro (i' := 26) rfl ?_
    refine wp_call (C := 11) (As := [aR 11 (0), aI (f), aI (0)]) (rest := [aI (wr ((wr ((P) - (1))) - (i))), aR 11 (0)]) rq_171 (ev_mof (f) (0) M hf (by decide)) rfl rfl (show clOK 171 157 0 0 0 3 11 = true by decide +kernel) rfl (show 2 ≤ 4 by decide) (fun _ => ⟨_, rfl⟩) rfl (c' := 0) (s' := 0) rfl rfl ?_
    refine wp_call (C := 11) (As := [aR 11 (0), aI (wr ((wr ((P) - (1))) - (i))), aI (mof M (f) (0))]) (rest := []) rq_171 (ev_mclubmates (wr ((wr ((P) - (1))) - (i))) (mof M (f) (0)) M hF) rfl rfl (show clOK 171 170 0 0 0 3 11 = true by decide +kernel) rfl (show 0 ≤ 4 by decide) (fun _ => ⟨_, rfl⟩) rfl (c' := 0) (s' := 0) rfl rfl ?_
    refine wp_seg 5 (P := none) (ls' := [some (aR 11 (0)), some (aI (f)), some (aI (r)), some (aI (P)), some (aI (b)), some (aI (i)), some (aI (wr ((wr ((P) - (1))) - (i)))), none]) (st' := [aI (0), aI (f), aR 11 (0), aI (b), aR 11 (0), aI (wr (sumTo (fo_mclubmates (wr ((wr ((P) - (1))) - (i))) (mof M (f) (0)) M) (M 13 186 1)))]) (σ' := M) rq_171 rfl True.intro (i' := 33) rfl ?_
    refine wp_call (C := 11) (As := [aR 11 (0), aI (f), aI (0)]) (rest := [aI (b), aR 11 (0), aI (wr (sumTo (fo_mclubmates (wr ((wr ((P) - (1))) - (i))) (mof M (f) (0)) M) (M 13 186 1)))]) rq_171 (ev_mof (f) (0) M hf (by decide)) rfl rfl (show clOK 171 157 0 0 0 3 11 = true by decide +kernel) rfl (show 3 ≤ 4 by decide) (fun _ => ⟨_, rfl⟩) rfl (c' := 0) (s' := 0) rfl rfl ?_
    refine wp_call (C := 11) (As := [aR 11 (0), aI (b), aI (mof M (f) (0))]) (rest := [aI (wr (sumTo (fo_mclubmates (wr ((wr ((P) - (1))) - (i))) (mof M (f) (0)) M) (M 13 186 1)))]) rq_171 (ev_mclubmates (b) (mof M (f) (0)) M hF) rfl rfl (show clOK 171 170 0 0 0 3 11 = true by decide +kernel) rfl (show 1 ≤ 4 by decide) (fun _ => ⟨_, rfl⟩) rfl (c' := 0) (s' := 0) rfl rfl ?_
    refine wp_icmp rq_171 rfl (fun (h6 : (wr (sumTo (fo_mclubmates (b) (mof M (f) (0)) M) (M 13 186 1))) ≤ (wr (sumTo (fo_mclubmates (wr ((wr ((P) - (1))) - (i))) (mof M (f) (0)) M) (M 13 186 1)))) => ?_) (fun (h6 : ¬ ((wr (sumTo (fo_mclubmates (b) (mof M (f) (0)) M) (M 13 186 1))) ≤ (wr (sumTo (fo_mclubmates (wr ((wr ((P) - (1))) - (i))) (mof M (f) (0)) M) (M 13 186 1))))) => ?_)
    · refine wp_seg 4 (P := none) (ls' := [some (aR 11 (0)), some (aI (f)), some (aI (r)), some (aI (P)), some (aI (b)), some (aI (i)), some (aI (wr ((wr ((P) - (1))) - (i)))), some (aI (0))]) (st' := [aI (wr ((wr ((P) - (1))) - (i))), aR 11 (0)]) (σ' := M) rq_171 rfl True.intro (i' := 42) rfl ?_
      refine wp_call (C := 11) (As := [aR 11 (0), aI (wr ((wr ((P) - (1))) - (i)))]) (rest := []) rq_171 (ev_mmembersOf (wr ((wr ((P) - (1))) - (i))) M hF) rfl rfl (show clOK 171 169 0 0 0 2 11 = true by decide +kernel) rfl (show 0 ≤ 4 by decide) (fun _ => ⟨_, rfl⟩) rfl (c' := 0) (s' := 0) rfl rfl ?_
      refine wp_seg 1 (P := none) (ls' := [some (aR 11 (0)), some (aI (f)), some (aI (r)), some (aI (P)), some (aI (b)), some (aI (i)), some (aI (wr ((wr ((P) - (1))) - (i)))), some (aI (0))]) (st' := [aI (r), aI (wr (sumTo (fo_mmembersOf (wr ((wr ((P) - (1))) - (i))) M) (M 13 186 1)))]) (σ' := M) rq_171 rfl True.intro (i' := 44) rfl ?_
      refine wp_icmp rq_171 rfl (fun (h7 : ¬ (wr (sumTo (fo_mmembersOf (wr ((wr ((P) - (1))) - (i))) M) (M 13 186 1))) = (r)) => ?_) (fun (h7 : ¬ (¬ (wr (sumTo (fo_mmembersOf (wr ((wr ((P) - (1))) - (i))) M) (M 13 186 1))) = (r))) => ?_)
      · refine wp_seg 3 (P := none) (ls' := [some (aR 11 (0)), some (aI (f)), some (aI (r)), some (aI (P)), some (aI (b)), some (aI (wr (i + 1))), some (aI (wr ((wr ((P) - (1))) - (i)))), some (aI (0))]) (st' := []) (σ' := M) rq_171 rfl True.intro (i' := 52) rfl ?_
        refine wp_goto rq_171 rfl ?_
        have z1 : ¬ mSz M (wr ((wr ((P) - (1))) - (i))) = r := h7
        rw [hpk] at z1
        rw [if_neg z1] at hq
        rw [wr_eq (z := i + 1) (by omega) (by omega)]
        exact wp_weak (lessL_c (lessL_c (lessL_c (lessL_c (lessL_c (lessL_c (lessL_n (lessL_n lessL_0)))))))) hq
      · refine wp_seg 1 (P := none) (ls' := [some (aR 11 (0)), some (aI (f)), some (aI (r)), some (aI (P)), some (aI (b)), some (aI (i)), some (aI (wr ((wr ((P) - (1))) - (i)))), some (aI (0))]) (st' := [aI (0)]) (σ' := M) rq_171 rfl True.intro (i' := 46) rfl ?_
        refine wp_if rq_171 rfl (fun _ => ?_) (fun (h8 : ¬ ((0 : Int) = (0 : Int))) => absurd (show (0 : Int) = (0 : Int) from by decide) h8)
        refine wp_seg 3 (P := none) (ls' := [some (aR 11 (0)), some (aI (f)), some (aI (r)), some (aI (P)), some (aI (b)), some (aI (wr (i + 1))), some (aI (wr ((wr ((P) - (1))) - (i)))), some (aI (0))]) (st' := []) (σ' := M) rq_171 rfl True.intro (i' := 52) rfl ?_
        refine wp_goto rq_171 rfl ?_
        have z1 : mSz M (wr ((wr ((P) - (1))) - (i))) = r := Decidable.of_not_not h7
        have z2 : ¬ mCc M (mof M f 0) (wr ((wr ((P) - (1))) - (i))) < mCc M (mof M f 0) b := Int.not_lt.mpr h6
        rw [hpk] at z1
        rw [hpk] at z2
        rw [if_pos z1, if_neg h3, if_neg z2] at hq
        rw [wr_eq (z := i + 1) (by omega) (by omega)]
        exact wp_weak (lessL_c (lessL_c (lessL_c (lessL_c (lessL_c (lessL_c (lessL_n (lessL_n lessL_0)))))))) hq
    · refine wp_seg 1 (P := none) (ls' := [some (aR 11 (0)), some (aI (f)), some (aI (r)), some (aI (P)), some (aI (b)), some (aI (i)), some (aI (wr ((wr ((P) - (1))) - (i)))), none]) (st' := [aI (1)]) (σ' := M) rq_171 rfl True.intro (i' := 37) rfl ?_
      refine wp_goto rq_171 rfl ?_
      refine wp_seg 3 (P := none) (ls' := [some (aR 11 (0)), some (aI (f)), some (aI (r)), some (aI (P)), some (aI (b)), some (aI (i)), some (aI (wr ((wr ((P) - (1))) - (i)))), some (aI (1))]) (st' := [aI (wr ((wr ((P) - (1))) - (i))), aR 11 (0)]) (σ' := M) rq_171 rfl True.intro (i' := 42) rfl ?_
      refine wp_call (C := 11) (As := [aR 11 (0), aI (wr ((wr ((P) - (1))) - (i)))]) (rest := []) rq_171 (ev_mmembersOf (wr ((wr ((P) - (1))) - (i))) M hF) rfl rfl (show clOK 171 169 0 0 0 2 11 = true by decide +kernel) rfl (show 0 ≤ 4 by decide) (fun _ => ⟨_, rfl⟩) rfl (c' := 0) (s' := 0) rfl rfl ?_
      refine wp_seg 1 (P := none) (ls' := [some (aR 11 (0)), some (aI (f)), some (aI (r)), some (aI (P)), some (aI (b)), some (aI (i)), some (aI (wr ((wr ((P) - (1))) - (i)))), some (aI (1))]) (st' := [aI (r), aI (wr (sumTo (fo_mmembersOf (wr ((wr ((P) - (1))) - (i))) M) (M 13 186 1)))]) (σ' := M) rq_171 rfl True.intro (i' := 44) rfl ?_
      refine wp_icmp rq_171 rfl (fun (h9 : ¬ (wr (sumTo (fo_mmembersOf (wr ((wr ((P) - (1))) - (i))) M) (M 13 186 1))) = (r)) => ?_) (fun (h9 : ¬ (¬ (wr (sumTo (fo_mmembersOf (wr ((wr ((P) - (1))) - (i))) M) (M 13 186 1))) = (r))) => ?_)
      · refine wp_seg 3 (P := none) (ls' := [some (aR 11 (0)), some (aI (f)), some (aI (r)), some (aI (P)), some (aI (b)), some (aI (wr (i + 1))), some (aI (wr ((wr ((P) - (1))) - (i)))), some (aI (1))]) (st' := []) (σ' := M) rq_171 rfl True.intro (i' := 52) rfl ?_
        refine wp_goto rq_171 rfl ?_
        have z1 : ¬ mSz M (wr ((wr ((P) - (1))) - (i))) = r := h9
        rw [hpk] at z1
        rw [if_neg z1] at hq
        rw [wr_eq (z := i + 1) (by omega) (by omega)]
        exact wp_weak (lessL_c (lessL_c (lessL_c (lessL_c (lessL_c (lessL_c (lessL_n (lessL_n lessL_0)))))))) hq
      · refine wp_seg 1 (P := none) (ls' := [some (aR 11 (0)), some (aI (f)), some (aI (r)), some (aI (P)), some (aI (b)), some (aI (i)), some (aI (wr ((wr ((P) - (1))) - (i)))), some (aI (1))]) (st' := [aI (1)]) (σ' := M) rq_171 rfl True.intro (i' := 46) rfl ?_
        refine wp_if rq_171 rfl (fun (h10 : (1 : Int) = (0 : Int)) => absurd h10 (show ¬ ((1 : Int) = (0 : Int)) from by decide)) (fun _ => ?_)
        refine wp_seg 1 (P := none) (ls' := [some (aR 11 (0)), some (aI (f)), some (aI (r)), some (aI (P)), some (aI (b)), some (aI (i)), some (aI (wr ((wr ((P) - (1))) - (i)))), some (aI (1))]) (st' := [aI (wr ((wr ((P) - (1))) - (i)))]) (σ' := M) rq_171 rfl True.intro (i' := 48) rfl ?_
        refine wp_goto rq_171 rfl ?_
        refine wp_seg 2 (P := none) (ls' := [some (aR 11 (0)), some (aI (f)), some (aI (r)), some (aI (P)), some (aI (wr ((wr ((P) - (1))) - (i)))), some (aI (wr (i + 1))), some (aI (wr ((wr ((P) - (1))) - (i)))), some (aI (1))]) (st' := []) (σ' := M) rq_171 rfl True.intro (i' := 52) rfl ?_
        refine wp_goto rq_171 rfl ?_
        have z1 : mSz M (wr ((wr ((P) - (1))) - (i))) = r := Decidable.of_not_not h9
        have z2 : mCc M (mof M f 0) (wr ((wr ((P) - (1))) - (i))) < mCc M (mof M f 0) b := Int.not_le.mp h6
        rw [hpk] at z1
        rw [hpk] at z2
        rw [if_pos z1, if_neg h3, if_pos z2] at hq
        rw [hpk]
        rw [wr_eq (z := i + 1) (by omega) (by omega)]
        exact wp_weak (lessL_c (lessL_c (lessL_c (lessL_c (lessL_c (lessL_c (lessL_n (lessL_n lessL_0)))))))) hq
theorem gp_x (hf : 0 ≤ f ∧ f < 24) : wp true 171 4 [some (aR 11 (0)), some (aI (f)), some (aI (r)), some (aI (P)), some (aI (b)), some (aI (P)), none, none] [] M 0 0 (fun o' s' => o' = .inl none ∧ s' = up (up M 13 186 (30 + 8 * f + 7) r) 13 186 (30 + 8 * f + 6) b) := by
  have w6 : wr (wr (30 + wr (8 * f)) + 6) = 30 + 8 * f + 6 := by (rw [wr_eq (z := 8 * f) (by omega) (by omega), wr_eq (z := 30 + 8 * f) (by omega) (by omega), wr_eq (by omega) (by omega)])
  have w7 : wr (wr (30 + wr (8 * f)) + 7) = 30 + 8 * f + 7 := by (rw [wr_eq (z := 8 * f) (by omega) (by omega), wr_eq (z := 30 + 8 * f) (by omega) (by omega), wr_eq (by omega) (by omega)])
  refine wp_seg 2 (P := none) (ls' := [some (aR 11 (0)), some (aI (f)), some (aI (r)), some (aI (P)), some (aI (b)), some (aI (P)), none, none]) (st' := [aI (P), aI (P)]) (σ' := M) rq_171 rfl True.intro (i' := 6) rfl ?_
  refine wp_icmp rq_171 rfl (fun _ => ?_) (fun (h1 : ¬ ((P) ≤ (P))) => absurd (show (P) ≤ (P) from Int.le_refl P) h1)
  refine wp_seg 22 (P := some ((0 ≤ (wr ((wr ((30) + (wr ((8) * (f))))) + (7))) ∧ (wr ((wr ((30) + (wr ((8) * (f))))) + (7))) < rowLen (186)) ∧ (0 ≤ (wr ((wr ((30) + (wr ((8) * (f))))) + (6))) ∧ (wr ((wr ((30) + (wr ((8) * (f))))) + (6))) < rowLen (186)))) (ls' := [some (aR 11 (0)), some (aI (f)), some (aI (r)), some (aI (P)), some (aI (b)), some (aI (P)), none, none]) (st' := []) (σ' := (up (up M 13 (186) (wr ((wr ((30) + (wr ((8) * (f))))) + (7))) (r)) 13 (186) (wr ((wr ((30) + (wr ((8) * (f))))) + (6))) (b))) rq_171 rfl ?_ (i' := 75) rfl ?_
  · show (0 ≤ (wr ((wr ((30) + (wr ((8) * (f))))) + (7))) ∧ (wr ((wr ((30) + (wr ((8) * (f))))) + (7))) < rowLen (186)) ∧ (0 ≤ (wr ((wr ((30) + (wr ((8) * (f))))) + (6))) ∧ (wr ((wr ((30) + (wr ((8) * (f))))) + (6))) < rowLen (186))
    ((have h9 : rowLen 186 = 3330 := rfl); first | (rw [w7]; exact ⟨by omega, by omega⟩) | (rw [w6]; exact ⟨by omega, by omega⟩))
  refine wp_vret rq_171 rfl rt_171 ⟨?_, ?_⟩
  · rfl
  · (show (up (up M 13 (186) (wr ((wr ((30) + (wr ((8) * (f))))) + (7))) (r)) 13 (186) (wr ((wr ((30) + (wr ((8) * (f))))) + (6))) (b)) = _; rw [w6, w7])
theorem gp_0 (Q : Out → Mem → Prop) (h : wp true 171 4 [some (aR 11 (0)), some (aI (f)), some (aI (r)), some (aI (P)), some (aI (-1)), some (aI (0)), none, none] [] M 0 0 Q) : wp true 171 0 [some (aR 11 (0)), some (aI (f)), some (aI (r)), some (aI (P)), none, none, none, none] [] M 0 0 Q := by
  refine wp_seg 4 (P := none) (ls' := [some (aR 11 (0)), some (aI (f)), some (aI (r)), some (aI (P)), some (aI (-1)), some (aI (0)), none, none]) (st' := []) (σ' := M) rq_171 rfl True.intro (i' := 4) rfl ?_
  exact h
theorem gp_lp (hf : 0 ≤ f ∧ f < 24) (hF : 0 ≤ M 13 186 1 ∧ M 13 186 1 ≤ 24) (hP : 0 ≤ P ∧ P ≤ 6) : ∀ (u k : Nat), (k : Int) + u = P → wp true 171 4 [some (aR 11 (0)), some (aI (f)), some (aI (r)), some (aI (P)), some (aI ((chB (mSz M) (mCc M (mof M f 0)) r P k))), some (aI ((k : Int))), none, none] [] M 0 0 (fun o' s' => o' = .inl none ∧ s' = up (up M 13 186 (30 + 8 * f + 7) r) 13 186 (30 + 8 * f + 6) (chB (mSz M) (mCc M (mof M f 0)) r P P.toNat)) := by
  intro u
  induction u with
  | zero =>
    intro k e
    have e1 : k = P.toNat := by omega
    have e2 : (k : Int) = P := by omega
    rw [← e1, e2]
    exact gp_x hf
  | succ u ih =>
    intro k e
    have h := ih (k + 1) (by omega)
    have e3 : chB (mSz M) (mCc M (mof M f 0)) r P (k + 1) = if mSz M (pkP r P k) = r then (if chB (mSz M) (mCc M (mof M f 0)) r P k < 0 then pkP r P k else if mCc M (mof M f 0) (pkP r P k) < mCc M (mof M f 0) (chB (mSz M) (mCc M (mof M f 0)) r P k) then pkP r P k else chB (mSz M) (mCc M (mof M f 0)) r P k) else chB (mSz M) (mCc M (mof M f 0)) r P k := rfl
    rw [e3, show ((k + 1 : Nat) : Int) = (k : Int) + 1 by omega] at h
    by_cases hr : (r : Int).tmod 2 = 0
    · rw [show pkP r P k = k from if_pos hr] at h
      exact gp_e hf hF hP (by omega) hr _ h
    · rw [show pkP r P k = P - 1 - k from if_neg hr] at h
      exact gp_o hf hF hP (by omega) hr (by rw [wr_eq (z := P - 1) (by omega) (by omega), wr_eq (by omega) (by omega)]) _ h
theorem ev_mgoes (hf : 0 ≤ f ∧ f < 24) (hF : 0 ≤ M 13 186 1 ∧ M 13 186 1 ≤ 24) (hP : 0 ≤ P ∧ P ≤ 6) : Ev true 171 [aR 11 0, aI f, aI r, aI P] M (.inl none) (up (up M 13 186 (30 + 8 * f + 7) r) 13 186 (30 + 8 * f + 6) (chB (mSz M) (mCc M (mof M f 0)) r P P.toNat)) := gp_0 _ (gp_lp hf hF hP P.toNat 0 (by omega))
end Choose

