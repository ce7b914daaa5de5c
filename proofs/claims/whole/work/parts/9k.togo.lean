/-! How many bouts are still to be won: the methods. -/
def rN (r : Int) : Int := if r < 2 then 0 else if r < 4 then 1 else if r < 8 then 2 else if r < 16 then 3 else if r < 32 then 4 else 5
def isP (f : Int) (σ : Mem) (i : Int) : Bool := decide (zo_fencerWith 0 (i + 1) σ = f)
def zo_isStillIn (f : Int) (σ : Mem) : Int := if fnd (isP f σ) 0 (σ 9 0 1) = -1 then 0 else if rget σ 16 f = 1 then 1 else 0
def bwP (f : Int) (σ : Mem) (b : Int) : Bool := if zo_isWith 0 b f σ = 0 then false else if zo_isOpen 0 b σ = 0 then false else true
def zo_boutsToWin (f : Int) (σ : Mem) : Int := if fnd (bwP f σ) (σ 0 0 1) (σ 0 0 0) = -1 then 0 else rN (zo_round 0 (fnd (bwP f σ) (σ 0 0 1) (σ 0 0 0)) σ)
section ToGo
variable {f r b n z : Int} {σ M : Mem}
theorem ev_roundsFrom (r : Int) (σ : Mem) (hr : r = 2 ∨ r = 4 ∨ r = 8 ∨ r = 16 ∨ r = 32) : Ev true 41 [aI (r)] σ (.inl (some (aI (rN r)))) σ := by
  show wp true 41 0 [some (aI (r)), none, none] [] σ 0 0 _
  refine wp_seg 4 (P := none) (ls' := [some (aI (r)), some (aI (0)), some (aI (r))]) (st' := []) (σ' := σ) rq_41 rfl True.intro (i' := 4) rfl ?_
  refine lr_roundsFrom r σ _ 6 0 r ?_
  rcases hr with rfl | rfl | rfl | rfl | rfl
  all_goals rfl
theorem rs_isStillIn (hn : σ 9 0 1 ≤ 24) : ∀ (m : Nat) (i : Int), 0 ≤ i → (σ 9 0 1 - i).toNat = m → rs (fr_isStillIn 0 f σ) (m + 1) (i + 1) = some (.inl (some (aI (if fnd (isP f σ) i (σ 9 0 1) = -1 then 0 else if rget σ 16 f = 1 then 1 else 0)))) := by
  intro m
  induction m with
  | zero =>
    intro i i0 e
    rw [rs_s]
    have eF : fr_isStillIn 0 f σ (i + 1) = .inr (.inl (some (aI 0))) := by
      simp only [fr_isStillIn]
      rw [if_pos (by omega)]
    rw [eF, fnd_end (by omega), if_pos rfl]
  | succ m ih =>
    intro i i0 e
    rw [rs_s]
    by_cases q : zo_fencerWith 0 (i + 1) σ = f
    · have ep : isP f σ i = true := decide_eq_true q
      rw [fnd_y (by omega) ep, if_neg (by omega)]
      by_cases q2 : rget σ 16 f = 1
      · have eF : fr_isStillIn 0 f σ (i + 1) = .inr (.inl (some (aI 1))) := by
          simp only [fr_isStillIn]
          rw [if_neg (by omega), if_neg (fun z => z q), show (18 * 0 + 16 : Int) = 16 from rfl, if_neg (fun z => z q2)]
        rw [eF, if_pos q2]
      · have eF : fr_isStillIn 0 f σ (i + 1) = .inr (.inl (some (aI 0))) := by
          simp only [fr_isStillIn]
          rw [if_neg (by omega), if_neg (fun z => z q), show (18 * 0 + 16 : Int) = 16 from rfl, if_pos q2]
        rw [eF, if_neg q2]
    · have ep : ¬ isP f σ i = true := fun z => q (of_decide_eq_true z)
      have eF : fr_isStillIn 0 f σ (i + 1) = .inl (i + 1 + 1) := by
        simp only [fr_isStillIn]
        rw [if_neg (by omega), if_pos q, wr_eq (by omega) (by omega)]
      rw [eF, fnd_n (by omega) ep]
      exact ih (i + 1) (by omega) (by omega)
theorem ev_isStillIn (f : Int) (σ : Mem) (hn : σ 9 0 1 ≤ 24) : Ev true 101 [aR 9 (0), aI (f)] σ (.inl (some (aI (zo_isStillIn f σ)))) σ := by
  show wp true 101 0 [some (aR 9 (0)), some (aI (f)), none] [] σ 0 0 _
  refine wp_seg 2 (P := none) (ls' := [some (aR 9 (0)), some (aI (f)), some (aI (1))]) (st' := []) (σ' := σ) rq_101 rfl True.intro (i' := 2) rfl ?_
  have h := rs_isStillIn (f := f) hn (σ 9 0 1 - 0).toNat 0 (by decide) rfl
  exact lr_isStillIn 0 f σ _ _ 1 h

theorem lp_boutsToWin (f : Int) (σ : Mem) (h0 : 0 ≤ σ 0 0 1) (h1 : σ 0 0 0 ≤ 307) (hr : ∀ b, σ 0 0 1 ≤ b → b < σ 0 0 0 → zo_round 0 b σ = 2 ∨ zo_round 0 b σ = 4 ∨ zo_round 0 b σ = 8 ∨ zo_round 0 b σ = 16 ∨ zo_round 0 b σ = 32) : ∀ (m : Nat) (i : Int), σ 0 0 1 ≤ i → (σ 0 0 0 - i).toNat < m → wp true 40 4 [some (aR 2 (0)), some (aI (f)), some (aI (i))] [] σ 0 0 (fun o' σ2 => o' = .inl (some (aI (if fnd (bwP f σ) i (σ 0 0 0) = -1 then 0 else rN (zo_round 0 (fnd (bwP f σ) i (σ 0 0 0)) σ)))) ∧ σ2 = σ) := by
  intro m
  induction m with
  | zero =>
    intro i i0 hm
    omega
  | succ m ih =>
    intro i i0 hm
    refine wp_seg 4 (P := none) (ls' := [some (aR 2 (0)), some (aI (f)), some (aI (i))]) (st' := [aI (σ 0 (0) 0), aI (i)]) (σ' := σ) rq_40 rfl True.intro (i' := 8) rfl ?_
    refine wp_icmp rq_40 rfl (fun (h1 : (σ 0 (0) 0) ≤ (i)) => ?_) (fun (h1 : ¬ ((σ 0 (0) 0) ≤ (i))) => ?_)
    · refine wp_seg 1 (P := none) (ls' := [some (aR 2 (0)), some (aI (f)), some (aI (i))]) (st' := [aI (0)]) (σ' := σ) rq_40 rfl True.intro (i' := 29) rfl ?_
      refine wp_iret rq_40 rfl rt_40 ⟨?_, ?_⟩
      · show (Sum.inl (some (aI 0)) : Out) = _
        rw [fnd_end (by omega), if_pos rfl]
      · rfl
    · refine wp_seg 4 (P := none) (ls' := [some (aR 2 (0)), some (aI (f)), some (aI (i))]) (st' := [aI (f), aI (i), aR 0 (0)]) (σ' := σ) rq_40 rfl True.intro (i' := 13) rfl ?_
      refine wp_call (C := 0) (As := [aR 0 (0), aI (i), aI (f)]) (rest := []) rq_40 (ev_isWith (0) (i) (f) σ ) rfl rfl (show clOK 40 7 0 0 0 3 0 = true by decide +kernel) rfl (show 0 ≤ 4 by decide) (fun _ => ⟨_, rfl⟩) rfl (c' := 0) (s' := 0) rfl rfl ?_
      refine wp_if rq_40 rfl (fun (h2 : (zo_isWith (0) (i) (f) σ) = 0) => ?_) (fun (h2 : ¬ ((zo_isWith (0) (i) (f) σ) = 0)) => ?_)
      · refine wp_seg 1 (P := none) (ls' := [some (aR 2 (0)), some (aI (f)), some (aI (wr (i + 1)))]) (st' := []) (σ' := σ) rq_40 rfl True.intro (i' := 27) rfl ?_
        refine wp_goto rq_40 rfl ?_
        have ep : ¬ bwP f σ i = true := by (unfold bwP; rw [if_pos h2]; decide)
        rw [wr_eq (z := i + 1) (by omega) (by omega), fnd_n (by omega) ep]
        exact ih (i + 1) (by omega) (by omega)
      · refine wp_seg 3 (P := none) (ls' := [some (aR 2 (0)), some (aI (f)), some (aI (i))]) (st' := [aI (i), aR 0 (0)]) (σ' := σ) rq_40 rfl True.intro (i' := 18) rfl ?_
        refine wp_call (C := 0) (As := [aR 0 (0), aI (i)]) (rest := []) rq_40 (ev_isOpen (0) (i) σ ) rfl rfl (show clOK 40 9 0 0 0 2 0 = true by decide +kernel) rfl (show 0 ≤ 4 by decide) (fun _ => ⟨_, rfl⟩) rfl (c' := 0) (s' := 0) rfl rfl ?_
        refine wp_if rq_40 rfl (fun (h3 : (zo_isOpen (0) (i) σ) = 0) => ?_) (fun (h3 : ¬ ((zo_isOpen (0) (i) σ) = 0)) => ?_)
        · refine wp_seg 1 (P := none) (ls' := [some (aR 2 (0)), some (aI (f)), some (aI (wr (i + 1)))]) (st' := []) (σ' := σ) rq_40 rfl True.intro (i' := 27) rfl ?_
          refine wp_goto rq_40 rfl ?_
          have ep : ¬ bwP f σ i = true := by (unfold bwP; rw [if_neg h2, if_pos h3]; decide)
          rw [wr_eq (z := i + 1) (by omega) (by omega), fnd_n (by omega) ep]
          exact ih (i + 1) (by omega) (by omega)
        · refine wp_seg 3 (P := none) (ls' := [some (aR 2 (0)), some (aI (f)), some (aI (i))]) (st' := [aI (i), aR 0 (0)]) (σ' := σ) rq_40 rfl True.intro (i' := 23) rfl ?_
          refine wp_call (C := 0) (As := [aR 0 (0), aI (i)]) (rest := []) rq_40 (ev_round (0) (i) σ ) rfl rfl (show clOK 40 11 0 0 0 2 0 = true by decide +kernel) rfl (show 0 ≤ 4 by decide) (fun _ => ⟨_, rfl⟩) rfl (c' := 0) (s' := 0) rfl rfl ?_
          refine wp_call (C := 0) (As := [aI (zo_round (0) (i) σ)]) (rest := []) rq_40 (ev_roundsFrom (zo_round (0) (i) σ) σ (by exact hr i (by omega) (by omega))) rfl rfl (show clOK 40 41 2 0 0 1 0 = true by decide +kernel) rfl (show 0 ≤ 4 by decide) (fun h => absurd rfl h) rfl (c' := 0) (s' := 0) rfl rfl ?_
          refine wp_iret rq_40 rfl rt_40 ⟨?_, ?_⟩
          · show (Sum.inl (some (aI (rN (zo_round 0 i σ)))) : Out) = _
            rw [fnd_y (by omega) (by unfold bwP; rw [if_neg h2, if_neg h3]), if_neg (by omega)]
          · rfl
theorem ev_boutsToWin (f : Int) (σ : Mem) (h0 : 0 ≤ σ 0 0 1) (h1 : σ 0 0 0 ≤ 307) (hr : ∀ b, σ 0 0 1 ≤ b → b < σ 0 0 0 → zo_round 0 b σ = 2 ∨ zo_round 0 b σ = 4 ∨ zo_round 0 b σ = 8 ∨ zo_round 0 b σ = 16 ∨ zo_round 0 b σ = 32) : Ev true 40 [aR 2 (0), aI (f)] σ (.inl (some (aI (zo_boutsToWin f σ)))) σ := by
  show wp true 40 0 [some (aR 2 (0)), some (aI (f)), none] [] σ 0 0 _
  refine wp_seg 4 (P := none) (ls' := [some (aR 2 (0)), some (aI (f)), some (aI (σ 0 (0) 1))]) (st' := []) (σ' := σ) rq_40 rfl True.intro (i' := 4) rfl ?_
  exact lp_boutsToWin f σ h0 h1 hr ((σ 0 0 0 - σ 0 0 1).toNat + 1) (σ 0 0 1) (Int.le_refl _) (by omega)
def zo_xtoGo (f : Int) (σ : Mem) : Out := if (f) < 0 ∨ σ 6 0 0 ≤ (f) then .inr 2 else if σ 9 0 0 = 0 then .inr 1 else if ¬ (zo_isStillIn (f) σ) = 0 then .inl (some (aI (zo_boutsToWin (f) σ))) else .inr 3
theorem ev_xtoGo (f : Int) (σ : Mem) (hn : σ 9 0 1 ≤ 24) (hb0 : 0 ≤ σ 0 0 1) (hb1 : σ 0 0 0 ≤ 307) (hbr : ¬ σ 9 0 0 = 0 → ∀ b, σ 0 0 1 ≤ b → b < σ 0 0 0 → zo_round 0 b σ = 2 ∨ zo_round 0 b σ = 4 ∨ zo_round 0 b σ = 8 ∨ zo_round 0 b σ = 16 ∨ zo_round 0 b σ = 32) : Ev true 131 [aR 10 (0), aI (f)] σ (zo_xtoGo f σ) (σ) := by
  show wp true 131 0 [some (aR 10 (0)), some (aI (f))] [] σ 0 0 _
  refine wp_seg 2 (P := none) (ls' := [some (aR 10 (0)), some (aI (f))]) (st' := [aI (f), aR 10 (0)]) (σ' := σ) rq_131 rfl True.intro (i' := 2) rfl ?_
  by_cases h1 : (f) < 0 ∨ σ 6 0 0 ≤ (f)
  · refine wp_callX (C := 10) (As := [aR 10 (0), aI (f)]) (rest := []) rq_131 (ev_checkFencer_x (f) σ h1) rfl rfl (show clOK 131 144 0 0 0 2 10 = true by decide +kernel) rfl (show 0 ≤ 4 by decide) (fun _ => ⟨_, rfl⟩) rfl (hcat_lt (by decide)) ⟨?_, ?_⟩
    · (rw [zo_xtoGo, if_pos h1]; try rfl)
    · rfl
  refine wp_call (C := 10) (As := [aR 10 (0), aI (f)]) (rest := []) rq_131 (ev_checkFencer_n (f) σ h1) rfl rfl (show clOK 131 144 0 0 0 2 10 = true by decide +kernel) rfl (show 0 ≤ 4 by decide) (fun _ => ⟨_, rfl⟩) rfl (c' := 1) (s' := 6) rfl rfl ?_
  refine wp_seg 1 (P := none) (ls' := [some (aR 10 (0)), some (aI (f))]) (st' := [aR 10 (0)]) (σ' := σ) rq_131 rfl True.intro (i' := 4) rfl ?_
  by_cases h2 : σ 9 0 0 = 0
  · refine wp_callX (C := 10) (As := [aR 10 (0)]) (rest := []) rq_131 (ev_checkTable_x  σ h2) rfl rfl (show clOK 131 148 0 1 6 1 10 = true by decide +kernel) rfl (show 0 ≤ 4 by decide) (fun _ => ⟨_, rfl⟩) rfl (hcat_lt (by decide)) ⟨?_, ?_⟩
    · (rw [zo_xtoGo, if_neg h1, if_pos h2]; try rfl)
    · rfl
  refine wp_call (C := 10) (As := [aR 10 (0)]) (rest := []) rq_131 (ev_checkTable_n σ h2) rfl rfl (show clOK 131 148 0 1 6 1 10 = true by decide +kernel) rfl (show 0 ≤ 4 by decide) (fun _ => ⟨_, rfl⟩) rfl (c' := 2) (s' := 12) rfl rfl ?_
  refine wp_seg 4 (P := none) (ls' := [some (aR 10 (0)), some (aI (f))]) (st' := [aI (f), aR 9 (0)]) (σ' := σ) rq_131 rfl True.intro (i' := 9) rfl ?_
  refine wp_call (C := 9) (As := [aR 9 (0), aI (f)]) (rest := []) rq_131 (ev_isStillIn (f) σ hn) rfl rfl (show clOK 131 101 0 2 12 2 9 = true by decide +kernel) rfl (show 0 ≤ 4 by decide) (fun _ => ⟨_, rfl⟩) rfl (c' := 2) (s' := 12) rfl rfl ?_
  refine wp_if rq_131 rfl (fun (h3 : ¬ (zo_isStillIn (f) σ) = 0) => ?_) (fun (h3 : ¬ (¬ (zo_isStillIn (f) σ) = 0)) => ?_)
  · refine wp_seg 3 (P := none) (ls' := [some (aR 10 (0)), some (aI (f))]) (st' := [aI (f), aR 2 (0)]) (σ' := σ) rq_131 rfl True.intro (i' := 19) rfl ?_
    refine wp_call (C := 2) (As := [aR 2 (0), aI (f)]) (rest := []) rq_131 (ev_boutsToWin (f) σ (by exact hb0) (by exact hb1) (by exact hbr (by omega))) rfl rfl (show clOK 131 40 0 2 12 2 2 = true by decide +kernel) rfl (show 0 ≤ 4 by decide) (fun _ => ⟨_, rfl⟩) rfl (c' := 2) (s' := 12) rfl rfl ?_
    refine wp_iret rq_131 rfl rt_131 ⟨?_, ?_⟩
    · (rw [zo_xtoGo, if_neg h1, if_neg h2, if_pos h3]; try rfl)
    · rfl
  · refine wp_throw rq_131 rfl (hcat_lt (by decide)) (show 0 ≤ 4 by decide) (by decide +kernel) (by decide +kernel) (by decide +kernel) ⟨?_, ?_⟩
    · (rw [zo_xtoGo, if_neg h1, if_neg h2, if_neg h3]; try rfl)
    · rfl

end ToGo
def lsR (f : Int) (σ : Mem) : Nat → Nat → Int → Int
  | 0, _, a => a
  | m + 1, k, a => lsR f σ m (k + 1) (if a = 0 then 0 else if zo_mlostIn (2 ^ k) f σ = 0 then 1 else 0)
def sdP (f : Int) (M : Mem) (i : Int) : Bool := decide (M 13 186 (222 + i) = f)
def wnP (f : Int) (M : Mem) (B i : Int) : Bool := if 0 ≤ mat M (B + i) 5 then decide (mat M (B + i) (mat M (B + i) 5) = f) else false
theorem p2u (m : Nat) (h : m < 6) : (2 : Int) ^ m ≤ 32 ∧ 1 ≤ (2 : Int) ^ m := by
  have : m = 0 ∨ m = 1 ∨ m = 2 ∨ m = 3 ∨ m = 4 ∨ m = 5 := by omega
  rcases this with rfl | rfl | rfl | rfl | rfl | rfl
  all_goals decide
theorem p2p (m : Nat) : 1 ≤ (2 : Int) ^ m := by
  induction m with
  | zero => decide
  | succ m ih =>
    have : (2 : Int) ^ (m + 1) = 2 ^ m * 2 := Int.pow_succ 2 m
    omega
theorem p2le (q : Nat) : ∀ K : Nat, q ≤ K → (2 : Int) ^ q ≤ 2 ^ K := by
  intro K
  induction K with
  | zero => intro h; rw [show q = 0 by omega]; exact Int.le_refl _
  | succ K ih =>
    intro h
    have h2 : (2 : Int) ^ (K + 1) = 2 ^ K * 2 := Int.pow_succ 2 K
    by_cases e : q = K + 1
    · rw [e]; exact Int.le_refl _
    · have := ih (by omega)
      have := p2p K
      omega
section ToGoM
variable {f r b n z B : Int} {σ M : Mem}
theorem lsR_0 : ∀ (m k : Nat), lsR f σ m k 0 = 0 := by
  intro m
  induction m with
  | zero => intro k; rfl
  | succ m ih => intro k; show lsR f σ m (k + 1) (if (0 : Int) = 0 then 0 else _) = 0; rw [if_pos rfl]; exact ih (k + 1)
theorem lsR_1 : ∀ (m k : Nat), (∀ j, j < m → zo_mlostIn (2 ^ (k + j)) f σ = 0) → lsR f σ m k 1 = 1 := by
  intro m
  induction m with
  | zero => intro k _; rfl
  | succ m ih =>
    intro k h
    show lsR f σ m (k + 1) (if (1 : Int) = 0 then 0 else if zo_mlostIn (2 ^ k) f σ = 0 then 1 else 0) = 1
    have h00 := h 0 (by omega)
    rw [Nat.add_zero] at h00
    rw [if_neg (by decide), if_pos h00]
    exact ih (k + 1) (fun j hj => by rw [show k + 1 + j = k + (j + 1) by omega]; exact h (j + 1) (by omega))
theorem lsR_n : ∀ (m k : Nat), (∃ j, j < m ∧ zo_mlostIn (2 ^ (k + j)) f σ ≠ 0) → lsR f σ m k 1 = 0 := by
  intro m
  induction m with
  | zero => rintro k ⟨j, hj, -⟩; omega
  | succ m ih =>
    rintro k ⟨j, hj, h⟩
    show lsR f σ m (k + 1) (if (1 : Int) = 0 then 0 else if zo_mlostIn (2 ^ k) f σ = 0 then 1 else 0) = 0
    rw [if_neg (by decide)]
    by_cases q : zo_mlostIn (2 ^ k) f σ = 0
    · rw [if_pos q]
      cases j with
      | zero => exact absurd q h
      | succ j => exact ih (k + 1) ⟨j, by omega, by rw [show k + 1 + j = k + (j + 1) by omega]; exact h⟩
    · rw [if_neg q]; exact lsR_0 m (k + 1)

theorem tg_1 (h8 : M 13 186 8 = n) (hn : 0 ≤ n ∧ n ≤ 24) (Q : Out → Mem → Prop) : ∀ (u : Nat) (i a : Int), (a = 0 ∨ a = 1) → 0 ≤ i → i + u = n → wp true 224 47 [some (aR 11 (0)), some (aI (f)), some (aI ((if a = 0 then (if fnd (sdP f M) i n = -1 then 0 else 1) else 1))), some (aI (n)), none] [] M 0 0 Q → wp true 224 25 [some (aR 11 (0)), some (aI (f)), some (aI (a)), some (aI (i)), none] [] M 0 0 Q := by
  intro u
  induction u with
  | zero =>
    intro i a ha i0 e hq
    have e9 : i = n := by omega
    refine wp_seg 5 (P := some (0 ≤ (8) ∧ (8) < alen M 13 (186))) (ls' := [some (aR 11 (0)), some (aI (f)), some (aI (a)), some (aI (i)), none]) (st' := [aI (M 13 (186) (8)), aI (i)]) (σ' := M) rq_224 rfl ?_ (i' := 30) rfl ?_
    · show 0 ≤ (8) ∧ (8) < alen M 13 (186)
      (first | decide | exact Or.inl rfl | exact Or.inr rfl | ((try simp only [al_g, al_k, al_p, al_c, al_r, al_t, al_o, rl_g, rl_k, rl_p, rl_c, rl_r, rl_t, rl_o]); (try simp (disch := omega) only [wr_eq]); omega))
    refine wp_icmp rq_224 rfl (fun _ => ?_) (fun (h1 : ¬ ((M 13 (186) (8)) ≤ (i))) => absurd (show (M 13 (186) (8)) ≤ (i) from by omega) h1)
    rw [e9]; rw [fnd_end (by omega)] at hq; rcases ha with rfl | rfl; (rw [if_pos rfl, if_pos rfl] at hq; exact hq); (rw [if_neg (by decide)] at hq; exact hq)
  | succ u ih =>
    intro i a ha i0 e hq
    refine wp_seg 5 (P := some (0 ≤ (8) ∧ (8) < alen M 13 (186))) (ls' := [some (aR 11 (0)), some (aI (f)), some (aI (a)), some (aI (i)), none]) (st' := [aI (M 13 (186) (8)), aI (i)]) (σ' := M) rq_224 rfl ?_ (i' := 30) rfl ?_
    · show 0 ≤ (8) ∧ (8) < alen M 13 (186)
      (first | decide | exact Or.inl rfl | exact Or.inr rfl | ((try simp only [al_g, al_k, al_p, al_c, al_r, al_t, al_o, rl_g, rl_k, rl_p, rl_c, rl_r, rl_t, rl_o]); (try simp (disch := omega) only [wr_eq]); omega))
    refine wp_icmp rq_224 rfl (fun (h1 : (M 13 (186) (8)) ≤ (i)) => ?_) (fun (h1 : ¬ ((M 13 (186) (8)) ≤ (i))) => ?_)
    · exact absurd h1 (by omega)
    · refine wp_seg 1 (P := none) (ls' := [some (aR 11 (0)), some (aI (f)), some (aI (a)), some (aI (i)), none]) (st' := [aI (a)]) (σ' := M) rq_224 rfl True.intro (i' := 32) rfl ?_
      refine wp_if rq_224 rfl (fun (h2 : ¬ (a) = 0) => ?_) (fun (h2 : ¬ (¬ (a) = 0)) => ?_)
      · refine wp_seg 1 (P := none) (ls' := [some (aR 11 (0)), some (aI (f)), some (aI (a)), some (aI (i)), none]) (st' := [aI (1)]) (σ' := M) rq_224 rfl True.intro (i' := 42) rfl ?_
        refine wp_goto rq_224 rfl ?_
        refine wp_seg 2 (P := none) (ls' := [some (aR 11 (0)), some (aI (f)), some (aI (1)), some (aI (wr (i + 1))), none]) (st' := []) (σ' := M) rq_224 rfl True.intro (i' := 46) rfl ?_
        refine wp_goto rq_224 rfl ?_
        rw [wr_eq (z := i + 1) (by omega) (by omega)]
        have h9 := ih (i + 1) 1 (Or.inr rfl) (by omega) (by omega)
        exact h9 (by rw [if_neg (by decide)]; rw [if_neg (by omega)] at hq; exact hq)
      · refine wp_seg 7 (P := some (0 ≤ (wr ((222) + (i))) ∧ (wr ((222) + (i))) < alen M 13 (186))) (ls' := [some (aR 11 (0)), some (aI (f)), some (aI (a)), some (aI (i)), none]) (st' := [aI (f), aI (M 13 (186) (wr ((222) + (i))))]) (σ' := M) rq_224 rfl ?_ (i' := 40) rfl ?_
        · show 0 ≤ (wr ((222) + (i))) ∧ (wr ((222) + (i))) < alen M 13 (186)
          (first | decide | exact Or.inl rfl | exact Or.inr rfl | ((try simp only [al_g, al_k, al_p, al_c, al_r, al_t, al_o, rl_g, rl_k, rl_p, rl_c, rl_r, rl_t, rl_o]); (try simp (disch := omega) only [wr_eq]); omega))
        refine wp_icmp rq_224 rfl (fun (h3 : ¬ (M 13 (186) (wr ((222) + (i)))) = (f)) => ?_) (fun (h3 : ¬ (¬ (M 13 (186) (wr ((222) + (i)))) = (f))) => ?_)
        · refine wp_seg 3 (P := none) (ls' := [some (aR 11 (0)), some (aI (f)), some (aI (0)), some (aI (wr (i + 1))), none]) (st' := []) (σ' := M) rq_224 rfl True.intro (i' := 46) rfl ?_
          refine wp_goto rq_224 rfl ?_
          rw [wr_eq (z := i + 1) (by omega) (by omega)]
          have w2 : wr (222 + i) = 222 + i := wr_eq (by omega) (by omega)
          have ep : ¬ sdP f M i = true := fun z8 => by (have z9 := h3; rw [w2] at z9; exact z9 (of_decide_eq_true z8))
          refine ih (i + 1) 0 (Or.inl rfl) (by omega) (by omega) ?_
          rw [if_pos rfl]; rw [if_pos (by omega), fnd_n (by omega) ep] at hq; exact hq
        · refine wp_seg 1 (P := none) (ls' := [some (aR 11 (0)), some (aI (f)), some (aI (a)), some (aI (i)), none]) (st' := [aI (1)]) (σ' := M) rq_224 rfl True.intro (i' := 42) rfl ?_
          refine wp_goto rq_224 rfl ?_
          refine wp_seg 2 (P := none) (ls' := [some (aR 11 (0)), some (aI (f)), some (aI (1)), some (aI (wr (i + 1))), none]) (st' := []) (σ' := M) rq_224 rfl True.intro (i' := 46) rfl ?_
          refine wp_goto rq_224 rfl ?_
          rw [wr_eq (z := i + 1) (by omega) (by omega)]
          have w2 : wr (222 + i) = 222 + i := wr_eq (by omega) (by omega)
          have ep : sdP f M i = true := decide_eq_true (by have z9 := h3; rw [w2] at z9; omega)
          refine ih (i + 1) 1 (Or.inr rfl) (by omega) (by omega) ?_
          rw [if_neg (by decide)]; rw [if_pos (by omega), fnd_y (by omega) ep, if_neg (by omega)] at hq; exact hq

theorem tg_2 {K9 : Nat} (h4 : M 13 186 4 = 2 ^ K9) (hK : K9 < 6) (hlo : ∀ q, 1 ≤ q → q ≤ K9 → Ev true 223 [aR 11 0, aI ((2 : Int) ^ q), aI f] M (.inl (some (aI (zo_mlostIn ((2 : Int) ^ q) f M)))) M) (Q : Out → Mem → Prop) : ∀ (u q : Nat) (c a : Int), (0 ≤ c ∧ c ≤ 100 + q) → 1 ≤ q → q + u = K9 + 1 → wp true 224 74 [some (aR 11 (0)), some (aI (f)), some (aI ((lsR f M u q a))), some (aI ((c + u))), some (aI ((2 : Int) ^ (q + u)))] [] M 0 0 Q → wp true 224 51 [some (aR 11 (0)), some (aI (f)), some (aI (a)), some (aI (c)), some (aI ((2 : Int) ^ q))] [] M 0 0 Q := by
  intro u
  induction u with
  | zero =>
    intro q c a hc q1 e hq
    have e9 : q = K9 + 1 := by omega
    rw [show ((0 : Nat) : Int) = 0 from rfl, Int.add_zero, show q + 0 = q from rfl] at hq
    have hp := p2u K9 hK
    have hr2 : (2 : Int) ^ q = 2 ^ K9 * 2 := by rw [e9]; exact Int.pow_succ 2 K9
    have hq' : wp true 224 74 [some (aR 11 (0)), some (aI (f)), some (aI (a)), some (aI (c)), some (aI ((2 : Int) ^ q))] [] M 0 0 Q := hq
    clear hq
    have hq := hq'
    generalize (2 : Int) ^ q = r at hr2 hq ⊢
    generalize (2 : Int) ^ K9 = w at hr2 h4 hp
    refine wp_seg 5 (P := some (0 ≤ (4) ∧ (4) < alen M 13 (186))) (ls' := [some (aR 11 (0)), some (aI (f)), some (aI (a)), some (aI (c)), some (aI (r))]) (st' := [aI (M 13 (186) (4)), aI (r)]) (σ' := M) rq_224 rfl ?_ (i' := 56) rfl ?_
    · show 0 ≤ (4) ∧ (4) < alen M 13 (186)
      (first | decide | exact Or.inl rfl | exact Or.inr rfl | ((try simp only [al_g, al_k, al_p, al_c, al_r, al_t, al_o, rl_g, rl_k, rl_p, rl_c, rl_r, rl_t, rl_o]); (try simp (disch := omega) only [wr_eq]); omega))
    refine wp_icmp rq_224 rfl (fun _ => ?_) (fun (h1 : ¬ ((M 13 (186) (4)) < (r))) => absurd (show (M 13 (186) (4)) < (r) from by omega) h1)
    exact hq
  | succ u ih =>
    intro q c a hc q1 e hq
    have hi := ih (q + 1) (c + 1) (if a = 0 then 0 else if zo_mlostIn (2 ^ q) f M = 0 then 1 else 0) (by omega) (by omega) (by omega) (by
      rw [show c + 1 + (u : Int) = c + ((u + 1 : Nat) : Int) by omega, show q + 1 + u = q + (u + 1) by omega]
      exact hq)
    have hlo0 := hlo q q1 (by omega)
    have hp := p2u K9 hK
    have hl := p2le q K9 (by omega)
    have hr2 : (2 : Int) ^ (q + 1) = 2 ^ q * 2 := Int.pow_succ 2 q
    have hg1 := p2p q
    rw [hr2] at hi
    generalize hr : (2 : Int) ^ q = r at hi hlo0 hl hg1 ⊢
    generalize (2 : Int) ^ K9 = w at hl h4 hp
    refine wp_seg 5 (P := some (0 ≤ (4) ∧ (4) < alen M 13 (186))) (ls' := [some (aR 11 (0)), some (aI (f)), some (aI (a)), some (aI (c)), some (aI (r))]) (st' := [aI (M 13 (186) (4)), aI (r)]) (σ' := M) rq_224 rfl ?_ (i' := 56) rfl ?_
    · show 0 ≤ (4) ∧ (4) < alen M 13 (186)
      (first | decide | exact Or.inl rfl | exact Or.inr rfl | ((try simp only [al_g, al_k, al_p, al_c, al_r, al_t, al_o, rl_g, rl_k, rl_p, rl_c, rl_r, rl_t, rl_o]); (try simp (disch := omega) only [wr_eq]); omega))
    refine wp_icmp rq_224 rfl (fun (h1 : (M 13 (186) (4)) < (r)) => ?_) (fun (h1 : ¬ ((M 13 (186) (4)) < (r))) => ?_)
    · exact absurd h1 (by omega)
    · refine wp_seg 1 (P := none) (ls' := [some (aR 11 (0)), some (aI (f)), some (aI (a)), some (aI (c)), some (aI (r))]) (st' := [aI (a)]) (σ' := M) rq_224 rfl True.intro (i' := 58) rfl ?_
      refine wp_if rq_224 rfl (fun (h2 : (a) = 0) => ?_) (fun (h2 : ¬ ((a) = 0)) => ?_)
      · refine wp_seg 7 (P := none) (ls' := [some (aR 11 (0)), some (aI (f)), some (aI (0)), some (aI (wr (c + 1))), some (aI (wr ((r) * (2))))]) (st' := []) (σ' := M) rq_224 rfl True.intro (i' := 73) rfl ?_
        refine wp_goto rq_224 rfl ?_
        rw [wr_eq (z := c + 1) (by omega) (by omega), wr_eq (z := r * 2) (by omega) (by omega)]
        have ex : (if a = 0 then (0 : Int) else if zo_mlostIn r f M = 0 then 1 else 0) = 0 := if_pos (by omega)
        rw [ex] at hi
        exact hi
      · refine wp_seg 3 (P := none) (ls' := [some (aR 11 (0)), some (aI (f)), some (aI (a)), some (aI (c)), some (aI (r))]) (st' := [aI (f), aI (r), aR 11 (0)]) (σ' := M) rq_224 rfl True.intro (i' := 62) rfl ?_
        refine wp_call (C := 11) (As := [aR 11 (0), aI (r), aI (f)]) (rest := []) rq_224 (hlo0) rfl rfl (show clOK 224 223 0 0 0 3 11 = true by decide +kernel) rfl (show 0 ≤ 4 by decide) (fun _ => ⟨_, rfl⟩) rfl (c' := 0) (s' := 0) rfl rfl ?_
        refine wp_if rq_224 rfl (fun (h3 : ¬ (zo_mlostIn (r) (f) M) = 0) => ?_) (fun (h3 : ¬ (¬ (zo_mlostIn (r) (f) M) = 0)) => ?_)
        · refine wp_seg 7 (P := none) (ls' := [some (aR 11 (0)), some (aI (f)), some (aI (0)), some (aI (wr (c + 1))), some (aI (wr ((r) * (2))))]) (st' := []) (σ' := M) rq_224 rfl True.intro (i' := 73) rfl ?_
          refine wp_goto rq_224 rfl ?_
          rw [wr_eq (z := c + 1) (by omega) (by omega), wr_eq (z := r * 2) (by omega) (by omega)]
          have ex : (if a = 0 then (0 : Int) else if zo_mlostIn r f M = 0 then 1 else 0) = 0 := by (rw [if_neg (by omega), if_neg (by omega)])
          rw [ex] at hi
          exact hi
        · refine wp_seg 1 (P := none) (ls' := [some (aR 11 (0)), some (aI (f)), some (aI (a)), some (aI (c)), some (aI (r))]) (st' := [aI (1)]) (σ' := M) rq_224 rfl True.intro (i' := 65) rfl ?_
          refine wp_goto rq_224 rfl ?_
          refine wp_seg 6 (P := none) (ls' := [some (aR 11 (0)), some (aI (f)), some (aI (1)), some (aI (wr (c + 1))), some (aI (wr ((r) * (2))))]) (st' := []) (σ' := M) rq_224 rfl True.intro (i' := 73) rfl ?_
          refine wp_goto rq_224 rfl ?_
          rw [wr_eq (z := c + 1) (by omega) (by omega), wr_eq (z := r * 2) (by omega) (by omega)]
          have ex : (if a = 0 then (0 : Int) else if zo_mlostIn r f M = 0 then 1 else 0) = 1 := by (rw [if_neg (by omega), if_pos (by omega)])
          rw [ex] at hi
          exact hi

theorem tg_3 (a : Int) (h3 : M 13 186 3 = B + z - 1) (hB : 0 ≤ B ∧ B ≤ 276) (hz : 1 ≤ z ∧ z ≤ 32) (hw : ∀ i, 0 ≤ i → i < z - 1 → mat M (B + i) 5 ≤ 1) (c0 : Int) (hc0 : 0 ≤ c0 ∧ c0 ≤ 100) (Q : Out → Mem → Prop) (hq : wp true 224 107 [some (aR 11 (0)), some (aI (f)), some (aI (a)), some (aI ((c0 - cntP (wnP f M B) (z - 1)))), some (aI ((B + (z - 1))))] [] M 0 0 Q) : ∀ (u : Nat) (i c : Int), c = c0 - cntP (wnP f M B) i → 0 ≤ i → i + u = z - 1 → wp true 224 79 [some (aR 11 (0)), some (aI (f)), some (aI (a)), some (aI (c)), some (aI ((B + i)))] [] M 0 0 Q := by
  intro u
  induction u with
  | zero =>
    intro i c hc i0 e
    have e9 : i = z - 1 := by omega
    refine wp_seg 5 (P := some (0 ≤ (3) ∧ (3) < alen M 13 (186))) (ls' := [some (aR 11 (0)), some (aI (f)), some (aI (a)), some (aI (c)), some (aI ((B + i)))]) (st' := [aI (M 13 (186) (3)), aI ((B + i))]) (σ' := M) rq_224 rfl ?_ (i' := 84) rfl ?_
    · show 0 ≤ (3) ∧ (3) < alen M 13 (186)
      (first | decide | exact Or.inl rfl | exact Or.inr rfl | ((try simp only [al_g, al_k, al_p, al_c, al_r, al_t, al_o, rl_g, rl_k, rl_p, rl_c, rl_r, rl_t, rl_o]); (try simp (disch := omega) only [wr_eq]); omega))
    refine wp_icmp rq_224 rfl (fun _ => ?_) (fun (h1 : ¬ ((M 13 (186) (3)) ≤ ((B + i)))) => absurd (show (M 13 (186) (3)) ≤ ((B + i)) from by omega) h1)
    rw [hc, e9]; exact hq
  | succ u ih =>
    intro i c hc i0 e
    have hb3 : 0 ≤ B + i ∧ B + i < 307 := by omega
    have hw9 := hw i i0 (by omega)
    have hw5 : 0 ≤ mat M (B + i) 5 → 0 ≤ mat M (B + i) 5 ∧ mat M (B + i) 5 < 10 := fun z9 => by omega
    refine wp_seg 5 (P := some (0 ≤ (3) ∧ (3) < alen M 13 (186))) (ls' := [some (aR 11 (0)), some (aI (f)), some (aI (a)), some (aI (c)), some (aI ((B + i)))]) (st' := [aI (M 13 (186) (3)), aI ((B + i))]) (σ' := M) rq_224 rfl ?_ (i' := 84) rfl ?_
    · show 0 ≤ (3) ∧ (3) < alen M 13 (186)
      (first | decide | exact Or.inl rfl | exact Or.inr rfl | ((try simp only [al_g, al_k, al_p, al_c, al_r, al_t, al_o, rl_g, rl_k, rl_p, rl_c, rl_r, rl_t, rl_o]); (try simp (disch := omega) only [wr_eq]); omega))
    refine wp_icmp rq_224 rfl (fun (h1 : (M 13 (186) (3)) ≤ ((B + i))) => ?_) (fun (h1 : ¬ ((M 13 (186) (3)) ≤ ((B + i)))) => ?_)
    · exact absurd h1 (by omega)
    · refine wp_seg 4 (P := none) (ls' := [some (aR 11 (0)), some (aI (f)), some (aI (a)), some (aI (c)), some (aI ((B + i)))]) (st' := [aI (5), aI ((B + i)), aR 11 (0), aI (c)]) (σ' := M) rq_224 rfl True.intro (i' := 89) rfl ?_
      refine wp_call (C := 11) (As := [aR 11 (0), aI ((B + i)), aI (5)]) (rest := [aI (c)]) rq_224 (ev_mat ((B + i)) (5) M hb3 (by first | decide | (exact hw5 (by omega)))) rfl rfl (show clOK 224 158 0 0 0 3 11 = true by decide +kernel) rfl (show 1 ≤ 4 by decide) (fun _ => ⟨_, rfl⟩) rfl (c' := 0) (s' := 0) rfl rfl ?_
      refine wp_if rq_224 rfl (fun (h2 : (mat M ((B + i)) (5)) < 0) => ?_) (fun (h2 : ¬ ((mat M ((B + i)) (5)) < 0)) => ?_)
      · refine wp_seg 4 (P := none) (ls' := [some (aR 11 (0)), some (aI (f)), some (aI (a)), some (aI (wr ((c) - (0)))), some (aI (wr ((B + i) + 1)))]) (st' := []) (σ' := M) rq_224 rfl True.intro (i' := 106) rfl ?_
        refine wp_goto rq_224 rfl ?_
        have es := cntP_s (P := wnP f M B) i0
        have cb := cntP_b (P := wnP f M B) i0
        have ep : ¬ wnP f M B i = true := by (unfold wnP; rw [if_neg (show ¬ 0 ≤ mat M (B + i) 5 by omega)]; decide)
        rw [if_neg ep] at es
        have ev9 : wr ((c) - (0)) = c0 - cntP (wnP f M B) (i + 1) := by (rw [wr_eq (by omega) (by omega)]; omega)
        rw [ev9, wr_eq (z := B + i + 1) (by omega) (by omega), show B + i + 1 = B + (i + 1) by omega]
        exact ih (i + 1) _ rfl (by omega) (by omega)
      · refine wp_seg 5 (P := none) (ls' := [some (aR 11 (0)), some (aI (f)), some (aI (a)), some (aI (c)), some (aI ((B + i)))]) (st' := [aI (5), aI ((B + i)), aR 11 (0), aI ((B + i)), aR 11 (0), aI (c)]) (σ' := M) rq_224 rfl True.intro (i' := 96) rfl ?_
        refine wp_call (C := 11) (As := [aR 11 (0), aI ((B + i)), aI (5)]) (rest := [aI ((B + i)), aR 11 (0), aI (c)]) rq_224 (ev_mat ((B + i)) (5) M hb3 (by first | decide | (exact hw5 (by omega)))) rfl rfl (show clOK 224 158 0 0 0 3 11 = true by decide +kernel) rfl (show 3 ≤ 4 by decide) (fun _ => ⟨_, rfl⟩) rfl (c' := 0) (s' := 0) rfl rfl ?_
        refine wp_call (C := 11) (As := [aR 11 (0), aI ((B + i)), aI (mat M ((B + i)) (5))]) (rest := [aI (c)]) rq_224 (ev_mat ((B + i)) (mat M ((B + i)) (5)) M hb3 (by first | decide | (exact hw5 (by omega)))) rfl rfl (show clOK 224 158 0 0 0 3 11 = true by decide +kernel) rfl (show 1 ≤ 4 by decide) (fun _ => ⟨_, rfl⟩) rfl (c' := 0) (s' := 0) rfl rfl ?_
        refine wp_seg 1 (P := none) (ls' := [some (aR 11 (0)), some (aI (f)), some (aI (a)), some (aI (c)), some (aI ((B + i)))]) (st' := [aI (f), aI (mat M ((B + i)) (mat M ((B + i)) (5))), aI (c)]) (σ' := M) rq_224 rfl True.intro (i' := 99) rfl ?_
        refine wp_icmp rq_224 rfl (fun (h3 : ¬ (mat M ((B + i)) (mat M ((B + i)) (5))) = (f)) => ?_) (fun (h3 : ¬ (¬ (mat M ((B + i)) (mat M ((B + i)) (5))) = (f))) => ?_)
        · refine wp_seg 4 (P := none) (ls' := [some (aR 11 (0)), some (aI (f)), some (aI (a)), some (aI (wr ((c) - (0)))), some (aI (wr ((B + i) + 1)))]) (st' := []) (σ' := M) rq_224 rfl True.intro (i' := 106) rfl ?_
          refine wp_goto rq_224 rfl ?_
          have es := cntP_s (P := wnP f M B) i0
          have cb := cntP_b (P := wnP f M B) i0
          have ep : ¬ wnP f M B i = true := by (unfold wnP; rw [if_pos (show 0 ≤ mat M (B + i) 5 by omega)]; intro z8; exact h3 (of_decide_eq_true z8))
          rw [if_neg ep] at es
          have ev9 : wr ((c) - (0)) = c0 - cntP (wnP f M B) (i + 1) := by (rw [wr_eq (by omega) (by omega)]; omega)
          rw [ev9, wr_eq (z := B + i + 1) (by omega) (by omega), show B + i + 1 = B + (i + 1) by omega]
          exact ih (i + 1) _ rfl (by omega) (by omega)
        · refine wp_seg 1 (P := none) (ls' := [some (aR 11 (0)), some (aI (f)), some (aI (a)), some (aI (c)), some (aI ((B + i)))]) (st' := [aI (1), aI (c)]) (σ' := M) rq_224 rfl True.intro (i' := 101) rfl ?_
          refine wp_goto rq_224 rfl ?_
          refine wp_seg 3 (P := none) (ls' := [some (aR 11 (0)), some (aI (f)), some (aI (a)), some (aI (wr ((c) - (1)))), some (aI (wr ((B + i) + 1)))]) (st' := []) (σ' := M) rq_224 rfl True.intro (i' := 106) rfl ?_
          refine wp_goto rq_224 rfl ?_
          have es := cntP_s (P := wnP f M B) i0
          have cb := cntP_b (P := wnP f M B) i0
          have ep : wnP f M B i = true := by (unfold wnP; rw [if_pos (show 0 ≤ mat M (B + i) 5 by omega)]; exact decide_eq_true (by omega))
          rw [if_pos ep] at es
          have ev9 : wr ((c) - (1)) = c0 - cntP (wnP f M B) (i + 1) := by (rw [wr_eq (by omega) (by omega)]; omega)
          rw [ev9, wr_eq (z := B + i + 1) (by omega) (by omega), show B + i + 1 = B + (i + 1) by omega]
          exact ih (i + 1) _ rfl (by omega) (by omega)

theorem tg_n (f : Int) (σ : Mem) (hF : 0 ≤ σ 13 186 1 ∧ σ 13 186 1 ≤ 24) (hok : ¬ ((0 ≤ f ∧ f < σ 13 186 1) ∧ ¬ σ 13 186 4 = 0)) : Ev true 224 [aR 11 0, aI f] σ (.inl (some (aI 0))) (up σ 11 0 6 (if ¬ (0 ≤ f ∧ f < σ 13 186 1) then 1 else if σ 13 186 4 = 0 then 2 else 0)) := by
  show wp true 224 0 [some (aR 11 (0)), some (aI (f)), none, none, none] [] σ 0 0 _
  refine wp_seg 3 (P := none) (ls' := [some (aR 11 (0)), some (aI (f)), none, none, none]) (st' := [aI (f), aR 11 (0), aR 11 (0)]) (σ' := σ) rq_224 rfl True.intro (i' := 3) rfl ?_
  by_cases h1 : 0 ≤ (f) ∧ (f) < σ 13 186 1
  · refine wp_call (C := 11) (As := [aR 11 (0), aI (f)]) (rest := [aR 11 (0)]) rq_224 (ev_misFencer_y (f) σ (by exact hF) h1) rfl rfl (show clOK 224 155 0 0 0 2 11 = true by decide +kernel) rfl (show 1 ≤ 4 by decide) (fun _ => ⟨_, rfl⟩) rfl (c' := 0) (s' := 0) rfl rfl ?_
    refine wp_if rq_224 rfl (fun (h2 : (1 : Int) = (0 : Int)) => absurd h2 (show ¬ ((1 : Int) = (0 : Int)) from by decide)) (fun _ => ?_)
    refine wp_seg 4 (P := some (0 ≤ (4) ∧ (4) < alen σ 13 (186))) (ls' := [some (aR 11 (0)), some (aI (f)), none, none, none]) (st' := [aI (σ 13 (186) (4)), aR 11 (0)]) (σ' := σ) rq_224 rfl ?_ (i' := 9) rfl ?_
    · show 0 ≤ (4) ∧ (4) < alen σ 13 (186)
      (first | decide | exact Or.inl rfl | exact Or.inr rfl | ((try simp only [al_g, al_k, al_p, al_c, al_r, al_t, al_o, rl_g, rl_k, rl_p, rl_c, rl_r, rl_t, rl_o]); (try simp (disch := omega) only [wr_eq]); omega))
    refine wp_if rq_224 rfl (fun (h3 : ¬ (σ 13 (186) (4)) = 0) => ?_) (fun (h3 : ¬ (¬ (σ 13 (186) (4)) = 0)) => ?_)
    · refine wp_seg 1 (P := none) (ls' := [some (aR 11 (0)), some (aI (f)), none, none, none]) (st' := [aI (0), aR 11 (0)]) (σ' := σ) rq_224 rfl True.intro (i' := 13) rfl ?_
      refine wp_goto rq_224 rfl ?_
      refine wp_seg 3 (P := none) (ls' := [some (aR 11 (0)), some (aI (f)), none, none, none]) (st' := [aI (0)]) (σ' := (up σ 11 (0) 6 (0))) rq_224 rfl True.intro (i' := 18) rfl ?_
      refine wp_if rq_224 rfl (fun _ => ?_) (fun (h4 : ¬ ((0 : Int) ≤ (0 : Int))) => absurd (show (0 : Int) ≤ (0 : Int) from by decide) h4)
      refine wp_seg 4 (P := none) (ls' := [some (aR 11 (0)), some (aI (f)), some (aI (0)), some (aI (0)), none]) (st' := []) (σ' := (up σ 11 (0) 6 (0))) rq_224 rfl True.intro (i' := 25) rfl ?_
      exact absurd hok (by first | (intro z9; exact z9 ⟨by assumption, by omega⟩) | omega)
    · refine wp_seg 1 (P := none) (ls' := [some (aR 11 (0)), some (aI (f)), none, none, none]) (st' := [aI (2), aR 11 (0)]) (σ' := σ) rq_224 rfl True.intro (i' := 11) rfl ?_
      refine wp_goto rq_224 rfl ?_
      refine wp_seg 3 (P := none) (ls' := [some (aR 11 (0)), some (aI (f)), none, none, none]) (st' := [aI (2)]) (σ' := (up σ 11 (0) 6 (2))) rq_224 rfl True.intro (i' := 18) rfl ?_
      refine wp_if rq_224 rfl (fun (h5 : (2 : Int) ≤ (0 : Int)) => absurd h5 (show ¬ ((2 : Int) ≤ (0 : Int)) from by decide)) (fun _ => ?_)
      refine wp_seg 1 (P := none) (ls' := [some (aR 11 (0)), some (aI (f)), none, none, none]) (st' := [aI (0)]) (σ' := (up σ 11 (0) 6 (2))) rq_224 rfl True.intro (i' := 20) rfl ?_
      refine wp_iret rq_224 rfl rt_224 ⟨?_, ?_⟩
      · rfl
      · (first | (rw [if_pos h1]; done) | (rw [if_neg (fun z => z h1), if_pos (by omega)]; done))
  · refine wp_call (C := 11) (As := [aR 11 (0), aI (f)]) (rest := [aR 11 (0)]) rq_224 (ev_misFencer_n (f) σ (by exact hF) h1) rfl rfl (show clOK 224 155 0 0 0 2 11 = true by decide +kernel) rfl (show 1 ≤ 4 by decide) (fun _ => ⟨_, rfl⟩) rfl (c' := 0) (s' := 0) rfl rfl ?_
    refine wp_if rq_224 rfl (fun _ => ?_) (fun (h6 : ¬ ((0 : Int) = (0 : Int))) => absurd (show (0 : Int) = (0 : Int) from by decide) h6)
    refine wp_seg 4 (P := none) (ls' := [some (aR 11 (0)), some (aI (f)), none, none, none]) (st' := [aI (1)]) (σ' := (up σ 11 (0) 6 (1))) rq_224 rfl True.intro (i' := 18) rfl ?_
    refine wp_if rq_224 rfl (fun (h7 : (1 : Int) ≤ (0 : Int)) => absurd h7 (show ¬ ((1 : Int) ≤ (0 : Int)) from by decide)) (fun _ => ?_)
    refine wp_seg 1 (P := none) (ls' := [some (aR 11 (0)), some (aI (f)), none, none, none]) (st' := [aI (0)]) (σ' := (up σ 11 (0) 6 (1))) rq_224 rfl True.intro (i' := 20) rfl ?_
    refine wp_iret rq_224 rfl rt_224 ⟨?_, ?_⟩
    · rfl
    · (first | (rw [if_pos h1]; done) | (rw [if_neg (fun z => z h1), if_pos (by omega)]; done))

theorem tg_0 (f : Int) (σ : Mem) (hF : 0 ≤ σ 13 186 1 ∧ σ 13 186 1 ≤ 24) (hf9 : 0 ≤ f ∧ f < σ 13 186 1) (hz4 : ¬ σ 13 186 4 = 0) (Q : Out → Mem → Prop) (hq : wp true 224 25 [some (aR 11 (0)), some (aI (f)), some (aI (0)), some (aI (0)), none] [] (up σ 11 0 6 0) 0 0 Q) : wp true 224 0 [some (aR 11 (0)), some (aI (f)), none, none, none] [] σ 0 0 Q := by
  refine wp_seg 3 (P := none) (ls' := [some (aR 11 (0)), some (aI (f)), none, none, none]) (st' := [aI (f), aR 11 (0), aR 11 (0)]) (σ' := σ) rq_224 rfl True.intro (i' := 3) rfl ?_
  by_cases h1 : 0 ≤ (f) ∧ (f) < σ 13 186 1
  · refine wp_call (C := 11) (As := [aR 11 (0), aI (f)]) (rest := [aR 11 (0)]) rq_224 (ev_misFencer_y (f) σ (by exact hF) h1) rfl rfl (show clOK 224 155 0 0 0 2 11 = true by decide +kernel) rfl (show 1 ≤ 4 by decide) (fun _ => ⟨_, rfl⟩) rfl (c' := 0) (s' := 0) rfl rfl ?_
    refine wp_if rq_224 rfl (fun (h2 : (1 : Int) = (0 : Int)) => absurd h2 (show ¬ ((1 : Int) = (0 : Int)) from by decide)) (fun _ => ?_)
    refine wp_seg 4 (P := some (0 ≤ (4) ∧ (4) < alen σ 13 (186))) (ls' := [some (aR 11 (0)), some (aI (f)), none, none, none]) (st' := [aI (σ 13 (186) (4)), aR 11 (0)]) (σ' := σ) rq_224 rfl ?_ (i' := 9) rfl ?_
    · show 0 ≤ (4) ∧ (4) < alen σ 13 (186)
      (first | decide | exact Or.inl rfl | exact Or.inr rfl | ((try simp only [al_g, al_k, al_p, al_c, al_r, al_t, al_o, rl_g, rl_k, rl_p, rl_c, rl_r, rl_t, rl_o]); (try simp (disch := omega) only [wr_eq]); omega))
    refine wp_if rq_224 rfl (fun _ => ?_) (fun (h3 : ¬ (¬ (σ 13 (186) (4)) = 0)) => absurd (show ¬ (σ 13 (186) (4)) = 0 from hz4) h3)
    refine wp_seg 1 (P := none) (ls' := [some (aR 11 (0)), some (aI (f)), none, none, none]) (st' := [aI (0), aR 11 (0)]) (σ' := σ) rq_224 rfl True.intro (i' := 13) rfl ?_
    refine wp_goto rq_224 rfl ?_
    refine wp_seg 3 (P := none) (ls' := [some (aR 11 (0)), some (aI (f)), none, none, none]) (st' := [aI (0)]) (σ' := (up σ 11 (0) 6 (0))) rq_224 rfl True.intro (i' := 18) rfl ?_
    refine wp_if rq_224 rfl (fun _ => ?_) (fun (h4 : ¬ ((0 : Int) ≤ (0 : Int))) => absurd (show (0 : Int) ≤ (0 : Int) from by decide) h4)
    refine wp_seg 4 (P := none) (ls' := [some (aR 11 (0)), some (aI (f)), some (aI (0)), some (aI (0)), none]) (st' := []) (σ' := (up σ 11 (0) 6 (0))) rq_224 rfl True.intro (i' := 25) rfl ?_
    exact hq
  · refine wp_call (C := 11) (As := [aR 11 (0), aI (f)]) (rest := [aR 11 (0)]) rq_224 (ev_misFencer_n (f) σ (by exact hF) h1) rfl rfl (show clOK 224 155 0 0 0 2 11 = true by decide +kernel) rfl (show 1 ≤ 4 by decide) (fun _ => ⟨_, rfl⟩) rfl (c' := 0) (s' := 0) rfl rfl ?_
    refine wp_if rq_224 rfl (fun _ => ?_) (fun (h5 : ¬ ((0 : Int) = (0 : Int))) => absurd (show (0 : Int) = (0 : Int) from by decide) h5)
    exact absurd hf9 h1

theorem tg_4 {a i : Int} (Q : Out → Mem → Prop) (hq : wp true 224 51 [some (aR 11 (0)), some (aI (f)), some (aI (a)), some (aI (0)), some (aI (2))] [] M 0 0 Q) : wp true 224 47 [some (aR 11 (0)), some (aI (f)), some (aI (a)), some (aI (i)), none] [] M 0 0 Q := by
  refine wp_seg 4 (P := none) (ls' := [some (aR 11 (0)), some (aI (f)), some (aI (a)), some (aI (0)), some (aI (2))]) (st' := []) (σ' := M) rq_224 rfl True.intro (i' := 51) rfl ?_
  exact hq

theorem tg_5 {a c : Int} (h5 : M 13 186 5 = B) (Q : Out → Mem → Prop) (hq : wp true 224 79 [some (aR 11 (0)), some (aI (f)), some (aI (a)), some (aI (c)), some (aI (B))] [] M 0 0 Q) : wp true 224 74 [some (aR 11 (0)), some (aI (f)), some (aI (a)), some (aI (c)), some (aI (r))] [] M 0 0 Q := by
  refine wp_seg 5 (P := some (0 ≤ (5) ∧ (5) < alen M 13 (186))) (ls' := [some (aR 11 (0)), some (aI (f)), some (aI (a)), some (aI (c)), some (aI (M 13 (186) (5)))]) (st' := []) (σ' := M) rq_224 rfl ?_ (i' := 79) rfl ?_
  · show 0 ≤ (5) ∧ (5) < alen M 13 (186)
    (first | decide | exact Or.inl rfl | exact Or.inr rfl | ((try simp only [al_g, al_k, al_p, al_c, al_r, al_t, al_o, rl_g, rl_k, rl_p, rl_c, rl_r, rl_t, rl_o]); (try simp (disch := omega) only [wr_eq]); omega))
  rw [h5]
  exact hq

theorem tg_6 {a c : Int} : wp true 224 107 [some (aR 11 (0)), some (aI (f)), some (aI (a)), some (aI (c)), some (aI (r))] [] M 0 0 (fun o' σ2 => o' = .inl (some (aI (if a = 0 then 0 else c))) ∧ σ2 = (if a = 0 then up M 11 0 6 3 else M)) := by
  refine wp_seg 1 (P := none) (ls' := [some (aR 11 (0)), some (aI (f)), some (aI (a)), some (aI (c)), some (aI (r))]) (st' := [aI (a)]) (σ' := M) rq_224 rfl True.intro (i' := 108) rfl ?_
  refine wp_if rq_224 rfl (fun (h1 : (a) = 0) => ?_) (fun (h1 : ¬ ((a) = 0)) => ?_)
  · refine wp_seg 2 (P := none) (ls' := [some (aR 11 (0)), some (aI (f)), some (aI (a)), some (aI (c)), some (aI (r))]) (st' := [aI (3), aR 11 (0)]) (σ' := M) rq_224 rfl True.intro (i' := 113) rfl ?_
    refine wp_call (C := 11) (As := [aR 11 (0), aI (3)]) (rest := []) rq_224 (ev_mfails (3) M ) rfl rfl (show clOK 224 153 0 0 0 2 11 = true by decide +kernel) rfl (show 0 ≤ 4 by decide) (fun _ => ⟨_, rfl⟩) rfl (c' := 0) (s' := 0) rfl rfl ?_
    refine wp_iret rq_224 rfl rt_224 ⟨?_, ?_⟩
    · (first | (rw [if_pos (by omega)]; done) | (rw [if_neg (by omega)]; done) | rfl)
    · (first | (rw [if_pos (by omega)]; done) | (rw [if_neg (by omega)]; done) | rfl)
  · refine wp_seg 1 (P := none) (ls' := [some (aR 11 (0)), some (aI (f)), some (aI (a)), some (aI (c)), some (aI (r))]) (st' := [aI (c)]) (σ' := M) rq_224 rfl True.intro (i' := 110) rfl ?_
    refine wp_goto rq_224 rfl ?_
    refine wp_iret rq_224 rfl rt_224 ⟨?_, ?_⟩
    · (first | (rw [if_pos (by omega)]; done) | (rw [if_neg (by omega)]; done) | rfl)
    · (first | (rw [if_pos (by omega)]; done) | (rw [if_neg (by omega)]; done) | rfl)
end ToGoM
