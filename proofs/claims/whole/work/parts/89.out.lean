/-! Where the seeds stand: the doubling. -/
def HH (σ : Mem) : Nat → Int → Int
  | 0 => fun i => if i = 1 then 2 else if i = 0 then 1 else σ 13 190 i
  | m + 1 => hin (HH σ m) (2 ^ (m + 1)) (-1)
theorem p2_M : ∀ M : Nat, M < 5 → ∀ m : Nat, m < M → (2 : Int) ^ (m + 1) < 2 ^ (M + 1) ∧ (2 : Int) ≤ 2 ^ (m + 1) ∧ (2 : Int) ^ (m + 1) ≤ 16 := by decide
theorem HH_b (σ : Mem) (m : Nat) : ∀ i : Int, 0 ≤ i → i < 2 ^ (m + 1) → 1 ≤ HH σ m i ∧ HH σ m i ≤ 2 ^ (m + 1) := by
  induction m with
  | zero =>
    intro i i0 i1
    have : i = 0 ∨ i = 1 := by omega
    rcases this with rfl | rfl
    · show (1 : Int) ≤ 1 ∧ (1 : Int) ≤ 2 ^ (0 + 1)
      decide
    · show (1 : Int) ≤ 2 ∧ (2 : Int) ≤ 2 ^ (0 + 1)
      decide
  | succ m ih =>
    intro i i0 i1
    have h2 : (2 : Int) ^ (m + 1 + 1) = 2 ^ (m + 1) * 2 := Int.pow_succ 2 (m + 1)
    have := ih (i / 2) (by omega) (by omega)
    show 1 ≤ hin (HH σ m) (2 ^ (m + 1)) (-1) i ∧ hin (HH σ m) (2 ^ (m + 1)) (-1) i ≤ _
    unfold hin
    rw [if_pos (by omega)]
    split <;> omega
theorem HH_sd (σ : Mem) (m : Nat) : ∀ i : Int, 0 ≤ i → i < 2 ^ (m + 1) → HH σ m i = sdN (m + 1) i := by
  induction m with
  | zero =>
    intro i i0 i1
    have : i = 0 ∨ i = 1 := by omega
    rcases this with rfl | rfl
    · rfl
    · rfl
  | succ m ih =>
    intro i i0 i1
    have h2 : (2 : Int) ^ (m + 1 + 1) = 2 ^ (m + 1) * 2 := Int.pow_succ 2 (m + 1)
    have e := ih (i / 2) (by omega) (by omega)
    show hin (HH σ m) (2 ^ (m + 1)) (-1) i = sdN (m + 1 + 1) i
    unfold hin
    rw [if_pos (by omega), e]
    show _ = if i % 2 = 0 then sdN (m + 1) (i / 2) else 2 ^ (m + 1 + 1) + 1 - sdN (m + 1) (i / 2)
    by_cases q : i % 2 = 0
    · rw [if_pos q, if_pos q]
    · rw [if_neg q, if_neg q]; omega
theorem lp_mst (u : Int) (M : Nat) (hM : M ≤ 4) (hu : u = 2 ^ (M + 1)) (σ : Mem) : ∀ (t m : Nat) (n : Int), m + t = M → n = 2 ^ (m + 1) → wp true 215 12 [some (aR 11 (0)), some (aI (u)), some (aI (n)), none, none] [] (wsd σ (HH σ m)) 0 0 (fun o' σ2 => o' = .inl none ∧ σ2 = wsd σ (HH σ M)) := by
  intro t
  induction t with
  | zero =>
    intro m n hm hn
    refine wp_seg 2 (P := none) (ls' := [some (aR 11 (0)), some (aI (u)), some (aI (n)), none, none]) (st' := [aI (u), aI (n)]) (σ' := (wsd σ (HH σ m))) rq_215 rfl True.intro (i' := 14) rfl ?_
    refine wp_icmp rq_215 rfl (fun (h1 : (u) ≤ (n)) => ?_) (fun (h1 : ¬ ((u) ≤ (n))) => ?_)
    · refine wp_vret rq_215 rfl rt_215 ⟨?_, ?_⟩
      · rfl
      · (have e9 : m = M := by (by_cases q : m = M; exact q; (have := (p2_M M (by omega) m (by omega)).1; omega))); rw [e9]
    · refine wp_seg 4 (P := none) (ls' := [some (aR 11 (0)), some (aI (u)), some (aI (n)), some (aI (wr ((n) - (1)))), none]) (st' := []) (σ' := (wsd σ (HH σ m))) rq_215 rfl True.intro (i' := 19) rfl ?_
      exact absurd (show m < M by (by_cases q : m = M; (exfalso; subst q; omega); omega)) (by omega)
  | succ t ih =>
    intro m n hm hn
    refine wp_seg 2 (P := none) (ls' := [some (aR 11 (0)), some (aI (u)), some (aI (n)), none, none]) (st' := [aI (u), aI (n)]) (σ' := (wsd σ (HH σ m))) rq_215 rfl True.intro (i' := 14) rfl ?_
    refine wp_icmp rq_215 rfl (fun (h1 : (u) ≤ (n)) => ?_) (fun (h1 : ¬ ((u) ≤ (n))) => ?_)
    · refine wp_vret rq_215 rfl rt_215 ⟨?_, ?_⟩
      · rfl
      · (have e9 : m = M := by (by_cases q : m = M; exact q; (have := (p2_M M (by omega) m (by omega)).1; omega))); rw [e9]
    · refine wp_seg 4 (P := none) (ls' := [some (aR 11 (0)), some (aI (u)), some (aI (n)), some (aI (wr ((n) - (1)))), none]) (st' := []) (σ' := (wsd σ (HH σ m))) rq_215 rfl True.intro (i' := 19) rfl ?_
      have e9 : m < M := by (by_cases q : m = M; (exfalso; subst q; omega); omega)
      have p9 := p2_M M (by omega) m e9
      rw [wr_eq (z := n - 1) (by omega) (by omega)]
      refine (hin_id (h := HH σ m) (n := n)) ▸ lp_mstin u n (HH σ m) σ _ (by omega) (fun i i0 i1 => by (have := HH_b σ m i i0 (by omega); omega)) ?_ ((n - 1 + 1).toNat + 1) (n - 1) (by omega) (by omega) (by omega)
      have h8 := ih (m + 1) (n * 2) (by omega) (by rw [hn]; exact (Int.pow_succ 2 (m + 1)).symm)
      have e8 : HH σ (m + 1) = hin (HH σ m) n (-1) := by (rw [hn]; rfl)
      rw [e8] at h8
      exact h8
