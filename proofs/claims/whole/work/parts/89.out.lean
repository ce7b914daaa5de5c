/-! Where the seeds stand: the doubling. -/
def HH (σ : Mem) : Nat → Int → Int
  | 0 => fun i => if i = 1 then 2 else if i = 0 then 1 else σ 13 190 i
  | m + 1 => hin (HH σ m) (2 ^ (m + 1)) (-1)
theorem p2_M : ∀ M : Nat, M < 5 → ∀ m : Nat, m < M → (2 : Int) ^ (m + 1) < 2 ^ (M + 1) ∧ (2 : Int) ≤ 2 ^ (m + 1) ∧ (2 : Int) ^ (m + 1) ≤ 16 := by decide
theorem HH_b (σ : Mem) (m : Nat) : ∀ i : Int, 0 ≤ i → i < 2 ^ (m + 1) → 1 ≤ HH σ m i ∧ HH σ m i ≤ 2 ^ (m + 1) := by
  induction m with
  | zero =>
    intro i i0 i1
    have : i = 0 ∨ i = 1 := by omega
    rcases this with rfl | rfl
    · show (1 : Int) ≤ 1 ∧ (1 : Int) ≤ 2 ^ (0 + 1)
      decide
    · show (1 : Int) ≤ 2 ∧ (2 : Int) ≤ 2 ^ (0 + 1)
      decide
  | succ m ih =>
    intro i i0 i1
    have h2 : (2 : Int) ^ (m + 1 + 1) = 2 ^ (m + 1) * 2 := Int.pow_succ 2 (m + 1)
    have := ih (i / 2) (by omega) (by omega)
    show 1 ≤ hin (HH σ m) (2 ^ (m + 1)) (-1) i ∧ hin (HH σ m) (2 ^ (m + 1)) (-1) i ≤ _
    unfold hin
    rw [if_pos (by omega)]
    split <;> omega
theorem HH_sd (σ : Mem) (m : Nat) : ∀ i : Int, 0 ≤ i → i < 2 ^ (m + 1) → HH σ m i = sdN (m + 1) i := by
  induction m with
  | zero =>
    intro i i0 i1
    have : i = 0 ∨ i = 1 := by omega
    rcases this with rfl | rfl
    · rfl
    · rfl
  | succ m ih =>
    intro i i0 i1
    have h2 : (2 : Int) ^ (m + 1 + 1) = 2 ^ (m + 1) * 2 := Int.pow_succ 2 (m + 1)
    have e := ih (i / 2) (by omega) (by omega)
    show hin (HH σ m) (2 ^ (m + 1)) (-1) i = sdN (m + 1 + 1) i
    unfold hin
    rw [if_pos (by omega), e]
    show _ = if i % 2 = 0 then sdN (m + 1) (i / 2) else 2 ^ (m + 1 + 1) + 1 - sdN (m + 1) (i / 2)
    by_cases q : i % 2 = 0
    · rw [if_pos q, if_pos q]
    · rw [if_neg q, if_neg q]; omega
theorem lp_mst (u : Int) (M : Nat) (hM : M ≤ 4) (hu : u = 2 ^ (M + 1)) (σ : Mem) : ∀ (t m : Nat) (n : Int), m + t = M → n = 2 ^ (m + 1) → wp true 215 12 [some (aR 11 (0)), some (aI (u)), some (aI (n)), none, none] [] (wsd σ (HH σ m)) 0 0 (fun o' σ2 => o' = .inl none ∧ σ2 = wsd σ (HH σ M)) := by
  intro t
  induction t with
  | zero =>
    intro m n hm hn
    refine wp_seg 2 (P := none) (ls' := [some (aR 11 (0)), some (aI (u)), some (aI (n)), none, none]) (st' := [aI (u), aI (n)]) (σ' := (wsd σ (HH σ m))) rq_215 rfl True.intro (i' := 14) rfl ?_
    refine wp_icmp rq_215 rfl (fun (h1 : (u) ≤ (n)) => ?_) (fun (h1 : ¬ ((u) ≤ (n))) => ?_)
    · refine wp_vret rq_215 rfl rt_215 ⟨?_, ?_⟩
      · rfl
      · (have e9 : m = M := by (by_cases q : m = M; exact q; (have := (p2_M M (by omega) m (by omega)).1; omega))); rw [e9]
    · refine wp_seg 4 (P := none) (ls' := [some (aR 11 (0)), some (aI (u)), some (aI (n)), some (aI (wr ((n) - (1)))), none]) (st' := []) (σ' := (wsd σ (HH σ m))) rq_215 rfl True.intro (i' := 19) rfl ?_
      exact absurd (show m < M by (by_cases q : m = M; (exfalso; subst q; omega); omega)) (by omega)
  | succ t ih =>
    intro m n hm hn
    refine wp_seg 2 (P := none) (ls' := [some (aR 11 (0)), some (aI (u)), some (aI (n)), none, none]) (st' := [aI (u), aI (n)]) (σ' := (wsd σ (HH σ m))) rq_215 rfl True.intro (i' := 14) rfl ?_
    refine wp_icmp rq_215 rfl (fun (h1 : (u) ≤ (n)) => ?_) (fun (h1 : ¬ ((u) ≤ (n))) => ?_)
    · refine wp_vret rq_215 rfl rt_215 ⟨?_, ?_⟩
      · rfl
      · (have e9 : m = M := by (by_cases q : m = M; exact q; (have := (p2_M M (by omega) m (by omega)).1; omega))); rw [e9]
    · refine wp_seg 4 (P := none) (ls' := [some (aR 11 (0)), some (aI (u)), some (aI (n)), some (aI (wr ((n) - (1)))), none]) (st' := []) (σ' := (wsd σ (HH σ m))) rq_215 rfl True.intro (i' := 19) rfl ?_
      have e9 : m < M := by (by_cases q : m = M; (exfalso; subst q; omega); omega)
      have p9 := p2_M M (by omega) m e9
      rw [wr_eq (z := n - 1) (by omega) (by omega)]
      refine (hin_id (h := HH σ m) (n := n)) ▸ lp_mstin u n (HH σ m) σ _ (by omega) (fun i i0 i1 => by (have := HH_b σ m i i0 (by omega); omega)) ?_ ((n - 1 + 1).toNat + 1) (n - 1) (by omega) (by omega) (by omega)
      have h8 := ih (m + 1) (n * 2) (by omega) (by rw [hn]; exact (Int.pow_succ 2 (m + 1)).symm)
      have e8 : HH σ (m + 1) = hin (HH σ m) n (-1) := by (rw [hn]; rfl)
      rw [e8] at h8
      exact h8
theorem ev_mstand (u : Int) (M : Nat) (hM : M ≤ 4) (hu : u = 2 ^ (M + 1)) (σ : Mem) : Ev true 215 [aR 11 0, aI u] σ (.inl none) (wsd σ (HH σ M)) := by
  show wp true 215 0 [some (aR 11 (0)), some (aI (u)), none, none, none] [] σ 0 0 _
  refine wp_seg 12 (P := some ((0 ≤ (0) ∧ (0) < rowLen (190)) ∧ (0 ≤ (1) ∧ (1) < rowLen (190)))) (ls' := [some (aR 11 (0)), some (aI (u)), some (aI (2)), none, none]) (st' := []) (σ' := (up (up σ 13 (190) (0) (1)) 13 (190) (1) (2))) rq_215 rfl ?_ (i' := 12) rfl ?_
  · show (0 ≤ (0) ∧ (0) < rowLen (190)) ∧ (0 ≤ (1) ∧ (1) < rowLen (190))
    (first | decide | exact Or.inl rfl | exact Or.inr rfl | ((try simp (disch := omega) only [wr_eq, td2, tm2, mat_mput, mat_up, fo_mput, up_g_o, mput_g_o, mat_mch, mch_g, up6_g, al_g, al_k, al_p, al_c, al_r, al_t, al_o, rl_g, rl_k, rl_p, rl_c, rl_r, rl_t, rl_o, fo_mch, fo_up11, mat_up11] at *); (try simp (disch := omega) only [wr_eq, td2, tm2, mat_mput, mat_up, fo_mput, up_g_o, mput_g_o, mat_mch, mch_g, up6_g, al_g, al_k, al_p, al_c, al_r, al_t, al_o, rl_g, rl_k, rl_p, rl_c, rl_r, rl_t, rl_o, fo_mch, fo_up11, mat_up11]); (try simp (disch := omega) only [wr_eq, td2, tm2, mat_mput, mat_up, fo_mput, up_g_o, mput_g_o, mat_mch, mch_g, up6_g, al_g, al_k, al_p, al_c, al_r, al_t, al_o, rl_g, rl_k, rl_p, rl_c, rl_r, rl_t, rl_o, fo_mch, fo_up11, mat_up11] at *); (try simp (disch := omega) only [wr_eq, td2, tm2, mat_mput, mat_up, fo_mput, up_g_o, mput_g_o, mat_mch, mch_g, up6_g, al_g, al_k, al_p, al_c, al_r, al_t, al_o, rl_g, rl_k, rl_p, rl_c, rl_r, rl_t, rl_o, fo_mch, fo_up11, mat_up11]); (try simp (disch := omega) only [wr_eq, td2, tm2, mat_mput, mat_up, fo_mput, up_g_o, mput_g_o, mat_mch, mch_g, up6_g, al_g, al_k, al_p, al_c, al_r, al_t, al_o, rl_g, rl_k, rl_p, rl_c, rl_r, rl_t, rl_o, fo_mch, fo_up11, mat_up11]); omega))
  have e9 : ((up (up σ 13 (190) (0) (1)) 13 (190) (1) (2))) = wsd σ (HH σ 0) := by (funext C r i; unfold up wsd HH; by_cases q : C = 13 ∧ r = 190; (rw [if_pos q]; by_cases q1 : i = 1; (rw [if_pos ⟨q.1, q.2, q1⟩, if_pos q1]); (rw [if_neg (fun z => q1 z.2.2), if_neg q1]; by_cases q0 : i = 0; (rw [if_pos ⟨q.1, q.2, q0⟩, if_pos q0]); (rw [if_neg (fun z => q0 z.2.2), if_neg q0, q.1, q.2]))); (rw [if_neg (fun z => q ⟨z.1, z.2.1⟩), if_neg (fun z => q ⟨z.1, z.2.1⟩), if_neg q]))
  rw [e9]
  exact lp_mst u M hM hu σ M 0 2 (by omega) rfl
