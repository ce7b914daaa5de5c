/-! The model's small methods. -/
theorem al_g (σ : Mem) : alen σ 13 186 = 3330 := rfl
theorem al_k (σ : Mem) : alen σ 13 187 = 3330 := rfl
theorem al_p (σ : Mem) : alen σ 13 188 = 26640 := rfl
theorem al_c (σ : Mem) : alen σ 13 189 = 96 := rfl
theorem al_r (σ : Mem) : alen σ 13 190 = 32 := rfl
theorem al_t (σ : Mem) : alen σ 13 191 = 60 := rfl
theorem al_o (σ : Mem) : alen σ 13 192 = 60 := rfl
theorem rl_g : rowLen 186 = 3330 := rfl
theorem rl_k : rowLen 187 = 3330 := rfl
theorem rl_p : rowLen 188 = 26640 := rfl
theorem rl_c : rowLen 189 = 96 := rfl
theorem rl_r : rowLen 190 = 32 := rfl
theorem rl_t : rowLen 191 = 60 := rfl
theorem rl_o : rowLen 192 = 60 := rfl
/-- what the model keeps of a fencer, of a bout -/
def mof (σ : Mem) (f w : Int) : Int := σ 13 186 (30 + 8 * f + w)
def mat (σ : Mem) (b w : Int) : Int := σ 13 186 (250 + 10 * b + w)
def mput (σ : Mem) (b w v : Int) : Mem := up σ 13 186 (250 + 10 * b + w) v
theorem ev_min_y (v x y : Int) (σ : Mem) (h : x ≤ v ∧ v ≤ y) : Ev true 154 [aI (v), aI (x), aI (y)] σ (.inl (some (aI 1))) σ := by
  show wp true 154 0 [some (aI (v)), some (aI (x)), some (aI (y))] [] σ 0 0 _
  refine wp_seg 2 (P := none) (ls' := [some (aI (v)), some (aI (x)), some (aI (y))]) (st' := [aI (x), aI (v)]) (σ' := σ) rq_154 rfl True.intro (i' := 2) rfl ?_
  refine wp_icmp rq_154 rfl (fun (h1 : (v) < (x)) => ?_) (fun (h1 : ¬ ((v) < (x))) => ?_)
  · refine wp_seg 1 (P := none) (ls' := [some (aI (v)), some (aI (x)), some (aI (y))]) (st' := [aI (0)]) (σ' := σ) rq_154 rfl True.intro (i' := 9) rfl ?_
    refine wp_zret rq_154 rfl rt_154 ?_ ⟨?_, ?_⟩
    · first | exact Or.inl rfl | exact Or.inr rfl
    · (first | rfl | (exfalso; (try simp (disch := omega) only [wr_eq] at *); omega))
    · rfl
  · refine wp_seg 2 (P := none) (ls' := [some (aI (v)), some (aI (x)), some (aI (y))]) (st' := [aI (y), aI (v)]) (σ' := σ) rq_154 rfl True.intro (i' := 5) rfl ?_
    refine wp_icmp rq_154 rfl (fun (h2 : (y) < (v)) => ?_) (fun (h2 : ¬ ((y) < (v))) => ?_)
    · refine wp_seg 1 (P := none) (ls' := [some (aI (v)), some (aI (x)), some (aI (y))]) (st' := [aI (0)]) (σ' := σ) rq_154 rfl True.intro (i' := 9) rfl ?_
      refine wp_zret rq_154 rfl rt_154 ?_ ⟨?_, ?_⟩
      · first | exact Or.inl rfl | exact Or.inr rfl
      · (first | rfl | (exfalso; (try simp (disch := omega) only [wr_eq] at *); omega))
      · rfl
    · refine wp_seg 1 (P := none) (ls' := [some (aI (v)), some (aI (x)), some (aI (y))]) (st' := [aI (1)]) (σ' := σ) rq_154 rfl True.intro (i' := 7) rfl ?_
      refine wp_goto rq_154 rfl ?_
      refine wp_zret rq_154 rfl rt_154 ?_ ⟨?_, ?_⟩
      · first | exact Or.inl rfl | exact Or.inr rfl
      · (first | rfl | (exfalso; (try simp (disch := omega) only [wr_eq] at *); omega))
      · rfl
theorem ev_min_n (v x y : Int) (σ : Mem) (h : ¬ (x ≤ v ∧ v ≤ y)) : Ev true 154 [aI (v), aI (x), aI (y)] σ (.inl (some (aI 0))) σ := by
  show wp true 154 0 [some (aI (v)), some (aI (x)), some (aI (y))] [] σ 0 0 _
  refine wp_seg 2 (P := none) (ls' := [some (aI (v)), some (aI (x)), some (aI (y))]) (st' := [aI (x), aI (v)]) (σ' := σ) rq_154 rfl True.intro (i' := 2) rfl ?_
  refine wp_icmp rq_154 rfl (fun (h1 : (v) < (x)) => ?_) (fun (h1 : ¬ ((v) < (x))) => ?_)
  · refine wp_seg 1 (P := none) (ls' := [some (aI (v)), some (aI (x)), some (aI (y))]) (st' := [aI (0)]) (σ' := σ) rq_154 rfl True.intro (i' := 9) rfl ?_
    refine wp_zret rq_154 rfl rt_154 ?_ ⟨?_, ?_⟩
    · first | exact Or.inl rfl | exact Or.inr rfl
    · (first | rfl | (exfalso; (try simp (disch := omega) only [wr_eq] at *); omega))
    · rfl
  · refine wp_seg 2 (P := none) (ls' := [some (aI (v)), some (aI (x)), some (aI (y))]) (st' := [aI (y), aI (v)]) (σ' := σ) rq_154 rfl True.intro (i' := 5) rfl ?_
    refine wp_icmp rq_154 rfl (fun (h2 : (y) < (v)) => ?_) (fun (h2 : ¬ ((y) < (v))) => ?_)
    · refine wp_seg 1 (P := none) (ls' := [some (aI (v)), some (aI (x)), some (aI (y))]) (st' := [aI (0)]) (σ' := σ) rq_154 rfl True.intro (i' := 9) rfl ?_
      refine wp_zret rq_154 rfl rt_154 ?_ ⟨?_, ?_⟩
      · first | exact Or.inl rfl | exact Or.inr rfl
      · (first | rfl | (exfalso; (try simp (disch := omega) only [wr_eq] at *); omega))
      · rfl
    · refine wp_seg 1 (P := none) (ls' := [some (aI (v)), some (aI (x)), some (aI (y))]) (st' := [aI (1)]) (σ' := σ) rq_154 rfl True.intro (i' := 7) rfl ?_
      refine wp_goto rq_154 rfl ?_
      refine wp_zret rq_154 rfl rt_154 ?_ ⟨?_, ?_⟩
      · first | exact Or.inl rfl | exact Or.inr rfl
      · (first | rfl | (exfalso; (try simp (disch := omega) only [wr_eq] at *); omega))
      · rfl

theorem ev_misFencer_y (f : Int) (σ : Mem) (hF : 0 ≤ σ 13 186 1 ∧ σ 13 186 1 ≤ 24) (h : 0 ≤ f ∧ f < σ 13 186 1) : Ev true 155 [aR 11 (0), aI (f)] σ (.inl (some (aI 1))) σ := by
  show wp true 155 0 [some (aR 11 (0)), some (aI (f))] [] σ 0 0 _
  refine wp_seg 8 (P := some (0 ≤ (1) ∧ (1) < alen σ 13 (186))) (ls' := [some (aR 11 (0)), some (aI (f))]) (st' := [aI (wr ((σ 13 (186) (1)) - (1))), aI (0), aI (f)]) (σ' := σ) rq_155 rfl ?_ (i' := 8) rfl ?_
  · show 0 ≤ (1) ∧ (1) < alen σ 13 (186)
    (first | decide | exact Or.inl rfl | exact Or.inr rfl | ((try simp only [al_g, al_k, al_p, al_c, al_r, al_t, al_o, rl_g, rl_k, rl_p, rl_c, rl_r, rl_t, rl_o]); (try simp (disch := omega) only [wr_eq]); omega))
  by_cases h1 : (0) ≤ (f) ∧ (f) ≤ (wr ((σ 13 (186) (1)) - (1)))
  · refine wp_call (C := 0) (As := [aI (f), aI (0), aI (wr ((σ 13 (186) (1)) - (1)))]) (rest := []) rq_155 (ev_min_y (f) (0) (wr ((σ 13 (186) (1)) - (1))) σ  h1) rfl rfl (show clOK 155 154 2 0 0 3 0 = true by decide +kernel) rfl (show 0 ≤ 4 by decide) (fun h => absurd rfl h) rfl (c' := 0) (s' := 0) rfl rfl ?_
    refine wp_zret rq_155 rfl rt_155 ?_ ⟨?_, ?_⟩
    · first | exact Or.inl rfl | exact Or.inr rfl
    · (first | rfl | (exfalso; (try simp (disch := omega) only [wr_eq] at *); omega))
    · rfl
  · refine wp_call (C := 0) (As := [aI (f), aI (0), aI (wr ((σ 13 (186) (1)) - (1)))]) (rest := []) rq_155 (ev_min_n (f) (0) (wr ((σ 13 (186) (1)) - (1))) σ  h1) rfl rfl (show clOK 155 154 2 0 0 3 0 = true by decide +kernel) rfl (show 0 ≤ 4 by decide) (fun h => absurd rfl h) rfl (c' := 0) (s' := 0) rfl rfl ?_
    refine wp_zret rq_155 rfl rt_155 ?_ ⟨?_, ?_⟩
    · first | exact Or.inl rfl | exact Or.inr rfl
    · (first | rfl | (exfalso; (try simp (disch := omega) only [wr_eq] at *); omega))
    · rfl
theorem ev_misFencer_n (f : Int) (σ : Mem) (hF : 0 ≤ σ 13 186 1 ∧ σ 13 186 1 ≤ 24) (h : ¬ (0 ≤ f ∧ f < σ 13 186 1)) : Ev true 155 [aR 11 (0), aI (f)] σ (.inl (some (aI 0))) σ := by
  show wp true 155 0 [some (aR 11 (0)), some (aI (f))] [] σ 0 0 _
  refine wp_seg 8 (P := some (0 ≤ (1) ∧ (1) < alen σ 13 (186))) (ls' := [some (aR 11 (0)), some (aI (f))]) (st' := [aI (wr ((σ 13 (186) (1)) - (1))), aI (0), aI (f)]) (σ' := σ) rq_155 rfl ?_ (i' := 8) rfl ?_
  · show 0 ≤ (1) ∧ (1) < alen σ 13 (186)
    (first | decide | exact Or.inl rfl | exact Or.inr rfl | ((try simp only [al_g, al_k, al_p, al_c, al_r, al_t, al_o, rl_g, rl_k, rl_p, rl_c, rl_r, rl_t, rl_o]); (try simp (disch := omega) only [wr_eq]); omega))
  by_cases h1 : (0) ≤ (f) ∧ (f) ≤ (wr ((σ 13 (186) (1)) - (1)))
  · refine wp_call (C := 0) (As := [aI (f), aI (0), aI (wr ((σ 13 (186) (1)) - (1)))]) (rest := []) rq_155 (ev_min_y (f) (0) (wr ((σ 13 (186) (1)) - (1))) σ  h1) rfl rfl (show clOK 155 154 2 0 0 3 0 = true by decide +kernel) rfl (show 0 ≤ 4 by decide) (fun h => absurd rfl h) rfl (c' := 0) (s' := 0) rfl rfl ?_
    refine wp_zret rq_155 rfl rt_155 ?_ ⟨?_, ?_⟩
    · first | exact Or.inl rfl | exact Or.inr rfl
    · (first | rfl | (exfalso; (try simp (disch := omega) only [wr_eq] at *); omega))
    · rfl
  · refine wp_call (C := 0) (As := [aI (f), aI (0), aI (wr ((σ 13 (186) (1)) - (1)))]) (rest := []) rq_155 (ev_min_n (f) (0) (wr ((σ 13 (186) (1)) - (1))) σ  h1) rfl rfl (show clOK 155 154 2 0 0 3 0 = true by decide +kernel) rfl (show 0 ≤ 4 by decide) (fun h => absurd rfl h) rfl (c' := 0) (s' := 0) rfl rfl ?_
    refine wp_zret rq_155 rfl rt_155 ?_ ⟨?_, ?_⟩
    · first | exact Or.inl rfl | exact Or.inr rfl
    · (first | rfl | (exfalso; (try simp (disch := omega) only [wr_eq] at *); omega))
    · rfl

theorem ev_misBout_y (b : Int) (σ : Mem) (hB : 0 ≤ σ 13 186 3 ∧ σ 13 186 3 ≤ 307) (h : 0 ≤ b ∧ b < σ 13 186 3) : Ev true 156 [aR 11 (0), aI (b)] σ (.inl (some (aI 1))) σ := by
  show wp true 156 0 [some (aR 11 (0)), some (aI (b))] [] σ 0 0 _
  refine wp_seg 8 (P := some (0 ≤ (3) ∧ (3) < alen σ 13 (186))) (ls' := [some (aR 11 (0)), some (aI (b))]) (st' := [aI (wr ((σ 13 (186) (3)) - (1))), aI (0), aI (b)]) (σ' := σ) rq_156 rfl ?_ (i' := 8) rfl ?_
  · show 0 ≤ (3) ∧ (3) < alen σ 13 (186)
    (first | decide | exact Or.inl rfl | exact Or.inr rfl | ((try simp only [al_g, al_k, al_p, al_c, al_r, al_t, al_o, rl_g, rl_k, rl_p, rl_c, rl_r, rl_t, rl_o]); (try simp (disch := omega) only [wr_eq]); omega))
  by_cases h1 : (0) ≤ (b) ∧ (b) ≤ (wr ((σ 13 (186) (3)) - (1)))
  · refine wp_call (C := 0) (As := [aI (b), aI (0), aI (wr ((σ 13 (186) (3)) - (1)))]) (rest := []) rq_156 (ev_min_y (b) (0) (wr ((σ 13 (186) (3)) - (1))) σ  h1) rfl rfl (show clOK 156 154 2 0 0 3 0 = true by decide +kernel) rfl (show 0 ≤ 4 by decide) (fun h => absurd rfl h) rfl (c' := 0) (s' := 0) rfl rfl ?_
    refine wp_zret rq_156 rfl rt_156 ?_ ⟨?_, ?_⟩
    · first | exact Or.inl rfl | exact Or.inr rfl
    · (first | rfl | (exfalso; (try simp (disch := omega) only [wr_eq] at *); omega))
    · rfl
  · refine wp_call (C := 0) (As := [aI (b), aI (0), aI (wr ((σ 13 (186) (3)) - (1)))]) (rest := []) rq_156 (ev_min_n (b) (0) (wr ((σ 13 (186) (3)) - (1))) σ  h1) rfl rfl (show clOK 156 154 2 0 0 3 0 = true by decide +kernel) rfl (show 0 ≤ 4 by decide) (fun h => absurd rfl h) rfl (c' := 0) (s' := 0) rfl rfl ?_
    refine wp_zret rq_156 rfl rt_156 ?_ ⟨?_, ?_⟩
    · first | exact Or.inl rfl | exact Or.inr rfl
    · (first | rfl | (exfalso; (try simp (disch := omega) only [wr_eq] at *); omega))
    · rfl
theorem ev_misBout_n (b : Int) (σ : Mem) (hB : 0 ≤ σ 13 186 3 ∧ σ 13 186 3 ≤ 307) (h : ¬ (0 ≤ b ∧ b < σ 13 186 3)) : Ev true 156 [aR 11 (0), aI (b)] σ (.inl (some (aI 0))) σ := by
  show wp true 156 0 [some (aR 11 (0)), some (aI (b))] [] σ 0 0 _
  refine wp_seg 8 (P := some (0 ≤ (3) ∧ (3) < alen σ 13 (186))) (ls' := [some (aR 11 (0)), some (aI (b))]) (st' := [aI (wr ((σ 13 (186) (3)) - (1))), aI (0), aI (b)]) (σ' := σ) rq_156 rfl ?_ (i' := 8) rfl ?_
  · show 0 ≤ (3) ∧ (3) < alen σ 13 (186)
    (first | decide | exact Or.inl rfl | exact Or.inr rfl | ((try simp only [al_g, al_k, al_p, al_c, al_r, al_t, al_o, rl_g, rl_k, rl_p, rl_c, rl_r, rl_t, rl_o]); (try simp (disch := omega) only [wr_eq]); omega))
  by_cases h1 : (0) ≤ (b) ∧ (b) ≤ (wr ((σ 13 (186) (3)) - (1)))
  · refine wp_call (C := 0) (As := [aI (b), aI (0), aI (wr ((σ 13 (186) (3)) - (1)))]) (rest := []) rq_156 (ev_min_y (b) (0) (wr ((σ 13 (186) (3)) - (1))) σ  h1) rfl rfl (show clOK 156 154 2 0 0 3 0 = true by decide +kernel) rfl (show 0 ≤ 4 by decide) (fun h => absurd rfl h) rfl (c' := 0) (s' := 0) rfl rfl ?_
    refine wp_zret rq_156 rfl rt_156 ?_ ⟨?_, ?_⟩
    · first | exact Or.inl rfl | exact Or.inr rfl
    · (first | rfl | (exfalso; (try simp (disch := omega) only [wr_eq] at *); omega))
    · rfl
  · refine wp_call (C := 0) (As := [aI (b), aI (0), aI (wr ((σ 13 (186) (3)) - (1)))]) (rest := []) rq_156 (ev_min_n (b) (0) (wr ((σ 13 (186) (3)) - (1))) σ  h1) rfl rfl (show clOK 156 154 2 0 0 3 0 = true by decide +kernel) rfl (show 0 ≤ 4 by decide) (fun h => absurd rfl h) rfl (c' := 0) (s' := 0) rfl rfl ?_
    refine wp_zret rq_156 rfl rt_156 ?_ ⟨?_, ?_⟩
    · first | exact Or.inl rfl | exact Or.inr rfl
    · (first | rfl | (exfalso; (try simp (disch := omega) only [wr_eq] at *); omega))
    · rfl

theorem ev_mof (f w : Int) (σ : Mem) (hf : 0 ≤ f ∧ f < 24) (hv : 0 ≤ w ∧ w < 8) : Ev true 157 [aR 11 (0), aI (f), aI (w)] σ (.inl (some (aI (mof σ f w)))) (σ) := by
  show wp true 157 0 [some (aR 11 (0)), some (aI (f)), some (aI (w))] [] σ 0 0 _
  refine wp_seg 10 (P := some (0 ≤ (wr ((wr ((30) + (wr ((8) * (f))))) + (w))) ∧ (wr ((wr ((30) + (wr ((8) * (f))))) + (w))) < alen σ 13 (186))) (ls' := [some (aR 11 (0)), some (aI (f)), some (aI (w))]) (st' := [aI (σ 13 (186) (wr ((wr ((30) + (wr ((8) * (f))))) + (w))))]) (σ' := σ) rq_157 rfl ?_ (i' := 10) rfl ?_
  · show 0 ≤ (wr ((wr ((30) + (wr ((8) * (f))))) + (w))) ∧ (wr ((wr ((30) + (wr ((8) * (f))))) + (w))) < alen σ 13 (186)
    (first | decide | exact Or.inl rfl | exact Or.inr rfl | ((try simp only [al_g, al_k, al_p, al_c, al_r, al_t, al_o, rl_g, rl_k, rl_p, rl_c, rl_r, rl_t, rl_o]); (try simp (disch := omega) only [wr_eq]); omega))
  refine wp_iret rq_157 rfl rt_157 ⟨?_, ?_⟩
  · (show (Sum.inl (some (aI _)) : Out) = Sum.inl (some (aI _)); simp (disch := omega) only [wr_eq]; rfl)
  · rfl

theorem ev_mat (b w : Int) (σ : Mem) (hb : 0 ≤ b ∧ b < 307) (hv : 0 ≤ w ∧ w < 10) : Ev true 158 [aR 11 (0), aI (b), aI (w)] σ (.inl (some (aI (mat σ b w)))) (σ) := by
  show wp true 158 0 [some (aR 11 (0)), some (aI (b)), some (aI (w))] [] σ 0 0 _
  refine wp_seg 10 (P := some (0 ≤ (wr ((wr ((250) + (wr ((10) * (b))))) + (w))) ∧ (wr ((wr ((250) + (wr ((10) * (b))))) + (w))) < alen σ 13 (186))) (ls' := [some (aR 11 (0)), some (aI (b)), some (aI (w))]) (st' := [aI (σ 13 (186) (wr ((wr ((250) + (wr ((10) * (b))))) + (w))))]) (σ' := σ) rq_158 rfl ?_ (i' := 10) rfl ?_
  · show 0 ≤ (wr ((wr ((250) + (wr ((10) * (b))))) + (w))) ∧ (wr ((wr ((250) + (wr ((10) * (b))))) + (w))) < alen σ 13 (186)
    (first | decide | exact Or.inl rfl | exact Or.inr rfl | ((try simp only [al_g, al_k, al_p, al_c, al_r, al_t, al_o, rl_g, rl_k, rl_p, rl_c, rl_r, rl_t, rl_o]); (try simp (disch := omega) only [wr_eq]); omega))
  refine wp_iret rq_158 rfl rt_158 ⟨?_, ?_⟩
  · (show (Sum.inl (some (aI _)) : Out) = Sum.inl (some (aI _)); simp (disch := omega) only [wr_eq]; rfl)
  · rfl

theorem ev_mput (b w v : Int) (σ : Mem) (hb : 0 ≤ b ∧ b < 307) (hv : 0 ≤ w ∧ w < 10) : Ev true 159 [aR 11 (0), aI (b), aI (w), aI (v)] σ (.inl none) (mput σ b w v) := by
  show wp true 159 0 [some (aR 11 (0)), some (aI (b)), some (aI (w)), some (aI (v))] [] σ 0 0 _
  refine wp_seg 11 (P := some (0 ≤ (wr ((wr ((250) + (wr ((10) * (b))))) + (w))) ∧ (wr ((wr ((250) + (wr ((10) * (b))))) + (w))) < rowLen (186))) (ls' := [some (aR 11 (0)), some (aI (b)), some (aI (w)), some (aI (v))]) (st' := []) (σ' := (up σ 13 (186) (wr ((wr ((250) + (wr ((10) * (b))))) + (w))) (v))) rq_159 rfl ?_ (i' := 11) rfl ?_
  · show 0 ≤ (wr ((wr ((250) + (wr ((10) * (b))))) + (w))) ∧ (wr ((wr ((250) + (wr ((10) * (b))))) + (w))) < rowLen (186)
    (first | decide | exact Or.inl rfl | exact Or.inr rfl | ((try simp only [al_g, al_k, al_p, al_c, al_r, al_t, al_o, rl_g, rl_k, rl_p, rl_c, rl_r, rl_t, rl_o]); (try simp (disch := omega) only [wr_eq]); omega))
  refine wp_vret rq_159 rfl rt_159 ⟨?_, ?_⟩
  · rfl
  · (unfold mput; simp (disch := omega) only [wr_eq])

theorem ev_mthrown  (σ : Mem) : Ev true 152 [aR 11 (0)] σ (.inl (some (aI (σ 11 (0) 6)))) (σ) := by
  show wp true 152 0 [some (aR 11 (0))] [] σ 0 0 _
  refine wp_seg 2 (P := none) (ls' := [some (aR 11 (0))]) (st' := [aI (σ 11 (0) 6)]) (σ' := σ) rq_152 rfl True.intro (i' := 2) rfl ?_
  refine wp_iret rq_152 rfl rt_152 ⟨?_, ?_⟩
  · rfl
  · rfl

theorem ev_mfails (e : Int) (σ : Mem) : Ev true 153 [aR 11 (0), aI (e)] σ (.inl (some (aI (0)))) ((up σ 11 (0) 6 (e))) := by
  show wp true 153 0 [some (aR 11 (0)), some (aI (e))] [] σ 0 0 _
  refine wp_seg 4 (P := none) (ls' := [some (aR 11 (0)), some (aI (e))]) (st' := [aI (0)]) (σ' := (up σ 11 (0) 6 (e))) rq_153 rfl True.intro (i' := 4) rfl ?_
  refine wp_iret rq_153 rfl rt_153 ⟨?_, ?_⟩
  · rfl
  · rfl

def zo_misStronger (x y : Int) (σ : Mem) : Int := if (mof σ (x) (1)) < (mof σ (y) (1)) then 1 else if ¬ (mof σ (x) (1)) = (mof σ (y) (1)) then 0 else if (y) ≤ (x) then 0 else 1
theorem ev_misStronger (x y : Int) (σ : Mem) (hx : 0 ≤ x ∧ x < 24) (hy : 0 ≤ y ∧ y < 24) : Ev true 168 [aR 11 (0), aI (x), aI (y)] σ (.inl (some (aI (zo_misStronger x y σ)))) (σ) := by
  show wp true 168 0 [some (aR 11 (0)), some (aI (x)), some (aI (y))] [] σ 0 0 _
  refine wp_seg 3 (P := none) (ls' := [some (aR 11 (0)), some (aI (x)), some (aI (y))]) (st' := [aI (1), aI (x), aR 11 (0)]) (σ' := σ) rq_168 rfl True.intro (i' := 3) rfl ?_
  refine wp_call (C := 11) (As := [aR 11 (0), aI (x), aI (1)]) (rest := []) rq_168 (ev_mof (x) (1) σ (by first | omega | (simp (disch := omega) only [wr_eq]; omega)) (by first | omega | (simp (disch := omega) only [wr_eq]; omega))) rfl rfl (show clOK 168 157 0 0 0 3 11 = true by decide +kernel) rfl (show 0 ≤ 4 by decide) (fun _ => ⟨_, rfl⟩) rfl (c' := 0) (s' := 0) rfl rfl ?_
  refine wp_seg 3 (P := none) (ls' := [some (aR 11 (0)), some (aI (x)), some (aI (y))]) (st' := [aI (1), aI (y), aR 11 (0), aI (mof σ (x) (1))]) (σ' := σ) rq_168 rfl True.intro (i' := 7) rfl ?_
  refine wp_call (C := 11) (As := [aR 11 (0), aI (y), aI (1)]) (rest := [aI (mof σ (x) (1))]) rq_168 (ev_mof (y) (1) σ (by first | omega | (simp (disch := omega) only [wr_eq]; omega)) (by first | omega | (simp (disch := omega) only [wr_eq]; omega))) rfl rfl (show clOK 168 157 0 0 0 3 11 = true by decide +kernel) rfl (show 1 ≤ 4 by decide) (fun _ => ⟨_, rfl⟩) rfl (c' := 0) (s' := 0) rfl rfl ?_
  refine wp_icmp rq_168 rfl (fun (h1 : (mof σ (x) (1)) < (mof σ (y) (1))) => ?_) (fun (h1 : ¬ ((mof σ (x) (1)) < (mof σ (y) (1)))) => ?_)
  · refine wp_seg 1 (P := none) (ls' := [some (aR 11 (0)), some (aI (x)), some (aI (y))]) (st' := [aI (1)]) (σ' := σ) rq_168 rfl True.intro (i' := 22) rfl ?_
    refine wp_goto rq_168 rfl ?_
    refine wp_zret rq_168 rfl rt_168 ?_ ⟨?_, ?_⟩
    · first | exact Or.inl rfl | exact Or.inr rfl
    · (rw [zo_misStronger, if_pos h1]; try rfl)
    · rfl
  · refine wp_seg 3 (P := none) (ls' := [some (aR 11 (0)), some (aI (x)), some (aI (y))]) (st' := [aI (1), aI (x), aR 11 (0)]) (σ' := σ) rq_168 rfl True.intro (i' := 12) rfl ?_
    refine wp_call (C := 11) (As := [aR 11 (0), aI (x), aI (1)]) (rest := []) rq_168 (ev_mof (x) (1) σ (by first | omega | (simp (disch := omega) only [wr_eq]; omega)) (by first | omega | (simp (disch := omega) only [wr_eq]; omega))) rfl rfl (show clOK 168 157 0 0 0 3 11 = true by decide +kernel) rfl (show 0 ≤ 4 by decide) (fun _ => ⟨_, rfl⟩) rfl (c' := 0) (s' := 0) rfl rfl ?_
    refine wp_seg 3 (P := none) (ls' := [some (aR 11 (0)), some (aI (x)), some (aI (y))]) (st' := [aI (1), aI (y), aR 11 (0), aI (mof σ (x) (1))]) (σ' := σ) rq_168 rfl True.intro (i' := 16) rfl ?_
    refine wp_call (C := 11) (As := [aR 11 (0), aI (y), aI (1)]) (rest := [aI (mof σ (x) (1))]) rq_168 (ev_mof (y) (1) σ (by first | omega | (simp (disch := omega) only [wr_eq]; omega)) (by first | omega | (simp (disch := omega) only [wr_eq]; omega))) rfl rfl (show clOK 168 157 0 0 0 3 11 = true by decide +kernel) rfl (show 1 ≤ 4 by decide) (fun _ => ⟨_, rfl⟩) rfl (c' := 0) (s' := 0) rfl rfl ?_
    refine wp_icmp rq_168 rfl (fun (h2 : ¬ (mof σ (x) (1)) = (mof σ (y) (1))) => ?_) (fun (h2 : ¬ (¬ (mof σ (x) (1)) = (mof σ (y) (1)))) => ?_)
    · refine wp_seg 1 (P := none) (ls' := [some (aR 11 (0)), some (aI (x)), some (aI (y))]) (st' := [aI (0)]) (σ' := σ) rq_168 rfl True.intro (i' := 24) rfl ?_
      refine wp_zret rq_168 rfl rt_168 ?_ ⟨?_, ?_⟩
      · first | exact Or.inl rfl | exact Or.inr rfl
      · (rw [zo_misStronger, if_neg h1, if_pos h2]; try rfl)
      · rfl
    · refine wp_seg 2 (P := none) (ls' := [some (aR 11 (0)), some (aI (x)), some (aI (y))]) (st' := [aI (y), aI (x)]) (σ' := σ) rq_168 rfl True.intro (i' := 20) rfl ?_
      refine wp_icmp rq_168 rfl (fun (h3 : (y) ≤ (x)) => ?_) (fun (h3 : ¬ ((y) ≤ (x))) => ?_)
      · refine wp_seg 1 (P := none) (ls' := [some (aR 11 (0)), some (aI (x)), some (aI (y))]) (st' := [aI (0)]) (σ' := σ) rq_168 rfl True.intro (i' := 24) rfl ?_
        refine wp_zret rq_168 rfl rt_168 ?_ ⟨?_, ?_⟩
        · first | exact Or.inl rfl | exact Or.inr rfl
        · (rw [zo_misStronger, if_neg h1, if_neg h2, if_pos h3]; try rfl)
        · rfl
      · refine wp_seg 1 (P := none) (ls' := [some (aR 11 (0)), some (aI (x)), some (aI (y))]) (st' := [aI (1)]) (σ' := σ) rq_168 rfl True.intro (i' := 22) rfl ?_
        refine wp_goto rq_168 rfl ?_
        refine wp_zret rq_168 rfl rt_168 ?_ ⟨?_, ?_⟩
        · first | exact Or.inl rfl | exact Or.inr rfl
        · (rw [zo_misStronger, if_neg h1, if_neg h2, if_neg h3]; try rfl)
        · rfl

def fo_mmembersOf (p : Int) (σ : Mem) (i : Int) : Int := if ¬ (mof σ (i) (6)) = (p) then 0 else 1
theorem lp_mmembersOf (p : Int) (σ : Mem) (hF : 0 ≤ σ 13 186 1 ∧ σ 13 186 1 ≤ 24) (hL : σ 13 (186) (1) ≤ 2147483647) : ∀ (n : Nat) (i a : Int), a = wr (sumTo (fo_mmembersOf p σ) i) → 0 ≤ i → (i ≤ σ 13 (186) (1) ∨ i = 0) → (σ 13 (186) (1) - i).toNat < n → wp true 169 4 [some (aR 11 (0)), some (aI (p)), some (aI (a)), some (aI (i))] [] σ 0 0 (fun o' σ2 => o' = .inl (some (aI (wr (sumTo (fo_mmembersOf p σ) (σ 13 (186) (1)))))) ∧ σ2 = σ) := by
  intro n
  induction n with
  | zero => intros; omega
  | succ n ih =>
    intro i a ha h0 hi hm
    refine wp_seg 5 (P := some (0 ≤ (1) ∧ (1) < alen σ 13 (186))) (ls' := [some (aR 11 (0)), some (aI (p)), some (aI (a)), some (aI (i))]) (st' := [aI (σ 13 (186) (1)), aI (i)]) (σ' := σ) rq_169 rfl ?_ (i' := 9) rfl ?_
    · show 0 ≤ (1) ∧ (1) < alen σ 13 (186)
      (first | decide | exact Or.inl rfl | exact Or.inr rfl | ((try simp only [al_g, al_k, al_p, al_c, al_r, al_t, al_o, rl_g, rl_k, rl_p, rl_c, rl_r, rl_t, rl_o]); (try simp (disch := omega) only [wr_eq]); omega))
    refine wp_icmp rq_169 rfl (fun (h1 : (σ 13 (186) (1)) ≤ (i)) => ?_) (fun (h1 : ¬ ((σ 13 (186) (1)) ≤ (i))) => ?_)
    · refine wp_seg 1 (P := none) (ls' := [some (aR 11 (0)), some (aI (p)), some (aI (a)), some (aI (i))]) (st' := [aI (a)]) (σ' := σ) rq_169 rfl True.intro (i' := 25) rfl ?_
      refine wp_iret rq_169 rfl rt_169 ⟨?_, ?_⟩
      · show (Sum.inl (some (aI a)) : Out) = _
        rw [ha, sumTo_end _ h1 hi]
      · rfl
    · refine wp_seg 4 (P := none) (ls' := [some (aR 11 (0)), some (aI (p)), some (aI (a)), some (aI (i))]) (st' := [aI (6), aI (i), aR 11 (0), aI (a)]) (σ' := σ) rq_169 rfl True.intro (i' := 14) rfl ?_
      refine wp_call (C := 11) (As := [aR 11 (0), aI (i), aI (6)]) (rest := [aI (a)]) rq_169 (ev_mof (i) (6) σ (by first | omega | (simp (disch := omega) only [wr_eq]; omega)) (by first | omega | (simp (disch := omega) only [wr_eq]; omega))) rfl rfl (show clOK 169 157 0 0 0 3 11 = true by decide +kernel) rfl (show 1 ≤ 4 by decide) (fun _ => ⟨_, rfl⟩) rfl (c' := 0) (s' := 0) rfl rfl ?_
      refine wp_seg 1 (P := none) (ls' := [some (aR 11 (0)), some (aI (p)), some (aI (a)), some (aI (i))]) (st' := [aI (p), aI (mof σ (i) (6)), aI (a)]) (σ' := σ) rq_169 rfl True.intro (i' := 16) rfl ?_
      refine wp_icmp rq_169 rfl (fun (h2 : ¬ (mof σ (i) (6)) = (p)) => ?_) (fun (h2 : ¬ (¬ (mof σ (i) (6)) = (p))) => ?_)
      · refine wp_seg 4 (P := none) (ls' := [some (aR 11 (0)), some (aI (p)), some (aI (wr ((a) + (0)))), some (aI (wr (i + 1)))]) (st' := []) (σ' := σ) rq_169 rfl True.intro (i' := 23) rfl ?_
        refine wp_goto rq_169 rfl ?_
        have e : wr (i + 1) = i + 1 := wr_eq (by omega) (by omega)
        rw [e]
        have eF : fo_mmembersOf p σ i = 0 := by rw [fo_mmembersOf, if_pos h2]
        refine ih (i + 1) _ ?_ (by omega) (by omega) (by omega)
        show wr (a + (0)) = _
        rw [ha, wr_wl, sumTo_s _ h0, eF]
      · refine wp_seg 1 (P := none) (ls' := [some (aR 11 (0)), some (aI (p)), some (aI (a)), some (aI (i))]) (st' := [aI (1), aI (a)]) (σ' := σ) rq_169 rfl True.intro (i' := 18) rfl ?_
        refine wp_goto rq_169 rfl ?_
        refine wp_seg 3 (P := none) (ls' := [some (aR 11 (0)), some (aI (p)), some (aI (wr ((a) + (1)))), some (aI (wr (i + 1)))]) (st' := []) (σ' := σ) rq_169 rfl True.intro (i' := 23) rfl ?_
        refine wp_goto rq_169 rfl ?_
        have e : wr (i + 1) = i + 1 := wr_eq (by omega) (by omega)
        rw [e]
        have eF : fo_mmembersOf p σ i = 1 := by rw [fo_mmembersOf, if_neg h2]
        refine ih (i + 1) _ ?_ (by omega) (by omega) (by omega)
        show wr (a + (1)) = _
        rw [ha, wr_wl, sumTo_s _ h0, eF]
theorem ev_mmembersOf (p : Int) (σ : Mem) (hF : 0 ≤ σ 13 186 1 ∧ σ 13 186 1 ≤ 24) : Ev true 169 [aR 11 (0), aI (p)] σ (.inl (some (aI (wr (sumTo (fo_mmembersOf p σ) (σ 13 (186) (1))))))) σ := by
  show wp true 169 0 [some (aR 11 (0)), some (aI (p)), none, none] [] σ 0 0 _
  refine wp_seg 4 (P := none) (ls' := [some (aR 11 (0)), some (aI (p)), some (aI (0)), some (aI (0))]) (st' := []) (σ' := σ) rq_169 rfl True.intro (i' := 4) rfl ?_
  refine wp_wf (fun hw hl => ?_)
  have h := lp_mmembersOf p σ hF (wf_le hw 13 (186) (1) (by decide)).2 ((σ 13 (186) (1) - 0).toNat + 1) 0 0 (by rw [sumTo_0]; rfl) (by omega) (Or.inr rfl) (by omega)
  exact h

def fo_mclubmates (p c : Int) (σ : Mem) (i : Int) : Int := if ¬ (mof σ (i) (6)) = (p) then 0 else if ¬ (mof σ (i) (0)) = (c) then 0 else 1
theorem lp_mclubmates (p c : Int) (σ : Mem) (hF : 0 ≤ σ 13 186 1 ∧ σ 13 186 1 ≤ 24) (hL : σ 13 (186) (1) ≤ 2147483647) : ∀ (n : Nat) (i a : Int), a = wr (sumTo (fo_mclubmates p c σ) i) → 0 ≤ i → (i ≤ σ 13 (186) (1) ∨ i = 0) → (σ 13 (186) (1) - i).toNat < n → wp true 170 4 [some (aR 11 (0)), some (aI (p)), some (aI (c)), some (aI (a)), some (aI (i))] [] σ 0 0 (fun o' σ2 => o' = .inl (some (aI (wr (sumTo (fo_mclubmates p c σ) (σ 13 (186) (1)))))) ∧ σ2 = σ) := by
  intro n
  induction n with
  | zero => intros; omega
  | succ n ih =>
    intro i a ha h0 hi hm
    refine wp_seg 5 (P := some (0 ≤ (1) ∧ (1) < alen σ 13 (186))) (ls' := [some (aR 11 (0)), some (aI (p)), some (aI (c)), some (aI (a)), some (aI (i))]) (st' := [aI (σ 13 (186) (1)), aI (i)]) (σ' := σ) rq_170 rfl ?_ (i' := 9) rfl ?_
    · show 0 ≤ (1) ∧ (1) < alen σ 13 (186)
      (first | decide | exact Or.inl rfl | exact Or.inr rfl | ((try simp only [al_g, al_k, al_p, al_c, al_r, al_t, al_o, rl_g, rl_k, rl_p, rl_c, rl_r, rl_t, rl_o]); (try simp (disch := omega) only [wr_eq]); omega))
    refine wp_icmp rq_170 rfl (fun (h1 : (σ 13 (186) (1)) ≤ (i)) => ?_) (fun (h1 : ¬ ((σ 13 (186) (1)) ≤ (i))) => ?_)
    · refine wp_seg 1 (P := none) (ls' := [some (aR 11 (0)), some (aI (p)), some (aI (c)), some (aI (a)), some (aI (i))]) (st' := [aI (a)]) (σ' := σ) rq_170 rfl True.intro (i' := 31) rfl ?_
      refine wp_iret rq_170 rfl rt_170 ⟨?_, ?_⟩
      · show (Sum.inl (some (aI a)) : Out) = _
        rw [ha, sumTo_end _ h1 hi]
      · rfl
    · refine wp_seg 4 (P := none) (ls' := [some (aR 11 (0)), some (aI (p)), some (aI (c)), some (aI (a)), some (aI (i))]) (st' := [aI (6), aI (i), aR 11 (0), aI (a)]) (σ' := σ) rq_170 rfl True.intro (i' := 14) rfl ?_
      refine wp_call (C := 11) (As := [aR 11 (0), aI (i), aI (6)]) (rest := [aI (a)]) rq_170 (ev_mof (i) (6) σ (by first | omega | (simp (disch := omega) only [wr_eq]; omega)) (by first | omega | (simp (disch := omega) only [wr_eq]; omega))) rfl rfl (show clOK 170 157 0 0 0 3 11 = true by decide +kernel) rfl (show 1 ≤ 4 by decide) (fun _ => ⟨_, rfl⟩) rfl (c' := 0) (s' := 0) rfl rfl ?_
      refine wp_seg 1 (P := none) (ls' := [some (aR 11 (0)), some (aI (p)), some (aI (c)), some (aI (a)), some (aI (i))]) (st' := [aI (p), aI (mof σ (i) (6)), aI (a)]) (σ' := σ) rq_170 rfl True.intro (i' := 16) rfl ?_
      refine wp_icmp rq_170 rfl (fun (h2 : ¬ (mof σ (i) (6)) = (p)) => ?_) (fun (h2 : ¬ (¬ (mof σ (i) (6)) = (p))) => ?_)
      · refine wp_seg 4 (P := none) (ls' := [some (aR 11 (0)), some (aI (p)), some (aI (c)), some (aI (wr ((a) + (0)))), some (aI (wr (i + 1)))]) (st' := []) (σ' := σ) rq_170 rfl True.intro (i' := 29) rfl ?_
        refine wp_goto rq_170 rfl ?_
        have e : wr (i + 1) = i + 1 := wr_eq (by omega) (by omega)
        rw [e]
        have eF : fo_mclubmates p c σ i = 0 := by rw [fo_mclubmates, if_pos h2]
        refine ih (i + 1) _ ?_ (by omega) (by omega) (by omega)
        show wr (a + (0)) = _
        rw [ha, wr_wl, sumTo_s _ h0, eF]
      · refine wp_seg 3 (P := none) (ls' := [some (aR 11 (0)), some (aI (p)), some (aI (c)), some (aI (a)), some (aI (i))]) (st' := [aI (0), aI (i), aR 11 (0), aI (a)]) (σ' := σ) rq_170 rfl True.intro (i' := 20) rfl ?_
        refine wp_call (C := 11) (As := [aR 11 (0), aI (i), aI (0)]) (rest := [aI (a)]) rq_170 (ev_mof (i) (0) σ (by first | omega | (simp (disch := omega) only [wr_eq]; omega)) (by first | omega | (simp (disch := omega) only [wr_eq]; omega))) rfl rfl (show clOK 170 157 0 0 0 3 11 = true by decide +kernel) rfl (show 1 ≤ 4 by decide) (fun _ => ⟨_, rfl⟩) rfl (c' := 0) (s' := 0) rfl rfl ?_
        refine wp_seg 1 (P := none) (ls' := [some (aR 11 (0)), some (aI (p)), some (aI (c)), some (aI (a)), some (aI (i))]) (st' := [aI (c), aI (mof σ (i) (0)), aI (a)]) (σ' := σ) rq_170 rfl True.intro (i' := 22) rfl ?_
        refine wp_icmp rq_170 rfl (fun (h3 : ¬ (mof σ (i) (0)) = (c)) => ?_) (fun (h3 : ¬ (¬ (mof σ (i) (0)) = (c))) => ?_)
        · refine wp_seg 4 (P := none) (ls' := [some (aR 11 (0)), some (aI (p)), some (aI (c)), some (aI (wr ((a) + (0)))), some (aI (wr (i + 1)))]) (st' := []) (σ' := σ) rq_170 rfl True.intro (i' := 29) rfl ?_
          refine wp_goto rq_170 rfl ?_
          have e : wr (i + 1) = i + 1 := wr_eq (by omega) (by omega)
          rw [e]
          have eF : fo_mclubmates p c σ i = 0 := by rw [fo_mclubmates, if_neg h2, if_pos h3]
          refine ih (i + 1) _ ?_ (by omega) (by omega) (by omega)
          show wr (a + (0)) = _
          rw [ha, wr_wl, sumTo_s _ h0, eF]
        · refine wp_seg 1 (P := none) (ls' := [some (aR 11 (0)), some (aI (p)), some (aI (c)), some (aI (a)), some (aI (i))]) (st' := [aI (1), aI (a)]) (σ' := σ) rq_170 rfl True.intro (i' := 24) rfl ?_
          refine wp_goto rq_170 rfl ?_
          refine wp_seg 3 (P := none) (ls' := [some (aR 11 (0)), some (aI (p)), some (aI (c)), some (aI (wr ((a) + (1)))), some (aI (wr (i + 1)))]) (st' := []) (σ' := σ) rq_170 rfl True.intro (i' := 29) rfl ?_
          refine wp_goto rq_170 rfl ?_
          have e : wr (i + 1) = i + 1 := wr_eq (by omega) (by omega)
          rw [e]
          have eF : fo_mclubmates p c σ i = 1 := by rw [fo_mclubmates, if_neg h2, if_neg h3]
          refine ih (i + 1) _ ?_ (by omega) (by omega) (by omega)
          show wr (a + (1)) = _
          rw [ha, wr_wl, sumTo_s _ h0, eF]
theorem ev_mclubmates (p c : Int) (σ : Mem) (hF : 0 ≤ σ 13 186 1 ∧ σ 13 186 1 ≤ 24) : Ev true 170 [aR 11 (0), aI (p), aI (c)] σ (.inl (some (aI (wr (sumTo (fo_mclubmates p c σ) (σ 13 (186) (1))))))) σ := by
  show wp true 170 0 [some (aR 11 (0)), some (aI (p)), some (aI (c)), none, none] [] σ 0 0 _
  refine wp_seg 4 (P := none) (ls' := [some (aR 11 (0)), some (aI (p)), some (aI (c)), some (aI (0)), some (aI (0))]) (st' := []) (σ' := σ) rq_170 rfl True.intro (i' := 4) rfl ?_
  refine wp_wf (fun hw hl => ?_)
  have h := lp_mclubmates p c σ hF (wf_le hw 13 (186) (1) (by decide)).2 ((σ 13 (186) (1) - 0).toNat + 1) 0 0 (by rw [sumTo_0]; rfl) (by omega) (Or.inr rfl) (by omega)
  exact h

def fp_mmemberAt (p i0 : Int) (σ : Mem) (i : Int) : Bool := if ¬ (mof σ (i) (6)) = (p) then false else if ¬ (mof σ (i) (7)) = (i0) then false else true
theorem lp_mmemberAt (p i0 : Int) (σ : Mem) (hF : 0 ≤ σ 13 186 1 ∧ σ 13 186 1 ≤ 24) (hL : σ 13 (186) (1) ≤ 2147483647) (r : Int) : ∀ (n : Nat) (i : Int), 0 ≤ i → (σ 13 (186) (1) - i).toNat < n → r = fnd (fp_mmemberAt p i0 σ) i (σ 13 (186) (1)) → wp true 172 2 [some (aR 11 (0)), some (aI (p)), some (aI (i0)), some (aI (i))] [] σ 0 0 (fun o' σ2 => o' = .inl (some (aI r)) ∧ σ2 = σ) := by
  intro n
  induction n with
  | zero => intros; omega
  | succ n ih =>
    intro i h0 hm hr
    refine wp_seg 5 (P := some (0 ≤ (1) ∧ (1) < alen σ 13 (186))) (ls' := [some (aR 11 (0)), some (aI (p)), some (aI (i0)), some (aI (i))]) (st' := [aI (σ 13 (186) (1)), aI (i)]) (σ' := σ) rq_172 rfl ?_ (i' := 7) rfl ?_
    · show 0 ≤ (1) ∧ (1) < alen σ 13 (186)
      (first | decide | exact Or.inl rfl | exact Or.inr rfl | ((try simp only [al_g, al_k, al_p, al_c, al_r, al_t, al_o, rl_g, rl_k, rl_p, rl_c, rl_r, rl_t, rl_o]); (try simp (disch := omega) only [wr_eq]); omega))
    refine wp_icmp rq_172 rfl (fun (h1 : (σ 13 (186) (1)) ≤ (i)) => ?_) (fun (h1 : ¬ ((σ 13 (186) (1)) ≤ (i))) => ?_)
    · refine wp_seg 1 (P := none) (ls' := [some (aR 11 (0)), some (aI (p)), some (aI (i0)), some (aI (i))]) (st' := [aI (-1)]) (σ' := σ) rq_172 rfl True.intro (i' := 25) rfl ?_
      refine wp_iret rq_172 rfl rt_172 ⟨?_, ?_⟩
      · show (Sum.inl (some (aI _)) : Out) = _
        rw [hr, fnd_end h1]
      · rfl
    · refine wp_seg 3 (P := none) (ls' := [some (aR 11 (0)), some (aI (p)), some (aI (i0)), some (aI (i))]) (st' := [aI (6), aI (i), aR 11 (0)]) (σ' := σ) rq_172 rfl True.intro (i' := 11) rfl ?_
      refine wp_call (C := 11) (As := [aR 11 (0), aI (i), aI (6)]) (rest := []) rq_172 (ev_mof (i) (6) σ (by first | omega | (simp (disch := omega) only [wr_eq]; omega)) (by first | omega | (simp (disch := omega) only [wr_eq]; omega))) rfl rfl (show clOK 172 157 0 0 0 3 11 = true by decide +kernel) rfl (show 0 ≤ 4 by decide) (fun _ => ⟨_, rfl⟩) rfl (c' := 0) (s' := 0) rfl rfl ?_
      refine wp_seg 1 (P := none) (ls' := [some (aR 11 (0)), some (aI (p)), some (aI (i0)), some (aI (i))]) (st' := [aI (p), aI (mof σ (i) (6))]) (σ' := σ) rq_172 rfl True.intro (i' := 13) rfl ?_
      refine wp_icmp rq_172 rfl (fun (h2 : ¬ (mof σ (i) (6)) = (p)) => ?_) (fun (h2 : ¬ (¬ (mof σ (i) (6)) = (p))) => ?_)
      · refine wp_seg 1 (P := none) (ls' := [some (aR 11 (0)), some (aI (p)), some (aI (i0)), some (aI (wr (i + 1)))]) (st' := []) (σ' := σ) rq_172 rfl True.intro (i' := 23) rfl ?_
        refine wp_goto rq_172 rfl ?_
        have e : wr (i + 1) = i + 1 := wr_eq (by omega) (by omega)
        rw [e]
        exact ih (i + 1) (by omega) (by omega) (hr.trans (by rw [fnd_n (by omega) (by rw [fp_mmemberAt, if_pos h2]; decide)]))
      · refine wp_seg 3 (P := none) (ls' := [some (aR 11 (0)), some (aI (p)), some (aI (i0)), some (aI (i))]) (st' := [aI (7), aI (i), aR 11 (0)]) (σ' := σ) rq_172 rfl True.intro (i' := 17) rfl ?_
        refine wp_call (C := 11) (As := [aR 11 (0), aI (i), aI (7)]) (rest := []) rq_172 (ev_mof (i) (7) σ (by first | omega | (simp (disch := omega) only [wr_eq]; omega)) (by first | omega | (simp (disch := omega) only [wr_eq]; omega))) rfl rfl (show clOK 172 157 0 0 0 3 11 = true by decide +kernel) rfl (show 0 ≤ 4 by decide) (fun _ => ⟨_, rfl⟩) rfl (c' := 0) (s' := 0) rfl rfl ?_
        refine wp_seg 1 (P := none) (ls' := [some (aR 11 (0)), some (aI (p)), some (aI (i0)), some (aI (i))]) (st' := [aI (i0), aI (mof σ (i) (7))]) (σ' := σ) rq_172 rfl True.intro (i' := 19) rfl ?_
        refine wp_icmp rq_172 rfl (fun (h3 : ¬ (mof σ (i) (7)) = (i0)) => ?_) (fun (h3 : ¬ (¬ (mof σ (i) (7)) = (i0))) => ?_)
        · refine wp_seg 1 (P := none) (ls' := [some (aR 11 (0)), some (aI (p)), some (aI (i0)), some (aI (wr (i + 1)))]) (st' := []) (σ' := σ) rq_172 rfl True.intro (i' := 23) rfl ?_
          refine wp_goto rq_172 rfl ?_
          have e : wr (i + 1) = i + 1 := wr_eq (by omega) (by omega)
          rw [e]
          exact ih (i + 1) (by omega) (by omega) (hr.trans (by rw [fnd_n (by omega) (by rw [fp_mmemberAt, if_neg h2, if_pos h3]; decide)]))
        · refine wp_seg 1 (P := none) (ls' := [some (aR 11 (0)), some (aI (p)), some (aI (i0)), some (aI (i))]) (st' := [aI (i)]) (σ' := σ) rq_172 rfl True.intro (i' := 21) rfl ?_
          refine wp_iret rq_172 rfl rt_172 ⟨?_, ?_⟩
          · show (Sum.inl (some (aI _)) : Out) = _
            rw [hr, fnd_y (by omega) (by rw [fp_mmemberAt, if_neg h2, if_neg h3])]
          · rfl
theorem ev_mmemberAt (p i0 : Int) (σ : Mem) (hF : 0 ≤ σ 13 186 1 ∧ σ 13 186 1 ≤ 24) : Ev true 172 [aR 11 (0), aI (p), aI (i0)] σ (.inl (some (aI (fnd (fp_mmemberAt p i0 σ) (0) (σ 13 (186) (1)))))) σ := by
  show wp true 172 0 [some (aR 11 (0)), some (aI (p)), some (aI (i0)), none] [] σ 0 0 _
  refine wp_seg 2 (P := none) (ls' := [some (aR 11 (0)), some (aI (p)), some (aI (i0)), some (aI (0))]) (st' := []) (σ' := σ) rq_172 rfl True.intro (i' := 2) rfl ?_
  refine wp_wf (fun hw hl => ?_)
  exact lp_mmemberAt p i0 σ hF (wf_le hw 13 (186) (1) (by decide)).2 _ ((σ 13 (186) (1) - (0)).toNat + 1) (0) (by decide) (by omega) rfl

def fo_mstaying  (σ : Mem) (i : Int) : Int := wr ((1) - (mof σ (i) (2)))
theorem lp_mstaying  (σ : Mem) (hF : 0 ≤ σ 13 186 1 ∧ σ 13 186 1 ≤ 24) (hL : σ 13 (186) (1) ≤ 2147483647) : ∀ (n : Nat) (i a : Int), a = wr (sumTo (fo_mstaying σ) i) → 0 ≤ i → (i ≤ σ 13 (186) (1) ∨ i = 0) → (σ 13 (186) (1) - i).toNat < n → wp true 177 4 [some (aR 11 (0)), some (aI (a)), some (aI (i))] [] σ 0 0 (fun o' σ2 => o' = .inl (some (aI (wr (sumTo (fo_mstaying σ) (σ 13 (186) (1)))))) ∧ σ2 = σ) := by
  intro n
  induction n with
  | zero => intros; omega
  | succ n ih =>
    intro i a ha h0 hi hm
    refine wp_seg 5 (P := some (0 ≤ (1) ∧ (1) < alen σ 13 (186))) (ls' := [some (aR 11 (0)), some (aI (a)), some (aI (i))]) (st' := [aI (σ 13 (186) (1)), aI (i)]) (σ' := σ) rq_177 rfl ?_ (i' := 9) rfl ?_
    · show 0 ≤ (1) ∧ (1) < alen σ 13 (186)
      (first | decide | exact Or.inl rfl | exact Or.inr rfl | ((try simp only [al_g, al_k, al_p, al_c, al_r, al_t, al_o, rl_g, rl_k, rl_p, rl_c, rl_r, rl_t, rl_o]); (try simp (disch := omega) only [wr_eq]); omega))
    refine wp_icmp rq_177 rfl (fun (h1 : (σ 13 (186) (1)) ≤ (i)) => ?_) (fun (h1 : ¬ ((σ 13 (186) (1)) ≤ (i))) => ?_)
    · refine wp_seg 1 (P := none) (ls' := [some (aR 11 (0)), some (aI (a)), some (aI (i))]) (st' := [aI (a)]) (σ' := σ) rq_177 rfl True.intro (i' := 22) rfl ?_
      refine wp_iret rq_177 rfl rt_177 ⟨?_, ?_⟩
      · show (Sum.inl (some (aI a)) : Out) = _
        rw [ha, sumTo_end _ h1 hi]
      · rfl
    · refine wp_seg 5 (P := none) (ls' := [some (aR 11 (0)), some (aI (a)), some (aI (i))]) (st' := [aI (2), aI (i), aR 11 (0), aI (1), aI (a)]) (σ' := σ) rq_177 rfl True.intro (i' := 15) rfl ?_
      refine wp_call (C := 11) (As := [aR 11 (0), aI (i), aI (2)]) (rest := [aI (1), aI (a)]) rq_177 (ev_mof (i) (2) σ (by first | omega | (simp (disch := omega) only [wr_eq]; omega)) (by first | omega | (simp (disch := omega) only [wr_eq]; omega))) rfl rfl (show clOK 177 157 0 0 0 3 11 = true by decide +kernel) rfl (show 2 ≤ 4 by decide) (fun _ => ⟨_, rfl⟩) rfl (c' := 0) (s' := 0) rfl rfl ?_
      refine wp_seg 4 (P := none) (ls' := [some (aR 11 (0)), some (aI (wr ((a) + (wr ((1) - (mof σ (i) (2))))))), some (aI (wr (i + 1)))]) (st' := []) (σ' := σ) rq_177 rfl True.intro (i' := 20) rfl ?_
      refine wp_goto rq_177 rfl ?_
      have e : wr (i + 1) = i + 1 := wr_eq (by omega) (by omega)
      rw [e]
      have eF : fo_mstaying  σ i = wr ((1) - (mof σ (i) (2))) := by rfl
      refine ih (i + 1) _ ?_ (by omega) (by omega) (by omega)
      show wr (a + (wr ((1) - (mof σ (i) (2))))) = _
      rw [ha, wr_wl, sumTo_s _ h0, eF]
theorem ev_mstaying  (σ : Mem) (hF : 0 ≤ σ 13 186 1 ∧ σ 13 186 1 ≤ 24) : Ev true 177 [aR 11 (0)] σ (.inl (some (aI (wr (sumTo (fo_mstaying σ) (σ 13 (186) (1))))))) σ := by
  show wp true 177 0 [some (aR 11 (0)), none, none] [] σ 0 0 _
  refine wp_seg 4 (P := none) (ls' := [some (aR 11 (0)), some (aI (0)), some (aI (0))]) (st' := []) (σ' := σ) rq_177 rfl True.intro (i' := 4) rfl ?_
  refine wp_wf (fun hw hl => ?_)
  have h := lp_mstaying σ hF (wf_le hw 13 (186) (1) (by decide)).2 ((σ 13 (186) (1) - 0).toNat + 1) 0 0 (by rw [sumTo_0]; rfl) (by omega) (Or.inr rfl) (by omega)
  exact h

theorem ev_misPool_y (p : Int) (σ : Mem) (hP : 0 ≤ σ 13 186 2 ∧ σ 13 186 2 ≤ 6) (h : 0 ≤ p ∧ p < σ 13 186 2) : Ev true 179 [aR 11 (0), aI (p)] σ (.inl (some (aI 1))) σ := by
  show wp true 179 0 [some (aR 11 (0)), some (aI (p))] [] σ 0 0 _
  refine wp_seg 8 (P := some (0 ≤ (2) ∧ (2) < alen σ 13 (186))) (ls' := [some (aR 11 (0)), some (aI (p))]) (st' := [aI (wr ((σ 13 (186) (2)) - (1))), aI (0), aI (p)]) (σ' := σ) rq_179 rfl ?_ (i' := 8) rfl ?_
  · show 0 ≤ (2) ∧ (2) < alen σ 13 (186)
    (first | decide | exact Or.inl rfl | exact Or.inr rfl | ((try simp only [al_g, al_k, al_p, al_c, al_r, al_t, al_o, rl_g, rl_k, rl_p, rl_c, rl_r, rl_t, rl_o]); (try simp (disch := omega) only [wr_eq]); omega))
  by_cases h1 : (0) ≤ (p) ∧ (p) ≤ (wr ((σ 13 (186) (2)) - (1)))
  · refine wp_call (C := 0) (As := [aI (p), aI (0), aI (wr ((σ 13 (186) (2)) - (1)))]) (rest := []) rq_179 (ev_min_y (p) (0) (wr ((σ 13 (186) (2)) - (1))) σ  h1) rfl rfl (show clOK 179 154 2 0 0 3 0 = true by decide +kernel) rfl (show 0 ≤ 4 by decide) (fun h => absurd rfl h) rfl (c' := 0) (s' := 0) rfl rfl ?_
    refine wp_zret rq_179 rfl rt_179 ?_ ⟨?_, ?_⟩
    · first | exact Or.inl rfl | exact Or.inr rfl
    · (first | rfl | (exfalso; (try simp (disch := omega) only [wr_eq] at *); omega))
    · rfl
  · refine wp_call (C := 0) (As := [aI (p), aI (0), aI (wr ((σ 13 (186) (2)) - (1)))]) (rest := []) rq_179 (ev_min_n (p) (0) (wr ((σ 13 (186) (2)) - (1))) σ  h1) rfl rfl (show clOK 179 154 2 0 0 3 0 = true by decide +kernel) rfl (show 0 ≤ 4 by decide) (fun h => absurd rfl h) rfl (c' := 0) (s' := 0) rfl rfl ?_
    refine wp_zret rq_179 rfl rt_179 ?_ ⟨?_, ?_⟩
    · first | exact Or.inl rfl | exact Or.inr rfl
    · (first | rfl | (exfalso; (try simp (disch := omega) only [wr_eq] at *); omega))
    · rfl
theorem ev_misPool_n (p : Int) (σ : Mem) (hP : 0 ≤ σ 13 186 2 ∧ σ 13 186 2 ≤ 6) (h : ¬ (0 ≤ p ∧ p < σ 13 186 2)) : Ev true 179 [aR 11 (0), aI (p)] σ (.inl (some (aI 0))) σ := by
  show wp true 179 0 [some (aR 11 (0)), some (aI (p))] [] σ 0 0 _
  refine wp_seg 8 (P := some (0 ≤ (2) ∧ (2) < alen σ 13 (186))) (ls' := [some (aR 11 (0)), some (aI (p))]) (st' := [aI (wr ((σ 13 (186) (2)) - (1))), aI (0), aI (p)]) (σ' := σ) rq_179 rfl ?_ (i' := 8) rfl ?_
  · show 0 ≤ (2) ∧ (2) < alen σ 13 (186)
    (first | decide | exact Or.inl rfl | exact Or.inr rfl | ((try simp only [al_g, al_k, al_p, al_c, al_r, al_t, al_o, rl_g, rl_k, rl_p, rl_c, rl_r, rl_t, rl_o]); (try simp (disch := omega) only [wr_eq]); omega))
  by_cases h1 : (0) ≤ (p) ∧ (p) ≤ (wr ((σ 13 (186) (2)) - (1)))
  · refine wp_call (C := 0) (As := [aI (p), aI (0), aI (wr ((σ 13 (186) (2)) - (1)))]) (rest := []) rq_179 (ev_min_y (p) (0) (wr ((σ 13 (186) (2)) - (1))) σ  h1) rfl rfl (show clOK 179 154 2 0 0 3 0 = true by decide +kernel) rfl (show 0 ≤ 4 by decide) (fun h => absurd rfl h) rfl (c' := 0) (s' := 0) rfl rfl ?_
    refine wp_zret rq_179 rfl rt_179 ?_ ⟨?_, ?_⟩
    · first | exact Or.inl rfl | exact Or.inr rfl
    · (first | rfl | (exfalso; (try simp (disch := omega) only [wr_eq] at *); omega))
    · rfl
  · refine wp_call (C := 0) (As := [aI (p), aI (0), aI (wr ((σ 13 (186) (2)) - (1)))]) (rest := []) rq_179 (ev_min_n (p) (0) (wr ((σ 13 (186) (2)) - (1))) σ  h1) rfl rfl (show clOK 179 154 2 0 0 3 0 = true by decide +kernel) rfl (show 0 ≤ 4 by decide) (fun h => absurd rfl h) rfl (c' := 0) (s' := 0) rfl rfl ?_
    refine wp_zret rq_179 rfl rt_179 ?_ ⟨?_, ?_⟩
    · first | exact Or.inl rfl | exact Or.inr rfl
    · (first | rfl | (exfalso; (try simp (disch := omega) only [wr_eq] at *); omega))
    · rfl

theorem ev_misTable_y (b : Int) (σ : Mem) (hb : 0 ≤ b ∧ b < 307) (h : 100 ≤ mat σ b 7) : Ev true 183 [aR 11 (0), aI (b)] σ (.inl (some (aI 1))) σ := by
  show wp true 183 0 [some (aR 11 (0)), some (aI (b))] [] σ 0 0 _
  refine wp_seg 3 (P := none) (ls' := [some (aR 11 (0)), some (aI (b))]) (st' := [aI (7), aI (b), aR 11 (0)]) (σ' := σ) rq_183 rfl True.intro (i' := 3) rfl ?_
  refine wp_call (C := 11) (As := [aR 11 (0), aI (b), aI (7)]) (rest := []) rq_183 (ev_mat (b) (7) σ (by first | omega | (simp (disch := omega) only [wr_eq]; omega)) (by first | omega | (simp (disch := omega) only [wr_eq]; omega))) rfl rfl (show clOK 183 158 0 0 0 3 11 = true by decide +kernel) rfl (show 0 ≤ 4 by decide) (fun _ => ⟨_, rfl⟩) rfl (c' := 0) (s' := 0) rfl rfl ?_
  refine wp_seg 1 (P := none) (ls' := [some (aR 11 (0)), some (aI (b))]) (st' := [aI (100), aI (mat σ (b) (7))]) (σ' := σ) rq_183 rfl True.intro (i' := 5) rfl ?_
  refine wp_icmp rq_183 rfl (fun (h1 : (mat σ (b) (7)) < 100) => ?_) (fun (h1 : ¬ ((mat σ (b) (7)) < 100)) => ?_)
  · refine wp_seg 1 (P := none) (ls' := [some (aR 11 (0)), some (aI (b))]) (st' := [aI (0)]) (σ' := σ) rq_183 rfl True.intro (i' := 9) rfl ?_
    refine wp_zret rq_183 rfl rt_183 ?_ ⟨?_, ?_⟩
    · first | exact Or.inl rfl | exact Or.inr rfl
    · (first | rfl | (exfalso; (try simp (disch := omega) only [wr_eq] at *); omega))
    · rfl
  · refine wp_seg 1 (P := none) (ls' := [some (aR 11 (0)), some (aI (b))]) (st' := [aI (1)]) (σ' := σ) rq_183 rfl True.intro (i' := 7) rfl ?_
    refine wp_goto rq_183 rfl ?_
    refine wp_zret rq_183 rfl rt_183 ?_ ⟨?_, ?_⟩
    · first | exact Or.inl rfl | exact Or.inr rfl
    · (first | rfl | (exfalso; (try simp (disch := omega) only [wr_eq] at *); omega))
    · rfl
theorem ev_misTable_n (b : Int) (σ : Mem) (hb : 0 ≤ b ∧ b < 307) (h : ¬ (100 ≤ mat σ b 7)) : Ev true 183 [aR 11 (0), aI (b)] σ (.inl (some (aI 0))) σ := by
  show wp true 183 0 [some (aR 11 (0)), some (aI (b))] [] σ 0 0 _
  refine wp_seg 3 (P := none) (ls' := [some (aR 11 (0)), some (aI (b))]) (st' := [aI (7), aI (b), aR 11 (0)]) (σ' := σ) rq_183 rfl True.intro (i' := 3) rfl ?_
  refine wp_call (C := 11) (As := [aR 11 (0), aI (b), aI (7)]) (rest := []) rq_183 (ev_mat (b) (7) σ (by first | omega | (simp (disch := omega) only [wr_eq]; omega)) (by first | omega | (simp (disch := omega) only [wr_eq]; omega))) rfl rfl (show clOK 183 158 0 0 0 3 11 = true by decide +kernel) rfl (show 0 ≤ 4 by decide) (fun _ => ⟨_, rfl⟩) rfl (c' := 0) (s' := 0) rfl rfl ?_
  refine wp_seg 1 (P := none) (ls' := [some (aR 11 (0)), some (aI (b))]) (st' := [aI (100), aI (mat σ (b) (7))]) (σ' := σ) rq_183 rfl True.intro (i' := 5) rfl ?_
  refine wp_icmp rq_183 rfl (fun (h1 : (mat σ (b) (7)) < 100) => ?_) (fun (h1 : ¬ ((mat σ (b) (7)) < 100)) => ?_)
  · refine wp_seg 1 (P := none) (ls' := [some (aR 11 (0)), some (aI (b))]) (st' := [aI (0)]) (σ' := σ) rq_183 rfl True.intro (i' := 9) rfl ?_
    refine wp_zret rq_183 rfl rt_183 ?_ ⟨?_, ?_⟩
    · first | exact Or.inl rfl | exact Or.inr rfl
    · (first | rfl | (exfalso; (try simp (disch := omega) only [wr_eq] at *); omega))
    · rfl
  · refine wp_seg 1 (P := none) (ls' := [some (aR 11 (0)), some (aI (b))]) (st' := [aI (1)]) (σ' := σ) rq_183 rfl True.intro (i' := 7) rfl ?_
    refine wp_goto rq_183 rfl ?_
    refine wp_zret rq_183 rfl rt_183 ?_ ⟨?_, ?_⟩
    · first | exact Or.inl rfl | exact Or.inr rfl
    · (first | rfl | (exfalso; (try simp (disch := omega) only [wr_eq] at *); omega))
    · rfl

def zo_mtarget (b : Int) (σ : Mem) : Int := if 100 ≤ mat σ (b) 7 then 15 else 5
theorem ev_mtarget (b : Int) (σ : Mem) (hb : 0 ≤ b ∧ b < 307) : Ev true 184 [aR 11 (0), aI (b)] σ (.inl (some (aI (zo_mtarget b σ)))) (σ) := by
  show wp true 184 0 [some (aR 11 (0)), some (aI (b))] [] σ 0 0 _
  refine wp_seg 2 (P := none) (ls' := [some (aR 11 (0)), some (aI (b))]) (st' := [aI (b), aR 11 (0)]) (σ' := σ) rq_184 rfl True.intro (i' := 2) rfl ?_
  by_cases h1 : 100 ≤ mat σ (b) 7
  · refine wp_call (C := 11) (As := [aR 11 (0), aI (b)]) (rest := []) rq_184 (ev_misTable_y (b) σ (by first | omega | (simp (disch := omega) only [wr_eq]; omega)) h1) rfl rfl (show clOK 184 183 0 0 0 2 11 = true by decide +kernel) rfl (show 0 ≤ 4 by decide) (fun _ => ⟨_, rfl⟩) rfl (c' := 0) (s' := 0) rfl rfl ?_
    refine wp_if rq_184 rfl (fun (h2 : (1 : Int) = (0 : Int)) => absurd h2 (show ¬ ((1 : Int) = (0 : Int)) from by decide)) (fun _ => ?_)
    refine wp_seg 1 (P := none) (ls' := [some (aR 11 (0)), some (aI (b))]) (st' := [aI (15)]) (σ' := σ) rq_184 rfl True.intro (i' := 5) rfl ?_
    refine wp_goto rq_184 rfl ?_
    refine wp_iret rq_184 rfl rt_184 ⟨?_, ?_⟩
    · (rw [zo_mtarget, if_pos h1]; try rfl)
    · rfl
  · refine wp_call (C := 11) (As := [aR 11 (0), aI (b)]) (rest := []) rq_184 (ev_misTable_n (b) σ (by first | omega | (simp (disch := omega) only [wr_eq]; omega)) h1) rfl rfl (show clOK 184 183 0 0 0 2 11 = true by decide +kernel) rfl (show 0 ≤ 4 by decide) (fun _ => ⟨_, rfl⟩) rfl (c' := 0) (s' := 0) rfl rfl ?_
    refine wp_if rq_184 rfl (fun _ => ?_) (fun (h3 : ¬ ((0 : Int) = (0 : Int))) => absurd (show (0 : Int) = (0 : Int) from by decide) h3)
    refine wp_seg 1 (P := none) (ls' := [some (aR 11 (0)), some (aI (b))]) (st' := [aI (5)]) (σ' := σ) rq_184 rfl True.intro (i' := 7) rfl ?_
    refine wp_iret rq_184 rfl rt_184 ⟨?_, ?_⟩
    · (rw [zo_mtarget, if_neg h1]; try rfl)
    · rfl

theorem ev_mroundOf (b : Int) (σ : Mem) (hb : 0 ≤ b ∧ b < 307) : Ev true 191 [aR 11 (0), aI (b)] σ (.inl (some (aI (wr ((mat σ (b) (7)) - (100)))))) (σ) := by
  show wp true 191 0 [some (aR 11 (0)), some (aI (b))] [] σ 0 0 _
  refine wp_seg 3 (P := none) (ls' := [some (aR 11 (0)), some (aI (b))]) (st' := [aI (7), aI (b), aR 11 (0)]) (σ' := σ) rq_191 rfl True.intro (i' := 3) rfl ?_
  refine wp_call (C := 11) (As := [aR 11 (0), aI (b), aI (7)]) (rest := []) rq_191 (ev_mat (b) (7) σ (by first | omega | (simp (disch := omega) only [wr_eq]; omega)) (by first | omega | (simp (disch := omega) only [wr_eq]; omega))) rfl rfl (show clOK 191 158 0 0 0 3 11 = true by decide +kernel) rfl (show 0 ≤ 4 by decide) (fun _ => ⟨_, rfl⟩) rfl (c' := 0) (s' := 0) rfl rfl ?_
  refine wp_seg 2 (P := none) (ls' := [some (aR 11 (0)), some (aI (b))]) (st' := [aI (wr ((mat σ (b) (7)) - (100)))]) (σ' := σ) rq_191 rfl True.intro (i' := 6) rfl ?_
  refine wp_iret rq_191 rfl rt_191 ⟨?_, ?_⟩
  · rfl
  · rfl

theorem ev_misKnown_y (b : Int) (σ : Mem) (hb : 0 ≤ b ∧ b < 307) (h : 0 ≤ mat σ b 0 ∧ 0 ≤ mat σ b 1) : Ev true 189 [aR 11 (0), aI (b)] σ (.inl (some (aI 1))) σ := by
  show wp true 189 0 [some (aR 11 (0)), some (aI (b))] [] σ 0 0 _
  refine wp_seg 3 (P := none) (ls' := [some (aR 11 (0)), some (aI (b))]) (st' := [aI (0), aI (b), aR 11 (0)]) (σ' := σ) rq_189 rfl True.intro (i' := 3) rfl ?_
  refine wp_call (C := 11) (As := [aR 11 (0), aI (b), aI (0)]) (rest := []) rq_189 (ev_mat (b) (0) σ (by first | omega | (simp (disch := omega) only [wr_eq]; omega)) (by first | omega | (simp (disch := omega) only [wr_eq]; omega))) rfl rfl (show clOK 189 158 0 0 0 3 11 = true by decide +kernel) rfl (show 0 ≤ 4 by decide) (fun _ => ⟨_, rfl⟩) rfl (c' := 0) (s' := 0) rfl rfl ?_
  refine wp_if rq_189 rfl (fun (h1 : (mat σ (b) (0)) < 0) => ?_) (fun (h1 : ¬ ((mat σ (b) (0)) < 0)) => ?_)
  · refine wp_seg 1 (P := none) (ls' := [some (aR 11 (0)), some (aI (b))]) (st' := [aI (0)]) (σ' := σ) rq_189 rfl True.intro (i' := 13) rfl ?_
    refine wp_zret rq_189 rfl rt_189 ?_ ⟨?_, ?_⟩
    · first | exact Or.inl rfl | exact Or.inr rfl
    · (first | rfl | (exfalso; (try simp (disch := omega) only [wr_eq] at *); omega))
    · rfl
  · refine wp_seg 3 (P := none) (ls' := [some (aR 11 (0)), some (aI (b))]) (st' := [aI (1), aI (b), aR 11 (0)]) (σ' := σ) rq_189 rfl True.intro (i' := 8) rfl ?_
    refine wp_call (C := 11) (As := [aR 11 (0), aI (b), aI (1)]) (rest := []) rq_189 (ev_mat (b) (1) σ (by first | omega | (simp (disch := omega) only [wr_eq]; omega)) (by first | omega | (simp (disch := omega) only [wr_eq]; omega))) rfl rfl (show clOK 189 158 0 0 0 3 11 = true by decide +kernel) rfl (show 0 ≤ 4 by decide) (fun _ => ⟨_, rfl⟩) rfl (c' := 0) (s' := 0) rfl rfl ?_
    refine wp_if rq_189 rfl (fun (h2 : (mat σ (b) (1)) < 0) => ?_) (fun (h2 : ¬ ((mat σ (b) (1)) < 0)) => ?_)
    · refine wp_seg 1 (P := none) (ls' := [some (aR 11 (0)), some (aI (b))]) (st' := [aI (0)]) (σ' := σ) rq_189 rfl True.intro (i' := 13) rfl ?_
      refine wp_zret rq_189 rfl rt_189 ?_ ⟨?_, ?_⟩
      · first | exact Or.inl rfl | exact Or.inr rfl
      · (first | rfl | (exfalso; (try simp (disch := omega) only [wr_eq] at *); omega))
      · rfl
    · refine wp_seg 1 (P := none) (ls' := [some (aR 11 (0)), some (aI (b))]) (st' := [aI (1)]) (σ' := σ) rq_189 rfl True.intro (i' := 11) rfl ?_
      refine wp_goto rq_189 rfl ?_
      refine wp_zret rq_189 rfl rt_189 ?_ ⟨?_, ?_⟩
      · first | exact Or.inl rfl | exact Or.inr rfl
      · (first | rfl | (exfalso; (try simp (disch := omega) only [wr_eq] at *); omega))
      · rfl
theorem ev_misKnown_n (b : Int) (σ : Mem) (hb : 0 ≤ b ∧ b < 307) (h : ¬ (0 ≤ mat σ b 0 ∧ 0 ≤ mat σ b 1)) : Ev true 189 [aR 11 (0), aI (b)] σ (.inl (some (aI 0))) σ := by
  show wp true 189 0 [some (aR 11 (0)), some (aI (b))] [] σ 0 0 _
  refine wp_seg 3 (P := none) (ls' := [some (aR 11 (0)), some (aI (b))]) (st' := [aI (0), aI (b), aR 11 (0)]) (σ' := σ) rq_189 rfl True.intro (i' := 3) rfl ?_
  refine wp_call (C := 11) (As := [aR 11 (0), aI (b), aI (0)]) (rest := []) rq_189 (ev_mat (b) (0) σ (by first | omega | (simp (disch := omega) only [wr_eq]; omega)) (by first | omega | (simp (disch := omega) only [wr_eq]; omega))) rfl rfl (show clOK 189 158 0 0 0 3 11 = true by decide +kernel) rfl (show 0 ≤ 4 by decide) (fun _ => ⟨_, rfl⟩) rfl (c' := 0) (s' := 0) rfl rfl ?_
  refine wp_if rq_189 rfl (fun (h1 : (mat σ (b) (0)) < 0) => ?_) (fun (h1 : ¬ ((mat σ (b) (0)) < 0)) => ?_)
  · refine wp_seg 1 (P := none) (ls' := [some (aR 11 (0)), some (aI (b))]) (st' := [aI (0)]) (σ' := σ) rq_189 rfl True.intro (i' := 13) rfl ?_
    refine wp_zret rq_189 rfl rt_189 ?_ ⟨?_, ?_⟩
    · first | exact Or.inl rfl | exact Or.inr rfl
    · (first | rfl | (exfalso; (try simp (disch := omega) only [wr_eq] at *); omega))
    · rfl
  · refine wp_seg 3 (P := none) (ls' := [some (aR 11 (0)), some (aI (b))]) (st' := [aI (1), aI (b), aR 11 (0)]) (σ' := σ) rq_189 rfl True.intro (i' := 8) rfl ?_
    refine wp_call (C := 11) (As := [aR 11 (0), aI (b), aI (1)]) (rest := []) rq_189 (ev_mat (b) (1) σ (by first | omega | (simp (disch := omega) only [wr_eq]; omega)) (by first | omega | (simp (disch := omega) only [wr_eq]; omega))) rfl rfl (show clOK 189 158 0 0 0 3 11 = true by decide +kernel) rfl (show 0 ≤ 4 by decide) (fun _ => ⟨_, rfl⟩) rfl (c' := 0) (s' := 0) rfl rfl ?_
    refine wp_if rq_189 rfl (fun (h2 : (mat σ (b) (1)) < 0) => ?_) (fun (h2 : ¬ ((mat σ (b) (1)) < 0)) => ?_)
    · refine wp_seg 1 (P := none) (ls' := [some (aR 11 (0)), some (aI (b))]) (st' := [aI (0)]) (σ' := σ) rq_189 rfl True.intro (i' := 13) rfl ?_
      refine wp_zret rq_189 rfl rt_189 ?_ ⟨?_, ?_⟩
      · first | exact Or.inl rfl | exact Or.inr rfl
      · (first | rfl | (exfalso; (try simp (disch := omega) only [wr_eq] at *); omega))
      · rfl
    · refine wp_seg 1 (P := none) (ls' := [some (aR 11 (0)), some (aI (b))]) (st' := [aI (1)]) (σ' := σ) rq_189 rfl True.intro (i' := 11) rfl ?_
      refine wp_goto rq_189 rfl ?_
      refine wp_zret rq_189 rfl rt_189 ?_ ⟨?_, ?_⟩
      · first | exact Or.inl rfl | exact Or.inr rfl
      · (first | rfl | (exfalso; (try simp (disch := omega) only [wr_eq] at *); omega))
      · rfl

def fo_minState (t : Int) (σ : Mem) (i : Int) : Int := if ¬ (mat σ (i) (4)) = (t) then 0 else 1
theorem lp_minState (t : Int) (σ : Mem) (hB : 0 ≤ σ 13 186 3 ∧ σ 13 186 3 ≤ 307) (hL : σ 13 (186) (3) ≤ 2147483647) : ∀ (n : Nat) (i a : Int), a = wr (sumTo (fo_minState t σ) i) → 0 ≤ i → (i ≤ σ 13 (186) (3) ∨ i = 0) → (σ 13 (186) (3) - i).toNat < n → wp true 214 4 [some (aR 11 (0)), some (aI (t)), some (aI (a)), some (aI (i))] [] σ 0 0 (fun o' σ2 => o' = .inl (some (aI (wr (sumTo (fo_minState t σ) (σ 13 (186) (3)))))) ∧ σ2 = σ) := by
  intro n
  induction n with
  | zero => intros; omega
  | succ n ih =>
    intro i a ha h0 hi hm
    refine wp_seg 5 (P := some (0 ≤ (3) ∧ (3) < alen σ 13 (186))) (ls' := [some (aR 11 (0)), some (aI (t)), some (aI (a)), some (aI (i))]) (st' := [aI (σ 13 (186) (3)), aI (i)]) (σ' := σ) rq_214 rfl ?_ (i' := 9) rfl ?_
    · show 0 ≤ (3) ∧ (3) < alen σ 13 (186)
      (first | decide | exact Or.inl rfl | exact Or.inr rfl | ((try simp only [al_g, al_k, al_p, al_c, al_r, al_t, al_o, rl_g, rl_k, rl_p, rl_c, rl_r, rl_t, rl_o]); (try simp (disch := omega) only [wr_eq]); omega))
    refine wp_icmp rq_214 rfl (fun (h1 : (σ 13 (186) (3)) ≤ (i)) => ?_) (fun (h1 : ¬ ((σ 13 (186) (3)) ≤ (i))) => ?_)
    · refine wp_seg 1 (P := none) (ls' := [some (aR 11 (0)), some (aI (t)), some (aI (a)), some (aI (i))]) (st' := [aI (a)]) (σ' := σ) rq_214 rfl True.intro (i' := 25) rfl ?_
      refine wp_iret rq_214 rfl rt_214 ⟨?_, ?_⟩
      · show (Sum.inl (some (aI a)) : Out) = _
        rw [ha, sumTo_end _ h1 hi]
      · rfl
    · refine wp_seg 4 (P := none) (ls' := [some (aR 11 (0)), some (aI (t)), some (aI (a)), some (aI (i))]) (st' := [aI (4), aI (i), aR 11 (0), aI (a)]) (σ' := σ) rq_214 rfl True.intro (i' := 14) rfl ?_
      refine wp_call (C := 11) (As := [aR 11 (0), aI (i), aI (4)]) (rest := [aI (a)]) rq_214 (ev_mat (i) (4) σ (by first | omega | (simp (disch := omega) only [wr_eq]; omega)) (by first | omega | (simp (disch := omega) only [wr_eq]; omega))) rfl rfl (show clOK 214 158 0 0 0 3 11 = true by decide +kernel) rfl (show 1 ≤ 4 by decide) (fun _ => ⟨_, rfl⟩) rfl (c' := 0) (s' := 0) rfl rfl ?_
      refine wp_seg 1 (P := none) (ls' := [some (aR 11 (0)), some (aI (t)), some (aI (a)), some (aI (i))]) (st' := [aI (t), aI (mat σ (i) (4)), aI (a)]) (σ' := σ) rq_214 rfl True.intro (i' := 16) rfl ?_
      refine wp_icmp rq_214 rfl (fun (h2 : ¬ (mat σ (i) (4)) = (t)) => ?_) (fun (h2 : ¬ (¬ (mat σ (i) (4)) = (t))) => ?_)
      · refine wp_seg 4 (P := none) (ls' := [some (aR 11 (0)), some (aI (t)), some (aI (wr ((a) + (0)))), some (aI (wr (i + 1)))]) (st' := []) (σ' := σ) rq_214 rfl True.intro (i' := 23) rfl ?_
        refine wp_goto rq_214 rfl ?_
        have e : wr (i + 1) = i + 1 := wr_eq (by omega) (by omega)
        rw [e]
        have eF : fo_minState t σ i = 0 := by rw [fo_minState, if_pos h2]
        refine ih (i + 1) _ ?_ (by omega) (by omega) (by omega)
        show wr (a + (0)) = _
        rw [ha, wr_wl, sumTo_s _ h0, eF]
      · refine wp_seg 1 (P := none) (ls' := [some (aR 11 (0)), some (aI (t)), some (aI (a)), some (aI (i))]) (st' := [aI (1), aI (a)]) (σ' := σ) rq_214 rfl True.intro (i' := 18) rfl ?_
        refine wp_goto rq_214 rfl ?_
        refine wp_seg 3 (P := none) (ls' := [some (aR 11 (0)), some (aI (t)), some (aI (wr ((a) + (1)))), some (aI (wr (i + 1)))]) (st' := []) (σ' := σ) rq_214 rfl True.intro (i' := 23) rfl ?_
        refine wp_goto rq_214 rfl ?_
        have e : wr (i + 1) = i + 1 := wr_eq (by omega) (by omega)
        rw [e]
        have eF : fo_minState t σ i = 1 := by rw [fo_minState, if_neg h2]
        refine ih (i + 1) _ ?_ (by omega) (by omega) (by omega)
        show wr (a + (1)) = _
        rw [ha, wr_wl, sumTo_s _ h0, eF]
theorem ev_minState (t : Int) (σ : Mem) (hB : 0 ≤ σ 13 186 3 ∧ σ 13 186 3 ≤ 307) : Ev true 214 [aR 11 (0), aI (t)] σ (.inl (some (aI (wr (sumTo (fo_minState t σ) (σ 13 (186) (3))))))) σ := by
  show wp true 214 0 [some (aR 11 (0)), some (aI (t)), none, none] [] σ 0 0 _
  refine wp_seg 4 (P := none) (ls' := [some (aR 11 (0)), some (aI (t)), some (aI (0)), some (aI (0))]) (st' := []) (σ' := σ) rq_214 rfl True.intro (i' := 4) rfl ?_
  refine wp_wf (fun hw hl => ?_)
  have h := lp_minState t σ hB (wf_le hw 13 (186) (3) (by decide)).2 ((σ 13 (186) (3) - 0).toNat + 1) 0 0 (by rw [sumTo_0]; rfl) (by omega) (Or.inr rfl) (by omega)
  exact h

