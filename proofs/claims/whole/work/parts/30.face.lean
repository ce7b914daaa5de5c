/-! The face: the methods without loops. -/
def zo_isClub (c : Int) (σ : Mem) : Int := if (c) < 0 then 0 else if 8 ≤ (c) then 0 else 1
theorem ev_isClub (c : Int) (σ : Mem) : Ev true 142 [aI (c)] σ (.inl (some (aI (zo_isClub c σ)))) (σ) := by
  show wp true 142 0 [some (aI (c))] [] σ 0 0 _
  refine wp_seg 1 (P := none) (ls' := [some (aI (c))]) (st' := [aI (c)]) (σ' := σ) rq_142 rfl True.intro (i' := 1) rfl ?_
  refine wp_if rq_142 rfl (fun (h1 : (c) < 0) => ?_) (fun (h1 : ¬ ((c) < 0)) => ?_)
  · refine wp_seg 1 (P := none) (ls' := [some (aI (c))]) (st' := [aI (0)]) (σ' := σ) rq_142 rfl True.intro (i' := 8) rfl ?_
    refine wp_zret rq_142 rfl rt_142 ?_ ⟨?_, ?_⟩
    · first | exact Or.inl rfl | exact Or.inr rfl
    · (rw [zo_isClub, if_pos h1]; try rfl)
    · rfl
  · refine wp_seg 2 (P := none) (ls' := [some (aI (c))]) (st' := [aI (8), aI (c)]) (σ' := σ) rq_142 rfl True.intro (i' := 4) rfl ?_
    refine wp_icmp rq_142 rfl (fun (h2 : 8 ≤ (c)) => ?_) (fun (h2 : ¬ (8 ≤ (c))) => ?_)
    · refine wp_seg 1 (P := none) (ls' := [some (aI (c))]) (st' := [aI (0)]) (σ' := σ) rq_142 rfl True.intro (i' := 8) rfl ?_
      refine wp_zret rq_142 rfl rt_142 ?_ ⟨?_, ?_⟩
      · first | exact Or.inl rfl | exact Or.inr rfl
      · (rw [zo_isClub, if_neg h1, if_pos h2]; try rfl)
      · rfl
    · refine wp_seg 1 (P := none) (ls' := [some (aI (c))]) (st' := [aI (1)]) (σ' := σ) rq_142 rfl True.intro (i' := 6) rfl ?_
      refine wp_goto rq_142 rfl ?_
      refine wp_zret rq_142 rfl rt_142 ?_ ⟨?_, ?_⟩
      · first | exact Or.inl rfl | exact Or.inr rfl
      · (rw [zo_isClub, if_neg h1, if_neg h2]; try rfl)
      · rfl

theorem ev_checkWhat_x (w g : Int) (σ : Mem) (h : w < 0 ∨ g < w) : Ev true 143 [aI (w), aI (g)] σ (.inr 0) σ := by
  show wp true 143 0 [some (aI (w)), some (aI (g))] [] σ 0 0 _
  refine wp_seg 1 (P := none) (ls' := [some (aI (w)), some (aI (g))]) (st' := [aI (w)]) (σ' := σ) rq_143 rfl True.intro (i' := 1) rfl ?_
  refine wp_if rq_143 rfl (fun (h1 : (w) < 0) => ?_) (fun (h1 : ¬ ((w) < 0)) => ?_)
  · refine wp_throw rq_143 rfl (hcat_lt (by decide)) (show 0 ≤ 4 by decide) (by decide +kernel) (by decide +kernel) (by decide +kernel) ⟨?_, ?_⟩
    · (first | rfl | (exfalso; omega) | (exfalso; simp_all; done))
    · rfl
  · refine wp_seg 2 (P := none) (ls' := [some (aI (w)), some (aI (g))]) (st' := [aI (g), aI (w)]) (σ' := σ) rq_143 rfl True.intro (i' := 4) rfl ?_
    refine wp_icmp rq_143 rfl (fun (h2 : (w) ≤ (g)) => ?_) (fun (h2 : ¬ ((w) ≤ (g))) => ?_)
    · refine wp_vret rq_143 rfl rt_143 ⟨?_, ?_⟩
      · (first | rfl | (exfalso; omega) | (exfalso; simp_all; done))
      · rfl
    · refine wp_throw rq_143 rfl (hcat_lt (by decide)) (show 0 ≤ 4 by decide) (by decide +kernel) (by decide +kernel) (by decide +kernel) ⟨?_, ?_⟩
      · (first | rfl | (exfalso; omega) | (exfalso; simp_all; done))
      · rfl
theorem ev_checkWhat_n (w g : Int) (σ : Mem) (h : ¬ (w < 0 ∨ g < w)) : Ev true 143 [aI (w), aI (g)] σ (.inl none) σ := by
  show wp true 143 0 [some (aI (w)), some (aI (g))] [] σ 0 0 _
  refine wp_seg 1 (P := none) (ls' := [some (aI (w)), some (aI (g))]) (st' := [aI (w)]) (σ' := σ) rq_143 rfl True.intro (i' := 1) rfl ?_
  refine wp_if rq_143 rfl (fun (h1 : (w) < 0) => ?_) (fun (h1 : ¬ ((w) < 0)) => ?_)
  · refine wp_throw rq_143 rfl (hcat_lt (by decide)) (show 0 ≤ 4 by decide) (by decide +kernel) (by decide +kernel) (by decide +kernel) ⟨?_, ?_⟩
    · (first | rfl | (exfalso; omega) | (exfalso; simp_all; done))
    · rfl
  · refine wp_seg 2 (P := none) (ls' := [some (aI (w)), some (aI (g))]) (st' := [aI (g), aI (w)]) (σ' := σ) rq_143 rfl True.intro (i' := 4) rfl ?_
    refine wp_icmp rq_143 rfl (fun (h2 : (w) ≤ (g)) => ?_) (fun (h2 : ¬ ((w) ≤ (g))) => ?_)
    · refine wp_vret rq_143 rfl rt_143 ⟨?_, ?_⟩
      · (first | rfl | (exfalso; omega) | (exfalso; simp_all; done))
      · rfl
    · refine wp_throw rq_143 rfl (hcat_lt (by decide)) (show 0 ≤ 4 by decide) (by decide +kernel) (by decide +kernel) (by decide +kernel) ⟨?_, ?_⟩
      · (first | rfl | (exfalso; omega) | (exfalso; simp_all; done))
      · rfl

theorem ev_checkFencer_x (f : Int) (σ : Mem) (h : f < 0 ∨ σ 6 0 0 ≤ f) : Ev true 144 [aR 10 (0), aI (f)] σ (.inr 2) σ := by
  show wp true 144 0 [some (aR 10 (0)), some (aI (f))] [] σ 0 0 _
  refine wp_seg 1 (P := none) (ls' := [some (aR 10 (0)), some (aI (f))]) (st' := [aI (f)]) (σ' := σ) rq_144 rfl True.intro (i' := 1) rfl ?_
  refine wp_if rq_144 rfl (fun (h1 : (f) < 0) => ?_) (fun (h1 : ¬ ((f) < 0)) => ?_)
  · refine wp_throw rq_144 rfl (hcat_lt (by decide)) (show 0 ≤ 4 by decide) (by decide +kernel) (by decide +kernel) (by decide +kernel) ⟨?_, ?_⟩
    · (first | rfl | (exfalso; omega) | (exfalso; simp_all; done))
    · rfl
  · refine wp_seg 5 (P := none) (ls' := [some (aR 10 (0)), some (aI (f))]) (st' := [aI (σ 6 (0) 0), aI (f)]) (σ' := σ) rq_144 rfl True.intro (i' := 7) rfl ?_
    refine wp_icmp rq_144 rfl (fun (h2 : (f) < (σ 6 (0) 0)) => ?_) (fun (h2 : ¬ ((f) < (σ 6 (0) 0))) => ?_)
    · refine wp_vret rq_144 rfl rt_144 ⟨?_, ?_⟩
      · (first | rfl | (exfalso; omega) | (exfalso; simp_all; done))
      · rfl
    · refine wp_throw rq_144 rfl (hcat_lt (by decide)) (show 0 ≤ 4 by decide) (by decide +kernel) (by decide +kernel) (by decide +kernel) ⟨?_, ?_⟩
      · (first | rfl | (exfalso; omega) | (exfalso; simp_all; done))
      · rfl
theorem ev_checkFencer_n (f : Int) (σ : Mem) (h : ¬ (f < 0 ∨ σ 6 0 0 ≤ f)) : Ev true 144 [aR 10 (0), aI (f)] σ (.inl none) σ := by
  show wp true 144 0 [some (aR 10 (0)), some (aI (f))] [] σ 0 0 _
  refine wp_seg 1 (P := none) (ls' := [some (aR 10 (0)), some (aI (f))]) (st' := [aI (f)]) (σ' := σ) rq_144 rfl True.intro (i' := 1) rfl ?_
  refine wp_if rq_144 rfl (fun (h1 : (f) < 0) => ?_) (fun (h1 : ¬ ((f) < 0)) => ?_)
  · refine wp_throw rq_144 rfl (hcat_lt (by decide)) (show 0 ≤ 4 by decide) (by decide +kernel) (by decide +kernel) (by decide +kernel) ⟨?_, ?_⟩
    · (first | rfl | (exfalso; omega) | (exfalso; simp_all; done))
    · rfl
  · refine wp_seg 5 (P := none) (ls' := [some (aR 10 (0)), some (aI (f))]) (st' := [aI (σ 6 (0) 0), aI (f)]) (σ' := σ) rq_144 rfl True.intro (i' := 7) rfl ?_
    refine wp_icmp rq_144 rfl (fun (h2 : (f) < (σ 6 (0) 0)) => ?_) (fun (h2 : ¬ ((f) < (σ 6 (0) 0))) => ?_)
    · refine wp_vret rq_144 rfl rt_144 ⟨?_, ?_⟩
      · (first | rfl | (exfalso; omega) | (exfalso; simp_all; done))
      · rfl
    · refine wp_throw rq_144 rfl (hcat_lt (by decide)) (show 0 ≤ 4 by decide) (by decide +kernel) (by decide +kernel) (by decide +kernel) ⟨?_, ?_⟩
      · (first | rfl | (exfalso; omega) | (exfalso; simp_all; done))
      · rfl

theorem ev_checkPool_x (p : Int) (σ : Mem) (h : p < 0 ∨ σ 3 0 0 ≤ p) : Ev true 145 [aR 10 (0), aI (p)] σ (.inr 2) σ := by
  show wp true 145 0 [some (aR 10 (0)), some (aI (p))] [] σ 0 0 _
  refine wp_seg 1 (P := none) (ls' := [some (aR 10 (0)), some (aI (p))]) (st' := [aI (p)]) (σ' := σ) rq_145 rfl True.intro (i' := 1) rfl ?_
  refine wp_if rq_145 rfl (fun (h1 : (p) < 0) => ?_) (fun (h1 : ¬ ((p) < 0)) => ?_)
  · refine wp_throw rq_145 rfl (hcat_lt (by decide)) (show 0 ≤ 4 by decide) (by decide +kernel) (by decide +kernel) (by decide +kernel) ⟨?_, ?_⟩
    · (first | rfl | (exfalso; omega) | (exfalso; simp_all; done))
    · rfl
  · refine wp_seg 5 (P := none) (ls' := [some (aR 10 (0)), some (aI (p))]) (st' := [aI (σ 3 (0) 0), aI (p)]) (σ' := σ) rq_145 rfl True.intro (i' := 7) rfl ?_
    refine wp_icmp rq_145 rfl (fun (h2 : (p) < (σ 3 (0) 0)) => ?_) (fun (h2 : ¬ ((p) < (σ 3 (0) 0))) => ?_)
    · refine wp_vret rq_145 rfl rt_145 ⟨?_, ?_⟩
      · (first | rfl | (exfalso; omega) | (exfalso; simp_all; done))
      · rfl
    · refine wp_throw rq_145 rfl (hcat_lt (by decide)) (show 0 ≤ 4 by decide) (by decide +kernel) (by decide +kernel) (by decide +kernel) ⟨?_, ?_⟩
      · (first | rfl | (exfalso; omega) | (exfalso; simp_all; done))
      · rfl
theorem ev_checkPool_n (p : Int) (σ : Mem) (h : ¬ (p < 0 ∨ σ 3 0 0 ≤ p)) : Ev true 145 [aR 10 (0), aI (p)] σ (.inl none) σ := by
  show wp true 145 0 [some (aR 10 (0)), some (aI (p))] [] σ 0 0 _
  refine wp_seg 1 (P := none) (ls' := [some (aR 10 (0)), some (aI (p))]) (st' := [aI (p)]) (σ' := σ) rq_145 rfl True.intro (i' := 1) rfl ?_
  refine wp_if rq_145 rfl (fun (h1 : (p) < 0) => ?_) (fun (h1 : ¬ ((p) < 0)) => ?_)
  · refine wp_throw rq_145 rfl (hcat_lt (by decide)) (show 0 ≤ 4 by decide) (by decide +kernel) (by decide +kernel) (by decide +kernel) ⟨?_, ?_⟩
    · (first | rfl | (exfalso; omega) | (exfalso; simp_all; done))
    · rfl
  · refine wp_seg 5 (P := none) (ls' := [some (aR 10 (0)), some (aI (p))]) (st' := [aI (σ 3 (0) 0), aI (p)]) (σ' := σ) rq_145 rfl True.intro (i' := 7) rfl ?_
    refine wp_icmp rq_145 rfl (fun (h2 : (p) < (σ 3 (0) 0)) => ?_) (fun (h2 : ¬ ((p) < (σ 3 (0) 0))) => ?_)
    · refine wp_vret rq_145 rfl rt_145 ⟨?_, ?_⟩
      · (first | rfl | (exfalso; omega) | (exfalso; simp_all; done))
      · rfl
    · refine wp_throw rq_145 rfl (hcat_lt (by decide)) (show 0 ≤ 4 by decide) (by decide +kernel) (by decide +kernel) (by decide +kernel) ⟨?_, ?_⟩
      · (first | rfl | (exfalso; omega) | (exfalso; simp_all; done))
      · rfl

theorem ev_checkBout_x (b : Int) (σ : Mem) (h : zo_has 0 b σ = 0) : Ev true 146 [aR 10 (0), aI (b)] σ (.inr 2) σ := by
  show wp true 146 0 [some (aR 10 (0)), some (aI (b))] [] σ 0 0 _
  refine wp_seg 4 (P := none) (ls' := [some (aR 10 (0)), some (aI (b))]) (st' := [aI (b), aR 0 (0)]) (σ' := σ) rq_146 rfl True.intro (i' := 4) rfl ?_
  refine wp_call (C := 0) (As := [aR 0 (0), aI (b)]) (rest := []) rq_146 (ev_has (0) (b) σ ) rfl rfl (show clOK 146 3 0 0 0 2 0 = true by decide +kernel) rfl (show 0 ≤ 4 by decide) (fun _ => ⟨_, rfl⟩) rfl (c' := 0) (s' := 0) rfl rfl ?_
  refine wp_if rq_146 rfl (fun (h1 : ¬ (zo_has (0) (b) σ) = 0) => ?_) (fun (h1 : ¬ (¬ (zo_has (0) (b) σ) = 0)) => ?_)
  · refine wp_vret rq_146 rfl rt_146 ⟨?_, ?_⟩
    · (first | rfl | (exfalso; omega) | (exfalso; simp_all; done))
    · rfl
  · refine wp_throw rq_146 rfl (hcat_lt (by decide)) (show 0 ≤ 4 by decide) (by decide +kernel) (by decide +kernel) (by decide +kernel) ⟨?_, ?_⟩
    · (first | rfl | (exfalso; omega) | (exfalso; simp_all; done))
    · rfl
theorem ev_checkBout_n (b : Int) (σ : Mem) (h : ¬ (zo_has 0 b σ = 0)) : Ev true 146 [aR 10 (0), aI (b)] σ (.inl none) σ := by
  show wp true 146 0 [some (aR 10 (0)), some (aI (b))] [] σ 0 0 _
  refine wp_seg 4 (P := none) (ls' := [some (aR 10 (0)), some (aI (b))]) (st' := [aI (b), aR 0 (0)]) (σ' := σ) rq_146 rfl True.intro (i' := 4) rfl ?_
  refine wp_call (C := 0) (As := [aR 0 (0), aI (b)]) (rest := []) rq_146 (ev_has (0) (b) σ ) rfl rfl (show clOK 146 3 0 0 0 2 0 = true by decide +kernel) rfl (show 0 ≤ 4 by decide) (fun _ => ⟨_, rfl⟩) rfl (c' := 0) (s' := 0) rfl rfl ?_
  refine wp_if rq_146 rfl (fun (h1 : ¬ (zo_has (0) (b) σ) = 0) => ?_) (fun (h1 : ¬ (¬ (zo_has (0) (b) σ) = 0)) => ?_)
  · refine wp_vret rq_146 rfl rt_146 ⟨?_, ?_⟩
    · (first | rfl | (exfalso; omega) | (exfalso; simp_all; done))
    · rfl
  · refine wp_throw rq_146 rfl (hcat_lt (by decide)) (show 0 ≤ 4 by decide) (by decide +kernel) (by decide +kernel) (by decide +kernel) ⟨?_, ?_⟩
    · (first | rfl | (exfalso; omega) | (exfalso; simp_all; done))
    · rfl

theorem ev_checkRanked_x (f : Int) (σ : Mem) (h : ¬ zo_isExcluded 0 f σ = 0) : Ev true 147 [aR 10 (0), aI (f)] σ (.inr 3) σ := by
  show wp true 147 0 [some (aR 10 (0)), some (aI (f))] [] σ 0 0 _
  refine wp_seg 4 (P := none) (ls' := [some (aR 10 (0)), some (aI (f))]) (st' := [aI (f), aR 6 (0)]) (σ' := σ) rq_147 rfl True.intro (i' := 4) rfl ?_
  refine wp_call (C := 6) (As := [aR 6 (0), aI (f)]) (rest := []) rq_147 (ev_isExcluded (0) (f) σ ) rfl rfl (show clOK 147 71 0 0 0 2 6 = true by decide +kernel) rfl (show 0 ≤ 4 by decide) (fun _ => ⟨_, rfl⟩) rfl (c' := 0) (s' := 0) rfl rfl ?_
  refine wp_if rq_147 rfl (fun (h1 : (zo_isExcluded (0) (f) σ) = 0) => ?_) (fun (h1 : ¬ ((zo_isExcluded (0) (f) σ) = 0)) => ?_)
  · refine wp_vret rq_147 rfl rt_147 ⟨?_, ?_⟩
    · (first | rfl | (exfalso; omega) | (exfalso; simp_all; done))
    · rfl
  · refine wp_throw rq_147 rfl (hcat_lt (by decide)) (show 0 ≤ 4 by decide) (by decide +kernel) (by decide +kernel) (by decide +kernel) ⟨?_, ?_⟩
    · (first | rfl | (exfalso; omega) | (exfalso; simp_all; done))
    · rfl
theorem ev_checkRanked_n (f : Int) (σ : Mem) (h : ¬ (¬ zo_isExcluded 0 f σ = 0)) : Ev true 147 [aR 10 (0), aI (f)] σ (.inl none) σ := by
  show wp true 147 0 [some (aR 10 (0)), some (aI (f))] [] σ 0 0 _
  refine wp_seg 4 (P := none) (ls' := [some (aR 10 (0)), some (aI (f))]) (st' := [aI (f), aR 6 (0)]) (σ' := σ) rq_147 rfl True.intro (i' := 4) rfl ?_
  refine wp_call (C := 6) (As := [aR 6 (0), aI (f)]) (rest := []) rq_147 (ev_isExcluded (0) (f) σ ) rfl rfl (show clOK 147 71 0 0 0 2 6 = true by decide +kernel) rfl (show 0 ≤ 4 by decide) (fun _ => ⟨_, rfl⟩) rfl (c' := 0) (s' := 0) rfl rfl ?_
  refine wp_if rq_147 rfl (fun (h1 : (zo_isExcluded (0) (f) σ) = 0) => ?_) (fun (h1 : ¬ ((zo_isExcluded (0) (f) σ) = 0)) => ?_)
  · refine wp_vret rq_147 rfl rt_147 ⟨?_, ?_⟩
    · (first | rfl | (exfalso; omega) | (exfalso; simp_all; done))
    · rfl
  · refine wp_throw rq_147 rfl (hcat_lt (by decide)) (show 0 ≤ 4 by decide) (by decide +kernel) (by decide +kernel) (by decide +kernel) ⟨?_, ?_⟩
    · (first | rfl | (exfalso; omega) | (exfalso; simp_all; done))
    · rfl

theorem ev_checkTable_x  (σ : Mem) (h : σ 9 0 0 = 0) : Ev true 148 [aR 10 (0)] σ (.inr 1) σ := by
  show wp true 148 0 [some (aR 10 (0))] [] σ 0 0 _
  refine wp_seg 4 (P := none) (ls' := [some (aR 10 (0))]) (st' := [aI (σ 9 (0) 0)]) (σ' := σ) rq_148 rfl True.intro (i' := 4) rfl ?_
  refine wp_if rq_148 rfl (fun (h1 : ¬ (σ 9 (0) 0) = 0) => ?_) (fun (h1 : ¬ (¬ (σ 9 (0) 0) = 0)) => ?_)
  · refine wp_vret rq_148 rfl rt_148 ⟨?_, ?_⟩
    · (first | rfl | (exfalso; omega) | (exfalso; simp_all; done))
    · rfl
  · refine wp_throw rq_148 rfl (hcat_lt (by decide)) (show 0 ≤ 4 by decide) (by decide +kernel) (by decide +kernel) (by decide +kernel) ⟨?_, ?_⟩
    · (first | rfl | (exfalso; omega) | (exfalso; simp_all; done))
    · rfl
theorem ev_checkTable_n  (σ : Mem) (h : ¬ (σ 9 0 0 = 0)) : Ev true 148 [aR 10 (0)] σ (.inl none) σ := by
  show wp true 148 0 [some (aR 10 (0))] [] σ 0 0 _
  refine wp_seg 4 (P := none) (ls' := [some (aR 10 (0))]) (st' := [aI (σ 9 (0) 0)]) (σ' := σ) rq_148 rfl True.intro (i' := 4) rfl ?_
  refine wp_if rq_148 rfl (fun (h1 : ¬ (σ 9 (0) 0) = 0) => ?_) (fun (h1 : ¬ (¬ (σ 9 (0) 0) = 0)) => ?_)
  · refine wp_vret rq_148 rfl rt_148 ⟨?_, ?_⟩
    · (first | rfl | (exfalso; omega) | (exfalso; simp_all; done))
    · rfl
  · refine wp_throw rq_148 rfl (hcat_lt (by decide)) (show 0 ≤ 4 by decide) (by decide +kernel) (by decide +kernel) (by decide +kernel) ⟨?_, ?_⟩
    · (first | rfl | (exfalso; omega) | (exfalso; simp_all; done))
    · rfl

theorem ev_boutInProgress_x  (σ : Mem) (h : σ 2 0 2 = -1) : Ev true 149 [aR 10 (0)] σ (.inr 1) σ := by
  show wp true 149 0 [some (aR 10 (0))] [] σ 0 0 _
  refine wp_seg 4 (P := none) (ls' := [some (aR 10 (0))]) (st' := [aI (-1), aI (σ 2 (0) 2)]) (σ' := σ) rq_149 rfl True.intro (i' := 4) rfl ?_
  refine wp_icmp rq_149 rfl (fun (h1 : ¬ (σ 2 (0) 2) = (-1)) => ?_) (fun (h1 : ¬ (¬ (σ 2 (0) 2) = (-1))) => ?_)
  · refine wp_seg 3 (P := none) (ls' := [some (aR 10 (0))]) (st' := [aI (σ 2 (0) 2)]) (σ' := σ) rq_149 rfl True.intro (i' := 13) rfl ?_
    refine wp_iret rq_149 rfl rt_149 ⟨?_, ?_⟩
    · (first | rfl | (exfalso; omega) | (exfalso; simp_all; done))
    · rfl
  · refine wp_throw rq_149 rfl (hcat_lt (by decide)) (show 0 ≤ 4 by decide) (by decide +kernel) (by decide +kernel) (by decide +kernel) ⟨?_, ?_⟩
    · (first | rfl | (exfalso; omega) | (exfalso; simp_all; done))
    · rfl
theorem ev_boutInProgress_n  (σ : Mem) (h : ¬ (σ 2 0 2 = -1)) : Ev true 149 [aR 10 (0)] σ (.inl (some (aI (σ 2 0 2)))) σ := by
  show wp true 149 0 [some (aR 10 (0))] [] σ 0 0 _
  refine wp_seg 4 (P := none) (ls' := [some (aR 10 (0))]) (st' := [aI (-1), aI (σ 2 (0) 2)]) (σ' := σ) rq_149 rfl True.intro (i' := 4) rfl ?_
  refine wp_icmp rq_149 rfl (fun (h1 : ¬ (σ 2 (0) 2) = (-1)) => ?_) (fun (h1 : ¬ (¬ (σ 2 (0) 2) = (-1))) => ?_)
  · refine wp_seg 3 (P := none) (ls' := [some (aR 10 (0))]) (st' := [aI (σ 2 (0) 2)]) (σ' := σ) rq_149 rfl True.intro (i' := 13) rfl ?_
    refine wp_iret rq_149 rfl rt_149 ⟨?_, ?_⟩
    · (first | rfl | (exfalso; omega) | (exfalso; simp_all; done))
    · rfl
  · refine wp_throw rq_149 rfl (hcat_lt (by decide)) (show 0 ≤ 4 by decide) (by decide +kernel) (by decide +kernel) (by decide +kernel) ⟨?_, ?_⟩
    · (first | rfl | (exfalso; omega) | (exfalso; simp_all; done))
    · rfl

def zo_eur (b x y w : Int) (σ : Mem) : Int := if (zo_reasonAgainst (0) (b) (x) (y) (w) σ) = 0 then (if ¬ (x) = (y) then (if (x) ≤ (y) then 1 else 1) else 1) else 0
def zm_eur (b x y w : Int) (σ : Mem) : Mem := if (zo_reasonAgainst (0) (b) (x) (y) (w) σ) = 0 then (if ¬ (x) = (y) then (if (x) ≤ (y) then (zm_win (0) (b) (1) (rset (rset (zm_keep (0) σ) (10) (wr ((wr ((2) * (b))) + (0))) (x)) (10) (wr ((wr ((2) * (b))) + (1))) (y))) else (zm_win (0) (b) (0) (rset (rset (zm_keep (0) σ) (10) (wr ((wr ((2) * (b))) + (0))) (x)) (10) (wr ((wr ((2) * (b))) + (1))) (y)))) else (zm_win (0) (b) (w) (rset (rset (zm_keep (0) σ) (10) (wr ((wr ((2) * (b))) + (0))) (x)) (10) (wr ((wr ((2) * (b))) + (1))) (y)))) else (up σ 10 (0) 6 (zo_reasonAgainst (0) (b) (x) (y) (w) σ))
theorem ev_eur (b x y w : Int) (σ : Mem) : Ev true 150 [aR 10 (0), aI (b), aI (x), aI (y), aI (w)] σ (.inl (some (aI (zo_eur b x y w σ)))) (zm_eur b x y w σ) := by
  show wp true 150 0 [some (aR 10 (0)), some (aI (b)), some (aI (x)), some (aI (y)), some (aI (w)), none] [] σ 0 0 _
  refine wp_seg 6 (P := none) (ls' := [some (aR 10 (0)), some (aI (b)), some (aI (x)), some (aI (y)), some (aI (w)), none]) (st' := [aI (w), aI (y), aI (x), aI (b), aR 2 (0)]) (σ' := σ) rq_150 rfl True.intro (i' := 6) rfl ?_
  refine wp_call (C := 2) (As := [aR 2 (0), aI (b), aI (x), aI (y), aI (w)]) (rest := []) rq_150 (ev_reasonAgainst (0) (b) (x) (y) (w) σ ) rfl rfl (show clOK 150 34 0 0 0 5 2 = true by decide +kernel) rfl (show 0 ≤ 4 by decide) (fun _ => ⟨_, rfl⟩) rfl (c' := 0) (s' := 0) rfl rfl ?_
  refine wp_seg 2 (P := none) (ls' := [some (aR 10 (0)), some (aI (b)), some (aI (x)), some (aI (y)), some (aI (w)), some (aI (zo_reasonAgainst (0) (b) (x) (y) (w) σ))]) (st' := [aI (zo_reasonAgainst (0) (b) (x) (y) (w) σ)]) (σ' := σ) rq_150 rfl True.intro (i' := 9) rfl ?_
  refine wp_if rq_150 rfl (fun (h1 : (zo_reasonAgainst (0) (b) (x) (y) (w) σ) = 0) => ?_) (fun (h1 : ¬ ((zo_reasonAgainst (0) (b) (x) (y) (w) σ) = 0)) => ?_)
  · refine wp_seg 4 (P := none) (ls' := [some (aR 10 (0)), some (aI (b)), some (aI (x)), some (aI (y)), some (aI (w)), some (aI (zo_reasonAgainst (0) (b) (x) (y) (w) σ))]) (st' := [aR 2 (0), aR 1 (0)]) (σ' := σ) rq_150 rfl True.intro (i' := 19) rfl ?_
    refine wp_call (C := 1) (As := [aR 1 (0), aR 2 (0)]) (rest := []) rq_150 (ev_keep (0) σ ) rfl rfl (show clOK 150 21 0 0 0 2 1 = true by decide +kernel) rfl (show 0 ≤ 4 by decide) (fun _ => ⟨_, rfl⟩) rfl (c' := 0) (s' := 0) rfl rfl ?_
    refine wp_seg 10 (P := none) (ls' := [some (aR 10 (0)), some (aI (b)), some (aI (x)), some (aI (y)), some (aI (w)), some (aI (zo_reasonAgainst (0) (b) (x) (y) (w) σ))]) (st' := [aI (x), aI (wr ((wr ((2) * (b))) + (0))), aR 7 (10)]) (σ' := (zm_keep (0) σ)) rq_150 rfl True.intro (i' := 30) rfl ?_
    refine wp_call (C := 7) (As := [aR 7 (10), aI (wr ((wr ((2) * (b))) + (0))), aI (x)]) (rest := []) rq_150 (ev_set (10) (wr ((wr ((2) * (b))) + (0))) (x) (zm_keep (0) σ) ) rfl rfl (show clOK 150 79 0 0 0 3 7 = true by decide +kernel) rfl (show 0 ≤ 4 by decide) (fun _ => ⟨_, rfl⟩) rfl (c' := 0) (s' := 0) rfl rfl ?_
    refine wp_seg 10 (P := none) (ls' := [some (aR 10 (0)), some (aI (b)), some (aI (x)), some (aI (y)), some (aI (w)), some (aI (zo_reasonAgainst (0) (b) (x) (y) (w) σ))]) (st' := [aI (y), aI (wr ((wr ((2) * (b))) + (1))), aR 7 (10)]) (σ' := (rset (zm_keep (0) σ) (10) (wr ((wr ((2) * (b))) + (0))) (x))) rq_150 rfl True.intro (i' := 41) rfl ?_
    refine wp_call (C := 7) (As := [aR 7 (10), aI (wr ((wr ((2) * (b))) + (1))), aI (y)]) (rest := []) rq_150 (ev_set (10) (wr ((wr ((2) * (b))) + (1))) (y) (rset (zm_keep (0) σ) (10) (wr ((wr ((2) * (b))) + (0))) (x)) ) rfl rfl (show clOK 150 79 0 0 0 3 7 = true by decide +kernel) rfl (show 0 ≤ 4 by decide) (fun _ => ⟨_, rfl⟩) rfl (c' := 0) (s' := 0) rfl rfl ?_
    refine wp_seg 2 (P := none) (ls' := [some (aR 10 (0)), some (aI (b)), some (aI (x)), some (aI (y)), some (aI (w)), some (aI (zo_reasonAgainst (0) (b) (x) (y) (w) σ))]) (st' := [aI (y), aI (x)]) (σ' := (rset (rset (zm_keep (0) σ) (10) (wr ((wr ((2) * (b))) + (0))) (x)) (10) (wr ((wr ((2) * (b))) + (1))) (y))) rq_150 rfl True.intro (i' := 44) rfl ?_
    refine wp_icmp rq_150 rfl (fun (h2 : ¬ (x) = (y)) => ?_) (fun (h2 : ¬ (¬ (x) = (y))) => ?_)
    · refine wp_seg 5 (P := none) (ls' := [some (aR 10 (0)), some (aI (b)), some (aI (x)), some (aI (y)), some (aI (w)), some (aI (zo_reasonAgainst (0) (b) (x) (y) (w) σ))]) (st' := [aI (y), aI (x), aI (b), aR 2 (0)]) (σ' := (rset (rset (zm_keep (0) σ) (10) (wr ((wr ((2) * (b))) + (0))) (x)) (10) (wr ((wr ((2) * (b))) + (1))) (y))) rq_150 rfl True.intro (i' := 56) rfl ?_
      refine wp_icmp rq_150 rfl (fun (h3 : (x) ≤ (y)) => ?_) (fun (h3 : ¬ ((x) ≤ (y))) => ?_)
      · refine wp_seg 1 (P := none) (ls' := [some (aR 10 (0)), some (aI (b)), some (aI (x)), some (aI (y)), some (aI (w)), some (aI (zo_reasonAgainst (0) (b) (x) (y) (w) σ))]) (st' := [aI (1), aI (b), aR 2 (0)]) (σ' := (rset (rset (zm_keep (0) σ) (10) (wr ((wr ((2) * (b))) + (0))) (x)) (10) (wr ((wr ((2) * (b))) + (1))) (y))) rq_150 rfl True.intro (i' := 60) rfl ?_
        refine wp_call (C := 2) (As := [aR 2 (0), aI (b), aI (1)]) (rest := []) rq_150 (ev_win (0) (b) (1) (rset (rset (zm_keep (0) σ) (10) (wr ((wr ((2) * (b))) + (0))) (x)) (10) (wr ((wr ((2) * (b))) + (1))) (y)) ) rfl rfl (show clOK 150 35 0 0 0 3 2 = true by decide +kernel) rfl (show 0 ≤ 4 by decide) (fun _ => ⟨_, rfl⟩) rfl (c' := 0) (s' := 0) rfl rfl ?_
        refine wp_seg 1 (P := none) (ls' := [some (aR 10 (0)), some (aI (b)), some (aI (x)), some (aI (y)), some (aI (w)), some (aI (zo_reasonAgainst (0) (b) (x) (y) (w) σ))]) (st' := [aI (1)]) (σ' := (zm_win (0) (b) (1) (rset (rset (zm_keep (0) σ) (10) (wr ((wr ((2) * (b))) + (0))) (x)) (10) (wr ((wr ((2) * (b))) + (1))) (y)))) rq_150 rfl True.intro (i' := 62) rfl ?_
        refine wp_zret rq_150 rfl rt_150 ?_ ⟨?_, ?_⟩
        · first | exact Or.inl rfl | exact Or.inr rfl
        · (rw [zo_eur, if_pos h1, if_pos h2, if_pos h3]; try rfl)
        · (rw [zm_eur, if_pos h1, if_pos h2, if_pos h3]; try rfl)
      · refine wp_seg 1 (P := none) (ls' := [some (aR 10 (0)), some (aI (b)), some (aI (x)), some (aI (y)), some (aI (w)), some (aI (zo_reasonAgainst (0) (b) (x) (y) (w) σ))]) (st' := [aI (0), aI (b), aR 2 (0)]) (σ' := (rset (rset (zm_keep (0) σ) (10) (wr ((wr ((2) * (b))) + (0))) (x)) (10) (wr ((wr ((2) * (b))) + (1))) (y))) rq_150 rfl True.intro (i' := 58) rfl ?_
        refine wp_goto rq_150 rfl ?_
        refine wp_call (C := 2) (As := [aR 2 (0), aI (b), aI (0)]) (rest := []) rq_150 (ev_win (0) (b) (0) (rset (rset (zm_keep (0) σ) (10) (wr ((wr ((2) * (b))) + (0))) (x)) (10) (wr ((wr ((2) * (b))) + (1))) (y)) ) rfl rfl (show clOK 150 35 0 0 0 3 2 = true by decide +kernel) rfl (show 0 ≤ 4 by decide) (fun _ => ⟨_, rfl⟩) rfl (c' := 0) (s' := 0) rfl rfl ?_
        refine wp_seg 1 (P := none) (ls' := [some (aR 10 (0)), some (aI (b)), some (aI (x)), some (aI (y)), some (aI (w)), some (aI (zo_reasonAgainst (0) (b) (x) (y) (w) σ))]) (st' := [aI (1)]) (σ' := (zm_win (0) (b) (0) (rset (rset (zm_keep (0) σ) (10) (wr ((wr ((2) * (b))) + (0))) (x)) (10) (wr ((wr ((2) * (b))) + (1))) (y)))) rq_150 rfl True.intro (i' := 62) rfl ?_
        refine wp_zret rq_150 rfl rt_150 ?_ ⟨?_, ?_⟩
        · first | exact Or.inl rfl | exact Or.inr rfl
        · (rw [zo_eur, if_pos h1, if_pos h2, if_neg h3]; try rfl)
        · (rw [zm_eur, if_pos h1, if_pos h2, if_neg h3]; try rfl)
    · refine wp_seg 4 (P := none) (ls' := [some (aR 10 (0)), some (aI (b)), some (aI (x)), some (aI (y)), some (aI (w)), some (aI (zo_reasonAgainst (0) (b) (x) (y) (w) σ))]) (st' := [aI (w), aI (b), aR 2 (0)]) (σ' := (rset (rset (zm_keep (0) σ) (10) (wr ((wr ((2) * (b))) + (0))) (x)) (10) (wr ((wr ((2) * (b))) + (1))) (y))) rq_150 rfl True.intro (i' := 49) rfl ?_
      refine wp_call (C := 2) (As := [aR 2 (0), aI (b), aI (w)]) (rest := []) rq_150 (ev_win (0) (b) (w) (rset (rset (zm_keep (0) σ) (10) (wr ((wr ((2) * (b))) + (0))) (x)) (10) (wr ((wr ((2) * (b))) + (1))) (y)) ) rfl rfl (show clOK 150 35 0 0 0 3 2 = true by decide +kernel) rfl (show 0 ≤ 4 by decide) (fun _ => ⟨_, rfl⟩) rfl (c' := 0) (s' := 0) rfl rfl ?_
      refine wp_goto rq_150 rfl ?_
      refine wp_seg 1 (P := none) (ls' := [some (aR 10 (0)), some (aI (b)), some (aI (x)), some (aI (y)), some (aI (w)), some (aI (zo_reasonAgainst (0) (b) (x) (y) (w) σ))]) (st' := [aI (1)]) (σ' := (zm_win (0) (b) (w) (rset (rset (zm_keep (0) σ) (10) (wr ((wr ((2) * (b))) + (0))) (x)) (10) (wr ((wr ((2) * (b))) + (1))) (y)))) rq_150 rfl True.intro (i' := 62) rfl ?_
      refine wp_zret rq_150 rfl rt_150 ?_ ⟨?_, ?_⟩
      · first | exact Or.inl rfl | exact Or.inr rfl
      · (rw [zo_eur, if_pos h1, if_neg h2]; try rfl)
      · (rw [zm_eur, if_pos h1, if_neg h2]; try rfl)
  · refine wp_seg 4 (P := none) (ls' := [some (aR 10 (0)), some (aI (b)), some (aI (x)), some (aI (y)), some (aI (w)), some (aI (zo_reasonAgainst (0) (b) (x) (y) (w) σ))]) (st' := [aI (0)]) (σ' := (up σ 10 (0) 6 (zo_reasonAgainst (0) (b) (x) (y) (w) σ))) rq_150 rfl True.intro (i' := 14) rfl ?_
    refine wp_zret rq_150 rfl rt_150 ?_ ⟨?_, ?_⟩
    · first | exact Or.inl rfl | exact Or.inr rfl
    · (rw [zo_eur, if_neg h1]; try rfl)
    · (rw [zm_eur, if_neg h1]; try rfl)

def zo_xaddFencer (c st : Int) (σ : Mem) : Out := if (zo_isClub (c) σ) = 0 then .inr 0 else if (st) < 1 then .inr 0 else if (st) ≤ 999 then (if ¬ (σ 2 (0) 0) = 0 then .inr 1 else if (σ 6 (0) 0) < 24 then .inl (some (aI ((zm_keep (0) σ) 6 ((0)) 0))) else .inr 1) else .inr 0
def zm_xaddFencer (c st : Int) (σ : Mem) : Mem := if (zo_isClub (c) σ) = 0 then σ else if (st) < 1 then σ else if (st) ≤ 999 then (if ¬ (σ 2 (0) 0) = 0 then σ else if (σ 6 (0) 0) < 24 then (zm_fadd (0) (c) (st) (zm_keep (0) σ)) else σ) else σ
theorem ev_xaddFencer (c st : Int) (σ : Mem) : Ev true 105 [aR 10 (0), aI (c), aI (st)] σ (zo_xaddFencer c st σ) (zm_xaddFencer c st σ) := by
  show wp true 105 0 [some (aR 10 (0)), some (aI (c)), some (aI (st))] [] σ 0 0 _
  refine wp_seg 1 (P := none) (ls' := [some (aR 10 (0)), some (aI (c)), some (aI (st))]) (st' := [aI (c)]) (σ' := σ) rq_105 rfl True.intro (i' := 1) rfl ?_
  refine wp_call (C := 0) (As := [aI (c)]) (rest := []) rq_105 (ev_isClub (c) σ ) rfl rfl (show clOK 105 142 2 0 0 1 0 = true by decide +kernel) rfl (show 0 ≤ 4 by decide) (fun h => absurd rfl h) rfl (c' := 0) (s' := 0) rfl rfl ?_
  refine wp_if rq_105 rfl (fun (h1 : (zo_isClub (c) σ) = 0) => ?_) (fun (h1 : ¬ ((zo_isClub (c) σ) = 0)) => ?_)
  · refine wp_throw rq_105 rfl (hcat_lt (by decide)) (show 0 ≤ 4 by decide) (by decide +kernel) (by decide +kernel) (by decide +kernel) ⟨?_, ?_⟩
    · (rw [zo_xaddFencer, if_pos h1]; try rfl)
    · (rw [zm_xaddFencer, if_pos h1]; try rfl)
  · refine wp_seg 2 (P := none) (ls' := [some (aR 10 (0)), some (aI (c)), some (aI (st))]) (st' := [aI (1), aI (st)]) (σ' := σ) rq_105 rfl True.intro (i' := 5) rfl ?_
    refine wp_icmp rq_105 rfl (fun (h2 : (st) < 1) => ?_) (fun (h2 : ¬ ((st) < 1)) => ?_)
    · refine wp_throw rq_105 rfl (hcat_lt (by decide)) (show 0 ≤ 4 by decide) (by decide +kernel) (by decide +kernel) (by decide +kernel) ⟨?_, ?_⟩
      · (rw [zo_xaddFencer, if_neg h1, if_pos h2]; try rfl)
      · (rw [zm_xaddFencer, if_neg h1, if_pos h2]; try rfl)
    · refine wp_seg 2 (P := none) (ls' := [some (aR 10 (0)), some (aI (c)), some (aI (st))]) (st' := [aI (999), aI (st)]) (σ' := σ) rq_105 rfl True.intro (i' := 8) rfl ?_
      refine wp_icmp rq_105 rfl (fun (h3 : (st) ≤ 999) => ?_) (fun (h3 : ¬ ((st) ≤ 999)) => ?_)
      · refine wp_seg 3 (P := none) (ls' := [some (aR 10 (0)), some (aI (c)), some (aI (st))]) (st' := [aI (σ 2 (0) 0)]) (σ' := σ) rq_105 rfl True.intro (i' := 17) rfl ?_
        refine wp_if rq_105 rfl (fun (h4 : ¬ (σ 2 (0) 0) = 0) => ?_) (fun (h4 : ¬ (¬ (σ 2 (0) 0) = 0)) => ?_)
        · refine wp_throw rq_105 rfl (hcat_lt (by decide)) (show 0 ≤ 4 by decide) (by decide +kernel) (by decide +kernel) (by decide +kernel) ⟨?_, ?_⟩
          · (rw [zo_xaddFencer, if_neg h1, if_neg h2, if_pos h3, if_pos h4]; try rfl)
          · (rw [zm_xaddFencer, if_neg h1, if_neg h2, if_pos h3, if_pos h4]; try rfl)
        · refine wp_seg 5 (P := none) (ls' := [some (aR 10 (0)), some (aI (c)), some (aI (st))]) (st' := [aI (24), aI (σ 6 (0) 0)]) (σ' := σ) rq_105 rfl True.intro (i' := 23) rfl ?_
          refine wp_icmp rq_105 rfl (fun (h5 : (σ 6 (0) 0) < 24) => ?_) (fun (h5 : ¬ ((σ 6 (0) 0) < 24)) => ?_)
          · refine wp_seg 4 (P := none) (ls' := [some (aR 10 (0)), some (aI (c)), some (aI (st))]) (st' := [aR 2 (0), aR 1 (0)]) (σ' := σ) rq_105 rfl True.intro (i' := 33) rfl ?_
            refine wp_call (C := 1) (As := [aR 1 (0), aR 2 (0)]) (rest := []) rq_105 (ev_keep (0) σ ) rfl rfl (show clOK 105 21 0 0 0 2 1 = true by decide +kernel) rfl (show 0 ≤ 4 by decide) (fun _ => ⟨_, rfl⟩) rfl (c' := 0) (s' := 0) rfl rfl ?_
            refine wp_seg 5 (P := none) (ls' := [some (aR 10 (0)), some (aI (c)), some (aI (st))]) (st' := [aI (st), aI (c), aR 6 (0)]) (σ' := (zm_keep (0) σ)) rq_105 rfl True.intro (i' := 39) rfl ?_
            refine wp_call (C := 6) (As := [aR 6 (0), aI (c), aI (st)]) (rest := []) rq_105 (ev_fadd (0) (c) (st) (zm_keep (0) σ) ) rfl rfl (show clOK 105 69 0 0 0 3 6 = true by decide +kernel) rfl (show 0 ≤ 4 by decide) (fun _ => ⟨_, rfl⟩) rfl (c' := 0) (s' := 0) rfl rfl ?_
            refine wp_iret rq_105 rfl rt_105 ⟨?_, ?_⟩
            · (rw [zo_xaddFencer, if_neg h1, if_neg h2, if_pos h3, if_neg h4, if_pos h5]; try rfl)
            · (rw [zm_xaddFencer, if_neg h1, if_neg h2, if_pos h3, if_neg h4, if_pos h5]; try rfl)
          · refine wp_throw rq_105 rfl (hcat_lt (by decide)) (show 0 ≤ 4 by decide) (by decide +kernel) (by decide +kernel) (by decide +kernel) ⟨?_, ?_⟩
            · (rw [zo_xaddFencer, if_neg h1, if_neg h2, if_pos h3, if_neg h4, if_neg h5]; try rfl)
            · (rw [zm_xaddFencer, if_neg h1, if_neg h2, if_pos h3, if_neg h4, if_neg h5]; try rfl)
      · refine wp_throw rq_105 rfl (hcat_lt (by decide)) (show 0 ≤ 4 by decide) (by decide +kernel) (by decide +kernel) (by decide +kernel) ⟨?_, ?_⟩
        · (rw [zo_xaddFencer, if_neg h1, if_neg h2, if_neg h3]; try rfl)
        · (rw [zm_xaddFencer, if_neg h1, if_neg h2, if_neg h3]; try rfl)

def zo_xsetSeed (v : Int) (σ : Mem) : Out := if 0 ≤ (v) then .inl (some (aI (σ 2 (0) 1))) else .inr 0
def zm_xsetSeed (v : Int) (σ : Mem) : Mem := if 0 ≤ (v) then (up (up σ 2 (0) 1 (v)) 1 (0) 2 (0)) else σ
theorem ev_xsetSeed (v : Int) (σ : Mem) : Ev true 107 [aR 10 (0), aI (v)] σ (zo_xsetSeed v σ) (zm_xsetSeed v σ) := by
  show wp true 107 0 [some (aR 10 (0)), some (aI (v)), none] [] σ 0 0 _
  refine wp_seg 1 (P := none) (ls' := [some (aR 10 (0)), some (aI (v)), none]) (st' := [aI (v)]) (σ' := σ) rq_107 rfl True.intro (i' := 1) rfl ?_
  refine wp_if rq_107 rfl (fun (h1 : 0 ≤ (v)) => ?_) (fun (h1 : ¬ (0 ≤ (v))) => ?_)
  · refine wp_seg 10 (P := none) (ls' := [some (aR 10 (0)), some (aI (v)), some (aI (σ 2 (0) 1))]) (st' := [aR 1 (0)]) (σ' := (up σ 2 (0) 1 (v))) rq_107 rfl True.intro (i' := 17) rfl ?_
    refine wp_call (C := 1) (As := [aR 1 (0)]) (rest := []) rq_107 (ev_forget (up σ 2 (0) 1 (v)) ) rfl rfl (show clOK 107 23 0 0 0 1 1 = true by decide +kernel) rfl (show 0 ≤ 4 by decide) (fun _ => ⟨_, rfl⟩) rfl (c' := 0) (s' := 0) rfl rfl ?_
    refine wp_seg 1 (P := none) (ls' := [some (aR 10 (0)), some (aI (v)), some (aI (σ 2 (0) 1))]) (st' := [aI (σ 2 (0) 1)]) (σ' := (up (up σ 2 (0) 1 (v)) 1 (0) 2 (0))) rq_107 rfl True.intro (i' := 19) rfl ?_
    refine wp_iret rq_107 rfl rt_107 ⟨?_, ?_⟩
    · (rw [zo_xsetSeed, if_pos h1]; try rfl)
    · (rw [zm_xsetSeed, if_pos h1]; try rfl)
  · refine wp_throw rq_107 rfl (hcat_lt (by decide)) (show 0 ≤ 4 by decide) (by decide +kernel) (by decide +kernel) (by decide +kernel) ⟨?_, ?_⟩
    · (rw [zo_xsetSeed, if_neg h1]; try rfl)
    · (rw [zm_xsetSeed, if_neg h1]; try rfl)

def zo_xfencer (f w : Int) (σ : Mem) : Out := if (f) < 0 ∨ σ 6 0 0 ≤ (f) then .inr 2 else if (w) < 0 ∨ (7) < (w) then .inr 0 else .inl (some (aI (zo_fnumber (0) (f) (w) σ)))
theorem ev_xfencer (f w : Int) (σ : Mem) : Ev true 108 [aR 10 (0), aI (f), aI (w)] σ (zo_xfencer f w σ) (σ) := by
  show wp true 108 0 [some (aR 10 (0)), some (aI (f)), some (aI (w))] [] σ 0 0 _
  refine wp_seg 2 (P := none) (ls' := [some (aR 10 (0)), some (aI (f)), some (aI (w))]) (st' := [aI (f), aR 10 (0)]) (σ' := σ) rq_108 rfl True.intro (i' := 2) rfl ?_
  by_cases h1 : (f) < 0 ∨ σ 6 0 0 ≤ (f)
  · refine wp_callX (C := 10) (As := [aR 10 (0), aI (f)]) (rest := []) rq_108 (ev_checkFencer_x (f) σ h1) rfl rfl (show clOK 108 144 0 0 0 2 10 = true by decide +kernel) rfl (show 0 ≤ 4 by decide) (fun _ => ⟨_, rfl⟩) rfl (hcat_lt (by decide)) ⟨?_, ?_⟩
    · (rw [zo_xfencer, if_pos h1]; try rfl)
    · rfl
  refine wp_call (C := 10) (As := [aR 10 (0), aI (f)]) (rest := []) rq_108 (ev_checkFencer_n (f) σ h1) rfl rfl (show clOK 108 144 0 0 0 2 10 = true by decide +kernel) rfl (show 0 ≤ 4 by decide) (fun _ => ⟨_, rfl⟩) rfl (c' := 1) (s' := 6) rfl rfl ?_
  refine wp_seg 2 (P := none) (ls' := [some (aR 10 (0)), some (aI (f)), some (aI (w))]) (st' := [aI (7), aI (w)]) (σ' := σ) rq_108 rfl True.intro (i' := 5) rfl ?_
  by_cases h2 : (w) < 0 ∨ (7) < (w)
  · refine wp_callX (C := 0) (As := [aI (w), aI (7)]) (rest := []) rq_108 (ev_checkWhat_x (w) (7) σ h2) rfl rfl (show clOK 108 143 2 1 6 2 0 = true by decide +kernel) rfl (show 0 ≤ 4 by decide) (fun h => absurd rfl h) rfl (hcat_lt (by decide)) ⟨?_, ?_⟩
    · (rw [zo_xfencer, if_neg h1, if_pos h2]; try rfl)
    · rfl
  refine wp_call (C := 0) (As := [aI (w), aI (7)]) (rest := []) rq_108 (ev_checkWhat_n (w) (7) σ h2) rfl rfl (show clOK 108 143 2 1 6 2 0 = true by decide +kernel) rfl (show 0 ≤ 4 by decide) (fun h => absurd rfl h) rfl (c' := 2) (s' := 12) rfl rfl ?_
  refine wp_seg 5 (P := none) (ls' := [some (aR 10 (0)), some (aI (f)), some (aI (w))]) (st' := [aI (w), aI (f), aR 6 (0)]) (σ' := σ) rq_108 rfl True.intro (i' := 11) rfl ?_
  refine wp_call (C := 6) (As := [aR 6 (0), aI (f), aI (w)]) (rest := []) rq_108 (ev_fnumber (0) (f) (w) σ ) rfl rfl (show clOK 108 70 0 2 12 3 6 = true by decide +kernel) rfl (show 0 ≤ 4 by decide) (fun _ => ⟨_, rfl⟩) rfl (c' := 2) (s' := 12) rfl rfl ?_
  refine wp_iret rq_108 rfl rt_108 ⟨?_, ?_⟩
  · (rw [zo_xfencer, if_neg h1, if_neg h2]; try rfl)
  · rfl

def zo_xmeet (w : Int) (σ : Mem) : Out := if (w) < 0 ∨ (5) < (w) then .inr 0 else if w = 0 then .inl (some (aI (σ 2 (0) 0))) else if w = 1 then .inl (some (aI (σ 6 (0) 0))) else if w = 2 then .inl (some (aI (σ 3 (0) 0))) else if w = 3 then .inl (some (aI (σ 0 (0) 0))) else if w = 4 then .inl (some (aI (wr (sumTo (fo_fcountIn (0) σ) (σ 6 ((0)) 0))))) else .inl (some (aI (σ 9 (0) 0)))
theorem ev_xmeet (w : Int) (σ : Mem) : Ev true 109 [aR 10 (0), aI (w)] σ (zo_xmeet w σ) (σ) := by
  show wp true 109 0 [some (aR 10 (0)), some (aI (w))] [] σ 0 0 _
  refine wp_seg 2 (P := none) (ls' := [some (aR 10 (0)), some (aI (w))]) (st' := [aI (5), aI (w)]) (σ' := σ) rq_109 rfl True.intro (i' := 2) rfl ?_
  by_cases h1 : (w) < 0 ∨ (5) < (w)
  · refine wp_callX (C := 0) (As := [aI (w), aI (5)]) (rest := []) rq_109 (ev_checkWhat_x (w) (5) σ h1) rfl rfl (show clOK 109 143 2 0 0 2 0 = true by decide +kernel) rfl (show 0 ≤ 4 by decide) (fun h => absurd rfl h) rfl (hcat_lt (by decide)) ⟨?_, ?_⟩
    · (rw [zo_xmeet, if_pos h1]; try rfl)
    · rfl
  refine wp_call (C := 0) (As := [aI (w), aI (5)]) (rest := []) rq_109 (ev_checkWhat_n (w) (5) σ h1) rfl rfl (show clOK 109 143 2 0 0 2 0 = true by decide +kernel) rfl (show 0 ≤ 4 by decide) (fun h => absurd rfl h) rfl (c' := 1) (s' := 6) rfl rfl ?_
  refine wp_seg 1 (P := none) (ls' := [some (aR 10 (0)), some (aI (w))]) (st' := [aI (w)]) (σ' := σ) rq_109 rfl True.intro (i' := 4) rfl ?_
  by_cases h2 : w = 0
  · refine wp_switch rq_109 rfl (t := 5) (by rw [h2]; rfl) ?_
    refine wp_seg 3 (P := none) (ls' := [some (aR 10 (0)), some (aI (w))]) (st' := [aI (σ 2 (0) 0)]) (σ' := σ) rq_109 rfl True.intro (i' := 8) rfl ?_
    refine wp_iret rq_109 rfl rt_109 ⟨?_, ?_⟩
    · (rw [zo_xmeet, if_neg h1, if_pos h2]; try rfl)
    · rfl
  by_cases h3 : w = 1
  · refine wp_switch rq_109 rfl (t := 9) (by rw [h3]; rfl) ?_
    refine wp_seg 4 (P := none) (ls' := [some (aR 10 (0)), some (aI (w))]) (st' := [aI (σ 6 (0) 0)]) (σ' := σ) rq_109 rfl True.intro (i' := 13) rfl ?_
    refine wp_iret rq_109 rfl rt_109 ⟨?_, ?_⟩
    · (rw [zo_xmeet, if_neg h1, if_neg h2, if_pos h3]; try rfl)
    · rfl
  by_cases h4 : w = 2
  · refine wp_switch rq_109 rfl (t := 14) (by rw [h4]; rfl) ?_
    refine wp_seg 4 (P := none) (ls' := [some (aR 10 (0)), some (aI (w))]) (st' := [aI (σ 3 (0) 0)]) (σ' := σ) rq_109 rfl True.intro (i' := 18) rfl ?_
    refine wp_iret rq_109 rfl rt_109 ⟨?_, ?_⟩
    · (rw [zo_xmeet, if_neg h1, if_neg h2, if_neg h3, if_pos h4]; try rfl)
    · rfl
  by_cases h5 : w = 3
  · refine wp_switch rq_109 rfl (t := 19) (by rw [h5]; rfl) ?_
    refine wp_seg 4 (P := none) (ls' := [some (aR 10 (0)), some (aI (w))]) (st' := [aI (σ 0 (0) 0)]) (σ' := σ) rq_109 rfl True.intro (i' := 23) rfl ?_
    refine wp_iret rq_109 rfl rt_109 ⟨?_, ?_⟩
    · (rw [zo_xmeet, if_neg h1, if_neg h2, if_neg h3, if_neg h4, if_pos h5]; try rfl)
    · rfl
  by_cases h6 : w = 4
  · refine wp_switch rq_109 rfl (t := 24) (by rw [h6]; rfl) ?_
    refine wp_seg 3 (P := none) (ls' := [some (aR 10 (0)), some (aI (w))]) (st' := [aR 6 (0)]) (σ' := σ) rq_109 rfl True.intro (i' := 27) rfl ?_
    refine wp_call (C := 6) (As := [aR 6 (0)]) (rest := []) rq_109 (ev_fcountIn (0) σ ) rfl rfl (show clOK 109 73 0 1 6 1 6 = true by decide +kernel) rfl (show 0 ≤ 4 by decide) (fun _ => ⟨_, rfl⟩) rfl (c' := 1) (s' := 6) rfl rfl ?_
    refine wp_iret rq_109 rfl rt_109 ⟨?_, ?_⟩
    · (rw [zo_xmeet, if_neg h1, if_neg h2, if_neg h3, if_neg h4, if_neg h5, if_pos h6]; try rfl)
    · rfl
  refine wp_switch rq_109 rfl (t := 29) (swD (by show _ ∨ _ ≤ _; simp only [List.length_cons, List.length_nil]; omega)) ?_
  refine wp_seg 4 (P := none) (ls' := [some (aR 10 (0)), some (aI (w))]) (st' := [aI (σ 9 (0) 0)]) (σ' := σ) rq_109 rfl True.intro (i' := 33) rfl ?_
  refine wp_iret rq_109 rfl rt_109 ⟨?_, ?_⟩
  · (rw [zo_xmeet, if_neg h1, if_neg h2, if_neg h3, if_neg h4, if_neg h5, if_neg h6]; try rfl)
  · rfl

def zo_xmembers (p : Int) (σ : Mem) : Out := if (p) < 0 ∨ σ 3 0 0 ≤ (p) then .inr 2 else .inl (some (aI (rget σ (7) (p))))
theorem ev_xmembers (p : Int) (σ : Mem) : Ev true 110 [aR 10 (0), aI (p)] σ (zo_xmembers p σ) (σ) := by
  show wp true 110 0 [some (aR 10 (0)), some (aI (p))] [] σ 0 0 _
  refine wp_seg 2 (P := none) (ls' := [some (aR 10 (0)), some (aI (p))]) (st' := [aI (p), aR 10 (0)]) (σ' := σ) rq_110 rfl True.intro (i' := 2) rfl ?_
  by_cases h1 : (p) < 0 ∨ σ 3 0 0 ≤ (p)
  · refine wp_callX (C := 10) (As := [aR 10 (0), aI (p)]) (rest := []) rq_110 (ev_checkPool_x (p) σ h1) rfl rfl (show clOK 110 145 0 0 0 2 10 = true by decide +kernel) rfl (show 0 ≤ 4 by decide) (fun _ => ⟨_, rfl⟩) rfl (hcat_lt (by decide)) ⟨?_, ?_⟩
    · (rw [zo_xmembers, if_pos h1]; try rfl)
    · rfl
  refine wp_call (C := 10) (As := [aR 10 (0), aI (p)]) (rest := []) rq_110 (ev_checkPool_n (p) σ h1) rfl rfl (show clOK 110 145 0 0 0 2 10 = true by decide +kernel) rfl (show 0 ≤ 4 by decide) (fun _ => ⟨_, rfl⟩) rfl (c' := 1) (s' := 6) rfl rfl ?_
  refine wp_seg 5 (P := none) (ls' := [some (aR 10 (0)), some (aI (p))]) (st' := [aI (p), aR 7 (7)]) (σ' := σ) rq_110 rfl True.intro (i' := 8) rfl ?_
  refine wp_call (C := 7) (As := [aR 7 (7), aI (p)]) (rest := []) rq_110 (ev_get (7) (p) σ ) rfl rfl (show clOK 110 78 0 1 6 2 7 = true by decide +kernel) rfl (show 0 ≤ 4 by decide) (fun _ => ⟨_, rfl⟩) rfl (c' := 1) (s' := 6) rfl rfl ?_
  refine wp_iret rq_110 rfl rt_110 ⟨?_, ?_⟩
  · (rw [zo_xmembers, if_neg h1]; try rfl)
  · rfl

def zo_xmember (p i : Int) (σ : Mem) : Out := if (p) < 0 ∨ σ 3 0 0 ≤ (p) then .inr 2 else if (i) < 0 then .inr 3 else if (i) < (rget σ (7) (p)) then .inl (some (aI (zo_pfencerAt (0) (p) (i) σ))) else .inr 3
theorem ev_xmember (p i : Int) (σ : Mem) : Ev true 111 [aR 10 (0), aI (p), aI (i)] σ (zo_xmember p i σ) (σ) := by
  show wp true 111 0 [some (aR 10 (0)), some (aI (p)), some (aI (i))] [] σ 0 0 _
  refine wp_seg 2 (P := none) (ls' := [some (aR 10 (0)), some (aI (p)), some (aI (i))]) (st' := [aI (p), aR 10 (0)]) (σ' := σ) rq_111 rfl True.intro (i' := 2) rfl ?_
  by_cases h1 : (p) < 0 ∨ σ 3 0 0 ≤ (p)
  · refine wp_callX (C := 10) (As := [aR 10 (0), aI (p)]) (rest := []) rq_111 (ev_checkPool_x (p) σ h1) rfl rfl (show clOK 111 145 0 0 0 2 10 = true by decide +kernel) rfl (show 0 ≤ 4 by decide) (fun _ => ⟨_, rfl⟩) rfl (hcat_lt (by decide)) ⟨?_, ?_⟩
    · (rw [zo_xmember, if_pos h1]; try rfl)
    · rfl
  refine wp_call (C := 10) (As := [aR 10 (0), aI (p)]) (rest := []) rq_111 (ev_checkPool_n (p) σ h1) rfl rfl (show clOK 111 145 0 0 0 2 10 = true by decide +kernel) rfl (show 0 ≤ 4 by decide) (fun _ => ⟨_, rfl⟩) rfl (c' := 1) (s' := 6) rfl rfl ?_
  refine wp_seg 1 (P := none) (ls' := [some (aR 10 (0)), some (aI (p)), some (aI (i))]) (st' := [aI (i)]) (σ' := σ) rq_111 rfl True.intro (i' := 4) rfl ?_
  refine wp_if rq_111 rfl (fun (h2 : (i) < 0) => ?_) (fun (h2 : ¬ ((i) < 0)) => ?_)
  · refine wp_throw rq_111 rfl (hcat_lt (by decide)) (show 0 ≤ 4 by decide) (by decide +kernel) (by decide +kernel) (by decide +kernel) ⟨?_, ?_⟩
    · (rw [zo_xmember, if_neg h1, if_pos h2]; try rfl)
    · rfl
  · refine wp_seg 6 (P := none) (ls' := [some (aR 10 (0)), some (aI (p)), some (aI (i))]) (st' := [aI (p), aR 7 (7), aI (i)]) (σ' := σ) rq_111 rfl True.intro (i' := 11) rfl ?_
    refine wp_call (C := 7) (As := [aR 7 (7), aI (p)]) (rest := [aI (i)]) rq_111 (ev_get (7) (p) σ ) rfl rfl (show clOK 111 78 0 1 6 2 7 = true by decide +kernel) rfl (show 1 ≤ 4 by decide) (fun _ => ⟨_, rfl⟩) rfl (c' := 1) (s' := 6) rfl rfl ?_
    refine wp_icmp rq_111 rfl (fun (h3 : (i) < (rget σ (7) (p))) => ?_) (fun (h3 : ¬ ((i) < (rget σ (7) (p)))) => ?_)
    · refine wp_seg 5 (P := none) (ls' := [some (aR 10 (0)), some (aI (p)), some (aI (i))]) (st' := [aI (i), aI (p), aR 3 (0)]) (σ' := σ) rq_111 rfl True.intro (i' := 23) rfl ?_
      refine wp_call (C := 3) (As := [aR 3 (0), aI (p), aI (i)]) (rest := []) rq_111 (ev_pfencerAt (0) (p) (i) σ ) rfl rfl (show clOK 111 47 0 1 6 3 3 = true by decide +kernel) rfl (show 0 ≤ 4 by decide) (fun _ => ⟨_, rfl⟩) rfl (c' := 1) (s' := 6) rfl rfl ?_
      refine wp_iret rq_111 rfl rt_111 ⟨?_, ?_⟩
      · (rw [zo_xmember, if_neg h1, if_neg h2, if_pos h3]; try rfl)
      · rfl
    · refine wp_throw rq_111 rfl (hcat_lt (by decide)) (show 0 ≤ 4 by decide) (by decide +kernel) (by decide +kernel) (by decide +kernel) ⟨?_, ?_⟩
      · (rw [zo_xmember, if_neg h1, if_neg h2, if_neg h3]; try rfl)
      · rfl

def zo_xbout (b w : Int) (σ : Mem) : Out := if zo_has 0 (b) σ = 0 then .inr 2 else if (w) < 0 ∨ (8) < (w) then .inr 0 else .inl (some (aI (zo_bnumber (0) (b) (w) σ)))
theorem ev_xbout (b w : Int) (σ : Mem) : Ev true 113 [aR 10 (0), aI (b), aI (w)] σ (zo_xbout b w σ) (σ) := by
  show wp true 113 0 [some (aR 10 (0)), some (aI (b)), some (aI (w))] [] σ 0 0 _
  refine wp_seg 2 (P := none) (ls' := [some (aR 10 (0)), some (aI (b)), some (aI (w))]) (st' := [aI (b), aR 10 (0)]) (σ' := σ) rq_113 rfl True.intro (i' := 2) rfl ?_
  by_cases h1 : zo_has 0 (b) σ = 0
  · refine wp_callX (C := 10) (As := [aR 10 (0), aI (b)]) (rest := []) rq_113 (ev_checkBout_x (b) σ h1) rfl rfl (show clOK 113 146 0 0 0 2 10 = true by decide +kernel) rfl (show 0 ≤ 4 by decide) (fun _ => ⟨_, rfl⟩) rfl (hcat_lt (by decide)) ⟨?_, ?_⟩
    · (rw [zo_xbout, if_pos h1]; try rfl)
    · rfl
  refine wp_call (C := 10) (As := [aR 10 (0), aI (b)]) (rest := []) rq_113 (ev_checkBout_n (b) σ h1) rfl rfl (show clOK 113 146 0 0 0 2 10 = true by decide +kernel) rfl (show 0 ≤ 4 by decide) (fun _ => ⟨_, rfl⟩) rfl (c' := 1) (s' := 6) rfl rfl ?_
  refine wp_seg 2 (P := none) (ls' := [some (aR 10 (0)), some (aI (b)), some (aI (w))]) (st' := [aI (8), aI (w)]) (σ' := σ) rq_113 rfl True.intro (i' := 5) rfl ?_
  by_cases h2 : (w) < 0 ∨ (8) < (w)
  · refine wp_callX (C := 0) (As := [aI (w), aI (8)]) (rest := []) rq_113 (ev_checkWhat_x (w) (8) σ h2) rfl rfl (show clOK 113 143 2 1 6 2 0 = true by decide +kernel) rfl (show 0 ≤ 4 by decide) (fun h => absurd rfl h) rfl (hcat_lt (by decide)) ⟨?_, ?_⟩
    · (rw [zo_xbout, if_neg h1, if_pos h2]; try rfl)
    · rfl
  refine wp_call (C := 0) (As := [aI (w), aI (8)]) (rest := []) rq_113 (ev_checkWhat_n (w) (8) σ h2) rfl rfl (show clOK 113 143 2 1 6 2 0 = true by decide +kernel) rfl (show 0 ≤ 4 by decide) (fun h => absurd rfl h) rfl (c' := 2) (s' := 12) rfl rfl ?_
  refine wp_seg 5 (P := none) (ls' := [some (aR 10 (0)), some (aI (b)), some (aI (w))]) (st' := [aI (w), aI (b), aR 0 (0)]) (σ' := σ) rq_113 rfl True.intro (i' := 11) rfl ?_
  refine wp_call (C := 0) (As := [aR 0 (0), aI (b), aI (w)]) (rest := []) rq_113 (ev_bnumber (0) (b) (w) σ ) rfl rfl (show clOK 113 12 0 2 12 3 0 = true by decide +kernel) rfl (show 0 ≤ 4 by decide) (fun _ => ⟨_, rfl⟩) rfl (c' := 2) (s' := 12) rfl rfl ?_
  refine wp_iret rq_113 rfl rt_113 ⟨?_, ?_⟩
  · (rw [zo_xbout, if_neg h1, if_neg h2]; try rfl)
  · rfl

def zo_xcurrent  (σ : Mem) : Out := if ¬ (σ 2 (0) 2) = (-1) then .inl (some (aI (σ 2 (0) 2))) else .inr 3
theorem ev_xcurrent  (σ : Mem) : Ev true 114 [aR 10 (0)] σ (zo_xcurrent  σ) (σ) := by
  show wp true 114 0 [some (aR 10 (0))] [] σ 0 0 _
  refine wp_seg 4 (P := none) (ls' := [some (aR 10 (0))]) (st' := [aI (-1), aI (σ 2 (0) 2)]) (σ' := σ) rq_114 rfl True.intro (i' := 4) rfl ?_
  refine wp_icmp rq_114 rfl (fun (h1 : ¬ (σ 2 (0) 2) = (-1)) => ?_) (fun (h1 : ¬ (¬ (σ 2 (0) 2) = (-1))) => ?_)
  · refine wp_seg 3 (P := none) (ls' := [some (aR 10 (0))]) (st' := [aI (σ 2 (0) 2)]) (σ' := σ) rq_114 rfl True.intro (i' := 13) rfl ?_
    refine wp_iret rq_114 rfl rt_114 ⟨?_, ?_⟩
    · (rw [zo_xcurrent, if_pos h1]; try rfl)
    · rfl
  · refine wp_throw rq_114 rfl (hcat_lt (by decide)) (show 0 ≤ 4 by decide) (by decide +kernel) (by decide +kernel) (by decide +kernel) ⟨?_, ?_⟩
    · (rw [zo_xcurrent, if_neg h1]; try rfl)
    · rfl

def zo_xpoolBout (x y : Int) (σ : Mem) : Out := if (x) < 0 ∨ σ 6 0 0 ≤ (x) then .inr 2 else if (y) < 0 ∨ σ 6 0 0 ≤ (y) then .inr 2 else if ¬ (x) = (y) then (if ¬ (fnd (fp_findInPool (0) (x) (y) σ) (0) (σ 0 ((0)) 1)) = (-1) then .inl (some (aI (fnd (fp_findInPool (0) (x) (y) σ) (0) (σ 0 ((0)) 1)))) else .inr 3) else .inr 3
theorem ev_xpoolBout (x y : Int) (σ : Mem) : Ev true 115 [aR 10 (0), aI (x), aI (y)] σ (zo_xpoolBout x y σ) (σ) := by
  show wp true 115 0 [some (aR 10 (0)), some (aI (x)), some (aI (y)), none] [] σ 0 0 _
  refine wp_seg 2 (P := none) (ls' := [some (aR 10 (0)), some (aI (x)), some (aI (y)), none]) (st' := [aI (x), aR 10 (0)]) (σ' := σ) rq_115 rfl True.intro (i' := 2) rfl ?_
  by_cases h1 : (x) < 0 ∨ σ 6 0 0 ≤ (x)
  · refine wp_callX (C := 10) (As := [aR 10 (0), aI (x)]) (rest := []) rq_115 (ev_checkFencer_x (x) σ h1) rfl rfl (show clOK 115 144 0 0 0 2 10 = true by decide +kernel) rfl (show 0 ≤ 4 by decide) (fun _ => ⟨_, rfl⟩) rfl (hcat_lt (by decide)) ⟨?_, ?_⟩
    · (rw [zo_xpoolBout, if_pos h1]; try rfl)
    · rfl
  refine wp_call (C := 10) (As := [aR 10 (0), aI (x)]) (rest := []) rq_115 (ev_checkFencer_n (x) σ h1) rfl rfl (show clOK 115 144 0 0 0 2 10 = true by decide +kernel) rfl (show 0 ≤ 4 by decide) (fun _ => ⟨_, rfl⟩) rfl (c' := 1) (s' := 6) rfl rfl ?_
  refine wp_seg 2 (P := none) (ls' := [some (aR 10 (0)), some (aI (x)), some (aI (y)), none]) (st' := [aI (y), aR 10 (0)]) (σ' := σ) rq_115 rfl True.intro (i' := 5) rfl ?_
  by_cases h2 : (y) < 0 ∨ σ 6 0 0 ≤ (y)
  · refine wp_callX (C := 10) (As := [aR 10 (0), aI (y)]) (rest := []) rq_115 (ev_checkFencer_x (y) σ h2) rfl rfl (show clOK 115 144 0 1 6 2 10 = true by decide +kernel) rfl (show 0 ≤ 4 by decide) (fun _ => ⟨_, rfl⟩) rfl (hcat_lt (by decide)) ⟨?_, ?_⟩
    · (rw [zo_xpoolBout, if_neg h1, if_pos h2]; try rfl)
    · rfl
  refine wp_call (C := 10) (As := [aR 10 (0), aI (y)]) (rest := []) rq_115 (ev_checkFencer_n (y) σ h2) rfl rfl (show clOK 115 144 0 1 6 2 10 = true by decide +kernel) rfl (show 0 ≤ 4 by decide) (fun _ => ⟨_, rfl⟩) rfl (c' := 2) (s' := 12) rfl rfl ?_
  refine wp_seg 2 (P := none) (ls' := [some (aR 10 (0)), some (aI (x)), some (aI (y)), none]) (st' := [aI (y), aI (x)]) (σ' := σ) rq_115 rfl True.intro (i' := 8) rfl ?_
  refine wp_icmp rq_115 rfl (fun (h3 : ¬ (x) = (y)) => ?_) (fun (h3 : ¬ (¬ (x) = (y))) => ?_)
  · refine wp_seg 5 (P := none) (ls' := [some (aR 10 (0)), some (aI (x)), some (aI (y)), none]) (st' := [aI (y), aI (x), aR 0 (0)]) (σ' := σ) rq_115 rfl True.intro (i' := 16) rfl ?_
    refine wp_call (C := 0) (As := [aR 0 (0), aI (x), aI (y)]) (rest := []) rq_115 (ev_findInPool (0) (x) (y) σ ) rfl rfl (show clOK 115 13 0 2 12 3 0 = true by decide +kernel) rfl (show 0 ≤ 4 by decide) (fun _ => ⟨_, rfl⟩) rfl (c' := 2) (s' := 12) rfl rfl ?_
    refine wp_seg 3 (P := none) (ls' := [some (aR 10 (0)), some (aI (x)), some (aI (y)), some (aI (fnd (fp_findInPool (0) (x) (y) σ) (0) (σ 0 ((0)) 1)))]) (st' := [aI (-1), aI (fnd (fp_findInPool (0) (x) (y) σ) (0) (σ 0 ((0)) 1))]) (σ' := σ) rq_115 rfl True.intro (i' := 20) rfl ?_
    refine wp_icmp rq_115 rfl (fun (h4 : ¬ (fnd (fp_findInPool (0) (x) (y) σ) (0) (σ 0 ((0)) 1)) = (-1)) => ?_) (fun (h4 : ¬ (¬ (fnd (fp_findInPool (0) (x) (y) σ) (0) (σ 0 ((0)) 1)) = (-1))) => ?_)
    · refine wp_seg 1 (P := none) (ls' := [some (aR 10 (0)), some (aI (x)), some (aI (y)), some (aI (fnd (fp_findInPool (0) (x) (y) σ) (0) (σ 0 ((0)) 1)))]) (st' := [aI (fnd (fp_findInPool (0) (x) (y) σ) (0) (σ 0 ((0)) 1))]) (σ' := σ) rq_115 rfl True.intro (i' := 27) rfl ?_
      refine wp_iret rq_115 rfl rt_115 ⟨?_, ?_⟩
      · (rw [zo_xpoolBout, if_neg h1, if_neg h2, if_pos h3, if_pos h4]; try rfl)
      · rfl
    · refine wp_throw rq_115 rfl (hcat_lt (by decide)) (show 0 ≤ 4 by decide) (by decide +kernel) (by decide +kernel) (by decide +kernel) ⟨?_, ?_⟩
      · (rw [zo_xpoolBout, if_neg h1, if_neg h2, if_pos h3, if_neg h4]; try rfl)
      · rfl
  · refine wp_seg 1 (P := none) (ls' := [some (aR 10 (0)), some (aI (x)), some (aI (y)), none]) (st' := [aI (-1)]) (σ' := σ) rq_115 rfl True.intro (i' := 10) rfl ?_
    refine wp_goto rq_115 rfl ?_
    refine wp_seg 3 (P := none) (ls' := [some (aR 10 (0)), some (aI (x)), some (aI (y)), some (aI (-1))]) (st' := [aI (-1), aI (-1)]) (σ' := σ) rq_115 rfl True.intro (i' := 20) rfl ?_
    refine wp_icmp rq_115 rfl (fun (h5 : ¬ (-1 : Int) = (-1 : Int)) => absurd h5 (show ¬ (¬ (-1 : Int) = (-1 : Int)) from by decide)) (fun _ => ?_)
    refine wp_throw rq_115 rfl (hcat_lt (by decide)) (show 0 ≤ 4 by decide) (by decide +kernel) (by decide +kernel) (by decide +kernel) ⟨?_, ?_⟩
    · (rw [zo_xpoolBout, if_neg h1, if_neg h2, if_neg h3]; try rfl)
    · rfl

def zo_xbegin (b : Int) (σ : Mem) : Out := if zo_has 0 (b) σ = 0 then .inr 2 else if ¬ (σ 2 (0) 2) = (-1) then .inr 4 else if ¬ (rget σ (11) (b)) = 0 then .inr 4 else if ¬ (zo_knowsBoth (0) (b) σ) = 0 then .inl (some (aI (zo_target (0) (b) (zm_mstart (0) (b) (zm_keep (0) σ))))) else .inr 4
def zm_xbegin (b : Int) (σ : Mem) : Mem := if zo_has 0 (b) σ = 0 then σ else if ¬ (σ 2 (0) 2) = (-1) then σ else if ¬ (rget σ (11) (b)) = 0 then σ else if ¬ (zo_knowsBoth (0) (b) σ) = 0 then (zm_mstart (0) (b) (zm_keep (0) σ)) else σ
theorem ev_xbegin (b : Int) (σ : Mem) : Ev true 116 [aR 10 (0), aI (b)] σ (zo_xbegin b σ) (zm_xbegin b σ) := by
  show wp true 116 0 [some (aR 10 (0)), some (aI (b))] [] σ 0 0 _
  refine wp_seg 2 (P := none) (ls' := [some (aR 10 (0)), some (aI (b))]) (st' := [aI (b), aR 10 (0)]) (σ' := σ) rq_116 rfl True.intro (i' := 2) rfl ?_
  by_cases h1 : zo_has 0 (b) σ = 0
  · refine wp_callX (C := 10) (As := [aR 10 (0), aI (b)]) (rest := []) rq_116 (ev_checkBout_x (b) σ h1) rfl rfl (show clOK 116 146 0 0 0 2 10 = true by decide +kernel) rfl (show 0 ≤ 4 by decide) (fun _ => ⟨_, rfl⟩) rfl (hcat_lt (by decide)) ⟨?_, ?_⟩
    · (rw [zo_xbegin, if_pos h1]; try rfl)
    · (rw [zm_xbegin, if_pos h1]; try rfl)
  refine wp_call (C := 10) (As := [aR 10 (0), aI (b)]) (rest := []) rq_116 (ev_checkBout_n (b) σ h1) rfl rfl (show clOK 116 146 0 0 0 2 10 = true by decide +kernel) rfl (show 0 ≤ 4 by decide) (fun _ => ⟨_, rfl⟩) rfl (c' := 1) (s' := 6) rfl rfl ?_
  refine wp_seg 4 (P := none) (ls' := [some (aR 10 (0)), some (aI (b))]) (st' := [aI (-1), aI (σ 2 (0) 2)]) (σ' := σ) rq_116 rfl True.intro (i' := 7) rfl ?_
  refine wp_icmp rq_116 rfl (fun (h2 : ¬ (σ 2 (0) 2) = (-1)) => ?_) (fun (h2 : ¬ (¬ (σ 2 (0) 2) = (-1))) => ?_)
  · refine wp_throw rq_116 rfl (hcat_lt (by decide)) (show 0 ≤ 4 by decide) (by decide +kernel) (by decide +kernel) (by decide +kernel) ⟨?_, ?_⟩
    · (rw [zo_xbegin, if_neg h1, if_pos h2]; try rfl)
    · (rw [zm_xbegin, if_neg h1, if_pos h2]; try rfl)
  · refine wp_seg 5 (P := none) (ls' := [some (aR 10 (0)), some (aI (b))]) (st' := [aI (b), aR 7 (11)]) (σ' := σ) rq_116 rfl True.intro (i' := 13) rfl ?_
    refine wp_call (C := 7) (As := [aR 7 (11), aI (b)]) (rest := []) rq_116 (ev_get (11) (b) σ ) rfl rfl (show clOK 116 78 0 1 6 2 7 = true by decide +kernel) rfl (show 0 ≤ 4 by decide) (fun _ => ⟨_, rfl⟩) rfl (c' := 1) (s' := 6) rfl rfl ?_
    refine wp_if rq_116 rfl (fun (h3 : ¬ (rget σ (11) (b)) = 0) => ?_) (fun (h3 : ¬ (¬ (rget σ (11) (b)) = 0)) => ?_)
    · refine wp_throw rq_116 rfl (hcat_lt (by decide)) (show 0 ≤ 4 by decide) (by decide +kernel) (by decide +kernel) (by decide +kernel) ⟨?_, ?_⟩
      · (rw [zo_xbegin, if_neg h1, if_neg h2, if_pos h3]; try rfl)
      · (rw [zm_xbegin, if_neg h1, if_neg h2, if_pos h3]; try rfl)
    · refine wp_seg 4 (P := none) (ls' := [some (aR 10 (0)), some (aI (b))]) (st' := [aI (b), aR 0 (0)]) (σ' := σ) rq_116 rfl True.intro (i' := 19) rfl ?_
      refine wp_call (C := 0) (As := [aR 0 (0), aI (b)]) (rest := []) rq_116 (ev_knowsBoth (0) (b) σ ) rfl rfl (show clOK 116 8 0 1 6 2 0 = true by decide +kernel) rfl (show 0 ≤ 4 by decide) (fun _ => ⟨_, rfl⟩) rfl (c' := 1) (s' := 6) rfl rfl ?_
      refine wp_if rq_116 rfl (fun (h4 : ¬ (zo_knowsBoth (0) (b) σ) = 0) => ?_) (fun (h4 : ¬ (¬ (zo_knowsBoth (0) (b) σ) = 0)) => ?_)
      · refine wp_seg 4 (P := none) (ls' := [some (aR 10 (0)), some (aI (b))]) (st' := [aR 2 (0), aR 1 (0)]) (σ' := σ) rq_116 rfl True.intro (i' := 30) rfl ?_
        refine wp_call (C := 1) (As := [aR 1 (0), aR 2 (0)]) (rest := []) rq_116 (ev_keep (0) σ ) rfl rfl (show clOK 116 21 0 1 6 2 1 = true by decide +kernel) rfl (show 0 ≤ 4 by decide) (fun _ => ⟨_, rfl⟩) rfl (c' := 1) (s' := 6) rfl rfl ?_
        refine wp_seg 3 (P := none) (ls' := [some (aR 10 (0)), some (aI (b))]) (st' := [aI (b), aR 2 (0)]) (σ' := (zm_keep (0) σ)) rq_116 rfl True.intro (i' := 34) rfl ?_
        refine wp_call (C := 2) (As := [aR 2 (0), aI (b)]) (rest := []) rq_116 (ev_mstart (0) (b) (zm_keep (0) σ) ) rfl rfl (show clOK 116 27 0 1 6 2 2 = true by decide +kernel) rfl (show 0 ≤ 4 by decide) (fun _ => ⟨_, rfl⟩) rfl (c' := 1) (s' := 6) rfl rfl ?_
        refine wp_seg 4 (P := none) (ls' := [some (aR 10 (0)), some (aI (b))]) (st' := [aI (b), aR 0 (0)]) (σ' := (zm_mstart (0) (b) (zm_keep (0) σ))) rq_116 rfl True.intro (i' := 39) rfl ?_
        refine wp_call (C := 0) (As := [aR 0 (0), aI (b)]) (rest := []) rq_116 (ev_target (0) (b) (zm_mstart (0) (b) (zm_keep (0) σ)) ) rfl rfl (show clOK 116 10 0 1 6 2 0 = true by decide +kernel) rfl (show 0 ≤ 4 by decide) (fun _ => ⟨_, rfl⟩) rfl (c' := 1) (s' := 6) rfl rfl ?_
        refine wp_iret rq_116 rfl rt_116 ⟨?_, ?_⟩
        · (rw [zo_xbegin, if_neg h1, if_neg h2, if_neg h3, if_pos h4]; try rfl)
        · (rw [zm_xbegin, if_neg h1, if_neg h2, if_neg h3, if_pos h4]; try rfl)
      · refine wp_throw rq_116 rfl (hcat_lt (by decide)) (show 0 ≤ 4 by decide) (by decide +kernel) (by decide +kernel) (by decide +kernel) ⟨?_, ?_⟩
        · (rw [zo_xbegin, if_neg h1, if_neg h2, if_neg h3, if_neg h4]; try rfl)
        · (rw [zm_xbegin, if_neg h1, if_neg h2, if_neg h3, if_neg h4]; try rfl)

def zo_xtouch (s : Int) (σ : Mem) : Out := if (s) = 0 then (if σ 2 0 2 = -1 then .inr 1 else if ¬ (s) = 2 then .inl (some (aI (rget (zm_score (0) (s) (zm_keep (0) σ)) (11) (σ 2 0 2)))) else .inl (some (aI (rget (zm_scoreBoth (0) (zm_keep (0) σ)) (11) (σ 2 0 2))))) else if (s) = 1 then (if σ 2 0 2 = -1 then .inr 1 else if ¬ (s) = 2 then .inl (some (aI (rget (zm_score (0) (s) (zm_keep (0) σ)) (11) (σ 2 0 2)))) else .inl (some (aI (rget (zm_scoreBoth (0) (zm_keep (0) σ)) (11) (σ 2 0 2))))) else if (s) = 2 then (if σ 2 0 2 = -1 then .inr 1 else if ¬ (s) = 2 then .inl (some (aI (rget (zm_score (0) (s) (zm_keep (0) σ)) (11) (σ 2 0 2)))) else .inl (some (aI (rget (zm_scoreBoth (0) (zm_keep (0) σ)) (11) (σ 2 0 2))))) else .inr 0
def zm_xtouch (s : Int) (σ : Mem) : Mem := if (s) = 0 then (if σ 2 0 2 = -1 then σ else if ¬ (s) = 2 then (zm_score (0) (s) (zm_keep (0) σ)) else (zm_scoreBoth (0) (zm_keep (0) σ))) else if (s) = 1 then (if σ 2 0 2 = -1 then σ else if ¬ (s) = 2 then (zm_score (0) (s) (zm_keep (0) σ)) else (zm_scoreBoth (0) (zm_keep (0) σ))) else if (s) = 2 then (if σ 2 0 2 = -1 then σ else if ¬ (s) = 2 then (zm_score (0) (s) (zm_keep (0) σ)) else (zm_scoreBoth (0) (zm_keep (0) σ))) else σ
theorem ev_xtouch (s : Int) (σ : Mem) : Ev true 117 [aR 10 (0), aI (s)] σ (zo_xtouch s σ) (zm_xtouch s σ) := by
  show wp true 117 0 [some (aR 10 (0)), some (aI (s)), none] [] σ 0 0 _
  refine wp_seg 1 (P := none) (ls' := [some (aR 10 (0)), some (aI (s)), none]) (st' := [aI (s)]) (σ' := σ) rq_117 rfl True.intro (i' := 1) rfl ?_
  refine wp_if rq_117 rfl (fun (h1 : (s) = 0) => ?_) (fun (h1 : ¬ ((s) = 0)) => ?_)
  · refine wp_seg 1 (P := none) (ls' := [some (aR 10 (0)), some (aI (s)), none]) (st' := [aR 10 (0)]) (σ' := σ) rq_117 rfl True.intro (i' := 14) rfl ?_
    by_cases h2 : σ 2 0 2 = -1
    · refine wp_callX (C := 10) (As := [aR 10 (0)]) (rest := []) rq_117 (ev_boutInProgress_x  σ h2) rfl rfl (show clOK 117 149 0 0 0 1 10 = true by decide +kernel) rfl (show 0 ≤ 4 by decide) (fun _ => ⟨_, rfl⟩) rfl (hcat_lt (by decide)) ⟨?_, ?_⟩
      · (rw [zo_xtouch, if_pos h1, if_pos h2]; try rfl)
      · (rw [zm_xtouch, if_pos h1, if_pos h2]; try rfl)
    refine wp_call (C := 10) (As := [aR 10 (0)]) (rest := []) rq_117 (ev_boutInProgress_n σ h2) rfl rfl (show clOK 117 149 0 0 0 1 10 = true by decide +kernel) rfl (show 0 ≤ 4 by decide) (fun _ => ⟨_, rfl⟩) rfl (c' := 1) (s' := 6) rfl rfl ?_
    refine wp_seg 5 (P := none) (ls' := [some (aR 10 (0)), some (aI (s)), some (aI (σ 2 0 2))]) (st' := [aR 2 (0), aR 1 (0)]) (σ' := σ) rq_117 rfl True.intro (i' := 20) rfl ?_
    refine wp_call (C := 1) (As := [aR 1 (0), aR 2 (0)]) (rest := []) rq_117 (ev_keep (0) σ ) rfl rfl (show clOK 117 21 0 1 6 2 1 = true by decide +kernel) rfl (show 0 ≤ 4 by decide) (fun _ => ⟨_, rfl⟩) rfl (c' := 1) (s' := 6) rfl rfl ?_
    refine wp_seg 2 (P := none) (ls' := [some (aR 10 (0)), some (aI (s)), some (aI (σ 2 0 2))]) (st' := [aI (2), aI (s)]) (σ' := (zm_keep (0) σ)) rq_117 rfl True.intro (i' := 23) rfl ?_
    refine wp_icmp rq_117 rfl (fun (h3 : ¬ (s) = 2) => ?_) (fun (h3 : ¬ (¬ (s) = 2)) => ?_)
    · refine wp_seg 3 (P := none) (ls' := [some (aR 10 (0)), some (aI (s)), some (aI (σ 2 0 2))]) (st' := [aI (s), aR 2 (0)]) (σ' := (zm_keep (0) σ)) rq_117 rfl True.intro (i' := 31) rfl ?_
      refine wp_call (C := 2) (As := [aR 2 (0), aI (s)]) (rest := []) rq_117 (ev_score (0) (s) (zm_keep (0) σ) ) rfl rfl (show clOK 117 28 0 1 6 2 2 = true by decide +kernel) rfl (show 0 ≤ 4 by decide) (fun _ => ⟨_, rfl⟩) rfl (c' := 1) (s' := 6) rfl rfl ?_
      refine wp_seg 5 (P := none) (ls' := [some (aR 10 (0)), some (aI (s)), some (aI (σ 2 0 2))]) (st' := [aI (σ 2 0 2), aR 7 (11)]) (σ' := (zm_score (0) (s) (zm_keep (0) σ))) rq_117 rfl True.intro (i' := 37) rfl ?_
      refine wp_call (C := 7) (As := [aR 7 (11), aI (σ 2 0 2)]) (rest := []) rq_117 (ev_get (11) (σ 2 0 2) (zm_score (0) (s) (zm_keep (0) σ)) ) rfl rfl (show clOK 117 78 0 1 6 2 7 = true by decide +kernel) rfl (show 0 ≤ 4 by decide) (fun _ => ⟨_, rfl⟩) rfl (c' := 1) (s' := 6) rfl rfl ?_
      refine wp_iret rq_117 rfl rt_117 ⟨?_, ?_⟩
      · (rw [zo_xtouch, if_pos h1, if_neg h2, if_pos h3]; try rfl)
      · (rw [zm_xtouch, if_pos h1, if_neg h2, if_pos h3]; try rfl)
    · refine wp_seg 2 (P := none) (ls' := [some (aR 10 (0)), some (aI (s)), some (aI (σ 2 0 2))]) (st' := [aR 2 (0)]) (σ' := (zm_keep (0) σ)) rq_117 rfl True.intro (i' := 26) rfl ?_
      refine wp_call (C := 2) (As := [aR 2 (0)]) (rest := []) rq_117 (ev_scoreBoth (0) (zm_keep (0) σ) ) rfl rfl (show clOK 117 29 0 1 6 1 2 = true by decide +kernel) rfl (show 0 ≤ 4 by decide) (fun _ => ⟨_, rfl⟩) rfl (c' := 1) (s' := 6) rfl rfl ?_
      refine wp_goto rq_117 rfl ?_
      refine wp_seg 5 (P := none) (ls' := [some (aR 10 (0)), some (aI (s)), some (aI (σ 2 0 2))]) (st' := [aI (σ 2 0 2), aR 7 (11)]) (σ' := (zm_scoreBoth (0) (zm_keep (0) σ))) rq_117 rfl True.intro (i' := 37) rfl ?_
      refine wp_call (C := 7) (As := [aR 7 (11), aI (σ 2 0 2)]) (rest := []) rq_117 (ev_get (11) (σ 2 0 2) (zm_scoreBoth (0) (zm_keep (0) σ)) ) rfl rfl (show clOK 117 78 0 1 6 2 7 = true by decide +kernel) rfl (show 0 ≤ 4 by decide) (fun _ => ⟨_, rfl⟩) rfl (c' := 1) (s' := 6) rfl rfl ?_
      refine wp_iret rq_117 rfl rt_117 ⟨?_, ?_⟩
      · (rw [zo_xtouch, if_pos h1, if_neg h2, if_neg h3]; try rfl)
      · (rw [zm_xtouch, if_pos h1, if_neg h2, if_neg h3]; try rfl)
  · refine wp_seg 2 (P := none) (ls' := [some (aR 10 (0)), some (aI (s)), none]) (st' := [aI (1), aI (s)]) (σ' := σ) rq_117 rfl True.intro (i' := 4) rfl ?_
    refine wp_icmp rq_117 rfl (fun (h4 : (s) = 1) => ?_) (fun (h4 : ¬ ((s) = 1)) => ?_)
    · refine wp_seg 1 (P := none) (ls' := [some (aR 10 (0)), some (aI (s)), none]) (st' := [aR 10 (0)]) (σ' := σ) rq_117 rfl True.intro (i' := 14) rfl ?_
      by_cases h5 : σ 2 0 2 = -1
      · refine wp_callX (C := 10) (As := [aR 10 (0)]) (rest := []) rq_117 (ev_boutInProgress_x  σ h5) rfl rfl (show clOK 117 149 0 0 0 1 10 = true by decide +kernel) rfl (show 0 ≤ 4 by decide) (fun _ => ⟨_, rfl⟩) rfl (hcat_lt (by decide)) ⟨?_, ?_⟩
        · (rw [zo_xtouch, if_neg h1, if_pos h4, if_pos h5]; try rfl)
        · (rw [zm_xtouch, if_neg h1, if_pos h4, if_pos h5]; try rfl)
      refine wp_call (C := 10) (As := [aR 10 (0)]) (rest := []) rq_117 (ev_boutInProgress_n σ h5) rfl rfl (show clOK 117 149 0 0 0 1 10 = true by decide +kernel) rfl (show 0 ≤ 4 by decide) (fun _ => ⟨_, rfl⟩) rfl (c' := 1) (s' := 6) rfl rfl ?_
      refine wp_seg 5 (P := none) (ls' := [some (aR 10 (0)), some (aI (s)), some (aI (σ 2 0 2))]) (st' := [aR 2 (0), aR 1 (0)]) (σ' := σ) rq_117 rfl True.intro (i' := 20) rfl ?_
      refine wp_call (C := 1) (As := [aR 1 (0), aR 2 (0)]) (rest := []) rq_117 (ev_keep (0) σ ) rfl rfl (show clOK 117 21 0 1 6 2 1 = true by decide +kernel) rfl (show 0 ≤ 4 by decide) (fun _ => ⟨_, rfl⟩) rfl (c' := 1) (s' := 6) rfl rfl ?_
      refine wp_seg 2 (P := none) (ls' := [some (aR 10 (0)), some (aI (s)), some (aI (σ 2 0 2))]) (st' := [aI (2), aI (s)]) (σ' := (zm_keep (0) σ)) rq_117 rfl True.intro (i' := 23) rfl ?_
      refine wp_icmp rq_117 rfl (fun (h6 : ¬ (s) = 2) => ?_) (fun (h6 : ¬ (¬ (s) = 2)) => ?_)
      · refine wp_seg 3 (P := none) (ls' := [some (aR 10 (0)), some (aI (s)), some (aI (σ 2 0 2))]) (st' := [aI (s), aR 2 (0)]) (σ' := (zm_keep (0) σ)) rq_117 rfl True.intro (i' := 31) rfl ?_
        refine wp_call (C := 2) (As := [aR 2 (0), aI (s)]) (rest := []) rq_117 (ev_score (0) (s) (zm_keep (0) σ) ) rfl rfl (show clOK 117 28 0 1 6 2 2 = true by decide +kernel) rfl (show 0 ≤ 4 by decide) (fun _ => ⟨_, rfl⟩) rfl (c' := 1) (s' := 6) rfl rfl ?_
        refine wp_seg 5 (P := none) (ls' := [some (aR 10 (0)), some (aI (s)), some (aI (σ 2 0 2))]) (st' := [aI (σ 2 0 2), aR 7 (11)]) (σ' := (zm_score (0) (s) (zm_keep (0) σ))) rq_117 rfl True.intro (i' := 37) rfl ?_
        refine wp_call (C := 7) (As := [aR 7 (11), aI (σ 2 0 2)]) (rest := []) rq_117 (ev_get (11) (σ 2 0 2) (zm_score (0) (s) (zm_keep (0) σ)) ) rfl rfl (show clOK 117 78 0 1 6 2 7 = true by decide +kernel) rfl (show 0 ≤ 4 by decide) (fun _ => ⟨_, rfl⟩) rfl (c' := 1) (s' := 6) rfl rfl ?_
        refine wp_iret rq_117 rfl rt_117 ⟨?_, ?_⟩
        · (rw [zo_xtouch, if_neg h1, if_pos h4, if_neg h5, if_pos h6]; try rfl)
        · (rw [zm_xtouch, if_neg h1, if_pos h4, if_neg h5, if_pos h6]; try rfl)
      · refine wp_seg 2 (P := none) (ls' := [some (aR 10 (0)), some (aI (s)), some (aI (σ 2 0 2))]) (st' := [aR 2 (0)]) (σ' := (zm_keep (0) σ)) rq_117 rfl True.intro (i' := 26) rfl ?_
        refine wp_call (C := 2) (As := [aR 2 (0)]) (rest := []) rq_117 (ev_scoreBoth (0) (zm_keep (0) σ) ) rfl rfl (show clOK 117 29 0 1 6 1 2 = true by decide +kernel) rfl (show 0 ≤ 4 by decide) (fun _ => ⟨_, rfl⟩) rfl (c' := 1) (s' := 6) rfl rfl ?_
        refine wp_goto rq_117 rfl ?_
        refine wp_seg 5 (P := none) (ls' := [some (aR 10 (0)), some (aI (s)), some (aI (σ 2 0 2))]) (st' := [aI (σ 2 0 2), aR 7 (11)]) (σ' := (zm_scoreBoth (0) (zm_keep (0) σ))) rq_117 rfl True.intro (i' := 37) rfl ?_
        refine wp_call (C := 7) (As := [aR 7 (11), aI (σ 2 0 2)]) (rest := []) rq_117 (ev_get (11) (σ 2 0 2) (zm_scoreBoth (0) (zm_keep (0) σ)) ) rfl rfl (show clOK 117 78 0 1 6 2 7 = true by decide +kernel) rfl (show 0 ≤ 4 by decide) (fun _ => ⟨_, rfl⟩) rfl (c' := 1) (s' := 6) rfl rfl ?_
        refine wp_iret rq_117 rfl rt_117 ⟨?_, ?_⟩
        · (rw [zo_xtouch, if_neg h1, if_pos h4, if_neg h5, if_neg h6]; try rfl)
        · (rw [zm_xtouch, if_neg h1, if_pos h4, if_neg h5, if_neg h6]; try rfl)
    · refine wp_seg 2 (P := none) (ls' := [some (aR 10 (0)), some (aI (s)), none]) (st' := [aI (2), aI (s)]) (σ' := σ) rq_117 rfl True.intro (i' := 7) rfl ?_
      refine wp_icmp rq_117 rfl (fun (h7 : (s) = 2) => ?_) (fun (h7 : ¬ ((s) = 2)) => ?_)
      · refine wp_seg 1 (P := none) (ls' := [some (aR 10 (0)), some (aI (s)), none]) (st' := [aR 10 (0)]) (σ' := σ) rq_117 rfl True.intro (i' := 14) rfl ?_
        by_cases h8 : σ 2 0 2 = -1
        · refine wp_callX (C := 10) (As := [aR 10 (0)]) (rest := []) rq_117 (ev_boutInProgress_x  σ h8) rfl rfl (show clOK 117 149 0 0 0 1 10 = true by decide +kernel) rfl (show 0 ≤ 4 by decide) (fun _ => ⟨_, rfl⟩) rfl (hcat_lt (by decide)) ⟨?_, ?_⟩
          · (rw [zo_xtouch, if_neg h1, if_neg h4, if_pos h7, if_pos h8]; try rfl)
          · (rw [zm_xtouch, if_neg h1, if_neg h4, if_pos h7, if_pos h8]; try rfl)
        refine wp_call (C := 10) (As := [aR 10 (0)]) (rest := []) rq_117 (ev_boutInProgress_n σ h8) rfl rfl (show clOK 117 149 0 0 0 1 10 = true by decide +kernel) rfl (show 0 ≤ 4 by decide) (fun _ => ⟨_, rfl⟩) rfl (c' := 1) (s' := 6) rfl rfl ?_
        refine wp_seg 5 (P := none) (ls' := [some (aR 10 (0)), some (aI (s)), some (aI (σ 2 0 2))]) (st' := [aR 2 (0), aR 1 (0)]) (σ' := σ) rq_117 rfl True.intro (i' := 20) rfl ?_
        refine wp_call (C := 1) (As := [aR 1 (0), aR 2 (0)]) (rest := []) rq_117 (ev_keep (0) σ ) rfl rfl (show clOK 117 21 0 1 6 2 1 = true by decide +kernel) rfl (show 0 ≤ 4 by decide) (fun _ => ⟨_, rfl⟩) rfl (c' := 1) (s' := 6) rfl rfl ?_
        refine wp_seg 2 (P := none) (ls' := [some (aR 10 (0)), some (aI (s)), some (aI (σ 2 0 2))]) (st' := [aI (2), aI (s)]) (σ' := (zm_keep (0) σ)) rq_117 rfl True.intro (i' := 23) rfl ?_
        refine wp_icmp rq_117 rfl (fun (h9 : ¬ (s) = 2) => ?_) (fun (h9 : ¬ (¬ (s) = 2)) => ?_)
        · refine wp_seg 3 (P := none) (ls' := [some (aR 10 (0)), some (aI (s)), some (aI (σ 2 0 2))]) (st' := [aI (s), aR 2 (0)]) (σ' := (zm_keep (0) σ)) rq_117 rfl True.intro (i' := 31) rfl ?_
          refine wp_call (C := 2) (As := [aR 2 (0), aI (s)]) (rest := []) rq_117 (ev_score (0) (s) (zm_keep (0) σ) ) rfl rfl (show clOK 117 28 0 1 6 2 2 = true by decide +kernel) rfl (show 0 ≤ 4 by decide) (fun _ => ⟨_, rfl⟩) rfl (c' := 1) (s' := 6) rfl rfl ?_
          refine wp_seg 5 (P := none) (ls' := [some (aR 10 (0)), some (aI (s)), some (aI (σ 2 0 2))]) (st' := [aI (σ 2 0 2), aR 7 (11)]) (σ' := (zm_score (0) (s) (zm_keep (0) σ))) rq_117 rfl True.intro (i' := 37) rfl ?_
          refine wp_call (C := 7) (As := [aR 7 (11), aI (σ 2 0 2)]) (rest := []) rq_117 (ev_get (11) (σ 2 0 2) (zm_score (0) (s) (zm_keep (0) σ)) ) rfl rfl (show clOK 117 78 0 1 6 2 7 = true by decide +kernel) rfl (show 0 ≤ 4 by decide) (fun _ => ⟨_, rfl⟩) rfl (c' := 1) (s' := 6) rfl rfl ?_
          refine wp_iret rq_117 rfl rt_117 ⟨?_, ?_⟩
          · (rw [zo_xtouch, if_neg h1, if_neg h4, if_pos h7, if_neg h8, if_pos h9]; try rfl)
          · (rw [zm_xtouch, if_neg h1, if_neg h4, if_pos h7, if_neg h8, if_pos h9]; try rfl)
        · refine wp_seg 2 (P := none) (ls' := [some (aR 10 (0)), some (aI (s)), some (aI (σ 2 0 2))]) (st' := [aR 2 (0)]) (σ' := (zm_keep (0) σ)) rq_117 rfl True.intro (i' := 26) rfl ?_
          refine wp_call (C := 2) (As := [aR 2 (0)]) (rest := []) rq_117 (ev_scoreBoth (0) (zm_keep (0) σ) ) rfl rfl (show clOK 117 29 0 1 6 1 2 = true by decide +kernel) rfl (show 0 ≤ 4 by decide) (fun _ => ⟨_, rfl⟩) rfl (c' := 1) (s' := 6) rfl rfl ?_
          refine wp_goto rq_117 rfl ?_
          refine wp_seg 5 (P := none) (ls' := [some (aR 10 (0)), some (aI (s)), some (aI (σ 2 0 2))]) (st' := [aI (σ 2 0 2), aR 7 (11)]) (σ' := (zm_scoreBoth (0) (zm_keep (0) σ))) rq_117 rfl True.intro (i' := 37) rfl ?_
          refine wp_call (C := 7) (As := [aR 7 (11), aI (σ 2 0 2)]) (rest := []) rq_117 (ev_get (11) (σ 2 0 2) (zm_scoreBoth (0) (zm_keep (0) σ)) ) rfl rfl (show clOK 117 78 0 1 6 2 7 = true by decide +kernel) rfl (show 0 ≤ 4 by decide) (fun _ => ⟨_, rfl⟩) rfl (c' := 1) (s' := 6) rfl rfl ?_
          refine wp_iret rq_117 rfl rt_117 ⟨?_, ?_⟩
          · (rw [zo_xtouch, if_neg h1, if_neg h4, if_pos h7, if_neg h8, if_neg h9]; try rfl)
          · (rw [zm_xtouch, if_neg h1, if_neg h4, if_pos h7, if_neg h8, if_neg h9]; try rfl)
      · refine wp_throw rq_117 rfl (hcat_lt (by decide)) (show 0 ≤ 4 by decide) (by decide +kernel) (by decide +kernel) (by decide +kernel) ⟨?_, ?_⟩
        · (rw [zo_xtouch, if_neg h1, if_neg h4, if_neg h7]; try rfl)
        · (rw [zm_xtouch, if_neg h1, if_neg h4, if_neg h7]; try rfl)

def zo_xtime  (σ : Mem) : Out := if σ 2 0 2 = -1 then .inr 1 else .inl (some (aI (rget (zm_runOut (0) (zm_keep (0) σ)) (11) (σ 2 0 2))))
def zm_xtime  (σ : Mem) : Mem := if σ 2 0 2 = -1 then σ else (zm_runOut (0) (zm_keep (0) σ))
theorem ev_xtime  (σ : Mem) : Ev true 118 [aR 10 (0)] σ (zo_xtime  σ) (zm_xtime  σ) := by
  show wp true 118 0 [some (aR 10 (0)), none] [] σ 0 0 _
  refine wp_seg 1 (P := none) (ls' := [some (aR 10 (0)), none]) (st' := [aR 10 (0)]) (σ' := σ) rq_118 rfl True.intro (i' := 1) rfl ?_
  by_cases h1 : σ 2 0 2 = -1
  · refine wp_callX (C := 10) (As := [aR 10 (0)]) (rest := []) rq_118 (ev_boutInProgress_x  σ h1) rfl rfl (show clOK 118 149 0 0 0 1 10 = true by decide +kernel) rfl (show 0 ≤ 4 by decide) (fun _ => ⟨_, rfl⟩) rfl (hcat_lt (by decide)) ⟨?_, ?_⟩
    · (rw [zo_xtime, if_pos h1]; try rfl)
    · (rw [zm_xtime, if_pos h1]; try rfl)
  refine wp_call (C := 10) (As := [aR 10 (0)]) (rest := []) rq_118 (ev_boutInProgress_n σ h1) rfl rfl (show clOK 118 149 0 0 0 1 10 = true by decide +kernel) rfl (show 0 ≤ 4 by decide) (fun _ => ⟨_, rfl⟩) rfl (c' := 1) (s' := 6) rfl rfl ?_
  refine wp_seg 5 (P := none) (ls' := [some (aR 10 (0)), some (aI (σ 2 0 2))]) (st' := [aR 2 (0), aR 1 (0)]) (σ' := σ) rq_118 rfl True.intro (i' := 7) rfl ?_
  refine wp_call (C := 1) (As := [aR 1 (0), aR 2 (0)]) (rest := []) rq_118 (ev_keep (0) σ ) rfl rfl (show clOK 118 21 0 1 6 2 1 = true by decide +kernel) rfl (show 0 ≤ 4 by decide) (fun _ => ⟨_, rfl⟩) rfl (c' := 1) (s' := 6) rfl rfl ?_
  refine wp_seg 2 (P := none) (ls' := [some (aR 10 (0)), some (aI (σ 2 0 2))]) (st' := [aR 2 (0)]) (σ' := (zm_keep (0) σ)) rq_118 rfl True.intro (i' := 10) rfl ?_
  refine wp_call (C := 2) (As := [aR 2 (0)]) (rest := []) rq_118 (ev_runOut (0) (zm_keep (0) σ) ) rfl rfl (show clOK 118 30 0 1 6 1 2 = true by decide +kernel) rfl (show 0 ≤ 4 by decide) (fun _ => ⟨_, rfl⟩) rfl (c' := 1) (s' := 6) rfl rfl ?_
  refine wp_seg 5 (P := none) (ls' := [some (aR 10 (0)), some (aI (σ 2 0 2))]) (st' := [aI (σ 2 0 2), aR 7 (11)]) (σ' := (zm_runOut (0) (zm_keep (0) σ))) rq_118 rfl True.intro (i' := 16) rfl ?_
  refine wp_call (C := 7) (As := [aR 7 (11), aI (σ 2 0 2)]) (rest := []) rq_118 (ev_get (11) (σ 2 0 2) (zm_runOut (0) (zm_keep (0) σ)) ) rfl rfl (show clOK 118 78 0 1 6 2 7 = true by decide +kernel) rfl (show 0 ≤ 4 by decide) (fun _ => ⟨_, rfl⟩) rfl (c' := 1) (s' := 6) rfl rfl ?_
  refine wp_iret rq_118 rfl rt_118 ⟨?_, ?_⟩
  · (rw [zo_xtime, if_neg h1]; try rfl)
  · (rw [zm_xtime, if_neg h1]; try rfl)

def zo_xcard (s k : Int) (σ : Mem) : Out := if (s) = 0 then (if (k) < 0 then .inr 0 else if (k) ≤ 2 then (if σ 2 0 2 = -1 then .inr 1 else .inl (some (aI (zo_mshow (0) (s) (k) (zm_keep (0) σ))))) else .inr 0) else if ¬ (s) = 1 then .inr 0 else if (k) < 0 then .inr 0 else if (k) ≤ 2 then (if σ 2 0 2 = -1 then .inr 1 else .inl (some (aI (zo_mshow (0) (s) (k) (zm_keep (0) σ))))) else .inr 0
def zm_xcard (s k : Int) (σ : Mem) : Mem := if (s) = 0 then (if (k) < 0 then σ else if (k) ≤ 2 then (if σ 2 0 2 = -1 then σ else (zm_mshow (0) (s) (k) (zm_keep (0) σ))) else σ) else if ¬ (s) = 1 then σ else if (k) < 0 then σ else if (k) ≤ 2 then (if σ 2 0 2 = -1 then σ else (zm_mshow (0) (s) (k) (zm_keep (0) σ))) else σ
theorem ev_xcard (s k : Int) (σ : Mem) : Ev true 119 [aR 10 (0), aI (s), aI (k)] σ (zo_xcard s k σ) (zm_xcard s k σ) := by
  show wp true 119 0 [some (aR 10 (0)), some (aI (s)), some (aI (k))] [] σ 0 0 _
  refine wp_seg 1 (P := none) (ls' := [some (aR 10 (0)), some (aI (s)), some (aI (k))]) (st' := [aI (s)]) (σ' := σ) rq_119 rfl True.intro (i' := 1) rfl ?_
  refine wp_if rq_119 rfl (fun (h1 : (s) = 0) => ?_) (fun (h1 : ¬ ((s) = 0)) => ?_)
  · refine wp_seg 1 (P := none) (ls' := [some (aR 10 (0)), some (aI (s)), some (aI (k))]) (st' := [aI (k)]) (σ' := σ) rq_119 rfl True.intro (i' := 6) rfl ?_
    refine wp_if rq_119 rfl (fun (h2 : (k) < 0) => ?_) (fun (h2 : ¬ ((k) < 0)) => ?_)
    · refine wp_throw rq_119 rfl (hcat_lt (by decide)) (show 0 ≤ 4 by decide) (by decide +kernel) (by decide +kernel) (by decide +kernel) ⟨?_, ?_⟩
      · (rw [zo_xcard, if_pos h1, if_pos h2]; try rfl)
      · (rw [zm_xcard, if_pos h1, if_pos h2]; try rfl)
    · refine wp_seg 2 (P := none) (ls' := [some (aR 10 (0)), some (aI (s)), some (aI (k))]) (st' := [aI (2), aI (k)]) (σ' := σ) rq_119 rfl True.intro (i' := 9) rfl ?_
      refine wp_icmp rq_119 rfl (fun (h3 : (k) ≤ 2) => ?_) (fun (h3 : ¬ ((k) ≤ 2)) => ?_)
      · refine wp_seg 1 (P := none) (ls' := [some (aR 10 (0)), some (aI (s)), some (aI (k))]) (st' := [aR 10 (0)]) (σ' := σ) rq_119 rfl True.intro (i' := 16) rfl ?_
        by_cases h4 : σ 2 0 2 = -1
        · refine wp_callX (C := 10) (As := [aR 10 (0)]) (rest := []) rq_119 (ev_boutInProgress_x  σ h4) rfl rfl (show clOK 119 149 0 0 0 1 10 = true by decide +kernel) rfl (show 0 ≤ 4 by decide) (fun _ => ⟨_, rfl⟩) rfl (hcat_lt (by decide)) ⟨?_, ?_⟩
          · (rw [zo_xcard, if_pos h1, if_neg h2, if_pos h3, if_pos h4]; try rfl)
          · (rw [zm_xcard, if_pos h1, if_neg h2, if_pos h3, if_pos h4]; try rfl)
        refine wp_call (C := 10) (As := [aR 10 (0)]) (rest := []) rq_119 (ev_boutInProgress_n σ h4) rfl rfl (show clOK 119 149 0 0 0 1 10 = true by decide +kernel) rfl (show 0 ≤ 4 by decide) (fun _ => ⟨_, rfl⟩) rfl (c' := 1) (s' := 6) rfl rfl ?_
        refine wp_seg 5 (P := none) (ls' := [some (aR 10 (0)), some (aI (s)), some (aI (k))]) (st' := [aR 2 (0), aR 1 (0)]) (σ' := σ) rq_119 rfl True.intro (i' := 22) rfl ?_
        refine wp_call (C := 1) (As := [aR 1 (0), aR 2 (0)]) (rest := []) rq_119 (ev_keep (0) σ ) rfl rfl (show clOK 119 21 0 1 6 2 1 = true by decide +kernel) rfl (show 0 ≤ 4 by decide) (fun _ => ⟨_, rfl⟩) rfl (c' := 1) (s' := 6) rfl rfl ?_
        refine wp_seg 4 (P := none) (ls' := [some (aR 10 (0)), some (aI (s)), some (aI (k))]) (st' := [aI (k), aI (s), aR 2 (0)]) (σ' := (zm_keep (0) σ)) rq_119 rfl True.intro (i' := 27) rfl ?_
        refine wp_call (C := 2) (As := [aR 2 (0), aI (s), aI (k)]) (rest := []) rq_119 (ev_mshow (0) (s) (k) (zm_keep (0) σ) ) rfl rfl (show clOK 119 32 0 1 6 3 2 = true by decide +kernel) rfl (show 0 ≤ 4 by decide) (fun _ => ⟨_, rfl⟩) rfl (c' := 1) (s' := 6) rfl rfl ?_
        refine wp_iret rq_119 rfl rt_119 ⟨?_, ?_⟩
        · (rw [zo_xcard, if_pos h1, if_neg h2, if_pos h3, if_neg h4]; try rfl)
        · (rw [zm_xcard, if_pos h1, if_neg h2, if_pos h3, if_neg h4]; try rfl)
      · refine wp_throw rq_119 rfl (hcat_lt (by decide)) (show 0 ≤ 4 by decide) (by decide +kernel) (by decide +kernel) (by decide +kernel) ⟨?_, ?_⟩
        · (rw [zo_xcard, if_pos h1, if_neg h2, if_neg h3]; try rfl)
        · (rw [zm_xcard, if_pos h1, if_neg h2, if_neg h3]; try rfl)
  · refine wp_seg 2 (P := none) (ls' := [some (aR 10 (0)), some (aI (s)), some (aI (k))]) (st' := [aI (1), aI (s)]) (σ' := σ) rq_119 rfl True.intro (i' := 4) rfl ?_
    refine wp_icmp rq_119 rfl (fun (h5 : ¬ (s) = 1) => ?_) (fun (h5 : ¬ (¬ (s) = 1)) => ?_)
    · refine wp_throw rq_119 rfl (hcat_lt (by decide)) (show 0 ≤ 4 by decide) (by decide +kernel) (by decide +kernel) (by decide +kernel) ⟨?_, ?_⟩
      · (rw [zo_xcard, if_neg h1, if_pos h5]; try rfl)
      · (rw [zm_xcard, if_neg h1, if_pos h5]; try rfl)
    · refine wp_seg 1 (P := none) (ls' := [some (aR 10 (0)), some (aI (s)), some (aI (k))]) (st' := [aI (k)]) (σ' := σ) rq_119 rfl True.intro (i' := 6) rfl ?_
      refine wp_if rq_119 rfl (fun (h6 : (k) < 0) => ?_) (fun (h6 : ¬ ((k) < 0)) => ?_)
      · refine wp_throw rq_119 rfl (hcat_lt (by decide)) (show 0 ≤ 4 by decide) (by decide +kernel) (by decide +kernel) (by decide +kernel) ⟨?_, ?_⟩
        · (rw [zo_xcard, if_neg h1, if_neg h5, if_pos h6]; try rfl)
        · (rw [zm_xcard, if_neg h1, if_neg h5, if_pos h6]; try rfl)
      · refine wp_seg 2 (P := none) (ls' := [some (aR 10 (0)), some (aI (s)), some (aI (k))]) (st' := [aI (2), aI (k)]) (σ' := σ) rq_119 rfl True.intro (i' := 9) rfl ?_
        refine wp_icmp rq_119 rfl (fun (h7 : (k) ≤ 2) => ?_) (fun (h7 : ¬ ((k) ≤ 2)) => ?_)
        · refine wp_seg 1 (P := none) (ls' := [some (aR 10 (0)), some (aI (s)), some (aI (k))]) (st' := [aR 10 (0)]) (σ' := σ) rq_119 rfl True.intro (i' := 16) rfl ?_
          by_cases h8 : σ 2 0 2 = -1
          · refine wp_callX (C := 10) (As := [aR 10 (0)]) (rest := []) rq_119 (ev_boutInProgress_x  σ h8) rfl rfl (show clOK 119 149 0 0 0 1 10 = true by decide +kernel) rfl (show 0 ≤ 4 by decide) (fun _ => ⟨_, rfl⟩) rfl (hcat_lt (by decide)) ⟨?_, ?_⟩
            · (rw [zo_xcard, if_neg h1, if_neg h5, if_neg h6, if_pos h7, if_pos h8]; try rfl)
            · (rw [zm_xcard, if_neg h1, if_neg h5, if_neg h6, if_pos h7, if_pos h8]; try rfl)
          refine wp_call (C := 10) (As := [aR 10 (0)]) (rest := []) rq_119 (ev_boutInProgress_n σ h8) rfl rfl (show clOK 119 149 0 0 0 1 10 = true by decide +kernel) rfl (show 0 ≤ 4 by decide) (fun _ => ⟨_, rfl⟩) rfl (c' := 1) (s' := 6) rfl rfl ?_
          refine wp_seg 5 (P := none) (ls' := [some (aR 10 (0)), some (aI (s)), some (aI (k))]) (st' := [aR 2 (0), aR 1 (0)]) (σ' := σ) rq_119 rfl True.intro (i' := 22) rfl ?_
          refine wp_call (C := 1) (As := [aR 1 (0), aR 2 (0)]) (rest := []) rq_119 (ev_keep (0) σ ) rfl rfl (show clOK 119 21 0 1 6 2 1 = true by decide +kernel) rfl (show 0 ≤ 4 by decide) (fun _ => ⟨_, rfl⟩) rfl (c' := 1) (s' := 6) rfl rfl ?_
          refine wp_seg 4 (P := none) (ls' := [some (aR 10 (0)), some (aI (s)), some (aI (k))]) (st' := [aI (k), aI (s), aR 2 (0)]) (σ' := (zm_keep (0) σ)) rq_119 rfl True.intro (i' := 27) rfl ?_
          refine wp_call (C := 2) (As := [aR 2 (0), aI (s), aI (k)]) (rest := []) rq_119 (ev_mshow (0) (s) (k) (zm_keep (0) σ) ) rfl rfl (show clOK 119 32 0 1 6 3 2 = true by decide +kernel) rfl (show 0 ≤ 4 by decide) (fun _ => ⟨_, rfl⟩) rfl (c' := 1) (s' := 6) rfl rfl ?_
          refine wp_iret rq_119 rfl rt_119 ⟨?_, ?_⟩
          · (rw [zo_xcard, if_neg h1, if_neg h5, if_neg h6, if_pos h7, if_neg h8]; try rfl)
          · (rw [zm_xcard, if_neg h1, if_neg h5, if_neg h6, if_pos h7, if_neg h8]; try rfl)
        · refine wp_throw rq_119 rfl (hcat_lt (by decide)) (show 0 ≤ 4 by decide) (by decide +kernel) (by decide +kernel) (by decide +kernel) ⟨?_, ?_⟩
          · (rw [zo_xcard, if_neg h1, if_neg h5, if_neg h6, if_neg h7]; try rfl)
          · (rw [zm_xcard, if_neg h1, if_neg h5, if_neg h6, if_neg h7]; try rfl)

def zo_xenter (b x y w : Int) (σ : Mem) : Out := if zo_has 0 (b) σ = 0 then .inr 2 else if ¬ (zo_eur (b) (x) (y) (w) σ) = 0 then .inl (some (aI (rget (zm_eur (b) (x) (y) (w) σ) (12) (b)))) else .inr 4
def zm_xenter (b x y w : Int) (σ : Mem) : Mem := if zo_has 0 (b) σ = 0 then σ else if ¬ (zo_eur (b) (x) (y) (w) σ) = 0 then (zm_eur (b) (x) (y) (w) σ) else (zm_eur (b) (x) (y) (w) σ)
theorem ev_xenter (b x y w : Int) (σ : Mem) : Ev true 120 [aR 10 (0), aI (b), aI (x), aI (y), aI (w)] σ (zo_xenter b x y w σ) (zm_xenter b x y w σ) := by
  show wp true 120 0 [some (aR 10 (0)), some (aI (b)), some (aI (x)), some (aI (y)), some (aI (w))] [] σ 0 0 _
  refine wp_seg 2 (P := none) (ls' := [some (aR 10 (0)), some (aI (b)), some (aI (x)), some (aI (y)), some (aI (w))]) (st' := [aI (b), aR 10 (0)]) (σ' := σ) rq_120 rfl True.intro (i' := 2) rfl ?_
  by_cases h1 : zo_has 0 (b) σ = 0
  · refine wp_callX (C := 10) (As := [aR 10 (0), aI (b)]) (rest := []) rq_120 (ev_checkBout_x (b) σ h1) rfl rfl (show clOK 120 146 0 0 0 2 10 = true by decide +kernel) rfl (show 0 ≤ 4 by decide) (fun _ => ⟨_, rfl⟩) rfl (hcat_lt (by decide)) ⟨?_, ?_⟩
    · (rw [zo_xenter, if_pos h1]; try rfl)
    · (rw [zm_xenter, if_pos h1]; try rfl)
  refine wp_call (C := 10) (As := [aR 10 (0), aI (b)]) (rest := []) rq_120 (ev_checkBout_n (b) σ h1) rfl rfl (show clOK 120 146 0 0 0 2 10 = true by decide +kernel) rfl (show 0 ≤ 4 by decide) (fun _ => ⟨_, rfl⟩) rfl (c' := 1) (s' := 6) rfl rfl ?_
  refine wp_seg 5 (P := none) (ls' := [some (aR 10 (0)), some (aI (b)), some (aI (x)), some (aI (y)), some (aI (w))]) (st' := [aI (w), aI (y), aI (x), aI (b), aR 10 (0)]) (σ' := σ) rq_120 rfl True.intro (i' := 8) rfl ?_
  refine wp_call (C := 10) (As := [aR 10 (0), aI (b), aI (x), aI (y), aI (w)]) (rest := []) rq_120 (ev_eur (b) (x) (y) (w) σ ) rfl rfl (show clOK 120 150 0 1 6 5 10 = true by decide +kernel) rfl (show 0 ≤ 4 by decide) (fun _ => ⟨_, rfl⟩) rfl (c' := 1) (s' := 6) rfl rfl ?_
  refine wp_if rq_120 rfl (fun (h2 : ¬ (zo_eur (b) (x) (y) (w) σ) = 0) => ?_) (fun (h2 : ¬ (¬ (zo_eur (b) (x) (y) (w) σ) = 0)) => ?_)
  · refine wp_seg 5 (P := none) (ls' := [some (aR 10 (0)), some (aI (b)), some (aI (x)), some (aI (y)), some (aI (w))]) (st' := [aI (b), aR 7 (12)]) (σ' := (zm_eur (b) (x) (y) (w) σ)) rq_120 rfl True.intro (i' := 20) rfl ?_
    refine wp_call (C := 7) (As := [aR 7 (12), aI (b)]) (rest := []) rq_120 (ev_get (12) (b) (zm_eur (b) (x) (y) (w) σ) ) rfl rfl (show clOK 120 78 0 1 6 2 7 = true by decide +kernel) rfl (show 0 ≤ 4 by decide) (fun _ => ⟨_, rfl⟩) rfl (c' := 1) (s' := 6) rfl rfl ?_
    refine wp_iret rq_120 rfl rt_120 ⟨?_, ?_⟩
    · (rw [zo_xenter, if_neg h1, if_pos h2]; try rfl)
    · (rw [zm_xenter, if_neg h1, if_pos h2]; try rfl)
  · refine wp_throw rq_120 rfl (hcat_lt (by decide)) (show 0 ≤ 4 by decide) (by decide +kernel) (by decide +kernel) (by decide +kernel) ⟨?_, ?_⟩
    · (rw [zo_xenter, if_neg h1, if_neg h2]; try rfl)
    · (rw [zm_xenter, if_neg h1, if_neg h2]; try rfl)

def zo_xrefusal  (σ : Mem) : Out := if ¬ (σ 10 (0) 6) = 0 then .inl (some (aI (σ 10 (0) 6))) else .inr 3
theorem ev_xrefusal  (σ : Mem) : Ev true 121 [aR 10 (0)] σ (zo_xrefusal  σ) (σ) := by
  show wp true 121 0 [some (aR 10 (0))] [] σ 0 0 _
  refine wp_seg 2 (P := none) (ls' := [some (aR 10 (0))]) (st' := [aI (σ 10 (0) 6)]) (σ' := σ) rq_121 rfl True.intro (i' := 2) rfl ?_
  refine wp_if rq_121 rfl (fun (h1 : ¬ (σ 10 (0) 6) = 0) => ?_) (fun (h1 : ¬ (¬ (σ 10 (0) 6) = 0)) => ?_)
  · refine wp_seg 2 (P := none) (ls' := [some (aR 10 (0))]) (st' := [aI (σ 10 (0) 6)]) (σ' := σ) rq_121 rfl True.intro (i' := 10) rfl ?_
    refine wp_iret rq_121 rfl rt_121 ⟨?_, ?_⟩
    · (rw [zo_xrefusal, if_pos h1]; try rfl)
    · rfl
  · refine wp_throw rq_121 rfl (hcat_lt (by decide)) (show 0 ≤ 4 by decide) (by decide +kernel) (by decide +kernel) (by decide +kernel) ⟨?_, ?_⟩
    · (rw [zo_xrefusal, if_neg h1]; try rfl)
    · rfl

def zo_xresult (f w : Int) (σ : Mem) : Out := if (f) < 0 ∨ σ 6 0 0 ≤ (f) then .inr 2 else if (w) < 0 ∨ (4) < (w) then .inr 0 else .inl (some (aI (zo_snumber (f) (w) (zm_tally (0) σ))))
def zm_xresult (f w : Int) (σ : Mem) : Mem := if (f) < 0 ∨ σ 6 0 0 ≤ (f) then σ else if (w) < 0 ∨ (4) < (w) then σ else (zm_tally (0) σ)
theorem ev_xresult (f w : Int) (σ : Mem) : Ev true 122 [aR 10 (0), aI (f), aI (w)] σ (zo_xresult f w σ) (zm_xresult f w σ) := by
  show wp true 122 0 [some (aR 10 (0)), some (aI (f)), some (aI (w))] [] σ 0 0 _
  refine wp_seg 2 (P := none) (ls' := [some (aR 10 (0)), some (aI (f)), some (aI (w))]) (st' := [aI (f), aR 10 (0)]) (σ' := σ) rq_122 rfl True.intro (i' := 2) rfl ?_
  by_cases h1 : (f) < 0 ∨ σ 6 0 0 ≤ (f)
  · refine wp_callX (C := 10) (As := [aR 10 (0), aI (f)]) (rest := []) rq_122 (ev_checkFencer_x (f) σ h1) rfl rfl (show clOK 122 144 0 0 0 2 10 = true by decide +kernel) rfl (show 0 ≤ 4 by decide) (fun _ => ⟨_, rfl⟩) rfl (hcat_lt (by decide)) ⟨?_, ?_⟩
    · (rw [zo_xresult, if_pos h1]; try rfl)
    · (rw [zm_xresult, if_pos h1]; try rfl)
  refine wp_call (C := 10) (As := [aR 10 (0), aI (f)]) (rest := []) rq_122 (ev_checkFencer_n (f) σ h1) rfl rfl (show clOK 122 144 0 0 0 2 10 = true by decide +kernel) rfl (show 0 ≤ 4 by decide) (fun _ => ⟨_, rfl⟩) rfl (c' := 1) (s' := 6) rfl rfl ?_
  refine wp_seg 2 (P := none) (ls' := [some (aR 10 (0)), some (aI (f)), some (aI (w))]) (st' := [aI (4), aI (w)]) (σ' := σ) rq_122 rfl True.intro (i' := 5) rfl ?_
  by_cases h2 : (w) < 0 ∨ (4) < (w)
  · refine wp_callX (C := 0) (As := [aI (w), aI (4)]) (rest := []) rq_122 (ev_checkWhat_x (w) (4) σ h2) rfl rfl (show clOK 122 143 2 1 6 2 0 = true by decide +kernel) rfl (show 0 ≤ 4 by decide) (fun h => absurd rfl h) rfl (hcat_lt (by decide)) ⟨?_, ?_⟩
    · (rw [zo_xresult, if_neg h1, if_pos h2]; try rfl)
    · (rw [zm_xresult, if_neg h1, if_pos h2]; try rfl)
  refine wp_call (C := 0) (As := [aI (w), aI (4)]) (rest := []) rq_122 (ev_checkWhat_n (w) (4) σ h2) rfl rfl (show clOK 122 143 2 1 6 2 0 = true by decide +kernel) rfl (show 0 ≤ 4 by decide) (fun h => absurd rfl h) rfl (c' := 2) (s' := 12) rfl rfl ?_
  refine wp_seg 4 (P := none) (ls' := [some (aR 10 (0)), some (aI (f)), some (aI (w))]) (st' := [aR 2 (0), aR 8 (0)]) (σ' := σ) rq_122 rfl True.intro (i' := 10) rfl ?_
  refine wp_call (C := 8) (As := [aR 8 (0), aR 2 (0)]) (rest := []) rq_122 (ev_tally (0) σ ) rfl rfl (show clOK 122 84 0 2 12 2 8 = true by decide +kernel) rfl (show 0 ≤ 4 by decide) (fun _ => ⟨_, rfl⟩) rfl (c' := 2) (s' := 12) rfl rfl ?_
  refine wp_seg 4 (P := none) (ls' := [some (aR 10 (0)), some (aI (f)), some (aI (w))]) (st' := [aI (w), aI (f), aR 8 (0)]) (σ' := (zm_tally (0) σ)) rq_122 rfl True.intro (i' := 15) rfl ?_
  refine wp_call (C := 8) (As := [aR 8 (0), aI (f), aI (w)]) (rest := []) rq_122 (ev_snumber (f) (w) (zm_tally (0) σ) ) rfl rfl (show clOK 122 87 0 2 12 3 8 = true by decide +kernel) rfl (show 0 ≤ 4 by decide) (fun _ => ⟨_, rfl⟩) rfl (c' := 2) (s' := 12) rfl rfl ?_
  refine wp_iret rq_122 rfl rt_122 ⟨?_, ?_⟩
  · (rw [zo_xresult, if_neg h1, if_neg h2]; try rfl)
  · (rw [zm_xresult, if_neg h1, if_neg h2]; try rfl)

def zo_xplace (f : Int) (σ : Mem) : Out := if (f) < 0 ∨ σ 6 0 0 ≤ (f) then .inr 2 else if ¬ zo_isExcluded 0 (f) σ = 0 then .inr 3 else .inl (some (aI (wr (sumTo (fo_countBefore (0) (f) (zm_tally (0) σ)) ((zm_tally (0) σ) 6 ((0)) 0)))))
def zm_xplace (f : Int) (σ : Mem) : Mem := if (f) < 0 ∨ σ 6 0 0 ≤ (f) then σ else if ¬ zo_isExcluded 0 (f) σ = 0 then σ else (zm_tally (0) σ)
theorem ev_xplace (f : Int) (σ : Mem) : Ev true 125 [aR 10 (0), aI (f)] σ (zo_xplace f σ) (zm_xplace f σ) := by
  show wp true 125 0 [some (aR 10 (0)), some (aI (f))] [] σ 0 0 _
  refine wp_seg 2 (P := none) (ls' := [some (aR 10 (0)), some (aI (f))]) (st' := [aI (f), aR 10 (0)]) (σ' := σ) rq_125 rfl True.intro (i' := 2) rfl ?_
  by_cases h1 : (f) < 0 ∨ σ 6 0 0 ≤ (f)
  · refine wp_callX (C := 10) (As := [aR 10 (0), aI (f)]) (rest := []) rq_125 (ev_checkFencer_x (f) σ h1) rfl rfl (show clOK 125 144 0 0 0 2 10 = true by decide +kernel) rfl (show 0 ≤ 4 by decide) (fun _ => ⟨_, rfl⟩) rfl (hcat_lt (by decide)) ⟨?_, ?_⟩
    · (rw [zo_xplace, if_pos h1]; try rfl)
    · (rw [zm_xplace, if_pos h1]; try rfl)
  refine wp_call (C := 10) (As := [aR 10 (0), aI (f)]) (rest := []) rq_125 (ev_checkFencer_n (f) σ h1) rfl rfl (show clOK 125 144 0 0 0 2 10 = true by decide +kernel) rfl (show 0 ≤ 4 by decide) (fun _ => ⟨_, rfl⟩) rfl (c' := 1) (s' := 6) rfl rfl ?_
  refine wp_seg 2 (P := none) (ls' := [some (aR 10 (0)), some (aI (f))]) (st' := [aI (f), aR 10 (0)]) (σ' := σ) rq_125 rfl True.intro (i' := 5) rfl ?_
  by_cases h2 : ¬ zo_isExcluded 0 (f) σ = 0
  · refine wp_callX (C := 10) (As := [aR 10 (0), aI (f)]) (rest := []) rq_125 (ev_checkRanked_x (f) σ h2) rfl rfl (show clOK 125 147 0 1 6 2 10 = true by decide +kernel) rfl (show 0 ≤ 4 by decide) (fun _ => ⟨_, rfl⟩) rfl (hcat_lt (by decide)) ⟨?_, ?_⟩
    · (rw [zo_xplace, if_neg h1, if_pos h2]; try rfl)
    · (rw [zm_xplace, if_neg h1, if_pos h2]; try rfl)
  refine wp_call (C := 10) (As := [aR 10 (0), aI (f)]) (rest := []) rq_125 (ev_checkRanked_n (f) σ h2) rfl rfl (show clOK 125 147 0 1 6 2 10 = true by decide +kernel) rfl (show 0 ≤ 4 by decide) (fun _ => ⟨_, rfl⟩) rfl (c' := 2) (s' := 12) rfl rfl ?_
  refine wp_seg 4 (P := none) (ls' := [some (aR 10 (0)), some (aI (f))]) (st' := [aR 2 (0), aR 8 (0)]) (σ' := σ) rq_125 rfl True.intro (i' := 10) rfl ?_
  refine wp_call (C := 8) (As := [aR 8 (0), aR 2 (0)]) (rest := []) rq_125 (ev_tally (0) σ ) rfl rfl (show clOK 125 84 0 2 12 2 8 = true by decide +kernel) rfl (show 0 ≤ 4 by decide) (fun _ => ⟨_, rfl⟩) rfl (c' := 2) (s' := 12) rfl rfl ?_
  refine wp_seg 6 (P := none) (ls' := [some (aR 10 (0)), some (aI (f))]) (st' := [aI (f), aR 6 (0), aR 8 (0)]) (σ' := (zm_tally (0) σ)) rq_125 rfl True.intro (i' := 17) rfl ?_
  refine wp_call (C := 8) (As := [aR 8 (0), aR 6 (0), aI (f)]) (rest := []) rq_125 (ev_countBefore (0) (f) (zm_tally (0) σ) ) rfl rfl (show clOK 125 90 0 2 12 3 8 = true by decide +kernel) rfl (show 0 ≤ 4 by decide) (fun _ => ⟨_, rfl⟩) rfl (c' := 2) (s' := 12) rfl rfl ?_
  refine wp_iret rq_125 rfl rt_125 ⟨?_, ?_⟩
  · (rw [zo_xplace, if_neg h1, if_neg h2]; try rfl)
  · (rw [zm_xplace, if_neg h1, if_neg h2]; try rfl)

def zo_xwhy (x y : Int) (σ : Mem) : Out := if (x) < 0 ∨ σ 6 0 0 ≤ (x) then .inr 2 else if (y) < 0 ∨ σ 6 0 0 ≤ (y) then .inr 2 else if ¬ zo_isExcluded 0 (x) σ = 0 then .inr 3 else if ¬ zo_isExcluded 0 (y) σ = 0 then .inr 3 else if ¬ (x) = (y) then .inl (some (aI (zo_compare (0) (x) (y) (zm_tally (0) σ)))) else .inr 3
def zm_xwhy (x y : Int) (σ : Mem) : Mem := if (x) < 0 ∨ σ 6 0 0 ≤ (x) then σ else if (y) < 0 ∨ σ 6 0 0 ≤ (y) then σ else if ¬ zo_isExcluded 0 (x) σ = 0 then σ else if ¬ zo_isExcluded 0 (y) σ = 0 then σ else if ¬ (x) = (y) then (zm_tally (0) σ) else σ
theorem ev_xwhy (x y : Int) (σ : Mem) : Ev true 126 [aR 10 (0), aI (x), aI (y)] σ (zo_xwhy x y σ) (zm_xwhy x y σ) := by
  show wp true 126 0 [some (aR 10 (0)), some (aI (x)), some (aI (y))] [] σ 0 0 _
  refine wp_seg 2 (P := none) (ls' := [some (aR 10 (0)), some (aI (x)), some (aI (y))]) (st' := [aI (x), aR 10 (0)]) (σ' := σ) rq_126 rfl True.intro (i' := 2) rfl ?_
  by_cases h1 : (x) < 0 ∨ σ 6 0 0 ≤ (x)
  · refine wp_callX (C := 10) (As := [aR 10 (0), aI (x)]) (rest := []) rq_126 (ev_checkFencer_x (x) σ h1) rfl rfl (show clOK 126 144 0 0 0 2 10 = true by decide +kernel) rfl (show 0 ≤ 4 by decide) (fun _ => ⟨_, rfl⟩) rfl (hcat_lt (by decide)) ⟨?_, ?_⟩
    · (rw [zo_xwhy, if_pos h1]; try rfl)
    · (rw [zm_xwhy, if_pos h1]; try rfl)
  refine wp_call (C := 10) (As := [aR 10 (0), aI (x)]) (rest := []) rq_126 (ev_checkFencer_n (x) σ h1) rfl rfl (show clOK 126 144 0 0 0 2 10 = true by decide +kernel) rfl (show 0 ≤ 4 by decide) (fun _ => ⟨_, rfl⟩) rfl (c' := 1) (s' := 6) rfl rfl ?_
  refine wp_seg 2 (P := none) (ls' := [some (aR 10 (0)), some (aI (x)), some (aI (y))]) (st' := [aI (y), aR 10 (0)]) (σ' := σ) rq_126 rfl True.intro (i' := 5) rfl ?_
  by_cases h2 : (y) < 0 ∨ σ 6 0 0 ≤ (y)
  · refine wp_callX (C := 10) (As := [aR 10 (0), aI (y)]) (rest := []) rq_126 (ev_checkFencer_x (y) σ h2) rfl rfl (show clOK 126 144 0 1 6 2 10 = true by decide +kernel) rfl (show 0 ≤ 4 by decide) (fun _ => ⟨_, rfl⟩) rfl (hcat_lt (by decide)) ⟨?_, ?_⟩
    · (rw [zo_xwhy, if_neg h1, if_pos h2]; try rfl)
    · (rw [zm_xwhy, if_neg h1, if_pos h2]; try rfl)
  refine wp_call (C := 10) (As := [aR 10 (0), aI (y)]) (rest := []) rq_126 (ev_checkFencer_n (y) σ h2) rfl rfl (show clOK 126 144 0 1 6 2 10 = true by decide +kernel) rfl (show 0 ≤ 4 by decide) (fun _ => ⟨_, rfl⟩) rfl (c' := 2) (s' := 12) rfl rfl ?_
  refine wp_seg 2 (P := none) (ls' := [some (aR 10 (0)), some (aI (x)), some (aI (y))]) (st' := [aI (x), aR 10 (0)]) (σ' := σ) rq_126 rfl True.intro (i' := 8) rfl ?_
  by_cases h3 : ¬ zo_isExcluded 0 (x) σ = 0
  · refine wp_callX (C := 10) (As := [aR 10 (0), aI (x)]) (rest := []) rq_126 (ev_checkRanked_x (x) σ h3) rfl rfl (show clOK 126 147 0 2 12 2 10 = true by decide +kernel) rfl (show 0 ≤ 4 by decide) (fun _ => ⟨_, rfl⟩) rfl (hcat_lt (by decide)) ⟨?_, ?_⟩
    · (rw [zo_xwhy, if_neg h1, if_neg h2, if_pos h3]; try rfl)
    · (rw [zm_xwhy, if_neg h1, if_neg h2, if_pos h3]; try rfl)
  refine wp_call (C := 10) (As := [aR 10 (0), aI (x)]) (rest := []) rq_126 (ev_checkRanked_n (x) σ h3) rfl rfl (show clOK 126 147 0 2 12 2 10 = true by decide +kernel) rfl (show 0 ≤ 4 by decide) (fun _ => ⟨_, rfl⟩) rfl (c' := 3) (s' := 18) rfl rfl ?_
  refine wp_seg 2 (P := none) (ls' := [some (aR 10 (0)), some (aI (x)), some (aI (y))]) (st' := [aI (y), aR 10 (0)]) (σ' := σ) rq_126 rfl True.intro (i' := 11) rfl ?_
  by_cases h4 : ¬ zo_isExcluded 0 (y) σ = 0
  · refine wp_callX (C := 10) (As := [aR 10 (0), aI (y)]) (rest := []) rq_126 (ev_checkRanked_x (y) σ h4) rfl rfl (show clOK 126 147 0 3 18 2 10 = true by decide +kernel) rfl (show 0 ≤ 4 by decide) (fun _ => ⟨_, rfl⟩) rfl (hcat_lt (by decide)) ⟨?_, ?_⟩
    · (rw [zo_xwhy, if_neg h1, if_neg h2, if_neg h3, if_pos h4]; try rfl)
    · (rw [zm_xwhy, if_neg h1, if_neg h2, if_neg h3, if_pos h4]; try rfl)
  refine wp_call (C := 10) (As := [aR 10 (0), aI (y)]) (rest := []) rq_126 (ev_checkRanked_n (y) σ h4) rfl rfl (show clOK 126 147 0 3 18 2 10 = true by decide +kernel) rfl (show 0 ≤ 4 by decide) (fun _ => ⟨_, rfl⟩) rfl (c' := 4) (s' := 24) rfl rfl ?_
  refine wp_seg 2 (P := none) (ls' := [some (aR 10 (0)), some (aI (x)), some (aI (y))]) (st' := [aI (y), aI (x)]) (σ' := σ) rq_126 rfl True.intro (i' := 14) rfl ?_
  refine wp_icmp rq_126 rfl (fun (h5 : ¬ (x) = (y)) => ?_) (fun (h5 : ¬ (¬ (x) = (y))) => ?_)
  · refine wp_seg 4 (P := none) (ls' := [some (aR 10 (0)), some (aI (x)), some (aI (y))]) (st' := [aR 2 (0), aR 8 (0)]) (σ' := σ) rq_126 rfl True.intro (i' := 24) rfl ?_
    refine wp_call (C := 8) (As := [aR 8 (0), aR 2 (0)]) (rest := []) rq_126 (ev_tally (0) σ ) rfl rfl (show clOK 126 84 0 4 24 2 8 = true by decide +kernel) rfl (show 0 ≤ 4 by decide) (fun _ => ⟨_, rfl⟩) rfl (c' := 4) (s' := 24) rfl rfl ?_
    refine wp_seg 7 (P := none) (ls' := [some (aR 10 (0)), some (aI (x)), some (aI (y))]) (st' := [aI (y), aI (x), aR 6 (0), aR 8 (0)]) (σ' := (zm_tally (0) σ)) rq_126 rfl True.intro (i' := 32) rfl ?_
    refine wp_call (C := 8) (As := [aR 8 (0), aR 6 (0), aI (x), aI (y)]) (rest := []) rq_126 (ev_compare (0) (x) (y) (zm_tally (0) σ) ) rfl rfl (show clOK 126 88 0 4 24 4 8 = true by decide +kernel) rfl (show 0 ≤ 4 by decide) (fun _ => ⟨_, rfl⟩) rfl (c' := 4) (s' := 24) rfl rfl ?_
    refine wp_iret rq_126 rfl rt_126 ⟨?_, ?_⟩
    · (rw [zo_xwhy, if_neg h1, if_neg h2, if_neg h3, if_neg h4, if_pos h5]; try rfl)
    · (rw [zm_xwhy, if_neg h1, if_neg h2, if_neg h3, if_neg h4, if_pos h5]; try rfl)
  · refine wp_throw rq_126 rfl (hcat_lt (by decide)) (show 0 ≤ 4 by decide) (by decide +kernel) (by decide +kernel) (by decide +kernel) ⟨?_, ?_⟩
    · (rw [zo_xwhy, if_neg h1, if_neg h2, if_neg h3, if_neg h4, if_neg h5]; try rfl)
    · (rw [zm_xwhy, if_neg h1, if_neg h2, if_neg h3, if_neg h4, if_neg h5]; try rfl)

def zo_xseeded (x : Int) (σ : Mem) : Out := if σ 9 0 0 = 0 then .inr 1 else if ¬ (zo_fencerWith (0) (x) σ) = (-1) then .inl (some (aI (zo_fencerWith (0) (x) σ))) else .inr 3
theorem ev_xseeded (x : Int) (σ : Mem) : Ev true 128 [aR 10 (0), aI (x)] σ (zo_xseeded x σ) (σ) := by
  show wp true 128 0 [some (aR 10 (0)), some (aI (x)), none] [] σ 0 0 _
  refine wp_seg 1 (P := none) (ls' := [some (aR 10 (0)), some (aI (x)), none]) (st' := [aR 10 (0)]) (σ' := σ) rq_128 rfl True.intro (i' := 1) rfl ?_
  by_cases h1 : σ 9 0 0 = 0
  · refine wp_callX (C := 10) (As := [aR 10 (0)]) (rest := []) rq_128 (ev_checkTable_x  σ h1) rfl rfl (show clOK 128 148 0 0 0 1 10 = true by decide +kernel) rfl (show 0 ≤ 4 by decide) (fun _ => ⟨_, rfl⟩) rfl (hcat_lt (by decide)) ⟨?_, ?_⟩
    · (rw [zo_xseeded, if_pos h1]; try rfl)
    · rfl
  refine wp_call (C := 10) (As := [aR 10 (0)]) (rest := []) rq_128 (ev_checkTable_n σ h1) rfl rfl (show clOK 128 148 0 0 0 1 10 = true by decide +kernel) rfl (show 0 ≤ 4 by decide) (fun _ => ⟨_, rfl⟩) rfl (c' := 1) (s' := 6) rfl rfl ?_
  refine wp_seg 4 (P := none) (ls' := [some (aR 10 (0)), some (aI (x)), none]) (st' := [aI (x), aR 9 (0)]) (σ' := σ) rq_128 rfl True.intro (i' := 6) rfl ?_
  refine wp_call (C := 9) (As := [aR 9 (0), aI (x)]) (rest := []) rq_128 (ev_fencerWith (0) (x) σ ) rfl rfl (show clOK 128 98 0 1 6 2 9 = true by decide +kernel) rfl (show 0 ≤ 4 by decide) (fun _ => ⟨_, rfl⟩) rfl (c' := 1) (s' := 6) rfl rfl ?_
  refine wp_seg 3 (P := none) (ls' := [some (aR 10 (0)), some (aI (x)), some (aI (zo_fencerWith (0) (x) σ))]) (st' := [aI (-1), aI (zo_fencerWith (0) (x) σ)]) (σ' := σ) rq_128 rfl True.intro (i' := 10) rfl ?_
  refine wp_icmp rq_128 rfl (fun (h2 : ¬ (zo_fencerWith (0) (x) σ) = (-1)) => ?_) (fun (h2 : ¬ (¬ (zo_fencerWith (0) (x) σ) = (-1))) => ?_)
  · refine wp_seg 1 (P := none) (ls' := [some (aR 10 (0)), some (aI (x)), some (aI (zo_fencerWith (0) (x) σ))]) (st' := [aI (zo_fencerWith (0) (x) σ)]) (σ' := σ) rq_128 rfl True.intro (i' := 17) rfl ?_
    refine wp_iret rq_128 rfl rt_128 ⟨?_, ?_⟩
    · (rw [zo_xseeded, if_neg h1, if_pos h2]; try rfl)
    · rfl
  · refine wp_throw rq_128 rfl (hcat_lt (by decide)) (show 0 ≤ 4 by decide) (by decide +kernel) (by decide +kernel) (by decide +kernel) ⟨?_, ?_⟩
    · (rw [zo_xseeded, if_neg h1, if_neg h2]; try rfl)
    · rfl

def zo_xleg (x y : Int) (σ : Mem) : Out := if (σ 4 (0) 0) = 0 then .inr 1 else if (σ 4 (0) 3) < 9 then (if ¬ (zo_canAdd (0) (x) (y) σ) = 0 then .inl (some (aI (wr ((9) - ((zm_tellLeg (0) (x) (y) (zm_keep (0) σ)) 4 (0) 3))))) else .inr 0) else .inr 1
def zm_xleg (x y : Int) (σ : Mem) : Mem := if (σ 4 (0) 0) = 0 then σ else if (σ 4 (0) 3) < 9 then (if ¬ (zo_canAdd (0) (x) (y) σ) = 0 then (zm_tellLeg (0) (x) (y) (zm_keep (0) σ)) else σ) else σ
theorem ev_xleg (x y : Int) (σ : Mem) : Ev true 133 [aR 10 (0), aI (x), aI (y)] σ (zo_xleg x y σ) (zm_xleg x y σ) := by
  show wp true 133 0 [some (aR 10 (0)), some (aI (x)), some (aI (y))] [] σ 0 0 _
  refine wp_seg 4 (P := none) (ls' := [some (aR 10 (0)), some (aI (x)), some (aI (y))]) (st' := [aI (σ 4 (0) 0)]) (σ' := σ) rq_133 rfl True.intro (i' := 4) rfl ?_
  refine wp_if rq_133 rfl (fun (h1 : (σ 4 (0) 0) = 0) => ?_) (fun (h1 : ¬ ((σ 4 (0) 0) = 0)) => ?_)
  · refine wp_throw rq_133 rfl (hcat_lt (by decide)) (show 0 ≤ 4 by decide) (by decide +kernel) (by decide +kernel) (by decide +kernel) ⟨?_, ?_⟩
    · (rw [zo_xleg, if_pos h1]; try rfl)
    · (rw [zm_xleg, if_pos h1]; try rfl)
  · refine wp_seg 5 (P := none) (ls' := [some (aR 10 (0)), some (aI (x)), some (aI (y))]) (st' := [aI (9), aI (σ 4 (0) 3)]) (σ' := σ) rq_133 rfl True.intro (i' := 10) rfl ?_
    refine wp_icmp rq_133 rfl (fun (h2 : (σ 4 (0) 3) < 9) => ?_) (fun (h2 : ¬ ((σ 4 (0) 3) < 9)) => ?_)
    · refine wp_seg 5 (P := none) (ls' := [some (aR 10 (0)), some (aI (x)), some (aI (y))]) (st' := [aI (y), aI (x), aR 4 (0)]) (σ' := σ) rq_133 rfl True.intro (i' := 21) rfl ?_
      refine wp_call (C := 4) (As := [aR 4 (0), aI (x), aI (y)]) (rest := []) rq_133 (ev_canAdd (0) (x) (y) σ ) rfl rfl (show clOK 133 54 0 0 0 3 4 = true by decide +kernel) rfl (show 0 ≤ 4 by decide) (fun _ => ⟨_, rfl⟩) rfl (c' := 0) (s' := 0) rfl rfl ?_
      refine wp_if rq_133 rfl (fun (h3 : ¬ (zo_canAdd (0) (x) (y) σ) = 0) => ?_) (fun (h3 : ¬ (¬ (zo_canAdd (0) (x) (y) σ) = 0)) => ?_)
      · refine wp_seg 4 (P := none) (ls' := [some (aR 10 (0)), some (aI (x)), some (aI (y))]) (st' := [aR 2 (0), aR 1 (0)]) (σ' := σ) rq_133 rfl True.intro (i' := 32) rfl ?_
        refine wp_call (C := 1) (As := [aR 1 (0), aR 2 (0)]) (rest := []) rq_133 (ev_keep (0) σ ) rfl rfl (show clOK 133 21 0 0 0 2 1 = true by decide +kernel) rfl (show 0 ≤ 4 by decide) (fun _ => ⟨_, rfl⟩) rfl (c' := 0) (s' := 0) rfl rfl ?_
        refine wp_seg 4 (P := none) (ls' := [some (aR 10 (0)), some (aI (x)), some (aI (y))]) (st' := [aI (y), aI (x), aR 2 (0)]) (σ' := (zm_keep (0) σ)) rq_133 rfl True.intro (i' := 37) rfl ?_
        refine wp_call (C := 2) (As := [aR 2 (0), aI (x), aI (y)]) (rest := []) rq_133 (ev_tellLeg (0) (x) (y) (zm_keep (0) σ) ) rfl rfl (show clOK 133 43 0 0 0 3 2 = true by decide +kernel) rfl (show 0 ≤ 4 by decide) (fun _ => ⟨_, rfl⟩) rfl (c' := 0) (s' := 0) rfl rfl ?_
        refine wp_seg 6 (P := none) (ls' := [some (aR 10 (0)), some (aI (x)), some (aI (y))]) (st' := [aI (wr ((9) - ((zm_tellLeg (0) (x) (y) (zm_keep (0) σ)) 4 (0) 3)))]) (σ' := (zm_tellLeg (0) (x) (y) (zm_keep (0) σ))) rq_133 rfl True.intro (i' := 44) rfl ?_
        refine wp_iret rq_133 rfl rt_133 ⟨?_, ?_⟩
        · (rw [zo_xleg, if_neg h1, if_pos h2, if_pos h3]; try rfl)
        · (rw [zm_xleg, if_neg h1, if_pos h2, if_pos h3]; try rfl)
      · refine wp_throw rq_133 rfl (hcat_lt (by decide)) (show 0 ≤ 4 by decide) (by decide +kernel) (by decide +kernel) (by decide +kernel) ⟨?_, ?_⟩
        · (rw [zo_xleg, if_neg h1, if_pos h2, if_neg h3]; try rfl)
        · (rw [zm_xleg, if_neg h1, if_pos h2, if_neg h3]; try rfl)
    · refine wp_throw rq_133 rfl (hcat_lt (by decide)) (show 0 ≤ 4 by decide) (by decide +kernel) (by decide +kernel) (by decide +kernel) ⟨?_, ?_⟩
      · (rw [zo_xleg, if_neg h1, if_neg h2]; try rfl)
      · (rw [zm_xleg, if_neg h1, if_neg h2]; try rfl)

def zo_xrelay (w : Int) (σ : Mem) : Out := if ¬ (σ 4 (0) 0) = 0 then (if (w) < 0 ∨ (6) < (w) then .inr 0 else .inl (some (aI (zo_rnumber (0) (w) σ)))) else .inr 3
theorem ev_xrelay (w : Int) (σ : Mem) : Ev true 134 [aR 10 (0), aI (w)] σ (zo_xrelay w σ) (σ) := by
  show wp true 134 0 [some (aR 10 (0)), some (aI (w))] [] σ 0 0 _
  refine wp_seg 4 (P := none) (ls' := [some (aR 10 (0)), some (aI (w))]) (st' := [aI (σ 4 (0) 0)]) (σ' := σ) rq_134 rfl True.intro (i' := 4) rfl ?_
  refine wp_if rq_134 rfl (fun (h1 : ¬ (σ 4 (0) 0) = 0) => ?_) (fun (h1 : ¬ (¬ (σ 4 (0) 0) = 0)) => ?_)
  · refine wp_seg 2 (P := none) (ls' := [some (aR 10 (0)), some (aI (w))]) (st' := [aI (6), aI (w)]) (σ' := σ) rq_134 rfl True.intro (i' := 12) rfl ?_
    by_cases h2 : (w) < 0 ∨ (6) < (w)
    · refine wp_callX (C := 0) (As := [aI (w), aI (6)]) (rest := []) rq_134 (ev_checkWhat_x (w) (6) σ h2) rfl rfl (show clOK 134 143 2 0 0 2 0 = true by decide +kernel) rfl (show 0 ≤ 4 by decide) (fun h => absurd rfl h) rfl (hcat_lt (by decide)) ⟨?_, ?_⟩
      · (rw [zo_xrelay, if_pos h1, if_pos h2]; try rfl)
      · rfl
    refine wp_call (C := 0) (As := [aI (w), aI (6)]) (rest := []) rq_134 (ev_checkWhat_n (w) (6) σ h2) rfl rfl (show clOK 134 143 2 0 0 2 0 = true by decide +kernel) rfl (show 0 ≤ 4 by decide) (fun h => absurd rfl h) rfl (c' := 1) (s' := 6) rfl rfl ?_
    refine wp_seg 4 (P := none) (ls' := [some (aR 10 (0)), some (aI (w))]) (st' := [aI (w), aR 4 (0)]) (σ' := σ) rq_134 rfl True.intro (i' := 17) rfl ?_
    refine wp_call (C := 4) (As := [aR 4 (0), aI (w)]) (rest := []) rq_134 (ev_rnumber (0) (w) σ ) rfl rfl (show clOK 134 59 0 1 6 2 4 = true by decide +kernel) rfl (show 0 ≤ 4 by decide) (fun _ => ⟨_, rfl⟩) rfl (c' := 1) (s' := 6) rfl rfl ?_
    refine wp_iret rq_134 rfl rt_134 ⟨?_, ?_⟩
    · (rw [zo_xrelay, if_pos h1, if_neg h2]; try rfl)
    · rfl
  · refine wp_throw rq_134 rfl (hcat_lt (by decide)) (show 0 ≤ 4 by decide) (by decide +kernel) (by decide +kernel) (by decide +kernel) ⟨?_, ?_⟩
    · (rw [zo_xrelay, if_neg h1]; try rfl)
    · rfl

def zo_xaccount (w : Int) (σ : Mem) : Out := if (w) < 0 ∨ (8) < (w) then .inr 0 else if w = 5 then .inl (some (aI (wr (sumTo (fo_touchesInFinished (0) (zm_tally (0) σ)) ((zm_tally (0) σ) 0 ((0)) 0))))) else if w = 6 then .inl (some (aI (wr (sumTo (fo_sumOfIndicators (zm_tally (0) σ)) ((24 : Int)))))) else if w = 7 then .inl (some (aI (wr (sumTo (fo_sumOfCards (0) (zm_tally (0) σ)) (wr ((3) * ((zm_tally (0) σ) 6 ((0)) 0))))))) else if w = 8 then .inl (some (aI (wr (sumTo (fo_sumOfVictories (zm_tally (0) σ)) ((24 : Int)))))) else .inl (some (aI (wr (sumTo (fo_bcountIn (0) (w) (zm_tally (0) σ)) ((zm_tally (0) σ) 0 ((0)) 0)))))
def zm_xaccount (w : Int) (σ : Mem) : Mem := if (w) < 0 ∨ (8) < (w) then σ else if w = 5 then (zm_tally (0) σ) else if w = 6 then (zm_tally (0) σ) else if w = 7 then (zm_tally (0) σ) else if w = 8 then (zm_tally (0) σ) else (zm_tally (0) σ)
theorem ev_xaccount (w : Int) (σ : Mem) : Ev true 135 [aR 10 (0), aI (w)] σ (zo_xaccount w σ) (zm_xaccount w σ) := by
  show wp true 135 0 [some (aR 10 (0)), some (aI (w))] [] σ 0 0 _
  refine wp_seg 2 (P := none) (ls' := [some (aR 10 (0)), some (aI (w))]) (st' := [aI (8), aI (w)]) (σ' := σ) rq_135 rfl True.intro (i' := 2) rfl ?_
  by_cases h1 : (w) < 0 ∨ (8) < (w)
  · refine wp_callX (C := 0) (As := [aI (w), aI (8)]) (rest := []) rq_135 (ev_checkWhat_x (w) (8) σ h1) rfl rfl (show clOK 135 143 2 0 0 2 0 = true by decide +kernel) rfl (show 0 ≤ 4 by decide) (fun h => absurd rfl h) rfl (hcat_lt (by decide)) ⟨?_, ?_⟩
    · (rw [zo_xaccount, if_pos h1]; try rfl)
    · (rw [zm_xaccount, if_pos h1]; try rfl)
  refine wp_call (C := 0) (As := [aI (w), aI (8)]) (rest := []) rq_135 (ev_checkWhat_n (w) (8) σ h1) rfl rfl (show clOK 135 143 2 0 0 2 0 = true by decide +kernel) rfl (show 0 ≤ 4 by decide) (fun h => absurd rfl h) rfl (c' := 1) (s' := 6) rfl rfl ?_
  refine wp_seg 4 (P := none) (ls' := [some (aR 10 (0)), some (aI (w))]) (st' := [aR 2 (0), aR 8 (0)]) (σ' := σ) rq_135 rfl True.intro (i' := 7) rfl ?_
  refine wp_call (C := 8) (As := [aR 8 (0), aR 2 (0)]) (rest := []) rq_135 (ev_tally (0) σ ) rfl rfl (show clOK 135 84 0 1 6 2 8 = true by decide +kernel) rfl (show 0 ≤ 4 by decide) (fun _ => ⟨_, rfl⟩) rfl (c' := 1) (s' := 6) rfl rfl ?_
  refine wp_seg 1 (P := none) (ls' := [some (aR 10 (0)), some (aI (w))]) (st' := [aI (w)]) (σ' := (zm_tally (0) σ)) rq_135 rfl True.intro (i' := 9) rfl ?_
  by_cases h2 : w = 5
  · refine wp_switch rq_135 rfl (t := 10) (by rw [h2]; rfl) ?_
    refine wp_seg 3 (P := none) (ls' := [some (aR 10 (0)), some (aI (w))]) (st' := [aR 0 (0)]) (σ' := (zm_tally (0) σ)) rq_135 rfl True.intro (i' := 13) rfl ?_
    refine wp_call (C := 0) (As := [aR 0 (0)]) (rest := []) rq_135 (ev_touchesInFinished (0) (zm_tally (0) σ) ) rfl rfl (show clOK 135 17 0 1 6 1 0 = true by decide +kernel) rfl (show 0 ≤ 4 by decide) (fun _ => ⟨_, rfl⟩) rfl (c' := 1) (s' := 6) rfl rfl ?_
    refine wp_iret rq_135 rfl rt_135 ⟨?_, ?_⟩
    · (rw [zo_xaccount, if_neg h1, if_pos h2]; try rfl)
    · (rw [zm_xaccount, if_neg h1, if_pos h2]; try rfl)
  by_cases h3 : w = 6
  · refine wp_switch rq_135 rfl (t := 15) (by rw [h3]; rfl) ?_
    refine wp_seg 2 (P := none) (ls' := [some (aR 10 (0)), some (aI (w))]) (st' := [aR 8 (0)]) (σ' := (zm_tally (0) σ)) rq_135 rfl True.intro (i' := 17) rfl ?_
    refine wp_call (C := 8) (As := [aR 8 (0)]) (rest := []) rq_135 (ev_sumOfIndicators (zm_tally (0) σ) ) rfl rfl (show clOK 135 93 0 1 6 1 8 = true by decide +kernel) rfl (show 0 ≤ 4 by decide) (fun _ => ⟨_, rfl⟩) rfl (c' := 1) (s' := 6) rfl rfl ?_
    refine wp_iret rq_135 rfl rt_135 ⟨?_, ?_⟩
    · (rw [zo_xaccount, if_neg h1, if_neg h2, if_pos h3]; try rfl)
    · (rw [zm_xaccount, if_neg h1, if_neg h2, if_pos h3]; try rfl)
  by_cases h4 : w = 7
  · refine wp_switch rq_135 rfl (t := 19) (by rw [h4]; rfl) ?_
    refine wp_seg 3 (P := none) (ls' := [some (aR 10 (0)), some (aI (w))]) (st' := [aR 6 (0)]) (σ' := (zm_tally (0) σ)) rq_135 rfl True.intro (i' := 22) rfl ?_
    refine wp_call (C := 6) (As := [aR 6 (0)]) (rest := []) rq_135 (ev_sumOfCards (0) (zm_tally (0) σ) ) rfl rfl (show clOK 135 75 0 1 6 1 6 = true by decide +kernel) rfl (show 0 ≤ 4 by decide) (fun _ => ⟨_, rfl⟩) rfl (c' := 1) (s' := 6) rfl rfl ?_
    refine wp_iret rq_135 rfl rt_135 ⟨?_, ?_⟩
    · (rw [zo_xaccount, if_neg h1, if_neg h2, if_neg h3, if_pos h4]; try rfl)
    · (rw [zm_xaccount, if_neg h1, if_neg h2, if_neg h3, if_pos h4]; try rfl)
  by_cases h5 : w = 8
  · refine wp_switch rq_135 rfl (t := 24) (by rw [h5]; rfl) ?_
    refine wp_seg 2 (P := none) (ls' := [some (aR 10 (0)), some (aI (w))]) (st' := [aR 8 (0)]) (σ' := (zm_tally (0) σ)) rq_135 rfl True.intro (i' := 26) rfl ?_
    refine wp_call (C := 8) (As := [aR 8 (0)]) (rest := []) rq_135 (ev_sumOfVictories (zm_tally (0) σ) ) rfl rfl (show clOK 135 94 0 1 6 1 8 = true by decide +kernel) rfl (show 0 ≤ 4 by decide) (fun _ => ⟨_, rfl⟩) rfl (c' := 1) (s' := 6) rfl rfl ?_
    refine wp_iret rq_135 rfl rt_135 ⟨?_, ?_⟩
    · (rw [zo_xaccount, if_neg h1, if_neg h2, if_neg h3, if_neg h4, if_pos h5]; try rfl)
    · (rw [zm_xaccount, if_neg h1, if_neg h2, if_neg h3, if_neg h4, if_pos h5]; try rfl)
  refine wp_switch rq_135 rfl (t := 28) (swD (by show _ ∨ _ ≤ _; simp only [List.length_cons, List.length_nil]; omega)) ?_
  refine wp_seg 4 (P := none) (ls' := [some (aR 10 (0)), some (aI (w))]) (st' := [aI (w), aR 0 (0)]) (σ' := (zm_tally (0) σ)) rq_135 rfl True.intro (i' := 32) rfl ?_
  refine wp_call (C := 0) (As := [aR 0 (0), aI (w)]) (rest := []) rq_135 (ev_bcountIn (0) (w) (zm_tally (0) σ) ) rfl rfl (show clOK 135 16 0 1 6 2 0 = true by decide +kernel) rfl (show 0 ≤ 4 by decide) (fun _ => ⟨_, rfl⟩) rfl (c' := 1) (s' := 6) rfl rfl ?_
  refine wp_iret rq_135 rfl rt_135 ⟨?_, ?_⟩
  · (rw [zo_xaccount, if_neg h1, if_neg h2, if_neg h3, if_neg h4, if_neg h5]; try rfl)
  · (rw [zm_xaccount, if_neg h1, if_neg h2, if_neg h3, if_neg h4, if_neg h5]; try rfl)

def zo_xappend (c : Int) (σ : Mem) : Out := if (σ 5 (0) 1) < 60 then .inl none else .inr 1
def zm_xappend (c : Int) (σ : Mem) : Mem := if (σ 5 (0) 1) < 60 then (zm_tadd (c) σ) else σ
theorem ev_xappend (c : Int) (σ : Mem) : Ev true 136 [aR 10 (0), aI (c)] σ (zo_xappend c σ) (zm_xappend c σ) := by
  show wp true 136 0 [some (aR 10 (0)), some (aI (c))] [] σ 0 0 _
  refine wp_seg 4 (P := none) (ls' := [some (aR 10 (0)), some (aI (c))]) (st' := [aI (60), aI (σ 5 (0) 1)]) (σ' := σ) rq_136 rfl True.intro (i' := 4) rfl ?_
  refine wp_icmp rq_136 rfl (fun (h1 : (σ 5 (0) 1) < 60) => ?_) (fun (h1 : ¬ ((σ 5 (0) 1) < 60)) => ?_)
  · refine wp_seg 3 (P := none) (ls' := [some (aR 10 (0)), some (aI (c))]) (st' := [aI (c), aR 5 (0)]) (σ' := σ) rq_136 rfl True.intro (i' := 13) rfl ?_
    refine wp_call (C := 5) (As := [aR 5 (0), aI (c)]) (rest := []) rq_136 (ev_tadd (c) σ ) rfl rfl (show clOK 136 62 0 0 0 2 5 = true by decide +kernel) rfl (show 0 ≤ 4 by decide) (fun _ => ⟨_, rfl⟩) rfl (c' := 0) (s' := 0) rfl rfl ?_
    refine wp_vret rq_136 rfl rt_136 ⟨?_, ?_⟩
    · (rw [zo_xappend, if_pos h1]; try rfl)
    · (rw [zm_xappend, if_pos h1]; try rfl)
  · refine wp_throw rq_136 rfl (hcat_lt (by decide)) (show 0 ≤ 4 by decide) (by decide +kernel) (by decide +kernel) (by decide +kernel) ⟨?_, ?_⟩
    · (rw [zo_xappend, if_neg h1]; try rfl)
    · (rw [zm_xappend, if_neg h1]; try rfl)

theorem ev_xfaultPosition  (σ : Mem) : Ev true 138 [aR 10 (0)] σ (.inl (some (aI (σ 5 (0) 2)))) (σ) := by
  show wp true 138 0 [some (aR 10 (0))] [] σ 0 0 _
  refine wp_seg 3 (P := none) (ls' := [some (aR 10 (0))]) (st' := [aI (σ 5 (0) 2)]) (σ' := σ) rq_138 rfl True.intro (i' := 3) rfl ?_
  refine wp_iret rq_138 rfl rt_138 ⟨?_, ?_⟩
  · rfl
  · rfl

def zo_xundo  (σ : Mem) : Out := if 0 < (σ 1 (0) 2) then .inl (some (aI ((zm_takeBack (0) σ) 1 (0) 2))) else .inr 1
def zm_xundo  (σ : Mem) : Mem := if 0 < (σ 1 (0) 2) then (zm_takeBack (0) σ) else σ
theorem ev_xundo  (σ : Mem) : Ev true 139 [aR 10 (0)] σ (zo_xundo  σ) (zm_xundo  σ) := by
  show wp true 139 0 [some (aR 10 (0))] [] σ 0 0 _
  refine wp_seg 3 (P := none) (ls' := [some (aR 10 (0))]) (st' := [aI (σ 1 (0) 2)]) (σ' := σ) rq_139 rfl True.intro (i' := 3) rfl ?_
  refine wp_if rq_139 rfl (fun (h1 : 0 < (σ 1 (0) 2)) => ?_) (fun (h1 : ¬ (0 < (σ 1 (0) 2))) => ?_)
  · refine wp_seg 4 (P := none) (ls' := [some (aR 10 (0))]) (st' := [aR 2 (0), aR 1 (0)]) (σ' := σ) rq_139 rfl True.intro (i' := 13) rfl ?_
    refine wp_call (C := 1) (As := [aR 1 (0), aR 2 (0)]) (rest := []) rq_139 (ev_takeBack (0) σ ) rfl rfl (show clOK 139 22 0 0 0 2 1 = true by decide +kernel) rfl (show 0 ≤ 4 by decide) (fun _ => ⟨_, rfl⟩) rfl (c' := 0) (s' := 0) rfl rfl ?_
    refine wp_seg 3 (P := none) (ls' := [some (aR 10 (0))]) (st' := [aI ((zm_takeBack (0) σ) 1 (0) 2)]) (σ' := (zm_takeBack (0) σ)) rq_139 rfl True.intro (i' := 17) rfl ?_
    refine wp_iret rq_139 rfl rt_139 ⟨?_, ?_⟩
    · (rw [zo_xundo, if_pos h1]; try rfl)
    · (rw [zm_xundo, if_pos h1]; try rfl)
  · refine wp_throw rq_139 rfl (hcat_lt (by decide)) (show 0 ≤ 4 by decide) (by decide +kernel) (by decide +kernel) (by decide +kernel) ⟨?_, ?_⟩
    · (rw [zo_xundo, if_neg h1]; try rfl)
    · (rw [zm_xundo, if_neg h1]; try rfl)

def zm_xsave  (σ : Mem) : Mem := (up (zm_mcopy (1) (0) σ) 10 (0) 2 (1))
theorem ev_xsave  (σ : Mem) : Ev true 140 [aR 10 (0)] σ (.inl none) (zm_xsave  σ) := by
  show wp true 140 0 [some (aR 10 (0))] [] σ 0 0 _
  refine wp_seg 4 (P := none) (ls' := [some (aR 10 (0))]) (st' := [aR 2 (0), aR 2 (1)]) (σ' := σ) rq_140 rfl True.intro (i' := 4) rfl ?_
  refine wp_call (C := 2) (As := [aR 2 (1), aR 2 (0)]) (rest := []) rq_140 (ev_mcopy (1) (0) σ ) rfl rfl (show clOK 140 44 0 0 0 2 2 = true by decide +kernel) rfl (show 0 ≤ 4 by decide) (fun _ => ⟨_, rfl⟩) rfl (c' := 0) (s' := 0) rfl rfl ?_
  refine wp_seg 3 (P := some ((1 : Int) = 0 ∨ (1 : Int) = 1)) (ls' := [some (aR 10 (0))]) (st' := []) (σ' := (up (zm_mcopy (1) (0) σ) 10 (0) 2 (1))) rq_140 rfl ?_ (i' := 8) rfl ?_
  · show (1 : Int) = 0 ∨ (1 : Int) = 1
    (first | decide | assumption | omega | simp_all)
  refine wp_vret rq_140 rfl rt_140 ⟨?_, ?_⟩
  · rfl
  · rfl

def zo_xrestore  (σ : Mem) : Out := if ¬ (σ 10 (0) 2) = 0 then .inl none else .inr 1
def zm_xrestore  (σ : Mem) : Mem := if ¬ (σ 10 (0) 2) = 0 then (up (zm_mcopy (0) (1) σ) 1 (0) 2 (0)) else σ
theorem ev_xrestore  (σ : Mem) : Ev true 141 [aR 10 (0)] σ (zo_xrestore  σ) (zm_xrestore  σ) := by
  show wp true 141 0 [some (aR 10 (0))] [] σ 0 0 _
  refine wp_seg 2 (P := none) (ls' := [some (aR 10 (0))]) (st' := [aI (σ 10 (0) 2)]) (σ' := σ) rq_141 rfl True.intro (i' := 2) rfl ?_
  refine wp_if rq_141 rfl (fun (h1 : ¬ (σ 10 (0) 2) = 0) => ?_) (fun (h1 : ¬ (¬ (σ 10 (0) 2) = 0)) => ?_)
  · refine wp_seg 4 (P := none) (ls' := [some (aR 10 (0))]) (st' := [aR 2 (1), aR 2 (0)]) (σ' := σ) rq_141 rfl True.intro (i' := 12) rfl ?_
    refine wp_call (C := 2) (As := [aR 2 (0), aR 2 (1)]) (rest := []) rq_141 (ev_mcopy (0) (1) σ ) rfl rfl (show clOK 141 44 0 0 0 2 2 = true by decide +kernel) rfl (show 0 ≤ 4 by decide) (fun _ => ⟨_, rfl⟩) rfl (c' := 0) (s' := 0) rfl rfl ?_
    refine wp_seg 2 (P := none) (ls' := [some (aR 10 (0))]) (st' := [aR 1 (0)]) (σ' := (zm_mcopy (0) (1) σ)) rq_141 rfl True.intro (i' := 15) rfl ?_
    refine wp_call (C := 1) (As := [aR 1 (0)]) (rest := []) rq_141 (ev_forget (zm_mcopy (0) (1) σ) ) rfl rfl (show clOK 141 23 0 0 0 1 1 = true by decide +kernel) rfl (show 0 ≤ 4 by decide) (fun _ => ⟨_, rfl⟩) rfl (c' := 0) (s' := 0) rfl rfl ?_
    refine wp_vret rq_141 rfl rt_141 ⟨?_, ?_⟩
    · (rw [zo_xrestore, if_pos h1]; try rfl)
    · (rw [zm_xrestore, if_pos h1]; try rfl)
  · refine wp_throw rq_141 rfl (hcat_lt (by decide)) (show 0 ≤ 4 by decide) (by decide +kernel) (by decide +kernel) (by decide +kernel) ⟨?_, ?_⟩
    · (rw [zo_xrestore, if_neg h1]; try rfl)
    · (rw [zm_xrestore, if_neg h1]; try rfl)

def zo_xtableBout (r i : Int) (σ : Mem) : Out := if σ 9 0 0 = 0 then .inr 1 else if (zo_hasRound (0) (r) σ) = 0 then .inr 3 else if (i) < 0 then .inr 3 else if (i) < (wr ((r).tdiv (2))) then .inl (some (aI (zo_boutOfRound (0) (r) (i) σ))) else .inr 3
theorem ev_xtableBout (r i : Int) (σ : Mem) (hz : σ 9 0 0 ≤ 32) : Ev true 129 [aR 10 (0), aI (r), aI (i)] σ (zo_xtableBout r i σ) (σ) := by
  show wp true 129 0 [some (aR 10 (0)), some (aI (r)), some (aI (i))] [] σ 0 0 _
  refine wp_seg 1 (P := none) (ls' := [some (aR 10 (0)), some (aI (r)), some (aI (i))]) (st' := [aR 10 (0)]) (σ' := σ) rq_129 rfl True.intro (i' := 1) rfl ?_
  by_cases h1 : σ 9 0 0 = 0
  · refine wp_callX (C := 10) (As := [aR 10 (0)]) (rest := []) rq_129 (ev_checkTable_x  σ h1) rfl rfl (show clOK 129 148 0 0 0 1 10 = true by decide +kernel) rfl (show 0 ≤ 4 by decide) (fun _ => ⟨_, rfl⟩) rfl (hcat_lt (by decide)) ⟨?_, ?_⟩
    · (rw [zo_xtableBout, if_pos h1]; try rfl)
    · rfl
  refine wp_call (C := 10) (As := [aR 10 (0)]) (rest := []) rq_129 (ev_checkTable_n σ h1) rfl rfl (show clOK 129 148 0 0 0 1 10 = true by decide +kernel) rfl (show 0 ≤ 4 by decide) (fun _ => ⟨_, rfl⟩) rfl (c' := 1) (s' := 6) rfl rfl ?_
  refine wp_seg 4 (P := none) (ls' := [some (aR 10 (0)), some (aI (r)), some (aI (i))]) (st' := [aI (r), aR 9 (0)]) (σ' := σ) rq_129 rfl True.intro (i' := 6) rfl ?_
  refine wp_call (C := 9) (As := [aR 9 (0), aI (r)]) (rest := []) rq_129 (ev_hasRound (0) (r) σ (by assumption)) rfl rfl (show clOK 129 100 0 1 6 2 9 = true by decide +kernel) rfl (show 0 ≤ 4 by decide) (fun _ => ⟨_, rfl⟩) rfl (c' := 1) (s' := 6) rfl rfl ?_
  refine wp_if rq_129 rfl (fun (h2 : (zo_hasRound (0) (r) σ) = 0) => ?_) (fun (h2 : ¬ ((zo_hasRound (0) (r) σ) = 0)) => ?_)
  · refine wp_throw rq_129 rfl (hcat_lt (by decide)) (show 0 ≤ 4 by decide) (by decide +kernel) (by decide +kernel) (by decide +kernel) ⟨?_, ?_⟩
    · (rw [zo_xtableBout, if_neg h1, if_pos h2]; try rfl)
    · rfl
  · refine wp_seg 1 (P := none) (ls' := [some (aR 10 (0)), some (aI (r)), some (aI (i))]) (st' := [aI (i)]) (σ' := σ) rq_129 rfl True.intro (i' := 9) rfl ?_
    refine wp_if rq_129 rfl (fun (h3 : (i) < 0) => ?_) (fun (h3 : ¬ ((i) < 0)) => ?_)
    · refine wp_throw rq_129 rfl (hcat_lt (by decide)) (show 0 ≤ 4 by decide) (by decide +kernel) (by decide +kernel) (by decide +kernel) ⟨?_, ?_⟩
      · (rw [zo_xtableBout, if_neg h1, if_neg h2, if_pos h3]; try rfl)
      · rfl
    · refine wp_seg 4 (P := some ((2 : Int) ≠ 0)) (ls' := [some (aR 10 (0)), some (aI (r)), some (aI (i))]) (st' := [aI (wr ((r).tdiv (2))), aI (i)]) (σ' := σ) rq_129 rfl ?_ (i' := 14) rfl ?_
      · show (2 : Int) ≠ 0
        (first | decide | assumption | omega | simp_all)
      refine wp_icmp rq_129 rfl (fun (h4 : (i) < (wr ((r).tdiv (2)))) => ?_) (fun (h4 : ¬ ((i) < (wr ((r).tdiv (2))))) => ?_)
      · refine wp_seg 4 (P := none) (ls' := [some (aR 10 (0)), some (aI (r)), some (aI (i))]) (st' := [aI (i), aI (r), aR 2 (0)]) (σ' := σ) rq_129 rfl True.intro (i' := 24) rfl ?_
        refine wp_call (C := 2) (As := [aR 2 (0), aI (r), aI (i)]) (rest := []) rq_129 (ev_boutOfRound (0) (r) (i) σ ) rfl rfl (show clOK 129 37 0 1 6 3 2 = true by decide +kernel) rfl (show 0 ≤ 4 by decide) (fun _ => ⟨_, rfl⟩) rfl (c' := 1) (s' := 6) rfl rfl ?_
        refine wp_iret rq_129 rfl rt_129 ⟨?_, ?_⟩
        · (rw [zo_xtableBout, if_neg h1, if_neg h2, if_neg h3, if_pos h4]; try rfl)
        · rfl
      · refine wp_throw rq_129 rfl (hcat_lt (by decide)) (show 0 ≤ 4 by decide) (by decide +kernel) (by decide +kernel) (by decide +kernel) ⟨?_, ?_⟩
        · (rw [zo_xtableBout, if_neg h1, if_neg h2, if_neg h3, if_neg h4]; try rfl)
        · rfl

def zo_xratio (f : Int) (σ : Mem) : Out := if (f) < 0 ∨ σ 6 0 0 ≤ (f) then .inr 2 else if 0 < (rget (zm_tally (0) σ) (181) (f)) then .inl (some (aD (FP.ddiv (FP.i2d (Int32.ofInt (rget (zm_tally (0) σ) (180) (f)))) (FP.i2d (Int32.ofInt (rget (zm_tally (0) σ) (181) (f))))))) else .inr 5
def zm_xratio (f : Int) (σ : Mem) : Mem := if (f) < 0 ∨ σ 6 0 0 ≤ (f) then σ else if 0 < (rget (zm_tally (0) σ) (181) (f)) then (zm_tally (0) σ) else (zm_tally (0) σ)
theorem ev_xratio (f : Int) (σ : Mem) (hq : ¬ rget (zm_tally 0 σ) 181 f ≤ 0 → vf_n64 (FP.ddiv (FP.i2d (Int32.ofInt (rget (zm_tally 0 σ) 180 f))) (FP.i2d (Int32.ofInt (rget (zm_tally 0 σ) 181 f))))) : Ev true 123 [aR 10 (0), aI (f)] σ (zo_xratio f σ) (zm_xratio f σ) := by
  show wp true 123 0 [some (aR 10 (0)), some (aI (f)), none] [] σ 0 0 _
  refine wp_seg 2 (P := none) (ls' := [some (aR 10 (0)), some (aI (f)), none]) (st' := [aI (f), aR 10 (0)]) (σ' := σ) rq_123 rfl True.intro (i' := 2) rfl ?_
  by_cases h1 : (f) < 0 ∨ σ 6 0 0 ≤ (f)
  · refine wp_callX (C := 10) (As := [aR 10 (0), aI (f)]) (rest := []) rq_123 (ev_checkFencer_x (f) σ h1) rfl rfl (show clOK 123 144 0 0 0 2 10 = true by decide +kernel) rfl (show 0 ≤ 4 by decide) (fun _ => ⟨_, rfl⟩) rfl (hcat_lt (by decide)) ⟨?_, ?_⟩
    · (rw [zo_xratio, if_pos h1]; try rfl)
    · (rw [zm_xratio, if_pos h1]; try rfl)
  refine wp_call (C := 10) (As := [aR 10 (0), aI (f)]) (rest := []) rq_123 (ev_checkFencer_n (f) σ h1) rfl rfl (show clOK 123 144 0 0 0 2 10 = true by decide +kernel) rfl (show 0 ≤ 4 by decide) (fun _ => ⟨_, rfl⟩) rfl (c' := 1) (s' := 6) rfl rfl ?_
  refine wp_seg 4 (P := none) (ls' := [some (aR 10 (0)), some (aI (f)), none]) (st' := [aR 2 (0), aR 8 (0)]) (σ' := σ) rq_123 rfl True.intro (i' := 7) rfl ?_
  refine wp_call (C := 8) (As := [aR 8 (0), aR 2 (0)]) (rest := []) rq_123 (ev_tally (0) σ ) rfl rfl (show clOK 123 84 0 1 6 2 8 = true by decide +kernel) rfl (show 0 ≤ 4 by decide) (fun _ => ⟨_, rfl⟩) rfl (c' := 1) (s' := 6) rfl rfl ?_
  refine wp_seg 4 (P := none) (ls' := [some (aR 10 (0)), some (aI (f)), none]) (st' := [aI (f), aR 7 (181)]) (σ' := (zm_tally (0) σ)) rq_123 rfl True.intro (i' := 12) rfl ?_
  refine wp_call (C := 7) (As := [aR 7 (181), aI (f)]) (rest := []) rq_123 (ev_get (181) (f) (zm_tally (0) σ) ) rfl rfl (show clOK 123 78 0 1 6 2 7 = true by decide +kernel) rfl (show 0 ≤ 4 by decide) (fun _ => ⟨_, rfl⟩) rfl (c' := 1) (s' := 6) rfl rfl ?_
  refine wp_seg 2 (P := none) (ls' := [some (aR 10 (0)), some (aI (f)), some (aI (rget (zm_tally (0) σ) (181) (f)))]) (st' := [aI (rget (zm_tally (0) σ) (181) (f))]) (σ' := (zm_tally (0) σ)) rq_123 rfl True.intro (i' := 15) rfl ?_
  refine wp_if rq_123 rfl (fun (h2 : 0 < (rget (zm_tally (0) σ) (181) (f))) => ?_) (fun (h2 : ¬ (0 < (rget (zm_tally (0) σ) (181) (f)))) => ?_)
  · refine wp_seg 4 (P := none) (ls' := [some (aR 10 (0)), some (aI (f)), some (aI (rget (zm_tally (0) σ) (181) (f)))]) (st' := [aI (f), aR 7 (180)]) (σ' := (zm_tally (0) σ)) rq_123 rfl True.intro (i' := 25) rfl ?_
    refine wp_call (C := 7) (As := [aR 7 (180), aI (f)]) (rest := []) rq_123 (ev_get (180) (f) (zm_tally (0) σ) ) rfl rfl (show clOK 123 78 0 1 6 2 7 = true by decide +kernel) rfl (show 0 ≤ 4 by decide) (fun _ => ⟨_, rfl⟩) rfl (c' := 1) (s' := 6) rfl rfl ?_
    refine wp_seg 4 (P := some (vf_n64 (FP.ddiv (FP.i2d (Int32.ofInt (rget (zm_tally (0) σ) (180) (f)))) (FP.i2d (Int32.ofInt (rget (zm_tally (0) σ) (181) (f))))))) (ls' := [some (aR 10 (0)), some (aI (f)), some (aI (rget (zm_tally (0) σ) (181) (f)))]) (st' := [aD (FP.ddiv (FP.i2d (Int32.ofInt (rget (zm_tally (0) σ) (180) (f)))) (FP.i2d (Int32.ofInt (rget (zm_tally (0) σ) (181) (f)))))]) (σ' := (zm_tally (0) σ)) rq_123 rfl ?_ (i' := 30) rfl ?_
    · show vf_n64 (FP.ddiv (FP.i2d (Int32.ofInt (rget (zm_tally (0) σ) (180) (f)))) (FP.i2d (Int32.ofInt (rget (zm_tally (0) σ) (181) (f)))))
      exact hq (by omega)
    refine wp_dret rq_123 rfl rt_123 ⟨?_, ?_⟩
    · (rw [zo_xratio, if_neg h1, if_pos h2]; try rfl)
    · (rw [zm_xratio, if_neg h1, if_pos h2]; try rfl)
  · refine wp_throw rq_123 rfl (hcat_lt (by decide)) (show 0 ≤ 4 by decide) (by decide +kernel) (by decide +kernel) (by decide +kernel) ⟨?_, ?_⟩
    · (rw [zo_xratio, if_neg h1, if_neg h2]; try rfl)
    · (rw [zm_xratio, if_neg h1, if_neg h2]; try rfl)

