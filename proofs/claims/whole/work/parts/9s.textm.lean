/-! The text of results: the model's methods. -/
/-- memory K with the model's spot s, number v, count t and array A of what it is told -/
def mm (K : Mem) (s v t : Int) (A : Int → Int) : Mem := fun C r k => if C = 11 ∧ r = 0 ∧ k = 11 then s else if C = 11 ∧ r = 0 ∧ k = 12 then v else if C = 11 ∧ r = 0 ∧ k = 15 then t else if C = 13 ∧ r = 192 then A k else K C r k
def hrK (K : Mem) (s : Int) : Int := if K 11 0 10 ≤ s then -1 else K 13 191 s
abbrev isD (K : Mem) (s : Int) : Prop := 48 ≤ hrK K s ∧ hrK K s ≤ 57
def dgc (K : Mem) : Nat → Int → Nat
  | 0, _ => 0
  | m + 1, s => if isD K s then dgc K m (s + 1) + 1 else 0
def nvF (K : Mem) (s : Int) : Nat → Int
  | 0 => 0
  | k + 1 => 10 * nvF K s k + (K 13 191 (s + k) - 48)
section TextM
variable {K : Mem} {s v t i w ch n x y z : Int} {A : Int → Int}
theorem mm_11 : mm K s v t A 11 0 11 = s := if_pos ⟨rfl, rfl, rfl⟩
theorem mm_12 : mm K s v t A 11 0 12 = v := by
  unfold mm
  rw [if_neg (fun z => absurd z.2.2 (by decide)), if_pos ⟨rfl, rfl, rfl⟩]
theorem mm_15 : mm K s v t A 11 0 15 = t := by
  unfold mm
  rw [if_neg (fun z => absurd z.2.2 (by decide)), if_neg (fun z => absurd z.2.2 (by decide)), if_pos ⟨rfl, rfl, rfl⟩]
theorem mm_r : mm K s v t A 13 192 = A := funext fun k => by
  unfold mm
  rw [if_neg (fun z => absurd z.1 (by decide)), if_neg (fun z => absurd z.1 (by decide)), if_neg (fun z => absurd z.1 (by decide)), if_pos ⟨rfl, rfl⟩]
theorem mm_o {C : Nat} {r k : Int} (h : ¬ (C = 11 ∧ (k = 11 ∨ k = 12 ∨ k = 15))) (h2 : ¬ (C = 13 ∧ r = 192)) : mm K s v t A C r k = K C r k := by
  unfold mm
  rw [if_neg (by omega), if_neg (by omega), if_neg (by omega), if_neg h2]
theorem um_11 : up (mm K s v t A) 11 0 11 w = mm K w v t A := funext fun C => funext fun r => funext fun k => by
  unfold up mm
  by_cases q : C = 11 ∧ r = 0 ∧ k = 11
  · rw [if_pos q, if_pos q]
  · rw [if_neg q, if_neg q, if_neg q]
theorem um_12 : up (mm K s v t A) 11 0 12 w = mm K s w t A := funext fun C => funext fun r => funext fun k => by
  unfold up mm
  by_cases q : C = 11 ∧ r = 0 ∧ k = 12
  · rw [if_pos q, if_neg (by omega), if_pos q]
  · rw [if_neg q, if_neg q, if_neg q]
theorem um_15 : up (mm K s v t A) 11 0 15 w = mm K s v w A := funext fun C => funext fun r => funext fun k => by
  unfold up mm
  by_cases q : C = 11 ∧ r = 0 ∧ k = 15
  · rw [if_pos q, if_neg (by omega), if_neg (by omega), if_pos q]
  · rw [if_neg q, if_neg q, if_neg q]
theorem um_r : up (mm K s v t A) 13 192 i w = mm K s v t (tu A i w) := funext fun C => funext fun r => funext fun k => by
  unfold up mm tu
  by_cases q : C = 13 ∧ r = 192 ∧ k = i
  · rw [if_pos q, if_neg (by omega), if_neg (by omega), if_neg (by omega), if_pos (by omega), if_pos q.2.2]
  · rw [if_neg q]
    by_cases q2 : C = 13 ∧ r = 192
    · rw [if_neg (by omega), if_neg (by omega), if_neg (by omega), if_pos q2, if_neg (by omega), if_neg (by omega), if_neg (by omega), if_pos q2, if_neg (by omega)]
    · rw [if_neg q2, if_neg q2]
theorem mm_id (F : Mem) : F = mm F (F 11 0 11) (F 11 0 12) (F 11 0 15) (F 13 192) := funext fun C => funext fun r => funext fun k => by
  unfold mm
  by_cases q : C = 11 ∧ r = 0 ∧ k = 11
  · rw [if_pos q, q.1, q.2.1, q.2.2]
  · rw [if_neg q]
    by_cases q : C = 11 ∧ r = 0 ∧ k = 12
    · rw [if_pos q, q.1, q.2.1, q.2.2]
    · rw [if_neg q]
      by_cases q : C = 11 ∧ r = 0 ∧ k = 15
      · rw [if_pos q, q.1, q.2.1, q.2.2]
      · rw [if_neg q]
        by_cases q : C = 13 ∧ r = 192
        · rw [if_pos q, q.1, q.2]
        · rw [if_neg q]
theorem mm_h : zo_mhere (mm K s v t A) = hrK K s := by
  unfold zo_mhere hrK
  rw [mm_11, mm_o (by decide) (by decide), mm_o (C := 13) (fun z => absurd z.1 (by decide)) (fun z => absurd z.2 (by decide))]
theorem ev_hr (K : Mem) (s v t : Int) (A : Int → Int) (hl : K 11 0 10 ≤ 60) (hs : 0 ≤ s) : Ev true 236 [aR 11 (0)] (mm K s v t A) (.inl (some (aI (hrK K s)))) (mm K s v t A) := by
  have h := ev_mhere (mm K s v t A) (by rw [mm_o (by decide) (by decide)]; exact hl) (by rw [mm_11]; exact hs)
  rw [mm_h] at h
  exact h
theorem dgc_le : ∀ (m : Nat) (s : Int), dgc K m s ≤ m := by
  intro m
  induction m with
  | zero => intro s; exact Nat.le_refl 0
  | succ m ih =>
    intro s
    have := ih (s + 1)
    unfold dgc
    split <;> omega
theorem dgc_d : ∀ (m : Nat) (s : Int) (j : Nat), j < dgc K m s → isD K (s + j) := by
  intro m
  induction m with
  | zero => intro s j h; exact absurd h (Nat.not_lt_zero j)
  | succ m ih =>
    intro s j h
    unfold dgc at h
    by_cases q : isD K s
    · rw [if_pos q] at h
      cases j with
      | zero => rw [show s + ((0 : Nat) : Int) = s by omega]; exact q
      | succ j =>
        have := ih (s + 1) j (by omega)
        rw [show s + ((j + 1 : Nat) : Int) = s + 1 + j by omega]
        exact this
    · rw [if_neg q] at h
      exact absurd h (Nat.not_lt_zero j)
theorem dgc_e : ∀ (m : Nat) (s : Int), dgc K m s = m ∨ ¬ isD K (s + dgc K m s) := by
  intro m
  induction m with
  | zero => intro s; exact Or.inl rfl
  | succ m ih =>
    intro s
    unfold dgc
    by_cases q : isD K s
    · rw [if_pos q]
      rcases ih (s + 1) with h | h
      · exact Or.inl (by omega)
      · refine Or.inr ?_
        rw [show s + ((dgc K m (s + 1) + 1 : Nat) : Int) = s + 1 + dgc K m (s + 1) by omega]
        exact h
    · rw [if_neg q]
      refine Or.inr ?_
      rw [show s + ((0 : Nat) : Int) = s by omega]
      exact q
theorem isD_f (h : isD K s) : s < K 11 0 10 ∧ 48 ≤ K 13 191 s ∧ K 13 191 s ≤ 57 := by
  have h : 48 ≤ hrK K s ∧ hrK K s ≤ 57 := h
  unfold hrK at h
  by_cases q : K 11 0 10 ≤ s
  · rw [if_pos q] at h; omega
  · rw [if_neg q] at h; omega
theorem nvF_b : ∀ (k : Nat), (∀ j : Nat, j < k → isD K (s + j)) → 0 ≤ nvF K s k ∧ nvF K s k < 10 ^ k := by
  intro k
  induction k with
  | zero => intro _; exact ⟨Int.le_refl 0, (show (0 : Int) < 10 ^ 0 by decide)⟩
  | succ k ih =>
    intro h
    have h1 := ih (fun j hj => h j (by omega))
    have h2 := isD_f (h k (by omega))
    have h3 : (10 : Int) ^ (k + 1) = 10 ^ k * 10 := Int.pow_succ 10 k
    unfold nvF
    omega
theorem p10 {k : Nat} (h : k ≤ 3) : (10 : Int) ^ k ≤ 1000 := by
  have : k = 0 ∨ k = 1 ∨ k = 2 ∨ k = 3 := by omega
  rcases this with rfl | rfl | rfl | rfl <;> decide

theorem ev_skips_y (hl : K 11 0 10 ≤ 60) (hs : 0 ≤ s ∧ s ≤ 60) (h : hrK K s = ch) : Ev true 237 [aR 11 (0), aI (ch)] (mm K s v t A) (.inl (some (aI (1)))) (mm K (s + 1) v t A) := by
  have hh := ev_hr K s v t A hl hs.1
  show wp true 237 0 [some (aR 11 (0)), some (aI (ch))] [] (mm K s v t A) 0 0 _
  refine wp_seg 1 (P := none) (ls' := [some (aR 11 (0)), some (aI (ch))]) (st' := [aR 11 (0)]) (σ' := (mm K s v t A)) rq_237 rfl True.intro (i' := 1) rfl ?_
  refine wp_call (C := 11) (As := [aR 11 (0)]) (rest := []) rq_237 hh rfl rfl (show clOK 237 236 0 0 0 1 11 = true by decide +kernel) rfl (show 0 ≤ 4 by decide) (fun _ => ⟨_, rfl⟩) rfl (c' := 0) (s' := 0) rfl rfl ?_
  refine wp_seg 1 (P := none) (ls' := [some (aR 11 (0)), some (aI (ch))]) (st' := [aI (ch), aI (hrK K s)]) (σ' := (mm K s v t A)) rq_237 rfl True.intro (i' := 3) rfl ?_
  refine wp_icmp rq_237 rfl (fun _ => ?_) (fun (h1 : ¬ ((hrK K s) = (ch))) => absurd (show (hrK K s) = (ch) from h) h1)
  refine wp_seg 7 (P := none) (ls' := [some (aR 11 (0)), some (aI (ch))]) (st' := [aI (1)]) (σ' := (up (mm K s v t A) 11 (0) 11 (wr (((mm K s v t A) 11 (0) 11) + (1))))) rq_237 rfl True.intro (i' := 13) rfl ?_
  refine wp_zret rq_237 rfl rt_237 ?_ ⟨?_, ?_⟩
  · first | exact Or.inl rfl | exact Or.inr rfl
  · rfl
  · (show up (mm K s v t A) 11 0 11 (wr ((mm K s v t A) 11 0 11 + 1)) = _; rw [mm_11, wr_eq (z := s + 1) (by omega) (by omega), um_11])
theorem ev_skips_n (hl : K 11 0 10 ≤ 60) (hs : 0 ≤ s ∧ s ≤ 60) (h : ¬ hrK K s = ch) : Ev true 237 [aR 11 (0), aI (ch)] (mm K s v t A) (.inl (some (aI (0)))) (mm K s v t A) := by
  have hh := ev_hr K s v t A hl hs.1
  show wp true 237 0 [some (aR 11 (0)), some (aI (ch))] [] (mm K s v t A) 0 0 _
  refine wp_seg 1 (P := none) (ls' := [some (aR 11 (0)), some (aI (ch))]) (st' := [aR 11 (0)]) (σ' := (mm K s v t A)) rq_237 rfl True.intro (i' := 1) rfl ?_
  refine wp_call (C := 11) (As := [aR 11 (0)]) (rest := []) rq_237 hh rfl rfl (show clOK 237 236 0 0 0 1 11 = true by decide +kernel) rfl (show 0 ≤ 4 by decide) (fun _ => ⟨_, rfl⟩) rfl (c' := 0) (s' := 0) rfl rfl ?_
  refine wp_seg 1 (P := none) (ls' := [some (aR 11 (0)), some (aI (ch))]) (st' := [aI (ch), aI (hrK K s)]) (σ' := (mm K s v t A)) rq_237 rfl True.intro (i' := 3) rfl ?_
  refine wp_icmp rq_237 rfl (fun (h1 : (hrK K s) = (ch)) => absurd h1 (show ¬ ((hrK K s) = (ch)) from h)) (fun _ => ?_)
  refine wp_seg 1 (P := none) (ls' := [some (aR 11 (0)), some (aI (ch))]) (st' := [aI (0)]) (σ' := (mm K s v t A)) rq_237 rfl True.intro (i' := 5) rfl ?_
  refine wp_zret rq_237 rfl rt_237 ?_ ⟨?_, ?_⟩
  · first | exact Or.inl rfl | exact Or.inr rfl
  · rfl
  · rfl
theorem dg_loop {x : Nat} (hl : K 11 0 10 ≤ 60) (hs : 0 ≤ s ∧ s ≤ 60) (hx : x ≤ 3) (Q : Out → Mem → Prop) : ∀ (r i : Nat), i + r = x → (0 ≤ nvF K s i ∧ nvF K s i < 10 ^ i) → wp true 238 33 [some (aR 11 (0)), some (aI x), some (aI (i + dgc K r (s + i) : Nat))] [] (mm K (s + (i + dgc K r (s + i) : Nat)) (nvF K s (i + dgc K r (s + i))) t A) 0 0 Q → wp true 238 5 [some (aR 11 (0)), some (aI ((x : Int))), some (aI ((i : Int)))] [] (mm K (s + i) (nvF K s i) t A) 0 0 Q := by
  intro r
  induction r with
  | zero =>
    intro i hi hb hq
    refine wp_seg 2 (P := none) (ls' := [some (aR 11 (0)), some (aI ((x : Int))), some (aI ((i : Int)))]) (st' := [aI ((x : Int)), aI ((i : Int))]) (σ' := (mm K (s + i) (nvF K s i) t A)) rq_238 rfl True.intro (i' := 7) rfl ?_
    refine wp_icmp rq_238 rfl (fun _ => ?_) (fun (h1 : ¬ (((x : Int)) ≤ ((i : Int)))) => absurd (show ((x : Int)) ≤ ((i : Int)) from by omega) h1)
    rw [show dgc K 0 (s + i) = 0 from rfl] at hq
    exact hq
  | succ r ih =>
    intro i hi hb hq
    have hh := ev_hr K (s + i) (nvF K s i) t A hl (by omega)
    have h10 := p10 (k := i) (by omega)
    have e3 : (10 : Int) ^ (i + 1) = 10 ^ i * 10 := Int.pow_succ 10 i
    unfold dgc at hq
    by_cases q : isD K (s + i)
    · have hd := isD_f q
      have e1 : hrK K (s + i) = K 13 191 (s + i) := by (unfold hrK; rw [if_neg (by omega)])
      have en : nvF K s (i + 1) = 10 * nvF K s i + (K 13 191 (s + i) - 48) := rfl
      have hnb : 0 ≤ nvF K s (i + 1) ∧ nvF K s (i + 1) < 10 ^ (i + 1) := by omega
      have hm : (up (up (mm K (s + i) (nvF K s i) t A) 11 0 12 (wr (wr (wr (10 * (mm K (s + i) (nvF K s i) t A) 11 0 12) + hrK K (s + i)) - 48))) 11 0 11 (wr ((up (mm K (s + i) (nvF K s i) t A) 11 0 12 (wr (wr (wr (10 * (mm K (s + i) (nvF K s i) t A) 11 0 12) + hrK K (s + i)) - 48))) 11 0 11 + 1))) = mm K (s + i + 1) (nvF K s (i + 1)) t A := by
        rw [mm_12, um_12, mm_11, e1, wr_eq (z := 10 * nvF K s i) (by omega) (by omega), wr_eq (z := 10 * nvF K s i + _) (by omega) (by omega), wr_eq (z := _ - 48) (by omega) (by omega), wr_eq (z := s + i + 1) (by omega) (by omega), um_11, en, show 10 * nvF K s i + K 13 191 (s + i) - 48 = 10 * nvF K s i + (K 13 191 (s + i) - 48) by omega]
      refine wp_seg 2 (P := none) (ls' := [some (aR 11 (0)), some (aI ((x : Int))), some (aI ((i : Int)))]) (st' := [aI ((x : Int)), aI ((i : Int))]) (σ' := (mm K (s + i) (nvF K s i) t A)) rq_238 rfl True.intro (i' := 7) rfl ?_
      refine wp_icmp rq_238 rfl (fun (h1 : ((x : Int)) ≤ ((i : Int))) => absurd h1 (show ¬ (((x : Int)) ≤ ((i : Int))) from by omega)) (fun _ => ?_)
      refine wp_seg 1 (P := none) (ls' := [some (aR 11 (0)), some (aI ((x : Int))), some (aI ((i : Int)))]) (st' := [aR 11 (0)]) (σ' := (mm K (s + i) (nvF K s i) t A)) rq_238 rfl True.intro (i' := 9) rfl ?_
      refine wp_call (C := 11) (As := [aR 11 (0)]) (rest := []) rq_238 hh rfl rfl (show clOK 238 236 0 0 0 1 11 = true by decide +kernel) rfl (show 0 ≤ 4 by decide) (fun _ => ⟨_, rfl⟩) rfl (c' := 0) (s' := 0) rfl rfl ?_
      refine wp_seg 2 (P := none) (ls' := [some (aR 11 (0)), some (aI ((x : Int))), some (aI ((i : Int)))]) (st' := [aI (57), aI (48), aI (hrK K (s + i))]) (σ' := (mm K (s + i) (nvF K s i) t A)) rq_238 rfl True.intro (i' := 12) rfl ?_
      by_cases h2 : (48) ≤ (hrK K (s + i)) ∧ (hrK K (s + i)) ≤ (57)
      · refine wp_call (C := 0) (As := [aI (hrK K (s + i)), aI (48), aI (57)]) (rest := []) rq_238 (ev_min_y (hrK K (s + i)) (48) (57) (mm K (s + i) (nvF K s i) t A)  h2) rfl rfl (show clOK 238 154 2 0 0 3 0 = true by decide +kernel) rfl (show 0 ≤ 4 by decide) (fun h => absurd rfl h) rfl (c' := 0) (s' := 0) rfl rfl ?_
        refine wp_if rq_238 rfl (fun (h3 : (1 : Int) = (0 : Int)) => absurd h3 (show ¬ ((1 : Int) = (0 : Int)) from by decide)) (fun _ => ?_)
        refine wp_seg 6 (P := none) (ls' := [some (aR 11 (0)), some (aI ((x : Int))), some (aI ((i : Int)))]) (st' := [aR 11 (0), aI (wr ((10) * ((mm K (s + i) (nvF K s i) t A) 11 (0) 12))), aR 11 (0)]) (σ' := (mm K (s + i) (nvF K s i) t A)) rq_238 rfl True.intro (i' := 20) rfl ?_
        refine wp_call (C := 11) (As := [aR 11 (0)]) (rest := [aI (wr ((10) * ((mm K (s + i) (nvF K s i) t A) 11 (0) 12))), aR 11 (0)]) rq_238 hh rfl rfl (show clOK 238 236 0 0 0 1 11 = true by decide +kernel) rfl (show 2 ≤ 4 by decide) (fun _ => ⟨_, rfl⟩) rfl (c' := 0) (s' := 0) rfl rfl ?_
        refine wp_seg 11 (P := none) (ls' := [some (aR 11 (0)), some (aI ((x : Int))), some (aI (wr ((i : Int) + 1)))]) (st' := []) (σ' := (up (up (mm K (s + i) (nvF K s i) t A) 11 (0) 12 (wr ((wr ((wr ((10) * ((mm K (s + i) (nvF K s i) t A) 11 (0) 12))) + (hrK K (s + i)))) - (48)))) 11 (0) 11 (wr (((up (mm K (s + i) (nvF K s i) t A) 11 (0) 12 (wr ((wr ((wr ((10) * ((mm K (s + i) (nvF K s i) t A) 11 (0) 12))) + (hrK K (s + i)))) - (48)))) 11 (0) 11) + (1))))) rq_238 rfl True.intro (i' := 32) rfl ?_
        refine wp_goto rq_238 rfl ?_
        rw [hm, wr_eq (z := (i : Int) + 1) (by omega) (by omega)]
        have q2 := ih (i + 1) (by omega) hnb
        rw [show ((i : Nat) : Int) + 1 = ((i + 1 : Nat) : Int) by omega, show s + (i : Int) + 1 = s + ((i + 1 : Nat) : Int) by omega]
        refine q2 ?_
        rw [if_pos q] at hq
        rw [show s + ((i + 1 : Nat) : Int) = s + (i : Int) + 1 by omega, show i + 1 + dgc K r (s + i + 1) = i + (dgc K r (s + i + 1) + 1) by omega]
        exact hq
      · refine wp_call (C := 0) (As := [aI (hrK K (s + i)), aI (48), aI (57)]) (rest := []) rq_238 (ev_min_n (hrK K (s + i)) (48) (57) (mm K (s + i) (nvF K s i) t A)  h2) rfl rfl (show clOK 238 154 2 0 0 3 0 = true by decide +kernel) rfl (show 0 ≤ 4 by decide) (fun h => absurd rfl h) rfl (c' := 0) (s' := 0) rfl rfl ?_
        refine wp_if rq_238 rfl (fun _ => ?_) (fun (h4 : ¬ ((0 : Int) = (0 : Int))) => absurd (show (0 : Int) = (0 : Int) from by decide) h4)
        exact absurd q (by assumption)
    · have hd := q
      refine wp_seg 2 (P := none) (ls' := [some (aR 11 (0)), some (aI ((x : Int))), some (aI ((i : Int)))]) (st' := [aI ((x : Int)), aI ((i : Int))]) (σ' := (mm K (s + i) (nvF K s i) t A)) rq_238 rfl True.intro (i' := 7) rfl ?_
      refine wp_icmp rq_238 rfl (fun (h1 : ((x : Int)) ≤ ((i : Int))) => absurd h1 (show ¬ (((x : Int)) ≤ ((i : Int))) from by omega)) (fun _ => ?_)
      refine wp_seg 1 (P := none) (ls' := [some (aR 11 (0)), some (aI ((x : Int))), some (aI ((i : Int)))]) (st' := [aR 11 (0)]) (σ' := (mm K (s + i) (nvF K s i) t A)) rq_238 rfl True.intro (i' := 9) rfl ?_
      refine wp_call (C := 11) (As := [aR 11 (0)]) (rest := []) rq_238 hh rfl rfl (show clOK 238 236 0 0 0 1 11 = true by decide +kernel) rfl (show 0 ≤ 4 by decide) (fun _ => ⟨_, rfl⟩) rfl (c' := 0) (s' := 0) rfl rfl ?_
      refine wp_seg 2 (P := none) (ls' := [some (aR 11 (0)), some (aI ((x : Int))), some (aI ((i : Int)))]) (st' := [aI (57), aI (48), aI (hrK K (s + i))]) (σ' := (mm K (s + i) (nvF K s i) t A)) rq_238 rfl True.intro (i' := 12) rfl ?_
      by_cases h2 : (48) ≤ (hrK K (s + i)) ∧ (hrK K (s + i)) ≤ (57)
      · refine wp_call (C := 0) (As := [aI (hrK K (s + i)), aI (48), aI (57)]) (rest := []) rq_238 (ev_min_y (hrK K (s + i)) (48) (57) (mm K (s + i) (nvF K s i) t A)  h2) rfl rfl (show clOK 238 154 2 0 0 3 0 = true by decide +kernel) rfl (show 0 ≤ 4 by decide) (fun h => absurd rfl h) rfl (c' := 0) (s' := 0) rfl rfl ?_
        refine wp_if rq_238 rfl (fun (h3 : (1 : Int) = (0 : Int)) => absurd h3 (show ¬ ((1 : Int) = (0 : Int)) from by decide)) (fun _ => ?_)
        refine wp_seg 6 (P := none) (ls' := [some (aR 11 (0)), some (aI ((x : Int))), some (aI ((i : Int)))]) (st' := [aR 11 (0), aI (wr ((10) * ((mm K (s + i) (nvF K s i) t A) 11 (0) 12))), aR 11 (0)]) (σ' := (mm K (s + i) (nvF K s i) t A)) rq_238 rfl True.intro (i' := 20) rfl ?_
        refine wp_call (C := 11) (As := [aR 11 (0)]) (rest := [aI (wr ((10) * ((mm K (s + i) (nvF K s i) t A) 11 (0) 12))), aR 11 (0)]) rq_238 hh rfl rfl (show clOK 238 236 0 0 0 1 11 = true by decide +kernel) rfl (show 2 ≤ 4 by decide) (fun _ => ⟨_, rfl⟩) rfl (c' := 0) (s' := 0) rfl rfl ?_
        refine wp_seg 11 (P := none) (ls' := [some (aR 11 (0)), some (aI ((x : Int))), some (aI (wr ((i : Int) + 1)))]) (st' := []) (σ' := (up (up (mm K (s + i) (nvF K s i) t A) 11 (0) 12 (wr ((wr ((wr ((10) * ((mm K (s + i) (nvF K s i) t A) 11 (0) 12))) + (hrK K (s + i)))) - (48)))) 11 (0) 11 (wr (((up (mm K (s + i) (nvF K s i) t A) 11 (0) 12 (wr ((wr ((wr ((10) * ((mm K (s + i) (nvF K s i) t A) 11 (0) 12))) + (hrK K (s + i)))) - (48)))) 11 (0) 11) + (1))))) rq_238 rfl True.intro (i' := 32) rfl ?_
        refine wp_goto rq_238 rfl ?_
        exact absurd (by assumption) q
      · refine wp_call (C := 0) (As := [aI (hrK K (s + i)), aI (48), aI (57)]) (rest := []) rq_238 (ev_min_n (hrK K (s + i)) (48) (57) (mm K (s + i) (nvF K s i) t A)  h2) rfl rfl (show clOK 238 154 2 0 0 3 0 = true by decide +kernel) rfl (show 0 ≤ 4 by decide) (fun h => absurd rfl h) rfl (c' := 0) (s' := 0) rfl rfl ?_
        refine wp_if rq_238 rfl (fun _ => ?_) (fun (h4 : ¬ ((0 : Int) = (0 : Int))) => absurd (show (0 : Int) = (0 : Int) from by decide) h4)
        rw [if_neg q] at hq
        exact hq
theorem dg_end {σ : Mem} {x k : Nat} : wp true 238 33 [some (aR 11 (0)), some (aI ((x : Int))), some (aI ((k : Int)))] [] σ 0 0 (fun o' s' => o' = .inl (some (aI (if 0 < k then 1 else 0))) ∧ s' = σ) := by
  refine wp_seg 1 (P := none) (ls' := [some (aR 11 (0)), some (aI ((x : Int))), some (aI ((k : Int)))]) (st' := [aI ((k : Int))]) (σ' := σ) rq_238 rfl True.intro (i' := 34) rfl ?_
  refine wp_if rq_238 rfl (fun (h1 : ((k : Int)) ≤ 0) => ?_) (fun (h1 : ¬ (((k : Int)) ≤ 0)) => ?_)
  · refine wp_seg 1 (P := none) (ls' := [some (aR 11 (0)), some (aI ((x : Int))), some (aI ((k : Int)))]) (st' := [aI (0)]) (σ' := σ) rq_238 rfl True.intro (i' := 38) rfl ?_
    refine wp_zret rq_238 rfl rt_238 ?_ ⟨?_, ?_⟩
    · first | exact Or.inl rfl | exact Or.inr rfl
    · (first | (rw [if_pos (by omega)]) | (rw [if_neg (by omega)]))
    · rfl
  · refine wp_seg 1 (P := none) (ls' := [some (aR 11 (0)), some (aI ((x : Int))), some (aI ((k : Int)))]) (st' := [aI (1)]) (σ' := σ) rq_238 rfl True.intro (i' := 36) rfl ?_
    refine wp_goto rq_238 rfl ?_
    refine wp_zret rq_238 rfl rt_238 ?_ ⟨?_, ?_⟩
    · first | exact Or.inl rfl | exact Or.inr rfl
    · (first | (rw [if_pos (by omega)]) | (rw [if_neg (by omega)]))
    · rfl
theorem ev_dig {x : Nat} (hl : K 11 0 10 ≤ 60) (hs : 0 ≤ s ∧ s ≤ 60) (hx : x ≤ 3) : Ev true 238 [aR 11 (0), aI x] (mm K s v t A) (.inl (some (aI (if 0 < dgc K x s then 1 else 0)))) (mm K (s + dgc K x s) (nvF K s (dgc K x s)) t A) := by
  show wp true 238 0 [some (aR 11 (0)), some (aI ((x : Int))), none] [] (mm K s v t A) 0 0 _
  refine wp_seg 5 (P := none) (ls' := [some (aR 11 (0)), some (aI ((x : Int))), some (aI (0))]) (st' := []) (σ' := (up (mm K s v t A) 11 (0) 12 (0))) rq_238 rfl True.intro (i' := 5) rfl ?_
  have e0 : (up (mm K s v t A) 11 (0) 12 (0)) = mm K (s + (0 : Nat)) (nvF K s 0) t A := by (rw [um_12, show s + ((0 : Nat) : Int) = s by omega]; rfl)
  rw [e0]
  refine dg_loop hl hs hx _ x 0 (by omega) ⟨Int.le_refl 0, (show (0 : Int) < 10 ^ 0 by decide)⟩ ?_
  rw [show s + ((0 : Nat) : Int) = s by omega, show 0 + dgc K x s = dgc K x s by omega]
  exact dg_end
theorem ev_dig_y {x : Nat} (hl : K 11 0 10 ≤ 60) (hs : 0 ≤ s ∧ s ≤ 60) (hx : x ≤ 3) (h : 0 < dgc K x s) : Ev true 238 [aR 11 (0), aI x] (mm K s v t A) (.inl (some (aI 1))) (mm K (s + dgc K x s) (nvF K s (dgc K x s)) t A) := by
  have e := ev_dig (v := v) (t := t) (A := A) hl hs hx
  rw [if_pos h] at e
  exact e
theorem ev_dig_n {x : Nat} (hl : K 11 0 10 ≤ 60) (hs : 0 ≤ s ∧ s ≤ 60) (hx : x ≤ 3) (h : ¬ 0 < dgc K x s) : Ev true 238 [aR 11 (0), aI x] (mm K s v t A) (.inl (some (aI 0))) (mm K s 0 t A) := by
  have e := ev_dig (v := v) (t := t) (A := A) hl hs hx
  rw [if_neg h, show dgc K x s = 0 by omega, show s + ((0 : Nat) : Int) = s by omega] at e
  exact e
end TextM
