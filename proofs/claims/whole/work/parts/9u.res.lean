/-! The text of results: one result, on both sides. -/
def Rej (K s0 : Mem) (s : Int) : Prop := ∃ m, Rn (K 13 191) (K 11 0 10) s0 s m ∧ ((s < K 11 0 10 ∧ zo_accept (K 13 191 s) m = 0 ∧ zm_accept (K 13 191 s) m = m) ∨ (s = K 11 0 10 ∧ (m 5 0 4 ≤ 0 ∨ ¬ m 5 0 5 = 0 ∨ ¬ m 5 0 6 = 0)))
def Bd (K s0 C : Mem) (s t : Int) (A : Int → Int) : Prop := ∃ T, Rn (K 13 191) (K 11 0 10) s0 s (tm C 0 0 t T) ∧ T (4 * t) = 0 ∧ (∀ j, 0 ≤ j → j < 4 * t → A j = T j) ∧ 6 * t ≤ s ∧ 0 ≤ t ∧ s ≤ K 11 0 10
section Res
variable {K s0 C : Mem} {s v t p d c ch : Int} {A T : Int → Int}
theorem hr_y (h : hrK K s = ch) (h0 : 0 ≤ ch) : s < K 11 0 10 ∧ K 13 191 s = ch := by
  unfold hrK at h
  by_cases q : K 11 0 10 ≤ s
  · rw [if_pos q] at h; omega
  · rw [if_neg q] at h; exact ⟨by omega, h⟩
theorem hr_n (h : ¬ hrK K s = ch) (q : s < K 11 0 10) : ¬ K 13 191 s = ch := by
  unfold hrK at h
  rw [if_neg (by omega)] at h
  exact h
theorem hr_d (h : ¬ isD K s) (q : s < K 11 0 10) : ¬ (48 ≤ K 13 191 s ∧ K 13 191 s ≤ 57) := by
  have h : ¬ (48 ≤ hrK K s ∧ hrK K s ≤ 57) := h
  unfold hrK at h
  rw [if_neg (by omega)] at h
  exact h
theorem rej (hR : Rn (K 13 191) (K 11 0 10) s0 s (tm C p d c T)) (hs : s ≤ K 11 0 10) (he : s = K 11 0 10 → c ≤ 0 ∨ ¬ p = 0 ∨ ¬ d = 0) (h : s < K 11 0 10 → (¬ (48 ≤ K 13 191 s ∧ K 13 191 s ≤ 57) ∨ p = 3 ∨ (p = 0 ∧ 3 ≤ d) ∨ (p ≠ 0 ∧ 2 ≤ d)) ∧ ¬ (K 13 191 s = 61 ∧ p = 0 ∧ 0 < d) ∧ ¬ (K 13 191 s = 58 ∧ p = 1 ∧ 0 < d) ∧ ¬ ((K 13 191 s = 108 ∨ K 13 191 s = 114) ∧ p = 2 ∧ 0 < d) ∧ ¬ (K 13 191 s = 59 ∧ (p = 3 ∨ (p = 2 ∧ 0 < d)))) : Rej K s0 s := by
  refine ⟨_, hR, ?_⟩
  by_cases q : s < K 11 0 10
  · obtain ⟨h1, h2, h3, h4, h5⟩ := h q
    have := acc_no (K := C) (c := c) (T := T) h1 h2 h3 h4 h5
    exact Or.inl ⟨q, this.1, this.2⟩
  · refine Or.inr ⟨by omega, ?_⟩
    rw [tm_4, tm_5, tm_6]
    exact he (by omega)
theorem dig_run {x : Nat} (hx : (x : Int) = if p = 0 then 3 else 2) (hR : Rn (K 13 191) (K 11 0 10) s0 s (tm C p 0 c T)) (hT : T (4 * c + p) = 0) (hc : 0 ≤ c ∧ c ≤ 9) (hp : 0 ≤ p ∧ p ≤ 2) : ∀ k : Nat, k ≤ dgc K x s → ∃ T', Rn (K 13 191) (K 11 0 10) s0 (s + k) (tm C p k c T') ∧ T' (4 * c + p) = nvF K s k ∧ ∀ j, j ≠ 4 * c + p → T' j = T j := by
  intro k
  induction k with
  | zero =>
    intro _
    refine ⟨T, ?_, hT, fun j _ => rfl⟩
    rw [show s + ((0 : Nat) : Int) = s by omega]
    exact hR
  | succ k ih =>
    intro hk
    obtain ⟨T', h1, h2, h3⟩ := ih (by omega)
    have hle := dgc_le (K := K) x s
    have hd := dgc_d (K := K) x s
    have hx3 : x ≤ 3 := by split at hx <;> omega
    have hb := nvF_b k (fun j hj => hd j (by omega))
    have h10 := p10 (k := k) (by omega)
    obtain ⟨d1, d2, d3⟩ := isD_f (hd k (by omega))
    obtain ⟨a1, a2⟩ := acc_dig (K := C) (p := p) (d := k) (c := c) (ch := K 13 191 (s + k)) (T := T') (by omega) hp (by omega) (by rw [← hx]; omega) ⟨d2, d3⟩ (by rw [h2]; omega)
    have h4 := Rn_s h1 d1 a1
    rw [a2] at h4
    refine ⟨_, by rw [show s + ((k + 1 : Nat) : Int) = s + k + 1 by omega, show ((k + 1 : Nat) : Int) = (k : Int) + 1 by omega]; exact h4, ?_, fun j hj => ?_⟩
    · rw [tu_s, h2]; rfl
    · rw [tu_o hj, h3 j hj]
theorem rh_all (hn : K 11 0 10 ≤ 60) (hs0 : 0 ≤ s) (hB : Bd K s0 C s t A) (hst : s = K 11 0 10 → t = 0) : ∃ o s' v' t' A', Ev true 239 [aR 11 0] (mm K s v t A) (.inl (some (aI o))) (mm K s' v' t' A') ∧ ((o = 0 ∧ Rej K s0 s') ∨ (o = 1 ∧ t' = t + 1 ∧ Bd K s0 C s' (t + 1) A' ∧ s < s')) := by
  obtain ⟨T, hR, hT, hA, h6, t0, hsn⟩ := hB
  have ht : 0 ≤ t ∧ t ≤ 9 := by omega
  have hl : 0 ≤ s ∧ s ≤ 60 := by omega
  by_cases h1 : 0 < dgc K 3 s
  case neg =>
    refine ⟨0, _, _, _, _, rh_0n hn hl ht h1, Or.inl ⟨rfl, rej hR hsn (fun q => Or.inl (by rw [hst q]; decide)) (fun q => ?_)⟩⟩
    have hd : ¬ isD K s := by
      rcases dgc_e (K := K) 3 s with z | z
      · omega
      · rw [show s + ((dgc K 3 s : Nat) : Int) = s by omega] at z
        exact z
    have := hr_d hd q
    omega
  obtain ⟨T1, hR1, hT1, hO1⟩ := dig_run (x := 3) (by decide) hR (by rw [show 4 * t + 0 = 4 * t by omega]; exact hT) ht (by decide) (dgc K 3 s) (Nat.le_refl _)
  have hk1 := dgc_le (K := K) 3 s
  have he1 := dgc_e (K := K) 3 s
  have hd1 := isD_f (dgc_d (K := K) 3 s (dgc K 3 s - 1) (by omega))
  rw [show 4 * t + 0 = 4 * t by omega] at hT1 hO1
  have hs1 : s + (dgc K 3 s : Int) ≤ K 11 0 10 := by omega
  have P1 := fun Q hq => rh_0y (v := v) (A := A) hn hl ht h1 Q hq
  generalize hv1 : nvF K s (dgc K 3 s) = v1 at hT1 P1
  generalize hA1 : tu A (4 * t) v1 = A1 at P1
  have fA1 : A1 (4 * t) = v1 ∧ ∀ j, j ≠ 4 * t → A1 j = A j := by rw [← hA1]; exact ⟨tu_s, fun j hj => tu_o hj⟩
  clear hv1 hA1 hd1
  generalize hs1e : s + (dgc K 3 s : Int) = s1 at *
  generalize hk1e : dgc K 3 s = k1 at *
  by_cases h61 : hrK K s1 = 61
  case neg =>
    refine ⟨0, _, _, _, _, P1 _ (rh_15e hn (by omega) ht h61), Or.inl ⟨rfl, rej hR1 hs1 (fun q => Or.inr (Or.inr (by omega))) (fun q => ?_)⟩⟩
    have n1 := hr_n h61 q
    have n2 : k1 = 3 ∨ ¬ (48 ≤ K 13 191 s1 ∧ K 13 191 s1 ≤ 57) := he1.imp id (fun z => hr_d z q)
    omega
  obtain ⟨q1, q2⟩ := hr_y h61 (by decide)
  obtain ⟨a1, a2⟩ := acc_eq (K := C) (p := 0) (d := k1) (c := t) (T := T1) q2 rfl (by omega) (by omega)
  have hR2 := Rn_s hR1 q1 a1
  rw [a2] at hR2
  generalize hT2 : tu (tu T1 (4 * t + 1) 0) (4 * t + 3) (-1) = T2 at hR2
  have fT2 : T2 (4 * t + 1) = 0 ∧ T2 (4 * t + 3) = -1 ∧ ∀ j, j ≠ 4 * t + 1 → j ≠ 4 * t + 3 → T2 j = T1 j := by
    rw [← hT2]
    exact ⟨by rw [tu_o (by omega), tu_s], tu_s, fun j j1 j3 => by rw [tu_o j3, tu_o j1]⟩
  clear hT2 a1 a2
  by_cases h2 : 0 < dgc K 2 (s1 + 1)
  case neg =>
    refine ⟨0, _, _, _, _, P1 _ (rh_15n hn (by omega) ht (by omega) h61 h2), Or.inl ⟨rfl, rej hR2 (by omega) (fun q => Or.inr (Or.inl (by decide))) (fun q => ?_)⟩⟩
    have hd : ¬ isD K (s1 + 1) := by
      rcases dgc_e (K := K) 2 (s1 + 1) with z | z
      · omega
      · rw [show s1 + 1 + ((dgc K 2 (s1 + 1) : Nat) : Int) = s1 + 1 by omega] at z
        exact z
    have := hr_d hd q
    omega
  obtain ⟨T3, hR3, hT3, hO3⟩ := dig_run (x := 2) (by decide) hR2 fT2.1 ht (by decide) (dgc K 2 (s1 + 1)) (Nat.le_refl _)
  have hk2 := dgc_le (K := K) 2 (s1 + 1)
  have he2 := dgc_e (K := K) 2 (s1 + 1)
  have hd2 := isD_f (dgc_d (K := K) 2 (s1 + 1) (dgc K 2 (s1 + 1) - 1) (by omega))
  have hs2 : s1 + 1 + (dgc K 2 (s1 + 1) : Int) ≤ K 11 0 10 := by omega
  have P2 := fun Q hq => P1 Q (rh_15y (v := v1) (A := A1) hn (by omega) ht (by omega) h61 h2 Q hq)
  generalize hv2 : nvF K (s1 + 1) (dgc K 2 (s1 + 1)) = v2 at hT3 P2
  generalize hA2 : tu A1 (4 * t + 1) v2 = A2 at P2
  have fA2 : A2 (4 * t + 1) = v2 ∧ ∀ j, j ≠ 4 * t + 1 → A2 j = A1 j := by rw [← hA2]; exact ⟨tu_s, fun j hj => tu_o hj⟩
  clear hv2 hA2 hd2 P1
  generalize hs2e : s1 + 1 + (dgc K 2 (s1 + 1) : Int) = s2 at *
  generalize hk2e : dgc K 2 (s1 + 1) = k2 at *
  by_cases h58 : hrK K s2 = 58
  case neg =>
    refine ⟨0, _, _, _, _, P2 _ (rh_36e hn (by omega) ht h58), Or.inl ⟨rfl, rej hR3 hs2 (fun q => Or.inr (Or.inl (by decide))) (fun q => ?_)⟩⟩
    have n1 := hr_n h58 q
    have n2 : k2 = 2 ∨ ¬ (48 ≤ K 13 191 s2 ∧ K 13 191 s2 ≤ 57) := he2.imp id (fun z => hr_d z q)
    omega
  obtain ⟨q3, q4⟩ := hr_y h58 (by decide)
  obtain ⟨a1, a2⟩ := acc_col (K := C) (p := 1) (d := k2) (c := t) (T := T3) q4 rfl (by omega) (by omega)
  have hR4 := Rn_s hR3 q3 a1
  rw [a2] at hR4
  generalize hT4 : tu (tu T3 (4 * t + 2) 0) (4 * t + 3) (-1) = T4 at hR4
  have fT4 : T4 (4 * t + 2) = 0 ∧ T4 (4 * t + 3) = -1 ∧ ∀ j, j ≠ 4 * t + 2 → j ≠ 4 * t + 3 → T4 j = T3 j := by
    rw [← hT4]
    exact ⟨by rw [tu_o (by omega), tu_s], tu_s, fun j j1 j3 => by rw [tu_o j3, tu_o j1]⟩
  clear hT4 a1 a2
  by_cases h3 : 0 < dgc K 2 (s2 + 1)
  case neg =>
    refine ⟨0, _, _, _, _, P2 _ (rh_36n hn (by omega) ht (by omega) h58 h3), Or.inl ⟨rfl, rej hR4 (by omega) (fun q => Or.inr (Or.inl (by decide))) (fun q => ?_)⟩⟩
    have hd : ¬ isD K (s2 + 1) := by
      rcases dgc_e (K := K) 2 (s2 + 1) with z | z
      · omega
      · rw [show s2 + 1 + ((dgc K 2 (s2 + 1) : Nat) : Int) = s2 + 1 by omega] at z
        exact z
    have := hr_d hd q
    omega
  obtain ⟨T5, hR5, hT5, hO5⟩ := dig_run (x := 2) (by decide) hR4 fT4.1 ht (by decide) (dgc K 2 (s2 + 1)) (Nat.le_refl _)
  have hk3 := dgc_le (K := K) 2 (s2 + 1)
  have he3 := dgc_e (K := K) 2 (s2 + 1)
  have hd3 := isD_f (dgc_d (K := K) 2 (s2 + 1) (dgc K 2 (s2 + 1) - 1) (by omega))
  have hs3 : s2 + 1 + (dgc K 2 (s2 + 1) : Int) ≤ K 11 0 10 := by omega
  have P3 := fun Q hq => P2 Q (rh_36y (v := v2) (A := A2) hn (by omega) ht (by omega) h58 h3 Q hq)
  generalize hv3 : nvF K (s2 + 1) (dgc K 2 (s2 + 1)) = v3 at hT5 P3
  generalize hA3 : tu A2 (4 * t + 2) v3 = A3 at P3
  have fA3 : A3 (4 * t + 2) = v3 ∧ ∀ j, j ≠ 4 * t + 2 → A3 j = A2 j := by rw [← hA3]; exact ⟨tu_s, fun j hj => tu_o hj⟩
  clear hv3 hA3 hd3 P2
  generalize hs3e : s2 + 1 + (dgc K 2 (s2 + 1) : Int) = s3 at *
  generalize hk3e : dgc K 2 (s2 + 1) = k3 at *
  have fin : ∀ (s4 p d : Int) (T6 A6 : Int → Int), Rn (K 13 191) (K 11 0 10) s0 s4 (tm C p d t T6) → (p = 3 ∨ (p = 2 ∧ 0 < d)) → (p = 2 → d = 2 ∨ ¬ isD K s4) → (p = 2 → ¬ hrK K s4 = 108 ∧ ¬ hrK K s4 = 114) → s3 ≤ s4 → s4 ≤ K 11 0 10 → (∀ j, 0 ≤ j → j < 4 * (t + 1) → A6 j = T6 j) → (∀ Q, wp true 239 85 [some (aR 11 0)] [] (mm K s4 v3 (t + 1) A6) 0 0 Q → wp true 239 0 [some (aR 11 0)] [] (mm K s v t A) 0 0 Q) → ∃ o s' v' t' A', Ev true 239 [aR 11 0] (mm K s v t A) (.inl (some (aI o))) (mm K s' v' t' A') ∧ ((o = 0 ∧ Rej K s0 s') ∨ (o = 1 ∧ t' = t + 1 ∧ Bd K s0 C s' (t + 1) A' ∧ s < s')) := by
    intro s4 p d T6 A6 hR6 hp hpd hpc hs34 hs4 hA6 P4
    by_cases h59 : hrK K s4 = 59
    · obtain ⟨q5, q6⟩ := hr_y h59 (by decide)
      obtain ⟨a1, a2⟩ := acc_semi (K := C) (p := p) (d := d) (c := t) (T := T6) q6 hp ht
      have hR7 := Rn_s hR6 q5 a1
      rw [a2] at hR7
      refine ⟨1, _, _, _, _, P4 _ (rh_85y hn (by omega) h59), Or.inr ⟨rfl, rfl, ⟨_, hR7, ?_, fun j j0 j1 => ?_, by omega, by omega, by omega⟩, by omega⟩⟩
      · rw [tu_o (by omega), show 4 * (t + 1) + 0 = 4 * (t + 1) by omega, tu_s]
      · rw [tu_o (by omega), tu_o (by omega)]
        exact hA6 j j0 j1
    · refine ⟨0, _, _, _, _, P4 _ (rh_85n hn (by omega) h59), Or.inl ⟨rfl, rej hR6 hs4 (fun q => Or.inr (Or.inl (by omega))) (fun q => ?_)⟩⟩
      have n0 := hr_n h59 q
      rcases hp with z | z
      · omega
      · have n1 := hr_n (hpc z.1).1 q
        have n2 := hr_n (hpc z.1).2 q
        have n3 : d = 2 ∨ ¬ (48 ≤ K 13 191 s4 ∧ K 13 191 s4 ≤ 57) := (hpd z.1).imp id (fun z => hr_d z q)
        omega
  have cells : ∀ (A6 T6 : Int → Int), (∀ j, j ≠ 4 * t + 3 → A6 j = A3 j) → (∀ j, j ≠ 4 * t + 3 → T6 j = T5 j) → A6 (4 * t + 3) = T6 (4 * t + 3) → ∀ j, 0 ≤ j → j < 4 * (t + 1) → A6 j = T6 j := by
    intro A6 T6 e1 e2 e3 j j0 j1
    by_cases z3 : j = 4 * t + 3
    · rw [z3]; exact e3
    · rw [e1 j z3, e2 j z3]
      by_cases z2 : j = 4 * t + 2
      · rw [z2, fA3.1, hT5]
      · rw [fA3.2 j z2, hO5 j z2, fT4.2.2 j z2 z3]
        by_cases z1 : j = 4 * t + 1
        · rw [z1, fA2.1, hT3]
        · rw [fA2.2 j z1, hO3 j z1, fT2.2.2 j z1 z3]
          by_cases z0 : j = 4 * t
          · rw [z0, fA1.1, hT1]
          · rw [fA1.2 j z0, hO1 j z0]
            exact hA j j0 (by omega)
  by_cases hL : hrK K s3 = 108
  · obtain ⟨q5, q6⟩ := hr_y hL (by decide)
    obtain ⟨a1, a2⟩ := acc_l (K := C) (p := 2) (d := k3) (c := t) (T := T5) q6 rfl (by omega) (by omega)
    have hR6 := Rn_s hR5 q5 a1
    rw [a2] at hR6
    exact fin (s3 + 1) 3 0 _ _ hR6 (Or.inl rfl) (fun z => absurd z (by decide)) (fun z => absurd z (by decide)) (by omega) (by omega) (cells _ _ (fun j hj => tu_o hj) (fun j hj => by rw [tu_o hj, tu_o hj, tu_o hj]) (by rw [tu_s, tu_s])) (fun Q hq => P3 Q (rh_57l hn (by omega) ht hL Q hq))
  · by_cases hRr : hrK K s3 = 114
    · obtain ⟨q5, q6⟩ := hr_y hRr (by decide)
      obtain ⟨a1, a2⟩ := acc_r (K := C) (p := 2) (d := k3) (c := t) (T := T5) q6 rfl (by omega) (by omega)
      have hR6 := Rn_s hR5 q5 a1
      rw [a2] at hR6
      exact fin (s3 + 1) 3 0 _ _ hR6 (Or.inl rfl) (fun z => absurd z (by decide)) (fun z => absurd z (by decide)) (by omega) (by omega) (cells _ _ (fun j hj => tu_o hj) (fun j hj => by rw [tu_o hj, tu_o hj, tu_o hj]) (by rw [tu_s, tu_s])) (fun Q hq => P3 Q (rh_57r hn (by omega) ht hRr Q hq))
    · refine fin s3 2 k3 _ _ hR5 (Or.inr ⟨rfl, by omega⟩) (fun z => he3.imp (fun w => by omega) id) (fun z => ⟨hL, hRr⟩) (Int.le_refl _) hs3 (cells (tu A3 (4 * t + 3) (-1)) T5 (fun j hj => tu_o hj) (fun j hj => rfl) ?_) (fun Q hq => P3 Q (rh_57o hn (by omega) ht hL hRr Q hq))
      rw [tu_s, hO5 _ (by omega), fT4.2.1]
end Res
