/-! A change is kept on both sides. -/
section Push
variable {N M : Int} {a a' b b' : Mem} {c c' : Cs} {g g' : Gs}
theorem cv_wcm_0 {σ : Mem} {C : Nat} {k : Int} (h : ownK C) : cv (wcm σ c) 0 C k = c C k := by
  unfold ownK at h
  unfold cv
  by_cases h1 : C < 10
  · rw [if_pos h1]
    exact if_pos ⟨by omega, rfl⟩
  · rw [if_neg h1, wcm_row (by omega)]
    congr 1
    omega
theorem cv_wcm_o {σ : Mem} {m : Int} {C : Nat} {k : Int} (hm : 1 ≤ m) (h : ownK C) : cv (wcm σ c) m C k = cv σ m C k := by
  unfold ownK at h
  unfold cv
  by_cases h1 : C < 10
  · rw [if_pos h1, if_pos h1]
    exact wcm_o (by omega) (by omega)
  · rw [if_neg h1, if_neg h1]
    exact wcm_o (by omega) (by omega)
/-- the kept meets once one is kept -/
theorem keep_facts (h : JH N a b) (h0 : KP N (cv a 0) g) : (∀ C r k, ¬ (C = 1) → ¬ ((C = 0 ∨ C = 2 ∨ C = 3 ∨ C = 4 ∨ C = 6 ∨ C = 9) ∧ 2 ≤ r) → ¬ (C = 13 ∧ 36 ≤ r) → zm_keep 0 a C r k = a C r k) ∧ (∀ k, 180 ≤ k → ∀ j, zm_keep 0 a 13 k j = a 13 k j) ∧ (0 ≤ zm_keep 0 a 1 0 1 ∧ zm_keep 0 a 1 0 1 < 8) ∧ zm_keep 0 a 1 0 2 = (if a 1 0 2 < 8 then a 1 0 2 + 1 else 8) := by
  obtain ⟨hc, -⟩ := CpP_of h0 (by decide)
  have he := keep_eq h h0
  obtain ⟨h1, h2, h3, h4⟩ := h
  by_cases hn : a 1 0 2 < 8
  · rw [if_pos hn] at he ⊢
    rw [he]
    refine ⟨fun C r k k1 k2 k3 => ?_, fun k hk j => ?_, ?_, up_s _ _ _ _ _⟩
    · rw [up_o (by omega), mcopy_o (by omega) hc (by omega) (by omega)]
    · rw [up_o (by omega), mcopy_o (by omega) hc (by omega) (by omega)]
    · rw [up_o (by omega), mcopy_o (by omega) hc (by omega) (by omega)]; exact h1
  · rw [if_neg hn] at he ⊢
    have hc2 : CpP (up (up a 1 0 1 ((a 1 0 1 + 1) % 8)) 1 0 2 7) 0 := hc
    rw [he]
    refine ⟨fun C r k k1 k2 k3 => ?_, fun k hk j => ?_, ?_, up_s _ _ _ _ _⟩
    · rw [up_o (by omega), mcopy_o (by omega) hc2 (by omega) (by omega), up_o (by omega), up_o (by omega)]
    · rw [up_o (by omega), mcopy_o (by omega) hc2 (by omega) (by omega), up_o (by omega), up_o (by omega)]
    · rw [up_o (by omega), mcopy_o (by omega) hc2 (by omega) (by omega), up_o (by omega), up_s]; omega
theorem mch_facts (h : 0 ≤ b 11 0 4 ∧ b 11 0 4 ≤ 8) : (∀ C r k, ¬ (C = 11 ∧ k = 4) → ¬ (C = 13 ∧ r = 188) → zm_mchanges b C r k = b C r k) ∧ zm_mchanges b 11 0 4 = (if b 11 0 4 < 8 then b 11 0 4 + 1 else 8) ∧ (∀ i k, 0 ≤ i → i < (if b 11 0 4 < 8 then b 11 0 4 else 7) → 0 ≤ k → k < 3330 → zm_mchanges b 13 188 (3330 * i + k) = b 13 188 (3330 * (if b 11 0 4 < 8 then i else i + 1) + k)) ∧ (∀ k, 0 ≤ k → k < 3330 → zm_mchanges b 13 188 (3330 * (if b 11 0 4 < 8 then b 11 0 4 else 7) + k) = b 13 186 k) := by
  rw [mch_eq h]
  by_cases hn : b 11 0 4 < 8
  · simp only [if_pos hn]
    refine ⟨fun C r k k1 k2 => ?_, up_s _ _ _ _ _, fun i k i0 i1 k0 k1 => ?_, fun k k0 k1 => ?_⟩
    · rw [up_o (by omega)]
      unfold cpM
      rw [if_neg (by omega)]
    · rw [up_o (by omega)]
      unfold cpM
      rw [if_neg (by omega)]
    · rw [up_o (by omega)]
      unfold cpM
      rw [if_pos (by omega), show 0 + (3330 * b 11 0 4 + k - 3330 * b 11 0 4) = k by omega]
  · simp only [if_neg hn]
    refine ⟨fun C r k k1 k2 => ?_, up_s _ _ _ _ _, fun i k i0 i1 k0 k1 => ?_, fun k k0 k1 => ?_⟩
    · rw [up_o (by omega)]
      unfold cpM
      rw [if_neg (by omega), up_o (by omega)]
      unfold shM
      rw [if_neg (by omega)]
    · rw [up_o (by omega)]
      unfold cpM
      rw [if_neg (by omega), up_o (by omega)]
      unfold shM
      rw [if_pos (by omega), show 3330 * i + k + 3330 = 3330 * (i + 1) + k by omega]
    · rw [up_o (by omega)]
      unfold cpM
      rw [if_pos (by omega), up_o (by omega)]
      unfold shM
      rw [if_neg (by omega), show 0 + (3330 * 7 + k - 23310) = k by omega]
theorem J_push (h : J N a b) (hN : N ≤ M) (hi : IV g') (hr : RV M c' g') (hx : IX g') : J M (wcm (zm_keep 0 a) c') (wg (zm_mchanges b) g') := by
  obtain ⟨j0, jh, ⟨s1, s2, s3⟩, ⟨t1, t2, t3, t4, t5⟩, jl⟩ := h
  obtain ⟨k1, k2, k3, k4⟩ := keep_facts jh j0
  have he := keep_eq jh j0
  obtain ⟨hc, -⟩ := CpP_of j0 (by decide)
  obtain ⟨h1, h2, h3, h4⟩ := jh
  obtain ⟨m1, m2, m3, m4⟩ := mch_facts (b := b) (by omega)
  have w1 : ∀ k, wcm (zm_keep 0 a) c' 1 0 k = zm_keep 0 a 1 0 k := fun k => wcm_o (by omega) (by omega)
  have w10 : ∀ k, wcm (zm_keep 0 a) c' 10 0 k = a 10 0 k := fun k => by rw [wcm_o (by omega) (by omega)]; exact k1 _ _ _ (by omega) (by omega) (by omega)
  have w5 : ∀ k, wcm (zm_keep 0 a) c' 5 0 k = a 5 0 k := fun k => by rw [wcm_o (by omega) (by omega)]; exact k1 _ _ _ (by omega) (by omega) (by omega)
  have w11 : ∀ k, k ≠ 4 → wg (zm_mchanges b) g' 11 0 k = b 11 0 k := fun k hk => by rw [wg_o (by omega)]; exact m1 _ _ _ (by omega) (by omega)
  have w114 : wg (zm_mchanges b) g' 11 0 4 = zm_mchanges b 11 0 4 := wg_o (by omega)
  refine ⟨?_, ⟨?_, ?_, ?_, fun i i0 i1 => ?_⟩, ⟨?_, ?_, fun q => ?_⟩, ⟨?_, ?_, ?_, fun i i0 i1 => ?_, ?_⟩, fun j j0 j1 => ?_⟩
  · rw [wg_f]
    exact ⟨hi, RV_use hi hr (fun C k hu => cv_wcm_0 (used_own hu)), hx⟩
  · rw [w1]; exact k3
  · rw [w1, k4]; split <;> omega
  · rw [w1, w114, k4, m2, h3]
  · rw [w1, k4] at i1
    rw [w1]
    have eP : ∀ k, (wg (zm_mchanges b) g') 13 188 k = zm_mchanges b 13 188 k := fun k => wg_o (by omega)
    have eC : ∀ m, 1 ≤ m → ∀ C k, ownK C → cv (wcm (zm_keep 0 a) c') m C k = cv (zm_keep 0 a) m C k := fun m hm C k q => cv_wcm_o hm q
    by_cases hn : a 1 0 2 < 8
    · rw [if_pos hn] at i1 he
      have hb8 : b 11 0 4 < 8 := by omega
      simp only [if_pos hb8] at m3 m4
      have o1 : zm_keep 0 a 1 0 1 = a 1 0 1 := by rw [he, up_o (by omega), mcopy_o (by omega) hc (by omega) (by omega)]
      rw [o1]
      by_cases hin : i < a 1 0 2
      · refine KP_g (g := fun k => b 13 188 (3330 * i + k)) (KP_N (KP_c (h4 i i0 hin) (fun C k q => ?_)) hN) (fun k k0 k1 => ?_)
        · rw [eC _ (by omega) C k q, he, cv_up1 q]
          exact cv_copy_o (by omega) hc (by omega) C k q
        · rw [eP]; exact m3 i k i0 (by omega) k0 k1
      · have : i = a 1 0 2 := by omega
        subst this
        refine KP_g (g := b 13 186) (KP_N (KP_c (KP_copy (m := (a 1 0 1 + a 1 0 2) % 8 + 2) (q := 0) (by omega) (by omega) (by decide) j0) (fun C k q => ?_)) hN) (fun k k0 k1 => ?_)
        · rw [eC _ (by omega) C k q, he, cv_up1 q]
        · rw [eP, ← h3]; exact m4 k k0 k1
    · rw [if_neg hn] at i1 he
      have hb8 : ¬ b 11 0 4 < 8 := by omega
      simp only [if_neg hb8] at m3 m4
      have hc2 : CpP (up (up a 1 0 1 ((a 1 0 1 + 1) % 8)) 1 0 2 7) 0 := hc
      have o1 : zm_keep 0 a 1 0 1 = (a 1 0 1 + 1) % 8 := by rw [he, up_o (by omega), mcopy_o (by omega) hc2 (by omega) (by omega), up_o (by omega), up_s]
      have j02 : KP N (cv (up (up a 1 0 1 ((a 1 0 1 + 1) % 8)) 1 0 2 7) 0) (b 13 186) := KP_c j0 (fun C k q => by rw [cv_up1 q, cv_up1 q])
      rw [o1]
      by_cases hin : i < 7
      · refine KP_g (g := fun k => b 13 188 (3330 * (i + 1) + k)) (KP_N (KP_c (h4 (i + 1) (by omega) (by omega)) (fun C k q => ?_)) hN) (fun k k0 k1 => ?_)
        · rw [eC _ (by omega) C k q, he, cv_up1 q, cv_copy_o (by omega) hc2 (by omega) C k q, cv_up1 q, cv_up1 q]
          rw [show ((a 1 0 1 + 1) % 8 + i) % 8 = (a 1 0 1 + (i + 1)) % 8 by omega]
        · rw [eP]; exact m3 i k i0 (by omega) k0 k1
      · have : i = 7 := by omega
        subst this
        refine KP_g (g := b 13 186) (KP_N (KP_c (KP_copy (m := a 1 0 1 + 2) (q := 0) (by omega) (by omega) (by decide) j02) (fun C k q => ?_)) hN) (fun k k0 k1 => ?_)
        · rw [eC _ (by omega) C k q, he, cv_up1 q, show ((a 1 0 1 + 1) % 8 + 7) % 8 + 2 = a 1 0 1 + 2 by omega]
        · rw [eP]; exact m4 k k0 k1
  · rw [w10, w11 2 (by decide)]; exact s1
  · rw [w11 2 (by decide)]; exact s2
  · rw [w11 2 (by decide)] at q
    have e7 : (wg (zm_mchanges b) g') 13 187 = b 13 187 := funext fun k => by rw [wg_o (by omega)]; exact m1 _ _ _ (by omega) (by omega)
    rw [e7]
    refine KP_N (KP_c (s3 q) (fun C k q2 => ?_)) hN
    rw [cv_wcm_o (by decide) q2]
    unfold ownK at q2
    unfold cv
    by_cases hC : C < 10
    · rw [if_pos hC, if_pos hC]; exact k1 _ _ _ (by omega) (by omega) (by omega)
    · rw [if_neg hC, if_neg hC]; exact k1 _ _ _ (by omega) (by omega) (by omega)
  · rw [w10, w11 5 (by decide)]; exact t1
  · rw [w5, w11 10 (by decide)]; exact t2
  · rw [w5]; exact t3
  · rw [w5] at i1
    rw [wcm_o (by omega) (by omega), k1 _ _ _ (by omega) (by omega) (by omega), wg_o (by omega), m1 _ _ _ (by omega) (by omega)]
    exact t4 i i0 i1
  · rw [w5, w11 13 (by decide)]; exact t5
  · rw [wcm_o (by omega) (by omega), wcm_o (by omega) (by omega), k1 _ _ _ (by omega) (by omega) (by omega), k1 _ _ _ (by omega) (by omega) (by omega)]
    exact jl j j0 j1
end Push
