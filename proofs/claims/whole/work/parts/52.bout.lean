/-! The relation: what changes the cells of one bout alone. -/
/-- a bout of the table stays what it is to the other bouts -/
def TQ (g g' : Gs) (b : Int) : Prop := pB g ≤ b → (ga g' b 4 = 2 ↔ ga g b 4 = 2) ∧ (ga g' b 4 = 4 ↔ ga g b 4 = 4) ∧ ga g' b 0 = ga g b 0 ∧ ga g' b 1 = ga g b 1 ∧ (ga g b 4 = 2 ∨ ga g b 4 = 4 → ga g' b 5 = ga g b 5) ∧ ga g' b 7 = ga g b 7
section Bout
variable {c c' : Cs} {g g' : Gs} {N b : Int}
theorem IV_b (h : IV g) (h0 : 0 ≤ b) (hb : b < g 3) (hk : ∀ k, k < 250 → k ≠ 6 → k ≠ 7 → g' k = g k) (ho : ∀ b' w, 0 ≤ b' → 0 ≤ w → w < 10 → b' ≠ b → ga g' b' w = ga g b' w) (h7 : 0 ≤ g' 7 ∧ g' 7 ≤ 2147483647) (h6 : g' 6 = g 6 ∨ (g' 6 = -1 ∧ g 6 = b)) (hB : IB g' b)
    (hT : TQ g g' b) : IV g' := by
  obtain ⟨i1, iB, iF, iR, iT⟩ := h
  have ep : pB g' = pB g := by unfold pB; rw [hk 4 (by omega) (by omega) (by omega), hk 3 (by omega) (by omega) (by omega), hk 5 (by omega) (by omega) (by omega)]
  have et : ∀ b', tgB g' b' = tgB g b' := fun b' => by unfold tgB; rw [ep]
  have i1' := i1
  unfold I1 at i1'
  refine ⟨?_, fun b' q0 q1 => ?_, ?_, ?_, ?_⟩
  · unfold I1
    simp (disch := omega) only [hk]
    omega
  · rw [hk 3 (by omega) (by omega) (by omega)] at q1
    by_cases hbb : b' = b
    · rw [hbb]; exact hB
    · have hb' := iB b' q0 q1
      unfold IB at hb' ⊢
      rw [ep, et]
      simp (disch := omega) only [ho, hk]
      omega
  · exact IF_cg iF (hk 1 (by omega) (by omega) (by omega)) (by omega) (hk 2 (by omega) (by omega) (by omega)) (by rw [hk 0 (by omega) (by omega) (by omega)]; exact ⟨id, id⟩) (fun k k0 k1 => hk k (by omega) (by omega) (by omega))
  · exact IRl_cg iR (fun k k0 k1 => hk k (by omega) (by omega) (by omega))
  · intro h4
    rw [hk 4 (by omega) (by omega) (by omega)] at h4
    obtain ⟨t1, t2, t3⟩ := iT h4
    have ep2 : pB g = g 5 := by unfold pB; rw [if_neg (by omega)]
    have hst : ∀ b', 0 ≤ b' → g 5 ≤ b' → TQ g g' b' := fun b' q q5 => by
      by_cases hbb : b' = b
      · rw [hbb]; exact hT
      · intro _
        rw [ho b' 4 q (by omega) (by omega) hbb, ho b' 0 q (by omega) (by omega) hbb, ho b' 1 q (by omega) (by omega) hbb, ho b' 5 q (by omega) (by omega) hbb, ho b' 7 q (by omega) (by omega) hbb]; exact ⟨Iff.rfl, Iff.rfl, rfl, rfl, fun _ => rfl, rfl⟩
    rw [hk 0 (by omega) (by omega) (by omega), hk 3 (by omega) (by omega) (by omega), hk 4 (by omega) (by omega) (by omega), hk 5 (by omega) (by omega) (by omega)]
    refine ⟨fun t s q1 q2 q3 => ?_, ?_, fun t q1 q2 q3 => ?_⟩
    · have q4 : 0 ≤ g 5 + (2 * t - g 4 + s) ∧ g 5 + (2 * t - g 4 + s) < g 3 ∧ g 5 ≤ g 5 + (2 * t - g 4 + s) := by omega
      have e1 : ga g' (g 5 + t) s = ga g (g 5 + t) s := by
        obtain ⟨u1, u2, u3, u4, u5⟩ := hst (g 5 + t) (by omega) (by omega) (by omega)
        rcases q3 with rfl | rfl
        · exact u3
        · exact u4
      have hb' := iB _ q4.1 q4.2.1
      have h5 : ga g (g 5 + (2 * t - g 4 + s)) 4 = 2 ∨ ga g (g 5 + (2 * t - g 4 + s)) 4 = 4 → ga g (g 5 + (2 * t - g 4 + s)) 5 = 0 ∨ ga g (g 5 + (2 * t - g 4 + s)) 5 = 1 := by
        unfold IB at hb'; omega
      rw [e1, t1 t s q1 q2 q3]
      obtain ⟨s1, s2, s3, s4, s5, s6⟩ := hst _ q4.1 q4.2.2 (by omega)
      simp only [s1, s2]
      by_cases h24 : ga g (g 5 + (2 * t - g 4 + s)) 4 = 2 ∨ ga g (g 5 + (2 * t - g 4 + s)) 4 = 4
      · rw [if_pos h24, if_pos h24, s5 h24]
        rcases h5 h24 with h5 | h5
        · rw [h5, s3]
        · rw [h5, s4]
      · rw [if_neg h24, if_neg h24]
    · rw [(hst (g 3 - 1) (by omega) (by omega) (by omega)).1]; exact t2
    · exact t3 t q1 q2 (((hst (g 5 + t) (by omega) (by omega) (by omega)).2.1).mp q3)
theorem RV_b (hi : IV g) (h : RV N c g) (h0 : 0 ≤ b) (hb : b < g 3) (hk : ∀ k, k < 250 → k ≠ 6 → k ≠ 7 → g' k = g k) (ho : ∀ b' w, 0 ≤ b' → 0 ≤ w → w < 10 → b' ≠ b → ga g' b' w = ga g b' w)
    (hc : ∀ C k, ¬ (C = 2 ∧ k = 1) → ¬ (C = 2 ∧ k = 2) → ¬ (C = 10) → ¬ (19 ≤ C ∧ C ≤ 24) → c' C k = c C k) (h21 : c' 2 1 = g' 7) (h22 : c' 2 2 = g' 6) (hcb : ∀ b', 0 ≤ b' → b' ≠ b → c' 19 (2 * b') = c 19 (2 * b') ∧ c' 19 (2 * b' + 1) = c 19 (2 * b' + 1) ∧ c' 20 (2 * b') = c 20 (2 * b') ∧ c' 20 (2 * b' + 1) = c 20 (2 * b' + 1) ∧ c' 21 b' = c 21 b' ∧ c' 22 b' = c 22 b' ∧ c' 23 b' = c 23 b' ∧ c' 24 b' = c 24 b')
    (hR : R3b c' g' b) (hT : TQ g g' b) (h6 : R6 N c' g') : RV N c' g' := by
  obtain ⟨i1, iB, iF, iR, iT⟩ := hi
  obtain ⟨r1, r2, r3, r4, r5, r6, r7⟩ := h
  unfold I1 at i1
  have ep : pB g' = pB g := by unfold pB; rw [hk 4 (by omega) (by omega) (by omega), hk 3 (by omega) (by omega) (by omega), hk 5 (by omega) (by omega) (by omega)]
  refine ⟨?_, ?_, fun b' q0 q1 => ?_, ?_, ?_, h6, ?_⟩
  · unfold R1 at r1 ⊢
    rw [ep, h21, h22]
    simp (disch := omega) only [hk, hc, true_and]
    omega
  · exact R2_cg r2 (hk 1 (by omega) (by omega) (by omega)) (by omega) (fun k k0 k1 => hk k (by omega) (by omega) (by omega)) (fun C k q0 q1 => hc C k (by omega) (by omega) (by omega) (by omega))
  · rw [hk 3 (by omega) (by omega) (by omega)] at q1
    by_cases hbb : b' = b
    · rw [hbb]; exact hR
    · obtain ⟨s1, s2, s3, s4, s5, s6, s7, s8⟩ := hcb b' q0 hbb
      have hb' := r3 b' q0 q1
      have hi' := iB b' q0 q1
      unfold IB at hi'
      unfold R3b at hb' ⊢
      rw [s1, s2, s3, s4, s5, s6, s7, s8]
      simp (disch := omega) only [ho]
      by_cases h5 : ga g b' 5 < 0
      · rw [if_pos h5] at hb' ⊢
        exact hb'
      · rw [if_neg h5] at hb' ⊢
        first | exact hb' | (rw [ho b' (ga g b' 5) q0 (by omega) (by omega) hbb]; exact hb')
  · exact R4_cg r4 (by rw [hk 0 (by omega) (by omega) (by omega)]; exact id) (hk 1 (by omega) (by omega) (by omega)) (hk 2 (by omega) (by omega) (by omega)) (by omega) (fun q f f0 f1 => (iF f f0 f1).2.2.2.2 q) (fun k k0 k1 => hk k (by omega) (by omega) (by omega)) (fun C k q0 q1 => hc C k (by omega) (by omega) (by omega) (by omega))
  · have h44 : g' 4 = g 4 := hk 4 (by omega) (by omega) (by omega)
    have hst : 0 < g 4 → ∀ b', g 5 ≤ b' → TQ g g' b' := fun h4 b' q5 => by
      by_cases hbb : b' = b
      · rw [hbb]; exact hT
      · intro _
        have q : 0 ≤ b' := by omega
        rw [ho b' 4 q (by omega) (by omega) hbb, ho b' 0 q (by omega) (by omega) hbb, ho b' 1 q (by omega) (by omega) hbb, ho b' 5 q (by omega) (by omega) hbb, ho b' 7 q (by omega) (by omega) hbb]; exact ⟨Iff.rfl, Iff.rfl, rfl, rfl, fun _ => rfl, rfl⟩
    have ep2 : 0 < g 4 → pB g = g 5 := fun h4 => by unfold pB; rw [if_neg (by omega)]
    have el : 0 < g 4 → ∀ f b', lstB g' f b' ↔ lstB g f b' := fun h4 f b' => by
      unfold lstB
      rw [hk 3 (by omega) (by omega) (by omega), hk 5 (by omega) (by omega) (by omega)]
      by_cases q : g 5 ≤ b' ∧ b' < g 3
      · have hi' := iB b' (by omega) q.2
        have h5 : ga g b' 4 = 2 → ga g b' 5 = 0 ∨ ga g b' 5 = 1 := by unfold IB at hi'; omega
        obtain ⟨s1, s1', s2, s3, s4, s5⟩ := hst h4 b' q.1 (by rw [ep2 h4]; exact q.1)
        rw [s1]
        by_cases q2 : ga g b' 4 = 2
        · rw [s4 (Or.inl q2)]
          rcases h5 q2 with h5 | h5
          · rw [h5, show (1 : Int) - 0 = 1 from rfl, s3]
          · rw [h5, show (1 : Int) - 1 = 0 from rfl, s2]
        · simp [q2]
      · constructor
        · intro h; exact absurd ⟨h.1, h.2.1⟩ q
        · intro h; exact absurd ⟨h.1, h.2.1⟩ q
    refine R5_cg r5 (hk 8 (by omega) (by omega) (by omega)) (by omega) (by rw [h44]; exact id) (fun k k0 k1 => hk k (by omega) (by omega) (by omega)) (fun C k q0 q1 => hc C k (by omega) (by omega) (by omega) (by omega)) (fun q => el (by rw [h44] at q; exact q)) (fun q f b' hl => ?_)
    have h4 : 0 < g 4 := by rw [h44] at q; exact q
    exact (hst h4 b' hl.1 (by rw [ep2 h4]; exact hl.1)).2.2.2.2.2
  · exact R7_cg r7 (fun k k0 k1 => hk k (by omega) (by omega) (by omega)) (fun C k q => hc C k (by omega) (by omega) (by omega) (by omega))
end Bout
