/-! The relation: a bout of the table is won. -/
/-- what the numbers are once side s has won the table's bout b, with touches x and y -/
def FinG (g g' : Gs) (b s x y : Int) : Prop :=
  (∀ k, k < 250 → k ≠ 0 → k ≠ 6 → g' k = g k) ∧ g' 6 = -1 ∧ (∀ b' w, 0 ≤ b' → 0 ≤ w → w < 10 → ¬ (b' = b ∧ (w = 2 ∨ w = 3 ∨ w = 4 ∨ w = 5)) → ¬ (b - g 5 < g 4 - 2 ∧ b' = g 5 + (g 4 + (b - g 5)) / 2 ∧ w = (b - g 5) % 2) → ga g' b' w = ga g b' w) ∧
  (ga g' b 2 = x ∧ ga g' b 3 = y ∧ ga g' b 4 = 2 ∧ ga g' b 5 = s) ∧ (b - g 5 < g 4 - 2 → ga g' (g 5 + (g 4 + (b - g 5)) / 2) ((b - g 5) % 2) = ga g b s) ∧ g' 0 = if b - g 5 < g 4 - 2 then g 0 else 3
def FinP (g : Gs) (b s x y : Int) : Prop := (0 ≤ b ∧ b < g 3 ∧ pB g ≤ b ∧ 0 < g 4) ∧ (ga g b 4 = 0 ∨ ga g b 4 = 1) ∧ (0 ≤ ga g b 0 ∧ 0 ≤ ga g b 1) ∧ (s = 0 ∨ s = 1) ∧ (0 ≤ x ∧ x ≤ 15) ∧ (0 ≤ y ∧ y ≤ 15) ∧ (g 6 = b ∨ g 6 = -1)
section Fin
variable {c c' : Cs} {g g' : Gs} {N b s x y : Int}
/-- the bout behind it is to come -/
theorem nb_0 (h : IV g) (hp : FinP g b s x y) (ht : b - g 5 < g 4 - 2) : ga g (g 5 + (g 4 + (b - g 5)) / 2) 4 = 0 ∧ 0 ≤ g 5 + (g 4 + (b - g 5)) / 2 ∧ g 5 + (g 4 + (b - g 5)) / 2 < g 3 ∧ b < g 5 + (g 4 + (b - g 5)) / 2 ∧ g 5 ≤ b := by
  obtain ⟨i1, iB, iF, iR, iT⟩ := h
  obtain ⟨⟨p1, p2, p3, p4⟩, p5, p6, p7, p8, p9, pa⟩ := hp
  have hg : (2 ≤ g 4 ∧ g 4 ≤ 32 ∧ 2 * (g 4 / 2) = g 4) ∧ (0 ≤ g 5 ∧ g 3 = g 5 + g 4 - 1) ∧ (2 ≤ g 0 ∧ g 0 ≤ 3) ∧ (0 ≤ g 1 ∧ g 1 ≤ 24) ∧ g 8 ≤ 24 := by unfold I1 at i1; clear iB iF iR iT p5 p6 p7 p8 p9 pa; omega
  have ep2 : pB g = g 5 := by unfold pB; rw [if_neg (by omega)]
  have r1 : 0 ≤ g 5 + (g 4 + (b - g 5)) / 2 ∧ g 5 + (g 4 + (b - g 5)) / 2 < g 3 ∧ b < g 5 + (g 4 + (b - g 5)) / 2 ∧ g 5 ≤ b := by omega
  refine ⟨?_, r1.1, r1.2.1, r1.2.2.1, r1.2.2.2⟩
  obtain ⟨t1, t2, t3⟩ := iT p4
  have h1 := t1 ((g 4 + (b - g 5)) / 2) ((b - g 5) % 2) (by omega) (by omega) (by omega)
  rw [show g 5 + (2 * ((g 4 + (b - g 5)) / 2) - g 4 + (b - g 5) % 2) = b by omega, if_neg (by omega)] at h1
  have h2 := t3 ((g 4 + (b - g 5)) / 2) (by omega) (by omega)
  have hn := iB _ r1.1 r1.2.1
  unfold IB at hn
  have hs : (b - g 5) % 2 = 0 ∨ (b - g 5) % 2 = 1 := by omega
  rcases hs with hs | hs
  · rw [hs] at h1; omega
  · rw [hs] at h1; omega
theorem IV_fin (h : IV g) (hp : FinP g b s x y) (hf : FinG g g' b s x y) : IV g' := by
  have hnb : Unit → b - g 5 < g 4 - 2 → _ := fun _ => nb_0 h hp
  obtain ⟨i1, iB, iF, iR, iT⟩ := h
  obtain ⟨⟨p1, p2, p3, p4⟩, p5, p6, p7, p8, p9, pa⟩ := hp
  obtain ⟨hk, h6, ho, ⟨e2, e3, e4, e5⟩, en0, h00⟩ := hf
  have en : Unit → b - g 5 < g 4 - 2 → _ := fun _ => en0
  have h0 : Unit → _ := fun _ => h00
  clear en0 h00
  have hg : (2 ≤ g 4 ∧ g 4 ≤ 32 ∧ 2 * (g 4 / 2) = g 4) ∧ (0 ≤ g 5 ∧ g 3 = g 5 + g 4 - 1) ∧ (2 ≤ g 0 ∧ g 0 ≤ 3) ∧ (0 ≤ g 1 ∧ g 1 ≤ 24) ∧ g 8 ≤ 24 := by unfold I1 at i1; clear iB iF iR iT p5 p6 p7 p8 p9 pa; omega
  have ep2 : pB g = g 5 := by unfold pB; rw [if_neg (by omega)]
  have ep : pB g' = pB g := by unfold pB; rw [hk 4 (by omega) (by omega) (by omega), hk 3 (by omega) (by omega) (by omega), hk 5 (by omega) (by omega) (by omega)]
  have et : ∀ b', tgB g' b' = tgB g b' := fun b' => by unfold tgB; rw [ep]
  have hbb := iB b p1 p2
  have h0' : g' 0 = g 0 ∨ g' 0 = 3 := by rw [h0 ()]; split; exact Or.inl rfl; exact Or.inr rfl
  refine ⟨?_, fun b' q0 q1 => ?_, ?_, ?_, ?_⟩
  · clear hnb en h0 ho hbb p7 p8 p9 p5
    unfold I1 at i1 ⊢
    rw [h6]
    simp (disch := omega) only [hk]
    omega
  · rw [hk 3 (by omega) (by omega) (by omega)] at q1
    have hb' := iB b' q0 q1
    by_cases hb2 : b' = b
    · subst hb2
      have eo : ∀ w, 0 ≤ w → w < 10 → ¬ (w = 2 ∨ w = 3 ∨ w = 4 ∨ w = 5) → ga g' b' w = ga g b' w := fun w w0 w1 w2 => ho b' w q0 w0 w1 (by omega) (by intro q; have := hnb () q.1; omega)
      clear hnb en h0 ho h0'
      unfold IB at hb' ⊢
      rw [ep, et, h6, e2, e3, e4, e5]
      simp (disch := omega) only [eo, hk]
      omega
    · by_cases hb3 : b - g 5 < g 4 - 2 ∧ b' = g 5 + (g 4 + (b - g 5)) / 2
      · obtain ⟨hn0, -, -, -, -⟩ := hnb () hb3.1
        have en := en () hb3.1
        rw [← hb3.2] at hn0 en
        have eo : ∀ w, 0 ≤ w → w < 10 → ¬ (w = (b - g 5) % 2) → ga g' b' w = ga g b' w := fun w w0 w1 w2 => ho b' w q0 w0 w1 (by omega) (by omega)
        have hw : 0 ≤ ga g b s ∧ ga g b s < g 1 := by
          unfold IB at hbb
          rcases p7 with rfl | rfl
          · exact ⟨p6.1, by omega⟩
          · exact ⟨p6.2, by omega⟩
        have hs : (b - g 5) % 2 = 0 ∨ (b - g 5) % 2 = 1 := by omega
        clear hnb h0 ho h0' hbb
        have hc : pB g ≤ b' := by omega
        unfold IB at hb' ⊢
        rw [ep, et, h6]
        rcases hs with hs | hs
        · rw [hs] at en
          rw [en]
          simp (disch := omega) only [eo, hk]
          omega
        · rw [hs] at en
          rw [en]
          simp (disch := omega) only [eo, hk]
          omega
      · have eo : ∀ w, 0 ≤ w → w < 10 → ga g' b' w = ga g b' w := fun w w0 w1 => ho b' w q0 w0 w1 (by omega) (by omega)
        clear hnb en h0 ho h0' hbb
        unfold IB at hb' ⊢
        rw [ep, et, h6]
        simp (disch := omega) only [eo, hk]
        omega
  · exact IF_cg iF (hk 1 (by omega) (by omega) (by omega)) (by omega) (hk 2 (by omega) (by omega) (by omega)) (by omega) (fun k k0 k1 => hk k (by omega) (by omega) (by omega))
  · exact IRl_cg iR (fun k k0 k1 => hk k (by omega) (by omega) (by omega))
  · intro h4
    obtain ⟨t1, t2, t3⟩ := iT p4
    clear p5 p8 p9 pa hbb h6 e2 e3 h0' et ep ep2
    rw [hk 3 (by omega) (by omega) (by omega), hk 4 (by omega) (by omega) (by omega), hk 5 (by omega) (by omega) (by omega)]
    refine ⟨fun t s' q1 q2 q3 => ?_, ?_, fun t q1 q2 q3 => ?_⟩
    · by_cases hpb : g 5 + (2 * t - g 4 + s') = b
      · rw [hpb, e4, if_pos (Or.inl rfl), e5]
        have hlt : b - g 5 < g 4 - 2 := by omega
        have e1 : g 5 + t = g 5 + (g 4 + (b - g 5)) / 2 := by omega
        have e2' : s' = (b - g 5) % 2 := by omega
        rw [e1, e2', en () hlt]
        have hnb2 := hnb () hlt
        refine (ho b s p1 (by omega) (by omega) ?_ ?_).symm
        · rcases p7 with rfl | rfl <;> omega
        · intro q; omega
      · have q4 : 0 ≤ g 5 + (2 * t - g 4 + s') ∧ g 5 + (2 * t - g 4 + s') < g 3 := by omega
        have hne : ¬ (b - g 5 < g 4 - 2 ∧ g 5 + t = g 5 + (g 4 + (b - g 5)) / 2 ∧ s' = (b - g 5) % 2) := by omega
        rw [ho (g 5 + t) s' (by omega) (by omega) (by omega) (by rintro ⟨-, q⟩; omega) hne, t1 t s' q1 q2 q3]
        have hsd : ¬ (4 = (b - g 5) % 2) ∧ ¬ (5 = (b - g 5) % 2) := by clear ho t1 t2 t3 iB iF hk q3; omega
        rw [ho _ 4 q4.1 (by decide) (by decide) (fun q => hpb q.1) (fun q => hsd.1 q.2.2), ho _ 5 q4.1 (by decide) (by decide) (fun q => hpb q.1) (fun q => hsd.2 q.2.2)]
        by_cases h24 : ga g (g 5 + (2 * t - g 4 + s')) 4 = 2 ∨ ga g (g 5 + (2 * t - g 4 + s')) 4 = 4
        · rw [if_pos h24, if_pos h24]
          have hb' := iB _ q4.1 q4.2
          unfold IB at hb'
          have h5 : 0 ≤ ga g (g 5 + (2 * t - g 4 + s')) 5 ∧ ga g (g 5 + (2 * t - g 4 + s')) 5 ≤ 1 := by omega
          refine (ho _ _ q4.1 h5.1 (by omega) (fun q => hpb q.1) ?_).symm
          intro q
          have := (hnb () q.1).1
          rw [← q.2.1] at this
          omega
        · rw [if_neg h24, if_neg h24]
    · rw [h0 ()]
      by_cases hlt : b - g 5 < g 4 - 2
      · rw [if_pos hlt, ho (g 3 - 1) 4 (by omega) (by omega) (by omega) (by omega) (by omega)]
        exact t2
      · rw [if_neg hlt, show g 3 - 1 = b by omega, e4]
        exact ⟨fun _ => rfl, fun _ => rfl⟩
    · by_cases hb2 : g 5 + t = b
      · rw [hb2, e4] at q3; omega
      · rw [ho _ 4 (by omega) (by omega) (by omega) (by omega) (by omega)] at q3
        exact t3 t q1 q2 q3
/-- the class's cells once side s has won the table's bout b -/
def FinC (c c' : Cs) (g g' : Gs) (b s x y : Int) : Prop :=
  (∀ C k, ¬ (C = 2 ∧ k = 0) → ¬ (C = 2 ∧ k = 2) → ¬ (C = 10) → ¬ (C = 20 ∧ (k = 2 * b ∨ k = 2 * b + 1)) → ¬ ((C = 21 ∨ C = 22) ∧ k = b) → ¬ (C = 26 ∧ k = ga g b (1 - s)) → ¬ (b - g 5 < g 4 - 2 ∧ C = 19 ∧ k = 2 * (g 5 + (g 4 + (b - g 5)) / 2) + (b - g 5) % 2) → c' C k = c C k) ∧
  c' 2 0 = g' 0 ∧ c' 2 2 = -1 ∧ c' 20 (2 * b) = x ∧ c' 20 (2 * b + 1) = y ∧ c' 21 b = 2 ∧ c' 22 b = ga g b s ∧ c' 26 (ga g b (1 - s)) = ga g b 7 - 100 ∧ (b - g 5 < g 4 - 2 → c' 19 (2 * (g 5 + (g 4 + (b - g 5)) / 2) + (b - g 5) % 2) = ga g b s)
theorem RV_fin (hi : IV g) (h : RV N c g) (hp : FinP g b s x y) (hf : FinG g g' b s x y) (hc : FinC c c' g g' b s x y) : RV N c' g' := by
  have hnb : Unit → b - g 5 < g 4 - 2 → _ := fun _ => nb_0 hi hp
  obtain ⟨i1, iB, iF, iR, iT⟩ := hi
  obtain ⟨⟨p1, p2, p3, p4⟩, p5, p6, p7, p8, p9, pa⟩ := hp
  obtain ⟨hk, h6, ho, ⟨e2, e3, e4, e5⟩, en0, h00⟩ := hf
  have en : Unit → b - g 5 < g 4 - 2 → _ := fun _ => en0
  have h0 : Unit → _ := fun _ => h00
  clear en0 h00
  obtain ⟨kc, c20, c22, ca, cb, cc, cd, ce, cf0⟩ := hc
  have cf : Unit → b - g 5 < g 4 - 2 → _ := fun _ => cf0
  clear cf0
  obtain ⟨r1, r2, r3, r4, r5, r6, r7⟩ := h
  have hg : (2 ≤ g 4 ∧ g 4 ≤ 32 ∧ 2 * (g 4 / 2) = g 4) ∧ (0 ≤ g 5 ∧ g 3 = g 5 + g 4 - 1) ∧ (2 ≤ g 0 ∧ g 0 ≤ 3) ∧ (0 ≤ g 1 ∧ g 1 ≤ 24) ∧ g 8 ≤ 24 := by unfold I1 at i1; clear iB iF iR iT p5 p6 p7 p8 p9 pa; omega
  have ep2 : pB g = g 5 := by unfold pB; rw [if_neg (by omega)]
  have ep : pB g' = pB g := by unfold pB; rw [hk 4 (by omega) (by omega) (by omega), hk 3 (by omega) (by omega) (by omega), hk 5 (by omega) (by omega) (by omega)]
  have h0' : g' 0 = g 0 ∨ g' 0 = 3 := by rw [h0 ()]; split; exact Or.inl rfl; exact Or.inr rfl
  have kc2 : ∀ C k, ¬ C = 2 → ¬ (10 ≤ C ∧ C ≤ 10) → ¬ (19 ≤ C ∧ C ≤ 22) → C ≠ 26 → c' C k = c C k := fun C k a1 a2 a3 a4 => kc C k (by omega) (by omega) (by omega) (by omega) (by omega) (by omega) (by omega)
  refine ⟨?_, ?_, fun b' q0 q1 => ?_, ?_, ?_, fun q => by rw [h6] at q; omega, ?_⟩
  · unfold R1 at r1 ⊢
    rw [ep, c20, c22, h6, kc 2 1 (by omega) (by omega) (by omega) (by omega) (by omega) (by omega) (by omega)]
    clear hnb en h0 cf kc
    simp (disch := omega) only [hk, kc2, true_and]
    omega
  · exact R2_cg r2 (hk 1 (by omega) (by omega) (by omega)) (by omega) (fun k k0 k1 => hk k (by omega) (by omega) (by omega)) (fun C k q0 q1 => kc2 C k (by omega) (by omega) (by omega) (by omega))
  · rw [hk 3 (by omega) (by omega) (by omega)] at q1
    have hb' := r3 b' q0 q1
    have hi' := iB b' q0 q1
    unfold R3b at hb' ⊢
    rw [kc2 23 b' (by omega) (by omega) (by omega) (by omega), kc2 24 b' (by omega) (by omega) (by omega) (by omega)]
    by_cases hb2 : b' = b
    · subst hb2
      have eo : ∀ w, 0 ≤ w → w < 10 → ¬ (w = 2 ∨ w = 3 ∨ w = 4 ∨ w = 5) → ga g' b' w = ga g b' w := fun w w0 w1 w2 => ho b' w q0 w0 w1 (by omega) (by intro q; have := hnb () q.1; omega)
      rw [ca, cb, cc, cd, e2, e3, e4, e5, if_neg (by omega), eo s (by omega) (by omega) (by omega), eo 0 (by omega) (by omega) (by omega), eo 1 (by omega) (by omega) (by omega), eo 6 (by omega) (by omega) (by omega), eo 7 (by omega) (by omega) (by omega)]
      rw [kc 19 (2 * b') (by omega) (by omega) (by omega) (by omega) (by omega) (by omega) (by intro q; have := hnb () q.1; omega), kc 19 (2 * b' + 1) (by omega) (by omega) (by omega) (by omega) (by omega) (by omega) (by intro q; have := hnb () q.1; omega)]
      exact ⟨hb'.1, hb'.2.1, rfl, rfl, rfl, rfl, hb'.2.2.2.2.2.2.1, hb'.2.2.2.2.2.2.2⟩
    · rw [kc 20 (2 * b') (by omega) (by omega) (by omega) (by omega) (by omega) (by omega) (by omega), kc 20 (2 * b' + 1) (by omega) (by omega) (by omega) (by omega) (by omega) (by omega) (by omega), kc 21 b' (by omega) (by omega) (by omega) (by omega) (by omega) (by omega) (by omega), kc 22 b' (by omega) (by omega) (by omega) (by omega) (by omega) (by omega) (by omega)]
      by_cases hb3 : b - g 5 < g 4 - 2 ∧ b' = g 5 + (g 4 + (b - g 5)) / 2
      · obtain ⟨hn0, -, -, -, -⟩ := hnb () hb3.1
        have en := en () hb3.1
        have cf := cf () hb3.1
        rw [← hb3.2] at hn0 en cf
        have eo : ∀ w, 0 ≤ w → w < 10 → ¬ (w = (b - g 5) % 2) → ga g' b' w = ga g b' w := fun w w0 w1 w2 => ho b' w q0 w0 w1 (by omega) (by omega)
        have h5 : ga g b' 5 = -1 := by unfold IB at hi'; omega
        have hs : (b - g 5) % 2 = 0 ∨ (b - g 5) % 2 = 1 := by omega
        rw [eo 2 (by omega) (by omega) (by omega), eo 3 (by omega) (by omega) (by omega), eo 4 (by omega) (by omega) (by omega), eo 5 (by omega) (by omega) (by omega), eo 6 (by omega) (by omega) (by omega), eo 7 (by omega) (by omega) (by omega), h5, if_pos (by omega)]
        rw [h5, if_pos (by omega)] at hb'
        rcases hs with hs | hs
        · rw [hs] at en cf
          rw [Int.add_zero] at cf
          rw [en, cf, eo 1 (by omega) (by omega) (by omega), kc 19 (2 * b' + 1) (by omega) (by omega) (by omega) (by omega) (by omega) (by omega) (by omega)]
          exact ⟨rfl, hb'.2⟩
        · rw [hs] at en cf
          rw [en, cf, eo 0 (by omega) (by omega) (by omega), kc 19 (2 * b') (by omega) (by omega) (by omega) (by omega) (by omega) (by omega) (by omega)]
          exact ⟨hb'.1, rfl, hb'.2.2⟩
      · have eo : ∀ w, 0 ≤ w → w < 10 → ga g' b' w = ga g b' w := fun w w0 w1 => ho b' w q0 w0 w1 (by omega) (by omega)
        rw [kc 19 (2 * b') (by omega) (by omega) (by omega) (by omega) (by omega) (by omega) (by omega), kc 19 (2 * b' + 1) (by omega) (by omega) (by omega) (by omega) (by omega) (by omega) (by omega)]
        rw [eo 0 (by omega) (by omega), eo 1 (by omega) (by omega), eo 2 (by omega) (by omega), eo 3 (by omega) (by omega), eo 4 (by omega) (by omega), eo 5 (by omega) (by omega), eo 6 (by omega) (by omega), eo 7 (by omega) (by omega)]
        by_cases h5 : ga g b' 5 < 0
        · rw [if_pos h5] at hb' ⊢
          exact hb'
        · rw [if_neg h5] at hb' ⊢
          have h5' : ga g b' 5 ≤ 1 := by unfold IB at hi'; omega
          rw [eo (ga g b' 5) (by omega) (by omega)]
          exact hb'
  · exact R4_cg r4 (by omega) (hk 1 (by omega) (by omega) (by omega)) (hk 2 (by omega) (by omega) (by omega)) (by omega) (fun q f f0 f1 => (iF f f0 f1).2.2.2.2 q) (fun k k0 k1 => hk k (by omega) (by omega) (by omega)) (fun C k q0 q1 => kc2 C k (by omega) (by omega) (by omega) (by omega))
  · have el : ∀ f b', lstB g' f b' ↔ (lstB g f b' ∨ (b' = b ∧ f = ga g b (1 - s))) := fun f b' => by
      unfold lstB
      rw [hk 3 (by omega) (by omega) (by omega), hk 5 (by omega) (by omega) (by omega)]
      by_cases hb2 : b' = b
      · rw [hb2, e4, e5]
        have hns : 0 ≤ 1 - s ∧ 1 - s ≤ 1 := by omega
        rw [ho b (1 - s) p1 hns.1 (by omega) (by omega) (by intro q; have := hnb () q.1; omega)]
        constructor
        · intro h; exact Or.inr ⟨rfl, h.2.2.2.symm⟩
        · rintro (h | h)
          · omega
          · exact ⟨by omega, by omega, rfl, h.2.symm⟩
      · by_cases q : g 5 ≤ b' ∧ b' < g 3
        · have hi' := iB b' (by omega) q.2
          have h5 : ga g b' 4 = 2 → 0 ≤ ga g b' 5 ∧ ga g b' 5 ≤ 1 := by unfold IB at hi'; omega
          rw [ho b' 4 (by omega) (by omega) (by omega) (by omega) (by omega), ho b' 5 (by omega) (by omega) (by omega) (by omega) (by omega)]
          by_cases q2 : ga g b' 4 = 2
          · have h5 := h5 q2
            rw [ho b' (1 - ga g b' 5) (by omega) (by omega) (by omega) (by omega) (by intro q3; have := (hnb () q3.1).1; rw [← q3.2.1] at this; omega)]
            constructor
            · intro h; exact Or.inl h
            · rintro (h | h)
              · exact h
              · exact absurd h.1 hb2
          · constructor
            · intro h; exact absurd h.2.2.1 q2
            · rintro (h | h)
              · exact absurd h.2.2.1 q2
              · exact absurd h.1 hb2
        · constructor
          · intro h; exact absurd ⟨h.1, h.2.1⟩ q
          · rintro (h | h)
            · exact absurd ⟨h.1, h.2.1⟩ q
            · exact absurd h.1 hb2
    have e7 : ∀ b', 0 ≤ b' → ga g' b' 7 = ga g b' 7 := fun b' q => ho b' 7 q (by omega) (by omega) (by omega) (by omega)
    refine ⟨fun i q0 q1 => ?_, fun q f q0 q1 => ?_⟩
    · rw [hk 8 (by omega) (by omega) (by omega)] at q1
      rw [kc2 25 i (by omega) (by omega) (by omega) (by omega), hk _ (by omega) (by omega) (by omega)]
      exact r5.1 i q0 q1
    · by_cases hfl : f = ga g b (1 - s)
      · refine Or.inr ⟨b, (el f b).mpr (Or.inr ⟨rfl, hfl⟩), ?_⟩
        rw [hfl, ce, e7 b p1]
      · rw [kc 26 f (by omega) (by omega) (by omega) (by omega) (by omega) (by omega) (by omega)]
        rcases r5.2 p4 f q0 q1 with ⟨a1, a2⟩ | ⟨b', a1, a2⟩
        · refine Or.inl ⟨a1, fun b' hb' => ?_⟩
          rcases (el f b').mp hb' with h | h
          · exact a2 b' h
          · exact hfl h.2
        · exact Or.inr ⟨b', (el f b').mpr (Or.inl a1), by rw [e7 b' (by have := a1.1; omega)]; exact a2⟩
  · exact R7_cg r7 (fun k k0 k1 => hk k (by omega) (by omega) (by omega)) (fun C k q => kc2 C k (by omega) (by omega) (by omega) (by omega))
end Fin
