/-! Save, restore, undo, the seed. -/
section Back
variable {N : Int} {σ a b : Mem} {c c' : Cs} {g g' : Gs}
/-- changes of small numbers alone: the seed, the relay -/
theorem IV_sm (h : IV g) (e : ∀ k, k ≠ 7 → ¬ (9 ≤ k ∧ k < 30) → g' k = g k) (h7 : 0 ≤ g' 7 ∧ g' 7 ≤ 2147483647) (hR : IRl g') : IV g' := by
  obtain ⟨i1, iB, iF, iR, iT⟩ := h
  have e3 := e 3 (by decide) (by decide)
  have e4 := e 4 (by decide) (by decide)
  have e5 := e 5 (by decide) (by decide)
  have ep : pB g' = pB g := by unfold pB; rw [e4, e3, e5]
  have et : ∀ b, tgB g' b = tgB g b := fun b => by unfold tgB; rw [ep]
  have ea : ∀ b w, 0 ≤ b → 0 ≤ w → ga g' b w = ga g b w := fun b w q0 q1 => e _ (by omega) (by omega)
  have b1 : g 1 ≤ 24 := by unfold I1 at i1; omega
  refine ⟨?_, fun b q0 q1 => ?_, ?_, hR, fun h4 => ?_⟩
  · unfold I1 at i1 ⊢
    rw [e 0 (by decide) (by decide), e 1 (by decide) (by decide), e 2 (by decide) (by decide), e3, e4, e5, e 6 (by decide) (by decide), e 8 (by decide) (by decide)]
    omega
  · rw [e3] at q1
    have hb := iB b q0 q1
    unfold IB at hb ⊢
    rw [ea b 0 q0 (by decide), ea b 1 q0 (by decide), ea b 2 q0 (by decide), ea b 3 q0 (by decide), ea b 4 q0 (by decide), ea b 5 q0 (by decide), ea b 6 q0 (by decide), ea b 7 q0 (by decide), ea b 8 q0 (by decide), ea b 9 q0 (by decide), e 1 (by decide) (by decide), e 2 (by decide) (by decide), e4, e5, e 6 (by decide) (by decide), ep, et]
    exact hb
  · exact IF_cg iF (e 1 (by decide) (by decide)) b1 (e 2 (by decide) (by decide)) (by rw [e 0 (by decide) (by decide)]; exact ⟨id, id⟩) (fun k k0 k1 => e k (by omega) (by omega))
  · rw [e4] at h4
    obtain ⟨t1, t2, t3⟩ := iT h4
    have hg : (0 ≤ g 5 ∧ g 3 = g 5 + g 4 - 1) ∧ 2 ≤ g 4 := by unfold I1 at i1; omega
    clear i1
    rw [e 0 (by decide) (by decide), e3, e4, e5]
    refine ⟨fun t s q1 q2 q3 => ?_, ?_, fun t q1 q2 q3 => ?_⟩
    · have r : 0 ≤ g 5 + (2 * t - g 4 + s) ∧ g 5 + (2 * t - g 4 + s) < g 3 := by omega
      rw [ea (g 5 + t) s (by omega) (by omega), t1 t s q1 q2 q3, ea _ 4 r.1 (by decide), ea _ 5 r.1 (by decide)]
      by_cases h24 : ga g (g 5 + (2 * t - g 4 + s)) 4 = 2 ∨ ga g (g 5 + (2 * t - g 4 + s)) 4 = 4
      · rw [if_pos h24, if_pos h24]
        have hb := iB _ r.1 r.2
        have h5 : 0 ≤ ga g (g 5 + (2 * t - g 4 + s)) 5 := by unfold IB at hb; omega
        rw [ea _ _ r.1 h5]
      · rw [if_neg h24, if_neg h24]
    · rw [ea (g 3 - 1) 4 (by omega) (by decide)]; exact t2
    · rw [ea (g 5 + t) 4 (by omega) (by decide)] at q3
      exact t3 t q1 q2 q3
theorem RV_sm (hi : IV g) (h : RV N c g) (e : ∀ k, k ≠ 7 → ¬ (9 ≤ k ∧ k < 30) → g' k = g k) (ec : ∀ C k, ¬ (C = 2 ∧ k = 1) → C ≠ 4 → C ≠ 27 → c' C k = c C k) (h21 : c' 2 1 = g' 7) (h7 : R7 c' g') : RV N c' g' := by
  obtain ⟨i1, iB, iF, iR, iT⟩ := hi
  obtain ⟨r1, r2, r3, r4, r5, r6, r7⟩ := h
  have b1 : g 1 ≤ 24 ∧ g 8 ≤ 24 ∧ (0 < g 4 → 0 ≤ g 5) := by unfold I1 at i1; omega
  have e3 := e 3 (by decide) (by decide)
  have e4 := e 4 (by decide) (by decide)
  have e5 := e 5 (by decide) (by decide)
  have e6 := e 6 (by decide) (by decide)
  have ep : pB g' = pB g := by unfold pB; rw [e4, e3, e5]
  have ea : ∀ b w, 0 ≤ b → 0 ≤ w → ga g' b w = ga g b w := fun b w q0 q1 => e _ (by omega) (by omega)
  clear i1
  refine ⟨?_, ?_, fun b q0 q1 => ?_, ?_, ?_, fun q => ?_, h7⟩
  · unfold R1 at r1 ⊢
    rw [ep, h21, e3, e4, e6, e 0 (by decide) (by decide), e 1 (by decide) (by decide), e 2 (by decide) (by decide), e 8 (by decide) (by decide), ec 2 0 (by decide) (by decide) (by decide), ec 2 2 (by decide) (by decide) (by decide), ec 6 0 (by decide) (by decide) (by decide), ec 3 0 (by decide) (by decide) (by decide), ec 0 0 (by decide) (by decide) (by decide), ec 0 1 (by decide) (by decide) (by decide), ec 9 0 (by decide) (by decide) (by decide), ec 9 1 (by decide) (by decide) (by decide)]
    exact ⟨r1.1, rfl, r1.2.2⟩
  · exact R2_cg r2 (e 1 (by decide) (by decide)) b1.1 (fun k k0 k1 => e k (by omega) (by omega)) (fun C k q0 q1 => ec C k (by omega) (by omega) (by omega))
  · rw [e3] at q1
    have hb := r3 b q0 q1
    unfold R3b at hb ⊢
    rw [ec 19 _ (by omega) (by decide) (by decide), ec 19 _ (by omega) (by decide) (by decide), ec 20 _ (by omega) (by decide) (by decide), ec 20 _ (by omega) (by decide) (by decide), ec 21 _ (by omega) (by decide) (by decide), ec 22 _ (by omega) (by decide) (by decide), ec 23 _ (by omega) (by decide) (by decide), ec 24 _ (by omega) (by decide) (by decide)]
    rw [ea b 0 q0 (by decide), ea b 1 q0 (by decide), ea b 2 q0 (by decide), ea b 3 q0 (by decide), ea b 4 q0 (by decide), ea b 5 q0 (by decide), ea b 6 q0 (by decide), ea b 7 q0 (by decide)]
    by_cases h5 : ga g b 5 < 0
    · rw [if_pos h5] at hb ⊢; exact hb
    · rw [if_neg h5] at hb ⊢
      rw [ea b (ga g b 5) q0 (by omega)]
      exact hb
  · exact R4_cg r4 (by rw [e 0 (by decide) (by decide)]; exact id) (e 1 (by decide) (by decide)) (e 2 (by decide) (by decide)) b1.1 (fun q f f0 f1 => (iF f f0 f1).2.2.2.2 q) (fun k k0 k1 => e k (by omega) (by omega)) (fun C k q0 q1 => ec C k (by omega) (by omega) (by omega))
  · refine R5_cg r5 (e 8 (by decide) (by decide)) b1.2.1 (by rw [e4]; exact id) (fun k k0 k1 => e k (by omega) (by omega)) (fun C k q0 q1 => ec C k (by omega) (by omega) (by omega)) (fun q f b => ?_) (fun q f b hl => ?_)
    · rw [e4] at q
      have h5 := b1.2.2 q
      unfold lstB
      rw [e3, e5]
      by_cases hr : g 5 ≤ b ∧ b < g 3
      · rw [ea b 4 (by omega) (by decide), ea b 5 (by omega) (by decide)]
        by_cases h2 : ga g b 4 = 2
        · have hi := iB b (by omega) hr.2
          have h51 : ga g b 5 ≤ 1 := by unfold IB at hi; omega
          rw [ea b (1 - ga g b 5) (by omega) (by omega)]
        · constructor
          · intro h; exact absurd h.2.2.1 h2
          · intro h; exact absurd h.2.2.1 h2
      · constructor
        · intro h; exact absurd ⟨h.1, h.2.1⟩ hr
        · intro h; exact absurd ⟨h.1, h.2.1⟩ hr
    · rw [e4] at q
      have h5 := b1.2.2 q
      have := hl.1
      exact ea b 7 (by omega) (by decide)
  · rw [e6] at q ⊢
    rw [ea _ 8 q (by decide), ea _ 9 q (by decide), ec 10 0 (by decide) (by decide) (by decide), ec 10 1 (by decide) (by decide) (by decide)]
    exact r6 q
theorem IX_sm (hi : IV g) (h : IX g) (e : ∀ k, k ≠ 7 → ¬ (9 ≤ k ∧ k < 30) → g' k = g k) : IX g' := by
  have i1 := hi.1
  have b3 : 0 < g 4 → 0 ≤ g 5 := by unfold I1 at i1; omega
  have ep : pB g' = pB g := by unfold pB; rw [e 3 (by decide) (by decide), e 4 (by decide) (by decide), e 5 (by decide) (by decide)]
  clear i1
  exact IX_fr hi h (e 1 (by decide) (by decide)) (e 4 (by decide) (by decide)) (fun _ => e 5 (by decide) (by decide)) (e 8 (by decide) (by decide)) ep (fun k k0 k1 => e k (by omega) (by omega)) (fun f w f0 f1 hw => e _ (by omega) (by omega)) (fun b s b0 b1 hs => e _ (by omega) (by omega)) (fun q p p0 p1 => e _ (by have := b3 q; omega) (by have := b3 q; omega))
/-- a call without an answer -/
def Cav (N : Int) (k : Nat) (As : List AV) (o : Out) (a : Mem) (cd : Nat → Int) : Prop := ∃ F, Ev true k As a (.inl none) F ∧ J N F F ∧ ((o = .inl none ∧ F 11 0 6 = 0) ∨ ∃ E, o = .inr E ∧ F 11 0 6 = cd E ∧ 0 < cd E)
theorem ca_save (h : J N σ σ) : ∃ F, Ev true 162 [aR 11 0] (zm_xsave σ) (.inl none) F ∧ J N F F := by
  refine ⟨_, ev_ysave (zm_xsave σ), ?_⟩
  obtain ⟨j0, ⟨h1, h2, h3, h4⟩, ⟨s1, s2, s3⟩, ⟨t1, t2, t3, t4, t5⟩, jl⟩ := h
  obtain ⟨hc, -⟩ := CpP_of j0 (by decide)
  have hx : ∀ C r k, ¬ (C = 10 ∧ k = 2) → ¬ ((C = 0 ∨ C = 2 ∨ C = 3 ∨ C = 4 ∨ C = 6 ∨ C = 9) ∧ r = 1) → ¬ (C = 13 ∧ 18 ≤ r ∧ r < 36) → zm_xsave σ C r k = σ C r k := fun C r k q1 q2 q3 => by
    unfold zm_xsave
    rw [up_o (by omega), mcopy_o (by decide) hc (by omega) (by omega)]
  have hF : ∀ C r k, ¬ (C = 11 ∧ (k = 2 ∨ k = 6)) → ¬ (C = 13 ∧ r = 187) → zm_ysave (zm_xsave σ) C r k = zm_xsave σ C r k := fun C r k q1 q2 => by
    unfold zm_ysave cpM
    rw [if_neg (by omega), up_o (by omega), up_o (by omega)]
  have e : ∀ C r k, ¬ (C = 10 ∧ k = 2) → ¬ ((C = 0 ∨ C = 2 ∨ C = 3 ∨ C = 4 ∨ C = 6 ∨ C = 9) ∧ r = 1) → ¬ (C = 13 ∧ 18 ≤ r ∧ r < 36) → ¬ (C = 11 ∧ (k = 2 ∨ k = 6)) → ¬ (C = 13 ∧ r = 187) → zm_ysave (zm_xsave σ) C r k = σ C r k := fun C r k q1 q2 q3 q4 q5 => by rw [hF C r k q4 q5, hx C r k q1 q2 q3]
  have ecv : ∀ m, 0 ≤ m → m < 10 → m ≠ 1 → ∀ C k, ownK C → cv (zm_ysave (zm_xsave σ)) m C k = cv σ m C k := fun m m0 m2 m1 C k q => by
    unfold ownK at q
    unfold cv
    by_cases hC : C < 10
    · rw [if_pos hC, if_pos hC]; exact e _ _ _ (by omega) (by omega) (by omega) (by omega) (by omega)
    · rw [if_neg hC, if_neg hC]; exact e _ _ _ (by omega) (by omega) (by omega) (by omega) (by omega)
  have e186 : (zm_ysave (zm_xsave σ)) 13 186 = σ 13 186 := funext fun k => e _ _ _ (by omega) (by omega) (by omega) (by omega) (by omega)
  have e188 : (zm_ysave (zm_xsave σ)) 13 188 = σ 13 188 := funext fun k => e _ _ _ (by omega) (by omega) (by omega) (by omega) (by omega)
  have e11 : ∀ k, k ≠ 2 → k ≠ 6 → (zm_ysave (zm_xsave σ)) 11 0 k = σ 11 0 k := fun k q1 q2 => e _ _ _ (by omega) (by omega) (by omega) (by omega) (by omega)
  have eo : ∀ C k, C = 1 ∨ C = 5 → (zm_ysave (zm_xsave σ)) C 0 k = σ C 0 k := fun C k q => e _ _ _ (by omega) (by omega) (by omega) (by omega) (by omega)
  have e2 : (zm_ysave (zm_xsave σ)) 11 0 2 = 1 := by
    unfold zm_ysave cpM
    rw [if_neg (by omega), up_s]
  have e10 : (zm_ysave (zm_xsave σ)) 10 0 2 = 1 := by
    rw [hF _ _ _ (by omega) (by omega)]
    unfold zm_xsave
    exact up_s _ _ _ _ _
  refine ⟨?_, ⟨?_, ?_, ?_, fun i i0 i1 => ?_⟩, ⟨?_, ?_, fun q => ?_⟩, ⟨?_, ?_, ?_, fun i i0 i1 => ?_, ?_⟩, fun j j0 j1 => ?_⟩
  · rw [e186]; exact KP_c j0 (ecv 0 (by decide) (by decide) (by decide))
  · rw [eo 1 1 (by decide)]; exact h1
  · rw [eo 1 2 (by decide)]; exact h2
  · rw [eo 1 2 (by decide), e11 4 (by decide) (by decide)]; exact h3
  · rw [eo 1 2 (by decide)] at i1
    rw [eo 1 1 (by decide), e188]
    exact KP_c (h4 i i0 i1) (ecv _ (by omega) (by omega) (by omega))
  · rw [e2, e10]
  · exact Or.inr e2
  · refine KP_g (g := σ 13 186) (KP_c (KP_copy (m := 1) (q := 0) (by decide) (by decide) (by decide) j0) (fun C k q => ?_)) (fun k k0 k1 => ?_)
    · unfold ownK at q
      unfold cv
      by_cases hC : C < 10
      · rw [if_pos hC, if_pos hC, hF _ _ _ (by omega) (by omega)]
        unfold zm_xsave
        exact up_o (by omega)
      · rw [if_neg hC, if_neg hC, hF _ _ _ (by omega) (by omega)]
        unfold zm_xsave
        exact up_o (by omega)
    · show cpM _ _ _ _ _ _ 13 187 k = _
      unfold cpM
      rw [if_pos (by omega), up_o (by omega), up_o (by omega), hx _ _ _ (by omega) (by omega) (by omega)]
      congr 1
      omega
  · rw [e 10 0 6 (by omega) (by omega) (by omega) (by omega) (by omega), e11 5 (by decide) (by decide)]; exact t1
  · rw [eo 5 1 (by decide), e11 10 (by decide) (by decide)]; exact t2
  · rw [eo 5 1 (by decide)]; exact t3
  · rw [eo 5 1 (by decide)] at i1
    rw [e 12 0 i (by omega) (by omega) (by omega) (by omega) (by omega), e 13 191 i (by omega) (by omega) (by omega) (by omega) (by omega)]
    exact t4 i i0 i1
  · rw [eo 5 2 (by decide), e11 13 (by decide) (by decide)]; exact t5
  · rw [e 18 0 j (by omega) (by omega) (by omega) (by omega) (by omega), e 18 1 j (by omega) (by omega) (by omega) (by omega) (by omega)]; exact jl j j0 j1
/-- the meet of before comes back: meet 0 from meet q, the numbers from g, with n kept -/
theorem J_back {q n : Int} {a F : Mem} (h : J N σ σ) (hq : 1 ≤ q ∧ q < 10) (hk : KP N (cv σ q) g) (hn : 0 ≤ n ∧ n ≤ σ 1 0 2) (ha : ∀ C r k, ¬ (C = 1 ∧ k = 2) → a C r k = zm_mcopy 0 q σ C r k) (ha2 : a 1 0 2 = n) (hF : ∀ C r k, ¬ (C = 11 ∧ (k = 4 ∨ k = 6)) → ¬ (C = 13 ∧ r = 186) → F C r k = a C r k) (hF4 : F 11 0 4 = n) (hFg : ∀ k, 0 ≤ k → k < 3330 → F 13 186 k = g k) : J N F F := by
  obtain ⟨j0, ⟨h1, h2, h3, h4⟩, ⟨s1, s2, s3⟩, ⟨t1, t2, t3, t4, t5⟩, jl⟩ := h
  obtain ⟨hc, -⟩ := CpP_of hk (by omega)
  have e : ∀ C r k, ¬ (C = 1 ∧ k = 2) → ¬ ((C = 0 ∨ C = 2 ∨ C = 3 ∨ C = 4 ∨ C = 6 ∨ C = 9) ∧ r = 0) → ¬ (C = 13 ∧ 0 ≤ r ∧ r < 18) → ¬ (C = 11 ∧ (k = 4 ∨ k = 6)) → ¬ (C = 13 ∧ r = 186) → F C r k = σ C r k := fun C r k q1 q2 q3 q4 q5 => by rw [hF C r k q4 q5, ha C r k q1, mcopy_o (by omega) hc (by omega) (by omega)]
  have ecv : ∀ m, 1 ≤ m → m < 10 → ∀ C k, ownK C → cv F m C k = cv σ m C k := fun m m0 m2 C k q => by
    unfold ownK at q
    unfold cv
    by_cases hC : C < 10
    · rw [if_pos hC, if_pos hC]; exact e _ _ _ (by omega) (by omega) (by omega) (by omega) (by omega)
    · rw [if_neg hC, if_neg hC]; exact e _ _ _ (by omega) (by omega) (by omega) (by omega) (by omega)
  have ecv0 : ∀ C k, ownK C → cv F 0 C k = cv (zm_mcopy 0 q σ) 0 C k := fun C k q => by
    unfold ownK at q
    unfold cv
    by_cases hC : C < 10
    · rw [if_pos hC, if_pos hC, hF _ _ _ (by omega) (by omega)]; exact ha _ _ _ (by omega)
    · rw [if_neg hC, if_neg hC, hF _ _ _ (by omega) (by omega)]; exact ha _ _ _ (by omega)
  have e187 : F 13 187 = σ 13 187 := funext fun k => e _ _ _ (by omega) (by omega) (by omega) (by omega) (by omega)
  have e188 : F 13 188 = σ 13 188 := funext fun k => e _ _ _ (by omega) (by omega) (by omega) (by omega) (by omega)
  have e11 : ∀ k, k ≠ 4 → k ≠ 6 → F 11 0 k = σ 11 0 k := fun k q1 q2 => e _ _ _ (by omega) (by omega) (by omega) (by omega) (by omega)
  have e5 : ∀ k, F 5 0 k = σ 5 0 k := fun k => e _ _ _ (by omega) (by omega) (by omega) (by omega) (by omega)
  have e10 : ∀ k, F 10 0 k = σ 10 0 k := fun k => e _ _ _ (by omega) (by omega) (by omega) (by omega) (by omega)
  have e12 : F 1 0 2 = n := by rw [hF _ _ _ (by omega) (by omega)]; exact ha2
  have e111 : F 1 0 1 = σ 1 0 1 := e _ _ _ (by omega) (by omega) (by omega) (by omega) (by omega)
  refine ⟨?_, ⟨?_, ?_, ?_, fun i i0 i1 => ?_⟩, ⟨?_, ?_, fun q => ?_⟩, ⟨?_, ?_, ?_, fun i i0 i1 => ?_, ?_⟩, fun j j0 j1 => ?_⟩
  · exact KP_g (KP_c (KP_copy (by omega) (by decide) (by omega) hk) ecv0) hFg
  · rw [e111]; exact h1
  · rw [e12]; omega
  · rw [e12, hF4]
  · rw [e12] at i1
    rw [e111, e188]
    exact KP_c (h4 i i0 (by omega)) (ecv _ (by omega) (by omega))
  · rw [e10, e11 2 (by decide) (by decide)]; exact s1
  · rw [e11 2 (by decide) (by decide)]; exact s2
  · rw [e11 2 (by decide) (by decide)] at q
    rw [e187]
    exact KP_c (s3 q) (ecv 1 (by decide) (by decide))
  · rw [e10, e11 5 (by decide) (by decide)]; exact t1
  · rw [e5, e11 10 (by decide) (by decide)]; exact t2
  · rw [e5]; exact t3
  · rw [e5] at i1
    rw [e 12 0 i (by omega) (by omega) (by omega) (by omega) (by omega), e 13 191 i (by omega) (by omega) (by omega) (by omega) (by omega)]
    exact t4 i i0 i1
  · rw [e5, e11 13 (by decide) (by decide)]; exact t5
  · rw [e 18 0 j (by omega) (by omega) (by omega) (by omega) (by omega), e 18 1 j (by omega) (by omega) (by omega) (by omega) (by omega)]; exact jl j j0 j1
theorem ca_restore (h : J N σ σ) : Cav N 163 [aR 11 0] (zo_xrestore σ) (zm_xrestore σ) (fun _ => 1) := by
  have hs := h.2.2.1
  refine ⟨_, ev_yrestore (zm_xrestore σ), ?_⟩
  unfold zo_xrestore zm_xrestore
  rw [hs.1]
  by_cases hk : σ 11 0 2 = 0
  · rw [if_neg (by omega), if_neg (by omega)]
    unfold zm_yrestore
    rw [if_pos hk]
    exact ⟨J_thr h, Or.inr ⟨_, rfl, rfl, by decide⟩⟩
  · rw [if_pos (by omega), if_pos (by omega)]
    have hkp := hs.2.2 (by have := hs.2.1; omega)
    obtain ⟨hc, -⟩ := CpP_of hkp (by decide)
    have e2 : (up (zm_mcopy 0 1 σ) 1 0 2 0) 11 0 2 = σ 11 0 2 := by rw [up_o (by omega), mcopy_o (by decide) hc (by omega) (by omega)]
    unfold zm_yrestore
    rw [e2, if_neg hk]
    refine ⟨J_back (q := 1) (n := 0) (a := up (zm_mcopy 0 1 σ) 1 0 2 0) (g := σ 13 187) h (by decide) hkp ⟨by decide, h.2.1.2.1.1⟩ (fun C r k q => up_o (by omega)) (up_s _ _ _ _ _) (fun C r k q1 q2 => ?_) (up_s _ _ _ _ _) (fun k k0 k1 => ?_), Or.inl ⟨rfl, ?_⟩⟩
    · rw [up_o (by omega)]
      unfold cpM
      rw [if_neg (by omega), up_o (by omega)]
    · rw [up_o (by omega)]
      unfold cpM
      rw [if_pos (by omega), up_o (by omega), up_o (by omega), mcopy_o (by decide) hc (by omega) (by omega)]
      rw [show (0:Int) + (k - 0) = k by omega]
    · rw [up_o (by omega)]
      unfold cpM
      rw [if_neg (by omega), up_s]
theorem ca_undo (h : J N σ σ) : Cal N 161 [aR 11 0] (zo_xundo σ) (zm_xundo σ) (fun _ => 1) := by
  obtain ⟨h1, h2, h3, h4⟩ := h.2.1
  by_cases hk : 0 < σ 1 0 2
  · have hkp := h4 (σ 1 0 2 - 1) (by omega) (by omega)
    obtain ⟨hc, -⟩ := CpP_of hkp (by omega)
    have es : slotI (wr (σ 1 0 2 - 1)) σ = (σ 1 0 1 + (σ 1 0 2 - 1)) % 8 := by
      unfold slotI
      rw [wr_eq (z := σ 1 0 2 - 1) (by omega) (by omega), wr_eq (by omega) (by omega), Int.tmod_eq_emod_of_nonneg (by omega)]
    have ea : zm_xundo σ = up (zm_mcopy 0 ((σ 1 0 1 + (σ 1 0 2 - 1)) % 8 + 2) σ) 1 0 2 (σ 1 0 2 - 1) := by
      unfold zm_xundo zm_takeBack
      rw [if_pos hk, es, if_pos (by omega), mcopy_o (by omega) hc (by omega) (by omega), wr_eq (by omega) (by omega)]
    have e4 : zm_xundo σ 11 0 4 = σ 1 0 2 := by rw [ea, up_o (by omega), mcopy_o (by omega) hc (by omega) (by omega)]; exact h3
    refine ⟨_, _, ev_yundo (zm_xundo σ) (by omega), ?_, ?_⟩
    · unfold zm_yundo
      rw [e4, if_pos (by omega), up_s, wr_eq (by omega) (by omega)]
      refine J_back (q := (σ 1 0 1 + (σ 1 0 2 - 1)) % 8 + 2) (n := σ 1 0 2 - 1) (a := zm_xundo σ) h (by omega) hkp (by omega) (fun C r k q => by rw [ea]; exact up_o (by omega)) (by rw [ea]; exact up_s _ _ _ _ _) (fun C r k q1 q2 => ?_) ?_ (fun k k0 k1 => ?_)
      · unfold cpM
        rw [if_neg (by omega), up_o (by omega), up_o (by omega)]
      · unfold cpM
        rw [if_neg (by omega), up_s]
      · unfold cpM
        rw [if_pos (by omega), up_o (by omega), up_o (by omega), ea, up_o (by omega), mcopy_o (by omega) hc (by omega) (by omega)]
        rw [show 3330 * (σ 1 0 2 - 1) + (k - 0) = 3330 * (σ 1 0 2 - 1) + k by omega]
    · refine Or.inl ⟨σ 1 0 2 - 1, ?_, ?_, ?_⟩
      · unfold zo_xundo
        rw [if_pos hk]
        congr 4
        unfold zm_takeBack
        rw [es, if_pos (by omega), mcopy_o (by omega) hc (by omega) (by omega), wr_eq (by omega) (by omega)]
        exact up_s _ _ _ _ _
      · unfold zm_yundo
        rw [e4, if_pos (by omega)]
        unfold cpM
        rw [if_neg (by omega), up_o (by omega), up_s]
      · unfold zo_yundo
        rw [e4, if_pos (by omega)]
        unfold cpM
        rw [if_neg (by omega), up_s, wr_eq (by omega) (by omega)]
  · have ea : zm_xundo σ = σ := by unfold zm_xundo; rw [if_neg hk]
    have e0 : σ 11 0 4 = 0 := by omega
    rw [ea]
    refine ⟨_, _, ev_yundo σ (by omega), ?_, ?_⟩
    · unfold zm_yundo
      rw [if_neg (by omega)]
      exact J_thr h
    · unfold zo_xundo zm_yundo
      rw [if_neg hk, if_neg (by omega)]
      exact Or.inr ⟨_, rfl, rfl, by decide⟩
end Back
