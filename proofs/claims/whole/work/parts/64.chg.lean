/-! A change that is kept; the seed, the text, beginning a bout. -/
section Chg
variable {N M b s : Int} {σ X Y : Mem} {c' : Cs} {g' : Gs}
theorem mch_cong (e : ∀ C r k, modP C r k → X C r k = Y C r k) (hp : 0 ≤ Y 11 0 4 ∧ Y 11 0 4 ≤ 8) (C : Nat) (r k : Int) (h : modP C r k) : zm_mchanges X C r k = zm_mchanges Y C r k := by
  have e4 : X 11 0 4 = Y 11 0 4 := e _ _ _ (by unfold modP; omega)
  have e6 : ∀ k, X 13 186 k = Y 13 186 k := fun k => e _ _ _ (by unfold modP; omega)
  have e8 : ∀ k, X 13 188 k = Y 13 188 k := fun k => e _ _ _ (by unfold modP; omega)
  have e0 := e C r k h
  rw [mch_eq hp, mch_eq (by rw [e4]; exact hp), e4]
  by_cases h8 : Y 11 0 4 < 8
  · rw [if_pos h8, if_pos h8]
    unfold up cpM
    rw [e6, e0]
  · rw [if_neg h8, if_neg h8]
    unfold up cpM shM
    simp only [e6, e8, e0]
theorem kp_keep (h : J N σ σ) : KP N (cv (zm_keep 0 σ) 0) (σ 13 186) := by
  obtain ⟨k1, k2, k3, k4⟩ := keep_facts h.2.1 h.1
  refine KP_c h.1 (fun C k q => ?_)
  unfold ownK at q
  unfold cv
  by_cases hC : C < 10
  · rw [if_pos hC, if_pos hC]; exact k1 _ _ _ (by omega) (by omega) (by omega)
  · rw [if_neg hC, if_neg hC]; exact k1 _ _ _ (by omega) (by omega) (by omega)
/-- the model's cells after the class's change -/
theorem mod_keep (h : J N σ σ) : ∀ C r k, C = 11 ∨ (C = 13 ∧ 186 ≤ r) → wcm (zm_keep 0 σ) c' C r k = σ C r k := fun C r k q => by
  obtain ⟨k1, k2, k3, k4⟩ := keep_facts h.2.1 h.1
  rw [wcm_o (by omega) (by omega)]
  rcases q with q | ⟨rfl, q⟩
  · exact k1 _ _ _ (by omega) (by omega) (by omega)
  · exact k2 _ (by omega) _
theorem pasts_keep (h : J N σ σ) : 0 ≤ (wcm (zm_keep 0 σ) c') 11 0 4 ∧ (wcm (zm_keep 0 σ) c') 11 0 4 ≤ 8 := by
  rw [mod_keep h _ _ _ (Or.inl rfl)]
  exact (J_rg h).2.2.2.2.2.2.1
theorem mch_row (h : J N σ σ) : zm_mchanges (up (wcm (zm_keep 0 σ) c') 11 0 6 0) 13 186 = σ 13 186 := by
  have hp := pasts_keep (c' := c') h
  obtain ⟨m1, -⟩ := mch_facts (b := up (wcm (zm_keep 0 σ) c') 11 0 6 0) (by rw [up_o (by omega)]; exact hp)
  funext k
  rw [m1 _ _ _ (by omega) (by omega), up_o (by omega)]
  exact mod_keep h _ _ _ (by omega)
theorem mch_wg (h : J N σ σ) : zm_mchanges (up (wcm (zm_keep 0 σ) c') 11 0 6 0) = wg (zm_mchanges (up (wcm (zm_keep 0 σ) c') 11 0 6 0)) (σ 13 186) := by
  rw [← mch_row (c' := c') h]
  exact (wg_id _).symm
theorem mch_6 (h : J N σ σ) : wg (zm_mchanges (up (wcm (zm_keep 0 σ) c') 11 0 6 0)) g' 11 0 6 = 0 := by
  have hp := pasts_keep (c' := c') h
  obtain ⟨m1, -⟩ := mch_facts (b := up (wcm (zm_keep 0 σ) c') 11 0 6 0) (by rw [up_o (by omega)]; exact hp)
  rw [wg_o (by omega), m1 _ _ _ (by omega) (by omega), up_s]
theorem J_chg (h : J N σ σ) (hN : N ≤ M) (hk : KP M c' g') : J M (wg (zm_mchanges (up (wcm (zm_keep 0 σ) c') 11 0 6 0)) g') (wg (zm_mchanges (up (wcm (zm_keep 0 σ) c') 11 0 6 0)) g') := by
  have hp := pasts_keep (c' := c') h
  obtain ⟨m1, -⟩ := mch_facts (b := up (wcm (zm_keep 0 σ) c') 11 0 6 0) (by rw [up_o (by omega)]; exact hp)
  refine J_mod (b := wg (zm_mchanges σ) g') (J_cls (a := wcm (zm_keep 0 σ) c') (J_push h hN hk.1 hk.2.1 hk.2.2) (fun C r k q => ?_)) (fun C r k q => ?_)
  · rw [wg_o (by unfold clsP at q; omega), m1 _ _ _ (by unfold clsP at q; omega) (by unfold clsP at q; omega)]
    exact up_o (by unfold clsP at q; omega)
  · by_cases h6 : C = 13 ∧ r = 186
    · obtain ⟨rfl, rfl⟩ := h6
      rw [wg_r, wg_r]
    · rw [wg_o h6, wg_o h6]
      refine mch_cong (fun C r k q => ?_) (J_rg h).2.2.2.2.2.2.1 C r k q
      rw [up_o (by unfold modP at q; omega)]
      exact mod_keep h _ _ _ (by unfold modP at q; omega)
theorem ca_setSeed {v : Int} (h : J N σ σ) (hv : v ≤ 2147483647) : Cal N 164 [aR 11 0, aI v] (zo_xsetSeed v σ) (zm_xsetSeed v σ) (fun _ => 1) := by
  have r1 := J_R1 h
  refine ⟨_, _, ev_ysetSeed v _, ?_⟩
  unfold zo_xsetSeed zm_xsetSeed zo_ysetSeed zm_ysetSeed
  by_cases h1 : 0 ≤ v
  · rw [if_pos h1, if_pos h1, if_pos h1, if_pos h1]
    refine ⟨?_, Or.inl ⟨_, rfl, ?_, ?_⟩⟩
    · obtain ⟨j0, ⟨h1', h2, h3, h4⟩, ⟨s1, s2, s3⟩, ⟨t1, t2, t3, t4, t5⟩, jl⟩ := h
      have hF : ∀ C r k, ¬ (C = 2 ∧ r = 0 ∧ k = 1) → ¬ (C = 1 ∧ k = 2) → ¬ (C = 11 ∧ (k = 6 ∨ k = 4)) → ¬ (C = 13 ∧ r = 186 ∧ k = 7) → (up (up (up (up (up σ 2 0 1 v) 1 0 2 0) 11 0 6 0) 13 186 7 v) 11 0 4 0) C r k = σ C r k := fun C r k q1 q2 q3 q4 => by rw [up_o (by omega), up_o (by omega), up_o (by omega), up_o (by omega), up_o (by omega)]
      generalize hFF : (up (up (up (up (up σ 2 0 1 v) 1 0 2 0) 11 0 6 0) 13 186 7 v) 11 0 4 0) = F at hF ⊢
      have f21 : F 2 0 1 = v := by rw [← hFF, up_o (by omega), up_o (by omega), up_o (by omega), up_o (by omega), up_s]
      have f12 : F 1 0 2 = 0 := by rw [← hFF, up_o (by omega), up_o (by omega), up_o (by omega), up_s]
      have fg7 : F 13 186 7 = v := by rw [← hFF, up_o (by omega), up_s]
      have f4 : F 11 0 4 = 0 := by rw [← hFF, up_s]
      have eg : ∀ k, k ≠ 7 → F 13 186 k = σ 13 186 k := fun k q => hF _ _ _ (by omega) (by omega) (by omega) (by omega)
      have ec : ∀ C k, ownK C → ¬ (C = 2 ∧ k = 1) → cv F 0 C k = cv σ 0 C k := fun C k q q2 => by
        unfold ownK at q
        unfold cv
        by_cases hC : C < 10
        · rw [if_pos hC, if_pos hC]; exact hF _ _ _ (by omega) (by omega) (by omega) (by omega)
        · rw [if_neg hC, if_neg hC]; exact hF _ _ _ (by omega) (by omega) (by omega) (by omega)
      have ecm : ∀ m, 1 ≤ m → m < 10 → ∀ C k, ownK C → cv F m C k = cv σ m C k := fun m m0 m1 C k q => by
        unfold ownK at q
        unfold cv
        by_cases hC : C < 10
        · rw [if_pos hC, if_pos hC]; exact hF _ _ _ (by omega) (by omega) (by omega) (by omega)
        · rw [if_neg hC, if_neg hC]; exact hF _ _ _ (by omega) (by omega) (by omega) (by omega)
      refine ⟨?_, ⟨?_, ?_, ?_, fun i i0 i1 => ?_⟩, ⟨?_, ?_, fun q => ?_⟩, ⟨?_, ?_, ?_, fun i i0 i1 => ?_, ?_⟩, fun j q0 q1 => ?_⟩
      · obtain ⟨hi, hr, hx⟩ := j0
        have hIV : IV (F 13 186) := IV_sm hi (fun k q1 q2 => eg k q1) (by rw [fg7]; exact ⟨h1, hv⟩) (by have := hi.2.2.2.1; unfold IRl at this ⊢; rw [eg 9 (by decide), eg 18 (by decide), eg 19 (by decide), eg 20 (by decide), eg 22 (by decide)]; exact this)
        have hRV : RV N (cset (cv σ 0) 2 1 v) (F 13 186) := by
          refine RV_sm hi hr (fun k q1 q2 => eg k q1) (fun C k q1 q2 q3 => cset_o q1) (by rw [fg7]; exact cset_s ⟨rfl, rfl⟩) ?_
          have r7 := hr.2.2.2.2.2.2
          unfold R7 at r7 ⊢
          simp (disch := omega) only [cset_o]
          rw [eg 9 (by decide), eg 18 (by decide), eg 19 (by decide), eg 20 (by decide), eg 22 (by decide), eg 10 (by decide), eg 11 (by decide), eg 21 (by decide)]
          refine ⟨r7.1, r7.2.1, r7.2.2.1, r7.2.2.2.1, r7.2.2.2.2.1, fun q => ?_⟩
          obtain ⟨y1, y2, y3, y4⟩ := r7.2.2.2.2.2 q
          refine ⟨y1, y2, y3, fun i i0 i1 => ?_⟩
          rw [eg _ (by omega)]
          exact y4 i i0 i1
        refine ⟨hIV, RV_use hIV hRV (fun C k hu => ?_), IX_sm hi hx (fun k q1 q2 => eg k q1)⟩
        by_cases q : C = 2 ∧ k = 1
        · rw [cset_s q, q.1, q.2]; exact f21
        · rw [cset_o q]; exact ec C k (used_own hu) q
      · rw [hF _ _ _ (by omega) (by omega) (by omega) (by omega)]; exact h1'
      · rw [f12]; decide
      · rw [f12, f4]
      · rw [f12] at i1; omega
      · rw [hF 10 0 2 (by omega) (by omega) (by omega) (by omega), hF 11 0 2 (by omega) (by omega) (by omega) (by omega)]; exact s1
      · rw [hF 11 0 2 (by omega) (by omega) (by omega) (by omega)]; exact s2
      · rw [hF 11 0 2 (by omega) (by omega) (by omega) (by omega)] at q
        refine KP_c (g := F 13 187) (c := cv σ 1) ?_ (ecm 1 (by decide) (by decide))
        rw [show F 13 187 = σ 13 187 from funext fun k => hF _ _ _ (by omega) (by omega) (by omega) (by omega)]
        exact s3 q
      · rw [hF 10 0 6 (by omega) (by omega) (by omega) (by omega), hF 11 0 5 (by omega) (by omega) (by omega) (by omega)]; exact t1
      · rw [hF 5 0 1 (by omega) (by omega) (by omega) (by omega), hF 11 0 10 (by omega) (by omega) (by omega) (by omega)]; exact t2
      · rw [hF 5 0 1 (by omega) (by omega) (by omega) (by omega)]; exact t3
      · rw [hF 5 0 1 (by omega) (by omega) (by omega) (by omega)] at i1
        rw [hF 12 0 i (by omega) (by omega) (by omega) (by omega), hF 13 191 i (by omega) (by omega) (by omega) (by omega)]
        exact t4 i i0 i1
      · rw [hF 5 0 2 (by omega) (by omega) (by omega) (by omega), hF 11 0 13 (by omega) (by omega) (by omega) (by omega)]; exact t5
      · rw [hF 18 0 j (by omega) (by omega) (by omega) (by omega), hF 18 1 j (by omega) (by omega) (by omega) (by omega)]; exact jl j q0 q1
    · rw [up_o (by omega), up_o (by omega), up_s]
    · rw [up_o (by omega), up_o (by omega)]; exact r1.2.1.symm
  · rw [if_neg h1, if_neg h1, if_neg h1, if_neg h1]
    exact ⟨J_thr h, Or.inr ⟨_, rfl, up_s _ _ _ _ _, by decide⟩⟩
theorem ca_append {x : Int} (h : J N σ σ) (hx : 0 ≤ x ∧ x < 65536) : ∃ F, Ev true 235 [aR 11 0, aI x] (zm_xappend x σ) (.inl none) F ∧ J N F F ∧ ((zo_xappend x σ = .inl none ∧ F 11 0 6 = 0) ∨ ∃ E, zo_xappend x σ = .inr E ∧ F 11 0 6 = 1) := by
  have hj := h
  obtain ⟨j0, ⟨h1', h2, h3, h4⟩, ⟨s1, s2, s3⟩, ⟨t1, t2, t3, t4, t5⟩, jl⟩ := h
  have a10 : zm_xappend x σ 11 0 10 = σ 11 0 10 := by
    unfold zm_xappend zm_tadd
    repeat' split
    all_goals first | rfl | (rw [up_o (by omega), up_o (by omega)])
  refine ⟨_, ev_yappend x _ (by rw [a10]; omega), ?_⟩
  unfold zm_yappend
  rw [a10]
  by_cases hl : σ 5 0 1 < 60
  · rw [if_pos (by omega)]
    have ea : zm_xappend x σ = up (up σ 12 0 (σ 5 0 1) x) 5 0 1 (σ 5 0 1 + 1) := by
      unfold zm_xappend zm_tadd
      rw [if_pos hl, if_neg (by omega), if_neg (by show ¬ (60 : Int) ≤ _; omega), up_o (C' := 5) (by omega), wr_eq (by omega) (by omega), Int.emod_eq_of_lt hx.1 hx.2]
    rw [ea, ← t2, wr_eq (z := σ 5 0 1 + 1) (by omega) (by omega)]
    have hF : ∀ C r k, ¬ (C = 12 ∧ r = 0 ∧ k = σ 5 0 1) → ¬ (C = 5 ∧ k = 1) → ¬ (C = 11 ∧ (k = 6 ∨ k = 10)) → ¬ (C = 13 ∧ r = 191 ∧ k = σ 5 0 1) → (up (up (up (up (up σ 12 0 (σ 5 0 1) x) 5 0 1 (σ 5 0 1 + 1)) 11 0 6 0) 13 191 (σ 5 0 1) x) 11 0 10 (σ 5 0 1 + 1)) C r k = σ C r k := fun C r k q1 q2 q3 q4 => by rw [up_o (by omega), up_o (by omega), up_o (by omega), up_o (by omega), up_o (by omega)]
    generalize hFF : (up (up (up (up (up σ 12 0 (σ 5 0 1) x) 5 0 1 (σ 5 0 1 + 1)) 11 0 6 0) 13 191 (σ 5 0 1) x) 11 0 10 (σ 5 0 1 + 1)) = F at hF ⊢
    have f51 : F 5 0 1 = σ 5 0 1 + 1 := by rw [← hFF, up_o (by omega), up_o (by omega), up_o (by omega), up_s]
    have f12 : F 12 0 (σ 5 0 1) = x := by rw [← hFF, up_o (by omega), up_o (by omega), up_o (by omega), up_o (by omega), up_s]
    have f19 : F 13 191 (σ 5 0 1) = x := by rw [← hFF, up_o (by omega), up_s]
    have f10 : F 11 0 10 = σ 5 0 1 + 1 := by rw [← hFF, up_s]
    have f6 : F 11 0 6 = 0 := by rw [← hFF, up_o (by omega), up_o (by omega), up_s]
    have ecm : ∀ m, 0 ≤ m → m < 10 → ∀ C k, ownK C → cv F m C k = cv σ m C k := fun m m0 m1 C k q => by
      unfold ownK at q
      unfold cv
      by_cases hC : C < 10
      · rw [if_pos hC, if_pos hC]; exact hF _ _ _ (by omega) (by omega) (by omega) (by omega)
      · rw [if_neg hC, if_neg hC]; exact hF _ _ _ (by omega) (by omega) (by omega) (by omega)
    have er : ∀ r, r ≠ 191 → F 13 r = σ 13 r := fun r q => funext fun k => hF _ _ _ (by omega) (by omega) (by omega) (by omega)
    have e11 : ∀ k, k ≠ 6 → k ≠ 10 → F 11 0 k = σ 11 0 k := fun k q1 q2 => hF _ _ _ (by omega) (by omega) (by omega) (by omega)
    have e1 : ∀ k, F 1 0 k = σ 1 0 k := fun k => hF _ _ _ (by omega) (by omega) (by omega) (by omega)
    have e10 : ∀ k, F 10 0 k = σ 10 0 k := fun k => hF _ _ _ (by omega) (by omega) (by omega) (by omega)
    refine ⟨⟨?_, ⟨?_, ?_, ?_, fun i i0 i1 => ?_⟩, ⟨?_, ?_, fun q => ?_⟩, ⟨?_, ?_, ?_, fun i i0 i1 => ?_, ?_⟩, fun j q0 q1 => ?_⟩, Or.inl ⟨?_, f6⟩⟩
    · rw [er 186 (by decide)]; exact KP_c j0 (ecm 0 (by decide) (by decide))
    · rw [e1]; exact h1'
    · rw [e1]; exact h2
    · rw [e1, e11 4 (by decide) (by decide)]; exact h3
    · rw [e1] at i1
      rw [e1, er 188 (by decide)]
      exact KP_c (h4 i i0 i1) (ecm _ (by omega) (by omega))
    · rw [e10, e11 2 (by decide) (by decide)]; exact s1
    · rw [e11 2 (by decide) (by decide)]; exact s2
    · rw [e11 2 (by decide) (by decide)] at q
      rw [er 187 (by decide)]
      exact KP_c (s3 q) (ecm 1 (by decide) (by decide))
    · rw [e10, e11 5 (by decide) (by decide)]; exact t1
    · rw [f51, f10]
    · rw [f51]; omega
    · rw [f51] at i1
      by_cases q : i = σ 5 0 1
      · rw [q, f12, f19]
      · rw [hF 12 0 i (by omega) (by omega) (by omega) (by omega), hF 13 191 i (by omega) (by omega) (by omega) (by omega)]
        exact t4 i i0 (by omega)
    · rw [hF 5 0 2 (by omega) (by omega) (by omega) (by omega), e11 13 (by decide) (by decide)]; exact t5
    · rw [hF 18 0 j (by omega) (by omega) (by omega) (by omega), hF 18 1 j (by omega) (by omega) (by omega) (by omega)]; exact jl j q0 q1
    · unfold zo_xappend; rw [if_pos hl]
  · rw [if_neg (by omega)]
    have ea : zm_xappend x σ = σ := by unfold zm_xappend; rw [if_neg hl]
    rw [ea]
    exact ⟨J_thr hj, Or.inr ⟨_, by unfold zo_xappend; rw [if_neg hl], up_s _ _ _ _ _⟩⟩
end Chg
