/-! The calls that tell, one by one. -/
/-- the class's outcome o and the model's answer v agree; cd: the code of an exception -/
def Agr (o : Out) (v : Int) (F : Mem) (cd : Nat → Int) : Prop := (∃ x, o = .inl (some (aI x)) ∧ F 11 0 6 = 0 ∧ v = x) ∨ (∃ E, o = .inr E ∧ F 11 0 6 = cd E ∧ 0 < cd E)
/-- the model's call behind the class's -/
def Cal (N : Int) (k : Nat) (As : List AV) (o : Out) (a : Mem) (cd : Nat → Int) : Prop := ∃ v F, Ev true k As a (.inl (some (aI v))) F ∧ J N F F ∧ Agr o v F cd
section Tell
variable {N : Int} {σ : Mem}
theorem J_thr {v : Int} (h : J N σ σ) : J N (up σ 11 0 6 v) (up σ 11 0 6 v) :=
  J_mod (J_cls h (fun C r k hc => up_o (by unfold clsP at hc; omega))) (fun C r k hc => up_o (by unfold modP at hc; omega))
theorem J_R1 (h : J N σ σ) : σ 2 0 0 = σ 13 186 0 ∧ σ 2 0 1 = σ 13 186 7 ∧ σ 2 0 2 = σ 13 186 6 ∧ σ 6 0 0 = σ 13 186 1 ∧ σ 3 0 0 = σ 13 186 2 ∧ σ 0 0 0 = σ 13 186 3 ∧ σ 0 0 1 = pB (σ 13 186) ∧ σ 9 0 0 = σ 13 186 4 ∧ σ 9 0 1 = σ 13 186 8 := h.1.2.1.1
theorem J_I1 (h : J N σ σ) : I1 (σ 13 186) := h.1.1.1
theorem J_rg (h : J N σ σ) : (0 ≤ σ 13 186 0 ∧ σ 13 186 0 ≤ 3) ∧ (0 ≤ σ 13 186 1 ∧ σ 13 186 1 ≤ 24) ∧ (0 ≤ σ 13 186 2 ∧ σ 13 186 2 ≤ 6) ∧ (0 ≤ σ 13 186 3 ∧ σ 13 186 3 ≤ 307) ∧ (-1 ≤ σ 13 186 6 ∧ σ 13 186 6 < σ 13 186 3) ∧ (0 ≤ σ 13 186 8 ∧ σ 13 186 8 ≤ 24) ∧ (0 ≤ σ 11 0 4 ∧ σ 11 0 4 ≤ 8) ∧ (0 ≤ σ 13 186 4 ∧ σ 13 186 4 ≤ 32) := by
  have h1 := J_I1 h
  have h2 := h.2.1.2.1
  have h3 := h.2.1.2.2.1
  unfold I1 at h1
  omega
theorem rg_0 {i : Int} (h : 0 ≤ i ∧ i < 2) : rget σ 0 i = cv σ 0 10 i := by
  unfold rget
  rw [if_pos (show 0 ≤ i ∧ i < rowLen 0 from h)]
  rfl
theorem rg_1 {i : Int} (h : 0 ≤ i ∧ i < 24) : rget σ 1 i = cv σ 0 11 i := by
  unfold rget
  rw [if_pos (show 0 ≤ i ∧ i < rowLen 1 from h)]
  rfl
theorem rg_2 {i : Int} (h : 0 ≤ i ∧ i < 24) : rget σ 2 i = cv σ 0 12 i := by
  unfold rget
  rw [if_pos (show 0 ≤ i ∧ i < rowLen 2 from h)]
  rfl
theorem rg_3 {i : Int} (h : 0 ≤ i ∧ i < 24) : rget σ 3 i = cv σ 0 13 i := by
  unfold rget
  rw [if_pos (show 0 ≤ i ∧ i < rowLen 3 from h)]
  rfl
theorem rg_4 {i : Int} (h : 0 ≤ i ∧ i < 24) : rget σ 4 i = cv σ 0 14 i := by
  unfold rget
  rw [if_pos (show 0 ≤ i ∧ i < rowLen 4 from h)]
  rfl
theorem rg_5 {i : Int} (h : 0 ≤ i ∧ i < 24) : rget σ 5 i = cv σ 0 15 i := by
  unfold rget
  rw [if_pos (show 0 ≤ i ∧ i < rowLen 5 from h)]
  rfl
theorem rg_6 {i : Int} (h : 0 ≤ i ∧ i < 72) : rget σ 6 i = cv σ 0 16 i := by
  unfold rget
  rw [if_pos (show 0 ≤ i ∧ i < rowLen 6 from h)]
  rfl
theorem rg_7 {i : Int} (h : 0 ≤ i ∧ i < 6) : rget σ 7 i = cv σ 0 17 i := by
  unfold rget
  rw [if_pos (show 0 ≤ i ∧ i < rowLen 7 from h)]
  rfl
theorem rg_8 {i : Int} (h : 0 ≤ i ∧ i < 144) : rget σ 8 i = cv σ 0 18 i := by
  unfold rget
  rw [if_pos (show 0 ≤ i ∧ i < rowLen 8 from h)]
  rfl
theorem rg_9 {i : Int} (h : 0 ≤ i ∧ i < 614) : rget σ 9 i = cv σ 0 19 i := by
  unfold rget
  rw [if_pos (show 0 ≤ i ∧ i < rowLen 9 from h)]
  rfl
theorem rg_10 {i : Int} (h : 0 ≤ i ∧ i < 614) : rget σ 10 i = cv σ 0 20 i := by
  unfold rget
  rw [if_pos (show 0 ≤ i ∧ i < rowLen 10 from h)]
  rfl
theorem rg_11 {i : Int} (h : 0 ≤ i ∧ i < 307) : rget σ 11 i = cv σ 0 21 i := by
  unfold rget
  rw [if_pos (show 0 ≤ i ∧ i < rowLen 11 from h)]
  rfl
theorem rg_12 {i : Int} (h : 0 ≤ i ∧ i < 307) : rget σ 12 i = cv σ 0 22 i := by
  unfold rget
  rw [if_pos (show 0 ≤ i ∧ i < rowLen 12 from h)]
  rfl
theorem rg_13 {i : Int} (h : 0 ≤ i ∧ i < 307) : rget σ 13 i = cv σ 0 23 i := by
  unfold rget
  rw [if_pos (show 0 ≤ i ∧ i < rowLen 13 from h)]
  rfl
theorem rg_14 {i : Int} (h : 0 ≤ i ∧ i < 307) : rget σ 14 i = cv σ 0 24 i := by
  unfold rget
  rw [if_pos (show 0 ≤ i ∧ i < rowLen 14 from h)]
  rfl
theorem rg_15 {i : Int} (h : 0 ≤ i ∧ i < 24) : rget σ 15 i = cv σ 0 25 i := by
  unfold rget
  rw [if_pos (show 0 ≤ i ∧ i < rowLen 15 from h)]
  rfl
theorem rg_16 {i : Int} (h : 0 ≤ i ∧ i < 24) : rget σ 16 i = cv σ 0 26 i := by
  unfold rget
  rw [if_pos (show 0 ≤ i ∧ i < rowLen 16 from h)]
  rfl
theorem rg_17 {i : Int} (h : 0 ≤ i ∧ i < 6) : rget σ 17 i = cv σ 0 27 i := by
  unfold rget
  rw [if_pos (show 0 ≤ i ∧ i < rowLen 17 from h)]
  rfl
theorem x_has {b : Int} : (zo_has 0 b σ = 0) ↔ ¬ (0 ≤ b ∧ b < σ 0 0 0) := by
  unfold zo_has
  by_cases h1 : b < 0
  · rw [if_pos h1]; omega
  · rw [if_neg h1]
    by_cases h2 : σ 0 0 0 ≤ b
    · rw [if_pos h2]; omega
    · rw [if_neg h2]; omega
theorem ca_fencer {f w : Int} (h : J N σ σ) : Cal N 176 [aR 11 0, aI f, aI w] (zo_xfencer f w σ) σ (fun E => if E = 2 then 1 else 2) := by
  have r1 := J_R1 h
  have rg := J_rg h
  refine ⟨_, _, ev_yfencer f w σ rg.2.1, ?_, ?_⟩
  · unfold zm_yfencer
    repeat' split
    all_goals exact J_thr h
  · unfold zo_xfencer zo_yfencer zm_yfencer
    by_cases h1 : 0 ≤ f ∧ f < σ 13 186 1
    · rw [if_neg (by omega), if_pos h1, if_pos h1]
      by_cases h2 : 0 ≤ w ∧ w ≤ 7
      · rw [if_neg (by omega), if_pos h2, if_pos h2]
        refine Or.inl ⟨_, rfl, rfl, ?_⟩
        have hf := h.1.2.1.2.1 f h1.1 h1.2
        unfold zo_mfencerTold zo_fnumber
        simp only [z0]
        have e5 : wr (wr (3 + w) - 5) = w - 2 := by rw [wr_eq (z := 3 + w) (by omega) (by omega), wr_eq (by omega) (by omega)]; omega
        have e6 : wr (wr (wr (3 * f) + w) - 5) = 3 * f + (w - 5) := by rw [wr_eq (z := 3 * f) (by omega) (by omega), wr_eq (z := 3 * f + w) (by omega) (by omega), wr_eq (by omega) (by omega)]; omega
        rw [e5, e6, rg_1 (by omega), rg_2 (by omega), rg_3 (by omega), rg_4 (by omega), rg_5 (by omega)]
        obtain ⟨a1, a2, a3, a4, a5, a6, a7, a8⟩ := hf
        rw [a1, a2, a3, a4, a5]
        repeat' split
        all_goals first | rfl | skip
        have hw : w = 5 ∨ w = 6 ∨ w = 7 := by omega
        rcases hw with rfl | rfl | rfl
        · rw [rg_6 (by omega), show 3 * f + (5 - 5) = 3 * f by omega, a6]; rfl
        · rw [rg_6 (by omega), show 3 * f + (6 - 5) = 3 * f + 1 by omega, a7]; rfl
        · rw [rg_6 (by omega), show 3 * f + (7 - 5) = 3 * f + 2 by omega, a8]; rfl
      · rw [if_pos (by omega), if_neg h2, if_neg h2]
        exact Or.inr ⟨_, rfl, rfl, by decide⟩
    · rw [if_pos (by omega), if_neg h1, if_neg h1]
      exact Or.inr ⟨_, rfl, rfl, by decide⟩
theorem ca_bout {b w : Int} (h : J N σ σ) : Cal N 186 [aR 11 0, aI b, aI w] (zo_xbout b w σ) σ (fun E => if E = 2 then 1 else 2) := by
  have r1 := J_R1 h
  have rg := J_rg h
  have hW : 0 ≤ b → b < σ 13 186 3 → mat σ b 5 < 2 := fun q0 q1 => by
    have hb := h.1.1.2.1 b q0 q1
    unfold IB at hb
    show ga (σ 13 186) b 5 < 2
    omega
  refine ⟨_, _, ev_ybout b w σ rg.2.2.2.1 hW, ?_, ?_⟩
  · unfold zm_ybout
    repeat' split
    all_goals exact J_thr h
  · unfold zo_xbout zo_ybout zm_ybout
    by_cases h1 : 0 ≤ b ∧ b < σ 13 186 3
    · rw [if_neg (by rw [x_has]; omega), if_pos h1, if_pos h1]
      by_cases h2 : 0 ≤ w ∧ w ≤ 8
      · rw [if_neg (by omega), if_pos h2, if_pos h2]
        refine Or.inl ⟨_, rfl, rfl, ?_⟩
        have hi := h.1.1.2.1 b h1.1 h1.2
        have hb := h.1.2.1.2.2.1 b h1.1 h1.2
        have hp := r1.2.2.2.2.2.2.1
        unfold R3b at hb
        unfold zo_mboutTold zo_bnumber zo_fencerOn zo_touchesOn zo_target zo_isOfPool zo_mtarget
        simp only [z0]
        have e0 : wr (wr (2 * b) + 0) = 2 * b := by rw [wr_eq (z := 2 * b) (by omega) (by omega), wr_eq (by omega) (by omega)]; omega
        have e1 : wr (wr (2 * b) + 1) = 2 * b + 1 := by rw [wr_eq (z := 2 * b) (by omega) (by omega), wr_eq (by omega) (by omega)]
        rw [e0, e1, rg_9 (by omega), rg_9 (by omega), rg_10 (by omega), rg_10 (by omega), rg_11 (by omega), rg_12 (by omega), rg_13 (by omega), rg_14 (by omega)]
        obtain ⟨a1, a2, a3, a4, a5, a6, a7, a8⟩ := hb
        have ht : (100 ≤ mat σ b 7) ↔ (σ 0 0 1 ≤ b) := by
          show 100 ≤ ga (σ 13 186) b 7 ↔ _
          have hr := rnd_p (σ 13 186 4 - (b - σ 13 186 5))
          unfold IB at hi
          rw [hp]
          omega
        rw [a1, a2, a3, a4, a5, a6, a7, a8]
        have hw : w = 0 ∨ w = 1 ∨ w = 2 ∨ w = 3 ∨ w = 4 ∨ w = 5 ∨ w = 6 ∨ w = 7 ∨ w = 8 := by omega
        rcases hw with rfl | rfl | rfl | rfl | rfl | rfl | rfl | rfl | rfl
        · rfl
        · rfl
        · rfl
        · rfl
        · rfl
        · show (if 0 ≤ ga (σ 13 186) b 5 then _ else _) = if ga (σ 13 186) b 5 < 0 then _ else _
          by_cases h5 : ga (σ 13 186) b 5 < 0
          · rw [if_pos h5]; exact if_neg (by show ¬ 0 ≤ ga (σ 13 186) b 5; omega)
          · rw [if_neg h5]; exact if_pos (by show 0 ≤ ga (σ 13 186) b 5; omega)
        · rfl
        · show (if 100 ≤ mat σ b 7 then 15 else 5) = if (if σ 0 0 1 ≤ b then 0 else 1) = 0 then 15 else 5
          by_cases h7 : σ 0 0 1 ≤ b
          · rw [if_pos (ht.mpr h7), if_pos h7, if_pos rfl]
          · rw [if_neg (fun q => h7 (ht.mp q)), if_neg h7, if_neg (by decide)]
        · rfl
      · rw [if_pos (by omega), if_neg h2, if_neg h2]
        exact Or.inr ⟨_, rfl, rfl, by decide⟩
    · rw [if_pos (by rw [x_has]; omega), if_neg h1, if_neg h1]
      exact Or.inr ⟨_, rfl, rfl, by decide⟩
theorem ca_current (h : J N σ σ) : Cal N 187 [aR 11 0] (zo_xcurrent σ) σ (fun _ => 1) := by
  have r1 := J_R1 h
  have rg := J_rg h
  refine ⟨_, _, ev_ycurrent σ, ?_, ?_⟩
  · unfold zm_ycurrent
    split
    all_goals exact J_thr h
  · unfold zo_xcurrent zo_ycurrent zm_ycurrent
    by_cases h1 : 0 ≤ σ 13 186 6
    · rw [if_pos (by omega), if_pos h1, if_pos h1]
      exact Or.inl ⟨_, rfl, rfl, r1.2.2.1.symm⟩
    · rw [if_neg (by omega), if_neg h1, if_neg h1]
      exact Or.inr ⟨_, rfl, rfl, by decide⟩
theorem ca_refusal (h : J N σ σ) : Cal N 203 [aR 11 0] (zo_xrefusal σ) σ (fun _ => 1) := by
  have t := h.2.2.2.1.1
  refine ⟨_, _, ev_yrefusal σ, ?_, ?_⟩
  · unfold zm_yrefusal
    split
    all_goals exact J_thr h
  · unfold zo_xrefusal zm_yrefusal
    rw [t]
    by_cases h1 : σ 11 0 5 = 0
    · rw [if_neg (by omega), if_neg (by omega)]
      exact Or.inr ⟨_, rfl, rfl, by decide⟩
    · rw [if_pos h1, if_pos h1]
      exact Or.inl ⟨_, rfl, rfl, rfl⟩
theorem ca_seeded {x : Int} (h : J N σ σ) : Cal N 218 [aR 11 0, aI x] (zo_xseeded x σ) σ (fun E => if E = 1 then 1 else 2) := by
  have r1 := J_R1 h
  have rg := J_rg h
  refine ⟨_, _, ev_yseeded x σ rg.2.2.2.2.2.1, ?_, ?_⟩
  · unfold zm_yseeded
    repeat' split
    all_goals exact J_thr h
  · unfold zo_xseeded zo_yseeded zm_yseeded
    by_cases h1 : σ 13 186 4 = 0
    · rw [if_pos (by omega), if_neg (by omega), if_neg (by omega)]
      exact Or.inr ⟨_, rfl, rfl, by decide⟩
    · rw [if_neg (by omega), if_pos h1, if_pos h1]
      by_cases h2 : 1 ≤ x ∧ x ≤ σ 13 186 8
      · have e : zo_fencerWith 0 x σ = σ 13 186 (222 + (x - 1)) := by
          unfold zo_fencerWith
          rw [if_neg (by omega), if_neg (by omega), z0, wr_eq (by omega) (by omega), rg_15 (by omega)]
          exact h.1.2.1.2.2.2.2.1.1 (x - 1) (by omega) (by omega)
        have hs := h.1.2.2.1 (x - 1) (by omega) (by omega)
        have e9 : ¬ zo_fencerWith 0 x σ = -1 := by
          rw [e]
          omega
        rw [if_pos e9, if_pos h2, if_pos h2, e, wr_eq (z := 222 + x) (by omega) (by omega), wr_eq (by omega) (by omega)]
        exact Or.inl ⟨_, rfl, rfl, by rw [show 222 + x - 1 = 222 + (x - 1) by omega]⟩
      · have e : zo_fencerWith 0 x σ = -1 := by
          unfold zo_fencerWith
          by_cases h3 : x < 1
          · rw [if_pos h3]
          · rw [if_neg h3, if_pos (by omega)]
        rw [if_neg (by omega), if_neg h2, if_neg h2]
        exact Or.inr ⟨_, rfl, rfl, by decide⟩
end Tell

