/-! Calls without much: meet, pools, relay, seed, text. -/
section Calls
variable {N : Int} {σ : Mem}
theorem fnd_is {p : Int → Bool} {n j : Int} (hj : j < n) (hp : p j = true) : ∀ (m : Nat) (i : Int), (j - i).toNat = m → i ≤ j → (∀ k, i ≤ k → k < j → ¬ p k = true) → fnd p i n = j := by
  intro m
  induction m with
  | zero => intro i e h1 h2; rw [show i = j by omega]; exact fnd_y hj hp
  | succ m ih => intro i e h1 h2; rw [fnd_n (by omega) (h2 i (Int.le_refl i) (by omega))]; exact ih (i + 1) (by omega) (by omega) (fun k k0 k1 => h2 k (by omega) k1)
theorem ca_meet {w : Int} (h : J N σ σ) : Cal N 178 [aR 11 0, aI w] (zo_xmeet w σ) σ (fun _ => 1) := by
  have r1 := J_R1 h
  have rg := J_rg h
  refine ⟨_, _, ev_ymeet w σ rg.2.1, ?_, ?_⟩
  · unfold zm_ymeet
    repeat' split
    all_goals exact J_thr h
  · unfold zo_xmeet zo_ymeet zm_ymeet
    by_cases h1 : 0 ≤ w ∧ w ≤ 5
    · rw [if_neg (by omega), if_pos h1, if_pos h1]
      have hw : w = 0 ∨ w = 1 ∨ w = 2 ∨ w = 3 ∨ w = 4 ∨ w = 5 := by omega
      rcases hw with rfl | rfl | rfl | rfl | rfl | rfl
      · exact Or.inl ⟨_, rfl, rfl, r1.1.symm⟩
      · exact Or.inl ⟨_, rfl, rfl, r1.2.2.2.1.symm⟩
      · exact Or.inl ⟨_, rfl, rfl, r1.2.2.2.2.1.symm⟩
      · exact Or.inl ⟨_, rfl, rfl, r1.2.2.2.2.2.1.symm⟩
      · refine Or.inl ⟨_, rfl, rfl, ?_⟩
        show wr _ = wr _
        rw [r1.2.2.2.1]
        refine congrArg wr (sumTo_congr fun i i0 i1 => ?_)
        unfold fo_mstaying fo_fcountIn zo_isExcluded
        have hf := h.1.2.1.2.1 i i0 i1
        have hi := h.1.1.2.2.1 i i0 i1
        unfold IF at hi
        have hi2 := hi.2.2.1
        rw [z0, rg_5 (by omega), hf.2.2.2.2.1]
        show wr (1 - gf (σ 13 186) i 2) = _
        rcases hi2 with h2 | h2
        · rw [h2]; rfl
        · rw [h2]; rfl
      · exact Or.inl ⟨_, rfl, rfl, r1.2.2.2.2.2.2.2.1.symm⟩
    · rw [if_pos (by omega), if_neg h1, if_neg h1]
      exact Or.inr ⟨_, rfl, rfl, by decide⟩
theorem mem_eq {p : Int} (h : J N σ σ) (p0 : 0 ≤ p ∧ p < σ 13 186 2) : wr (sumTo (fo_mmembersOf p σ) (σ 13 186 1)) = rget σ 7 p ∧ 0 ≤ rget σ 7 p ∧ rget σ 7 p ≤ 24 := by
  have rg := J_rg h
  have h4 := h.1.2.1.2.2.2.1.1 p p0.1 p0.2
  have e : rget σ 7 p = sumTo (fo_mmembersOf p σ) (σ 13 186 1) := by
    rw [rg_7 (by omega), h4]
    refine sumTo_congr fun f f0 f1 => ?_
    unfold fo_mmembersOf
    show _ = if ¬ gf (σ 13 186) f 6 = p then 0 else 1
    by_cases hp : gf (σ 13 186) f 6 = p
    · rw [if_pos hp, if_neg (fun q => q hp)]
    · rw [if_neg hp, if_pos hp]
  have hb := sumTo_bd (f := fo_mmembersOf p σ) (n := σ 13 186 1) (c := 1) (by decide) rg.2.1.1 (fun i i0 i1 => by unfold fo_mmembersOf; split <;> omega)
  rw [e, wr_eq (by omega) (by omega)]
  omega
theorem ca_members {p : Int} (h : J N σ σ) : Cal N 180 [aR 11 0, aI p] (zo_xmembers p σ) σ (fun _ => 1) := by
  have r1 := J_R1 h
  have rg := J_rg h
  refine ⟨_, _, ev_ymembers p σ rg.2.1 rg.2.2.1, ?_, ?_⟩
  · unfold zm_ymembers
    repeat' split
    all_goals exact J_thr h
  · unfold zo_xmembers zo_ymembers zm_ymembers
    by_cases h1 : 0 ≤ p ∧ p < σ 13 186 2
    · rw [if_neg (by omega), if_pos h1, if_pos h1]
      exact Or.inl ⟨_, rfl, rfl, (mem_eq h h1).1⟩
    · rw [if_pos (by omega), if_neg h1, if_neg h1]
      exact Or.inr ⟨_, rfl, rfl, by decide⟩
theorem ca_member {p i : Int} (h : J N σ σ) : Cal N 181 [aR 11 0, aI p, aI i] (zo_xmember p i σ) σ (fun E => if E = 2 then 1 else 2) := by
  have r1 := J_R1 h
  have rg := J_rg h
  refine ⟨_, _, ev_ymember p i σ rg.2.1 rg.2.2.1, ?_, ?_⟩
  · unfold zm_ymember
    repeat' split
    all_goals exact J_thr h
  · unfold zo_xmember zo_ymember zm_ymember
    by_cases h1 : 0 ≤ p ∧ p < σ 13 186 2
    · obtain ⟨m1, m2, m3⟩ := mem_eq h h1
      rw [if_neg (by omega), if_pos h1, if_pos h1, m1, wr_eq (z := rget σ 7 p - 1) (by omega) (by omega)]
      by_cases h2 : 0 ≤ i ∧ i < rget σ 7 p
      · rw [if_neg (by omega), if_pos h2.2, if_pos (by omega), if_pos (by omega)]
        refine Or.inl ⟨_, rfl, rfl, ?_⟩
        have e7 : rget σ 7 p = cv σ 0 17 p := rg_7 (by omega)
        obtain ⟨q1, q2, q3⟩ := h.1.2.1.2.2.2.1
        obtain ⟨x1, x2, x3⟩ := q2 p i h1.1 h1.2 h2.1 (by omega)
        have ea : zo_pfencerAt 0 p i σ = cv σ 0 18 (24 * p + i) := by
          unfold zo_pfencerAt
          rw [z0, wr_eq (z := 24 * p) (by omega) (by omega), wr_eq (by omega) (by omega), rg_8 (by omega)]
        rw [ea]
        refine fnd_is x1.2 ?_ _ 0 rfl x1.1 (fun k k0 k1 hk => ?_)
        · unfold fp_mmemberAt
          rw [if_neg (fun q => q x2), if_neg (fun q => q x3)]
        · unfold fp_mmemberAt at hk
          by_cases y1 : mof σ k 6 = p
          · rw [if_neg (fun q => q y1)] at hk
            by_cases y2 : mof σ k 7 = i
            · have hph : 1 ≤ σ 13 186 0 := by
                have hi := h.1.1.2.2.1 k k0 (by omega)
                unfold IF at hi
                have y3 : gf (σ 13 186) k 6 = p := y1
                omega
              have y4 := (q3 hph k k0 (by omega)).2
              rw [show gf (σ 13 186) k 6 = p from y1, show gf (σ 13 186) k 7 = i from y2] at y4
              omega
            · rw [if_pos y2] at hk; exact absurd hk (by decide)
          · rw [if_pos y1] at hk; exact absurd hk (by decide)
      · by_cases h3 : i < 0
        · rw [if_pos h3, if_neg (by omega), if_neg (by omega)]
          exact Or.inr ⟨_, rfl, rfl, by decide⟩
        · rw [if_neg h3, if_neg (by omega), if_neg (by omega), if_neg (by omega)]
          exact Or.inr ⟨_, rfl, rfl, by decide⟩
    · rw [if_pos (by omega), if_neg h1, if_neg h1]
      exact Or.inr ⟨_, rfl, rfl, by decide⟩
theorem ca_faultPosition (h : J N σ σ) : Cal N 242 [aR 11 0] (.inl (some (aI (σ 5 0 2)))) σ (fun _ => 1) :=
  ⟨_, _, ev_yfaultPosition σ, J_thr h, Or.inl ⟨_, rfl, up_s _ _ _ _ _, h.2.2.2.1.2.2.2.2.symm⟩⟩
theorem rg_17' {i : Int} (h : 0 ≤ i ∧ i < 6) : rget σ 17 i = cv σ 0 27 i := rg_17 h
/-- who fences the next leg -/
theorem leg_eq (h : J N σ σ) (h9 : σ 13 186 9 = 1) : zo_nextOfFirst 0 σ = zo_mlegFencer 0 σ ∧ zo_nextOfOther 0 σ = zo_mlegFencer 1 σ := by
  have r7 := h.1.2.1.2.2.2.2.2.2
  have hr := h.1.1.2.2.2.1
  have jl := h.2.2.2.2
  unfold R7 at r7
  unfold IRl at hr
  obtain ⟨a0, a3, a4, a5, a7, a8⟩ := r7
  obtain ⟨-, -, -, b⟩ := a8 h9
  have e3 : σ 4 0 3 = σ 13 186 18 := a3
  unfold zo_nextOfFirst zo_nextOfOther zo_mlegFencer
  rw [e3, show alen σ 18 0 = 9 from rfl, show alen σ 18 1 = 9 from rfl]
  have e17 : (18 * (0 : Int) + 17) = 17 := rfl
  rw [e17]
  by_cases h8 : σ 13 186 18 = 9
  · rw [if_neg (by omega), if_pos (by omega), if_neg (by omega), if_neg (by omega), if_pos (by omega), if_neg (by omega)]
    exact ⟨rfl, rfl⟩
  · rw [if_neg (by omega), if_neg (by omega), if_pos h8, if_neg (by omega), if_neg (by omega), if_pos h8]
    have hk : σ 13 186 18 = 0 ∨ σ 13 186 18 = 1 ∨ σ 13 186 18 = 2 ∨ σ 13 186 18 = 3 ∨ σ 13 186 18 = 4 ∨ σ 13 186 18 = 5 ∨ σ 13 186 18 = 6 ∨ σ 13 186 18 = 7 ∨ σ 13 186 18 = 8 := by omega
    rcases hk with e | e | e | e | e | e | e | e | e
    all_goals
      have l0 := jl (σ 13 186 18) (by omega) (by omega)
      rw [e] at l0
      rw [e, l0.1, l0.2]
      constructor
      · exact (rg_17 (by decide)).trans (b _ (by decide) (by decide))
      · exact (rg_17 (by decide)).trans (b _ (by decide) (by decide))
theorem ca_relay {w : Int} (h : J N σ σ) : Cal N 232 [aR 11 0, aI w] (zo_xrelay w σ) σ (fun E => if E = 3 then 1 else 2) := by
  have r7 := h.1.2.1.2.2.2.2.2.2
  have hr := h.1.1.2.2.2.1
  unfold R7 at r7
  unfold IRl at hr
  obtain ⟨a0, a3, a4, a5, a7, a8⟩ := r7
  have e0 : σ 4 0 0 = σ 13 186 9 := a0
  refine ⟨_, _, ev_yrelay w σ, ?_, ?_⟩
  · unfold zm_yrelay
    repeat' split
    all_goals exact J_thr h
  · unfold zo_xrelay zo_yrelay zm_yrelay
    rw [e0]
    by_cases h9 : σ 13 186 9 = 0
    · rw [if_neg (by omega), if_neg (by omega), if_neg (by omega)]
      exact Or.inr ⟨_, rfl, rfl, by decide⟩
    · rw [if_pos h9, if_pos h9, if_pos h9]
      have h91 : σ 13 186 9 = 1 := by omega
      obtain ⟨b1, b2, b6, -⟩ := a8 h91
      obtain ⟨l1, l2⟩ := leg_eq h h91
      by_cases h1 : 0 ≤ w ∧ w ≤ 6
      · rw [if_neg (by omega), if_pos h1, if_pos h1]
        refine Or.inl ⟨_, rfl, rfl, ?_⟩
        have hw : w = 0 ∨ w = 1 ∨ w = 2 ∨ w = 3 ∨ w = 4 ∨ w = 5 ∨ w = 6 := by omega
        rcases hw with rfl | rfl | rfl | rfl | rfl | rfl | rfl
        · exact a3.symm
        · exact a4.symm
        · exact a5.symm
        · exact b6.symm
        · exact l1.symm
        · exact l2.symm
        · show σ 13 186 22 = if σ 4 0 7 = 0 then 0 else 1
          rw [show σ 4 0 7 = σ 13 186 22 from a7]
          rcases hr.2.2.2.2 with q | q
          · rw [q]; rfl
          · rw [q]; rfl
      · rw [if_pos (by omega), if_neg h1, if_neg h1]
        exact Or.inr ⟨_, rfl, rfl, by decide⟩
end Calls
