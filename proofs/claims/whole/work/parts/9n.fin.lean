/-! The final places: the methods. -/
def plP (σ : Mem) (r i : Int) : Bool := decide (rget σ 16 (zo_fencerWith 0 (i + 1) σ) = r)
/-- the fencer with a place, from a round on -/
def faR (P : Int → Int → Bool) (S : Int → Int) (n y : Int) : Nat → Nat → Int → Int
  | 0, _, _ => -1
  | u + 1, m, G => if kth (P (2 ^ m)) (y - 1 - G) n = -1 then faR P S n y u (m + 1) (G + cntP (P (2 ^ m)) n) else S (kth (P (2 ^ m)) (y - 1 - G) n)
def fwS (σ : Mem) (i : Int) : Int := zo_fencerWith 0 (i + 1) σ
section Fin
variable {y n r z G : Int} {σ M : Mem} {P : Int → Int → Bool} {S : Int → Int}

theorem fp_in (hn : 0 ≤ σ 9 0 1 ∧ σ 9 0 1 ≤ 24) (hG : 0 ≤ G ∧ G ≤ 1000) (Q : Out → Mem → Prop) (hFnd : ∀ i, 0 ≤ i → i < σ 9 0 1 → kthp (plP σ r) (y - 1 - G) i = true → Q (.inl (some (aI (zo_fencerWith 0 (i + 1) σ)))) σ) (hN : (∀ k, 0 ≤ k → k < σ 9 0 1 → ¬ kthp (plP σ r) (y - 1 - G) k = true) → wp true 102 32 [some (aR 9 (0)), some (aI (y)), some (aI ((G + cntP (plP σ r) (σ 9 0 1)))), some (aI (r)), none, none] [] σ 0 0 Q) : ∀ (u : Nat) (i : Int), 0 ≤ i → i + u = σ 9 0 1 → (∀ k, 0 ≤ k → k < i → ¬ kthp (plP σ r) (y - 1 - G) k = true) → wp true 102 10 [some (aR 9 (0)), some (aI (y)), some (aI ((G + cntP (plP σ r) i))), some (aI (r)), some (aI ((i + 1))), none] [] σ 0 0 Q := by
  intro u
  induction u with
  | zero =>
    intro i i0 e hno
    refine wp_seg 3 (P := none) (ls' := [some (aR 9 (0)), some (aI (y)), some (aI ((G + cntP (plP σ r) i))), some (aI (r)), some (aI ((i + 1))), none]) (st' := [aI (σ 9 (0) 1), aI ((i + 1))]) (σ' := σ) rq_102 rfl True.intro (i' := 13) rfl ?_
    refine wp_icmp rq_102 rfl (fun _ => ?_) (fun (h1 : ¬ ((σ 9 (0) 1) < ((i + 1)))) => absurd (show (σ 9 (0) 1) < ((i + 1)) from by omega) h1)
    have e9 : i = σ 9 0 1 := by omega
    rw [e9]
    rw [e9] at hno
    exact wp_weak (lessL_c (lessL_c (lessL_c (lessL_c (lessL_n (lessL_n lessL_0)))))) (hN hno)
  | succ u ih =>
    intro i i0 e hno
    refine wp_seg 3 (P := none) (ls' := [some (aR 9 (0)), some (aI (y)), some (aI ((G + cntP (plP σ r) i))), some (aI (r)), some (aI ((i + 1))), none]) (st' := [aI (σ 9 (0) 1), aI ((i + 1))]) (σ' := σ) rq_102 rfl True.intro (i' := 13) rfl ?_
    refine wp_icmp rq_102 rfl (fun (h1 : (σ 9 (0) 1) < ((i + 1))) => ?_) (fun (h1 : ¬ ((σ 9 (0) 1) < ((i + 1)))) => ?_)
    · have e9 : i = σ 9 0 1 := by omega
      rw [e9]
      rw [e9] at hno
      exact wp_weak (lessL_c (lessL_c (lessL_c (lessL_c (lessL_n (lessL_n lessL_0)))))) (hN hno)
    · refine wp_seg 2 (P := none) (ls' := [some (aR 9 (0)), some (aI (y)), some (aI ((G + cntP (plP σ r) i))), some (aI (r)), some (aI ((i + 1))), none]) (st' := [aI ((i + 1)), aR 9 (0)]) (σ' := σ) rq_102 rfl True.intro (i' := 16) rfl ?_
      refine wp_call (C := 9) (As := [aR 9 (0), aI ((i + 1))]) (rest := []) rq_102 (ev_fencerWith (0) ((i + 1)) σ ) rfl rfl (show clOK 102 98 0 0 0 2 9 = true by decide +kernel) rfl (show 0 ≤ 4 by decide) (fun _ => ⟨_, rfl⟩) rfl (c' := 0) (s' := 0) rfl rfl ?_
      refine wp_seg 4 (P := none) (ls' := [some (aR 9 (0)), some (aI (y)), some (aI ((G + cntP (plP σ r) i))), some (aI (r)), some (aI ((i + 1))), some (aI (zo_fencerWith (0) ((i + 1)) σ))]) (st' := [aI (zo_fencerWith (0) ((i + 1)) σ), aR 7 (16)]) (σ' := σ) rq_102 rfl True.intro (i' := 21) rfl ?_
      refine wp_call (C := 7) (As := [aR 7 (16), aI (zo_fencerWith (0) ((i + 1)) σ)]) (rest := []) rq_102 (ev_get (16) (zo_fencerWith (0) ((i + 1)) σ) σ ) rfl rfl (show clOK 102 78 0 0 0 2 7 = true by decide +kernel) rfl (show 0 ≤ 4 by decide) (fun _ => ⟨_, rfl⟩) rfl (c' := 0) (s' := 0) rfl rfl ?_
      refine wp_seg 1 (P := none) (ls' := [some (aR 9 (0)), some (aI (y)), some (aI ((G + cntP (plP σ r) i))), some (aI (r)), some (aI ((i + 1))), some (aI (zo_fencerWith (0) ((i + 1)) σ))]) (st' := [aI (r), aI (rget σ (16) (zo_fencerWith (0) ((i + 1)) σ))]) (σ' := σ) rq_102 rfl True.intro (i' := 23) rfl ?_
      refine wp_icmp rq_102 rfl (fun (h2 : ¬ (rget σ (16) (zo_fencerWith (0) ((i + 1)) σ)) = (r)) => ?_) (fun (h2 : ¬ (¬ (rget σ (16) (zo_fencerWith (0) ((i + 1)) σ)) = (r))) => ?_)
      · refine wp_seg 1 (P := none) (ls' := [some (aR 9 (0)), some (aI (y)), some (aI ((G + cntP (plP σ r) i))), some (aI (r)), some (aI (wr ((i + 1) + 1))), some (aI (zo_fencerWith (0) ((i + 1)) σ))]) (st' := []) (σ' := σ) rq_102 rfl True.intro (i' := 31) rfl ?_
        refine wp_goto rq_102 rfl ?_
        have es := cntP_s (P := plP σ r) i0
        have cb := cntP_b (P := plP σ r) i0
        rw [wr_eq (z := i + 1 + 1) (by omega) (by omega)]
        have ep : ¬ plP σ r i = true := fun z8 => by (have z7 := of_decide_eq_true z8; exact h2 z7)
        rw [if_neg ep] at es
        rw [show (G + cntP (plP σ r) i) = G + cntP (plP σ r) (i + 1) by omega]
        have ek : ¬ kthp (plP σ r) (y - 1 - G) i = true := by (unfold kthp; rw [if_neg ep]; decide)
        exact wp_weak (lessL_c (lessL_c (lessL_c (lessL_c (lessL_c (lessL_n lessL_0)))))) (ih (i + 1) (by omega) (by omega) (fun k k0 k1 => by (by_cases e9 : k = i; (rw [e9]; exact ek); exact hno k k0 (by omega))))
      · refine wp_seg 3 (P := none) (ls' := [some (aR 9 (0)), some (aI (y)), some (aI (wr ((G + cntP (plP σ r) i) + 1))), some (aI (r)), some (aI ((i + 1))), some (aI (zo_fencerWith (0) ((i + 1)) σ))]) (st' := [aI (y), aI (wr ((G + cntP (plP σ r) i) + 1))]) (σ' := σ) rq_102 rfl True.intro (i' := 27) rfl ?_
        refine wp_icmp rq_102 rfl (fun (h3 : ¬ (wr ((G + cntP (plP σ r) i) + 1)) = (y)) => ?_) (fun (h3 : ¬ (¬ (wr ((G + cntP (plP σ r) i) + 1)) = (y))) => ?_)
        · refine wp_seg 1 (P := none) (ls' := [some (aR 9 (0)), some (aI (y)), some (aI (wr ((G + cntP (plP σ r) i) + 1))), some (aI (r)), some (aI (wr ((i + 1) + 1))), some (aI (zo_fencerWith (0) ((i + 1)) σ))]) (st' := []) (σ' := σ) rq_102 rfl True.intro (i' := 31) rfl ?_
          refine wp_goto rq_102 rfl ?_
          have es := cntP_s (P := plP σ r) i0
          have cb := cntP_b (P := plP σ r) i0
          rw [wr_eq (z := i + 1 + 1) (by omega) (by omega)]
          have ep : plP σ r i = true := decide_eq_true (by (have z9 := h2; omega))
          rw [if_pos ep] at es
          rw [show wr ((G + cntP (plP σ r) i) + 1) = G + cntP (plP σ r) (i + 1) by (rw [wr_eq (by omega) (by omega)]; omega)]
          have ek : ¬ kthp (plP σ r) (y - 1 - G) i = true := by (unfold kthp; rw [if_pos ep]; intro z8; have z7 := of_decide_eq_true z8; have z6 := h3; rw [wr_eq (by omega) (by omega)] at z6; omega)
          exact wp_weak (lessL_c (lessL_c (lessL_c (lessL_c (lessL_c (lessL_n lessL_0)))))) (ih (i + 1) (by omega) (by omega) (fun k k0 k1 => by (by_cases e9 : k = i; (rw [e9]; exact ek); exact hno k k0 (by omega))))
        · have cb := cntP_b (P := plP σ r) i0
          have ek : kthp (plP σ r) (y - 1 - G) i = true := by (have ep : plP σ r i = true := decide_eq_true (by (have z9 := h2; omega)); unfold kthp; rw [if_pos ep]; refine decide_eq_true ?_; have z6 := h3; rw [wr_eq (by omega) (by omega)] at z6; omega)
          refine wp_seg 1 (P := none) (ls' := [some (aR 9 (0)), some (aI (y)), some (aI (wr ((G + cntP (plP σ r) i) + 1))), some (aI (r)), some (aI ((i + 1))), some (aI (zo_fencerWith (0) ((i + 1)) σ))]) (st' := [aI (zo_fencerWith (0) ((i + 1)) σ)]) (σ' := σ) rq_102 rfl True.intro (i' := 29) rfl ?_
          exact wp_iret rq_102 rfl rt_102 (hFnd i i0 (by omega) ek)
theorem fp_out (hn : 0 ≤ σ 9 0 1 ∧ σ 9 0 1 ≤ 24) {K9 : Nat} (hK : K9 < 6) (hz : σ 9 0 0 = 2 ^ K9) : ∀ (u m : Nat) (G : Int), m + u = K9 + 1 → (0 ≤ G ∧ G ≤ 24 * (m : Int)) → wp true 102 4 [some (aR 9 (0)), some (aI (y)), some (aI (G)), some (aI (((2 : Int) ^ m))), none, none] [] σ 0 0 (fun o' σ2 => o' = .inl (some (aI (faR (plP σ) (fwS σ) (σ 9 0 1) y u m G))) ∧ σ2 = σ) := by
  intro u
  induction u with
  | zero =>
    intro m G e hG
    have hr2 : (2 : Int) ^ m = 2 ^ K9 * 2 := by rw [show m = K9 + 1 by omega]; exact Int.pow_succ 2 K9
    have hp := p2u K9 hK
    generalize (2 : Int) ^ m = r at hr2 ⊢
    generalize (2 : Int) ^ K9 = w at hr2 hp hz
    refine wp_seg 3 (P := none) (ls' := [some (aR 9 (0)), some (aI (y)), some (aI (G)), some (aI (r)), none, none]) (st' := [aI (σ 9 (0) 0), aI (r)]) (σ' := σ) rq_102 rfl True.intro (i' := 7) rfl ?_
    refine wp_icmp rq_102 rfl (fun _ => ?_) (fun (h1 : ¬ ((σ 9 (0) 0) < (r))) => absurd (show (σ 9 (0) 0) < (r) from by omega) h1)
    refine wp_seg 1 (P := none) (ls' := [some (aR 9 (0)), some (aI (y)), some (aI (G)), some (aI (r)), none, none]) (st' := [aI (-1)]) (σ' := σ) rq_102 rfl True.intro (i' := 38) rfl ?_
    refine wp_iret rq_102 rfl rt_102 ⟨?_, ?_⟩
    · rfl
    · rfl
  | succ u ih =>
    intro m G e hG
    have hr2 : (2 : Int) ^ (m + 1) = 2 ^ m * 2 := Int.pow_succ 2 m
    have hl := p2le m K9 (by omega)
    have hp := p2u K9 hK
    have hg1 := p2p m
    have cb := cntP_b (P := plP σ ((2 : Int) ^ m)) hn.1
    have hi := ih (m + 1) (G + cntP (plP σ ((2 : Int) ^ m)) (σ 9 0 1)) (by omega) (by omega)
    rw [hr2] at hi
    have eR : faR (plP σ) (fwS σ) (σ 9 0 1) y (u + 1) m G = if kth (plP σ ((2 : Int) ^ m)) (y - 1 - G) (σ 9 0 1) = -1 then faR (plP σ) (fwS σ) (σ 9 0 1) y u (m + 1) (G + cntP (plP σ ((2 : Int) ^ m)) (σ 9 0 1)) else fwS σ (kth (plP σ ((2 : Int) ^ m)) (y - 1 - G) (σ 9 0 1)) := rfl
    rw [eR]
    generalize faR (plP σ) (fwS σ) (σ 9 0 1) y u (m + 1) (G + cntP (plP σ ((2 : Int) ^ m)) (σ 9 0 1)) = V at hi ⊢
    clear eR ih
    generalize (2 : Int) ^ m = r at hi hl hg1 cb ⊢
    generalize (2 : Int) ^ K9 = w at hl hp hz
    have er : wr (r * 2) = r * 2 := wr_eq (by omega) (by omega)
    have hin := fp_in (y := y) (r := r) (G := G) hn (by omega) (fun o' σ2 => o' = .inl (some (aI (if kth (plP σ r) (y - 1 - G) (σ 9 0 1) = -1 then V else fwS σ (kth (plP σ r) (y - 1 - G) (σ 9 0 1))))) ∧ σ2 = σ) (fun i i0 i1 ek => by
      have ff := kth_is (P := plP σ r) (n := σ 9 0 1) i0 i1 (by (unfold kthp at ek; by_cases q : plP σ r i = true; exact q; (rw [if_neg q] at ek; cases ek)))
      have ec : cntP (plP σ r) i = y - 1 - G := by (unfold kthp at ek; by_cases q : plP σ r i = true; (rw [if_pos q] at ek; exact of_decide_eq_true ek); (rw [if_neg q] at ek; cases ek))
      rw [ec] at ff
      refine ⟨?_, rfl⟩
      rw [ff, if_neg (by omega)]
      rfl) (fun hno => by
      have ek : kth (plP σ r) (y - 1 - G) (σ 9 0 1) = -1 := by
        have ff := fnd_facts (p := kthp (plP σ r) (y - 1 - G)) (n := σ 9 0 1) _ 0 rfl
        rcases ff with ⟨f1, -⟩ | ⟨f1, f2, f3, -⟩
        · exact f1
        · exact absurd f3 (hno _ f1 f2)
      rw [ek, if_pos rfl]
      generalize G + cntP (plP σ r) (σ 9 0 1) = G9 at hi ⊢
      refine wp_seg 4 (P := none) (ls' := [some (aR 9 (0)), some (aI (y)), some (aI (G9)), some (aI (wr ((r) * (2)))), none, none]) (st' := []) (σ' := σ) rq_102 rfl True.intro (i' := 36) rfl ?_
      refine wp_goto rq_102 rfl ?_
      rw [er]
      exact hi) (σ 9 0 1).toNat 0 (by decide) (by omega) (fun k k0 k1 => by omega)
    rw [cntP_0, Int.add_zero, Int.zero_add] at hin
    refine wp_seg 3 (P := none) (ls' := [some (aR 9 (0)), some (aI (y)), some (aI (G)), some (aI (r)), none, none]) (st' := [aI (σ 9 (0) 0), aI (r)]) (σ' := σ) rq_102 rfl True.intro (i' := 7) rfl ?_
    refine wp_icmp rq_102 rfl (fun (h1 : (σ 9 (0) 0) < (r)) => ?_) (fun (h1 : ¬ ((σ 9 (0) 0) < (r))) => ?_)
    · exact absurd h1 (by omega)
    · refine wp_seg 2 (P := none) (ls' := [some (aR 9 (0)), some (aI (y)), some (aI (G)), some (aI (r)), some (aI (1)), none]) (st' := []) (σ' := σ) rq_102 rfl True.intro (i' := 10) rfl ?_
      exact hin

theorem ev_fencerAtPlace (y : Int) (σ : Mem) (K9 : Nat) (hn : 0 ≤ σ 9 0 1 ∧ σ 9 0 1 ≤ 24) (hK : K9 < 6) (hz : σ 9 0 0 = 2 ^ K9) : Ev true 102 [aR 9 0, aI y] σ (.inl (some (aI (faR (plP σ) (fwS σ) (σ 9 0 1) y (K9 + 1) 0 0)))) σ := by
  show wp true 102 0 [some (aR 9 (0)), some (aI (y)), none, none, none, none] [] σ 0 0 _
  refine wp_seg 4 (P := none) (ls' := [some (aR 9 (0)), some (aI (y)), some (aI (0)), some (aI (1)), none, none]) (st' := []) (σ' := σ) rq_102 rfl True.intro (i' := 4) rfl ?_
  exact fp_out hn hK hz (K9 + 1) 0 0 (by omega) (by omega)
end Fin

def zo_xfinalist (K9 : Nat) (y : Int) (σ : Mem) : Out := if (σ 2 (0) 0) = 3 then (if ¬ (faR (plP σ) (fwS σ) (σ 9 0 1) (y) (K9 + 1) 0 0) = (-1) then .inl (some (aI (faR (plP σ) (fwS σ) (σ 9 0 1) (y) (K9 + 1) 0 0))) else .inr 3) else .inr 1
theorem ev_xfinalist (y : Int) (σ : Mem) (K9 : Nat) (hn : 0 ≤ σ 9 0 1 ∧ σ 9 0 1 ≤ 24) (hK : K9 < 6) (hz : σ 2 0 0 = 3 → σ 9 0 0 = 2 ^ K9) : Ev true 130 [aR 10 (0), aI (y)] σ (zo_xfinalist K9 y σ) (σ) := by
  show wp true 130 0 [some (aR 10 (0)), some (aI (y)), none] [] σ 0 0 _
  refine wp_seg 4 (P := none) (ls' := [some (aR 10 (0)), some (aI (y)), none]) (st' := [aI (3), aI (σ 2 (0) 0)]) (σ' := σ) rq_130 rfl True.intro (i' := 4) rfl ?_
  refine wp_icmp rq_130 rfl (fun (h1 : (σ 2 (0) 0) = 3) => ?_) (fun (h1 : ¬ ((σ 2 (0) 0) = 3)) => ?_)
  · refine wp_seg 4 (P := none) (ls' := [some (aR 10 (0)), some (aI (y)), none]) (st' := [aI (y), aR 9 (0)]) (σ' := σ) rq_130 rfl True.intro (i' := 14) rfl ?_
    refine wp_call (C := 9) (As := [aR 9 (0), aI (y)]) (rest := []) rq_130 (ev_fencerAtPlace y σ K9 hn hK (hz (by omega))) rfl rfl (show clOK 130 102 0 0 0 2 9 = true by decide +kernel) rfl (show 0 ≤ 4 by decide) (fun _ => ⟨_, rfl⟩) rfl (c' := 0) (s' := 0) rfl rfl ?_
    refine wp_seg 3 (P := none) (ls' := [some (aR 10 (0)), some (aI (y)), some (aI (faR (plP σ) (fwS σ) (σ 9 0 1) (y) (K9 + 1) 0 0))]) (st' := [aI (-1), aI (faR (plP σ) (fwS σ) (σ 9 0 1) (y) (K9 + 1) 0 0)]) (σ' := σ) rq_130 rfl True.intro (i' := 18) rfl ?_
    refine wp_icmp rq_130 rfl (fun (h2 : ¬ (faR (plP σ) (fwS σ) (σ 9 0 1) (y) (K9 + 1) 0 0) = (-1)) => ?_) (fun (h2 : ¬ (¬ (faR (plP σ) (fwS σ) (σ 9 0 1) (y) (K9 + 1) 0 0) = (-1))) => ?_)
    · refine wp_seg 1 (P := none) (ls' := [some (aR 10 (0)), some (aI (y)), some (aI (faR (plP σ) (fwS σ) (σ 9 0 1) (y) (K9 + 1) 0 0))]) (st' := [aI (faR (plP σ) (fwS σ) (σ 9 0 1) (y) (K9 + 1) 0 0)]) (σ' := σ) rq_130 rfl True.intro (i' := 25) rfl ?_
      refine wp_iret rq_130 rfl rt_130 ⟨?_, ?_⟩
      · (rw [zo_xfinalist, if_pos h1, if_pos h2]; try rfl)
      · rfl
    · refine wp_throw rq_130 rfl (hcat_lt (by decide)) (show 0 ≤ 4 by decide) (by decide +kernel) (by decide +kernel) (by decide +kernel) ⟨?_, ?_⟩
      · (rw [zo_xfinalist, if_pos h1, if_neg h2]; try rfl)
      · rfl
  · refine wp_throw rq_130 rfl (hcat_lt (by decide)) (show 0 ≤ 4 by decide) (by decide +kernel) (by decide +kernel) (by decide +kernel) ⟨?_, ?_⟩
    · (rw [zo_xfinalist, if_neg h1]; try rfl)
    · rfl
