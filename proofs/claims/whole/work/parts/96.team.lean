/-! The fencers of a relay: the class. -/
section Team
variable {σ K : Mem} {c z n a i : Int} {o : Int → Int} {P : Int → Bool}
def tmA (σ : Mem) (o : Int → Int) (P : Int → Bool) (z n a : Int) : Mem := fun C r k => if C = 13 ∧ r = 17 ∧ z ≤ k ∧ k < z + a then o (kth P (k - z) n) else σ C r k
def oR (σ : Mem) (k : Int) : Int := rget σ 184 k
def pR (σ : Mem) (c : Int) (k : Int) : Bool := decide (rget σ 1 (rget σ 184 k) = c)
def min3 (a : Int) : Int := if a ≤ 3 then a else 3
def zm_chooseTeam (c z n : Int) (σ : Mem) : Mem := tmA σ (oR σ) (pR σ c) z n (min3 (cntP (pR σ c) n))
theorem tmA_o {C : Nat} {r k : Int} (h : ¬ (C = 13 ∧ r = 17)) : tmA σ o P z n a C r k = σ C r k := by unfold tmA; rw [if_neg (by omega)]
theorem tmA_r {r k : Int} (h : ¬ r = 17) : rget (tmA σ o P z n a) r k = rget σ r k := by
  unfold rget
  rw [tmA_o (by omega)]
theorem tmA_0 : tmA σ o P z n 0 = σ := by
  funext C r k
  unfold tmA
  rw [if_neg (by omega)]
theorem tmA_s (hz : 0 ≤ z ∧ z ≤ 3) (ha : 0 ≤ a ∧ a < 3) (hk : kth P a n = i) : rset (tmA σ o P z n a) 17 (z + a) (o i) = tmA σ o P z n (a + 1) := by
  unfold rset
  rw [if_pos (show 0 ≤ z + a ∧ z + a < rowLen 17 from (by show 0 ≤ z + a ∧ z + a < 6; omega))]
  funext C r k
  unfold up tmA
  by_cases q : C = 13 ∧ r = 17 ∧ k = z + a
  · rw [if_pos q, if_pos (by omega), show k - z = a by omega, hk]
  · rw [if_neg q]
    by_cases q2 : C = 13 ∧ r = 17 ∧ z ≤ k ∧ k < z + a
    · rw [if_pos q2, if_pos (by omega)]
    · rw [if_neg q2, if_neg (by omega)]
theorem rs_choose (hz : 0 ≤ z ∧ z ≤ 3) (hn : 0 ≤ n ∧ n ≤ 24) (σ : Mem) : ∀ (m : Nat) (i a : Int), a = cntP (pR σ c) i → a ≤ 3 → 0 ≤ i → i ≤ n → (n - i).toNat = m → rs (fr_chooseTeam 0 c z 184 n) (m + 1) (a, i, tmA σ (oR σ) (pR σ c) z n a) = some (.inl none, zm_chooseTeam c z n σ) := by
  intro m
  induction m with
  | zero =>
    intro i a ha a3 i0 i1 hm
    have e : i = n := by omega
    subst e
    rw [rs_s]
    have eF : fr_chooseTeam 0 c z 184 i (a, i, tmA σ (oR σ) (pR σ c) z i a) = .inr (.inl none, tmA σ (oR σ) (pR σ c) z i a) := by
      simp only [fr_chooseTeam]
      rw [if_pos (by omega)]
    rw [eF]
    unfold zm_chooseTeam min3
    rw [← ha, if_pos a3]
  | succ m ih =>
    intro i a ha a3 i0 i1 hm
    have bb := cntP_b (P := pR σ c) i0
    have es := cntP_s (P := pR σ c) i0
    rw [rs_s]
    by_cases q3 : 3 ≤ a
    · have eF : fr_chooseTeam 0 c z 184 n (a, i, tmA σ (oR σ) (pR σ c) z n a) = .inr (.inl none, tmA σ (oR σ) (pR σ c) z n a) := by
        simp only [fr_chooseTeam]
        rw [if_neg (by omega), if_pos q3]
      rw [eF]
      have l := cntP_le (P := pR σ c) (i := i) (j := n) i0 i1
      unfold zm_chooseTeam min3
      by_cases q4 : cntP (pR σ c) n ≤ 3
      · rw [if_pos q4, show cntP (pR σ c) n = a by omega]
      · rw [if_neg q4, show a = 3 by omega]
    · have ew : wr (i + 1) = i + 1 := wr_eq (by omega) (by omega)
      have g1 : rget (tmA σ (oR σ) (pR σ c) z n a) (18 * 0 + 1) (rget (tmA σ (oR σ) (pR σ c) z n a) 184 i) = rget σ 1 (rget σ 184 i) := by
        rw [tmA_r (by decide), tmA_r (by decide)]
        rfl
      by_cases q : rget σ 1 (rget σ 184 i) = c
      · have ep : pR σ c i = true := decide_eq_true q
        rw [if_pos ep] at es
        have ek : kth (pR σ c) a n = i := by rw [ha]; exact kth_is i0 (by omega) ep
        have eF : fr_chooseTeam 0 c z 184 n (a, i, tmA σ (oR σ) (pR σ c) z n a) = .inl (a + 1, i + 1, tmA σ (oR σ) (pR σ c) z n (a + 1)) := by
          simp only [fr_chooseTeam]
          rw [if_neg (by omega), if_neg q3, g1, if_neg (by omega), ew, wr_eq (z := a + 1) (by omega) (by omega), wr_eq (z := z + a) (by omega) (by omega), ← tmA_s hz (by omega) ek]
          rw [show (18 * 0 + 17 : Int) = 17 from rfl, tmA_r (by decide)]
          rfl
        rw [eF]
        exact ih (i + 1) (a + 1) (by omega) (by omega) (by omega) (by omega) (by omega)
      · have ep : ¬ pR σ c i = true := fun z => q (of_decide_eq_true z)
        rw [if_neg ep] at es
        have eF : fr_chooseTeam 0 c z 184 n (a, i, tmA σ (oR σ) (pR σ c) z n a) = .inl (a, i + 1, tmA σ (oR σ) (pR σ c) z n a) := by
          simp only [fr_chooseTeam]
          rw [if_neg (by omega), if_neg q3, g1, if_pos q, ew]
        rw [eF]
        exact ih (i + 1) a (by omega) (by omega) (by omega) (by omega) (by omega)
theorem ev_chooseTeam (c z n : Int) (σ : Mem) (hz : 0 ≤ z ∧ z ≤ 3) (hn : 0 ≤ n ∧ n ≤ 24) : Ev true 42 [aR 2 (0), aI (c), aI (z), aR 7 (184), aI (n)] σ (.inl none) (zm_chooseTeam c z n σ) := by
  show wp true 42 0 [some (aR 2 (0)), some (aI (c)), some (aI (z)), some (aR 7 (184)), some (aI (n)), none, none, none] [] σ 0 0 _
  refine wp_seg 4 (P := none) (ls' := [some (aR 2 (0)), some (aI (c)), some (aI (z)), some (aR 7 (184)), some (aI (n)), some (aI (0)), some (aI (0)), none]) (st' := []) (σ' := σ) rq_42 rfl True.intro (i' := 4) rfl ?_
  have h := rs_choose (c := c) (z := z) (n := n) hz hn σ n.toNat 0 0 rfl (by decide) (by decide) hn.1 (by omega)
  rw [tmA_0] at h
  exact lr_chooseTeam 0 c z 184 n _ _ _ 0 0 σ h
end Team
def zo_xbeginRelay (a b : Int) (σ : Mem) : Out := if (zo_isClub (a) σ) = 0 then .inr 0 else if (zo_isClub (b) σ) = 0 then .inr 0 else if ¬ (a) = (b) then (if (σ 2 (0) 0) = 0 then .inr 1 else if ¬ (σ 2 (0) 0) = 1 then (if (wr (sumTo (fo_countInClub (0) (a) σ) (σ 6 ((0)) 0))) < 3 then .inr 1 else if 3 ≤ (wr (sumTo (fo_countInClub (0) (b) σ) (σ 6 ((0)) 0))) then .inl (some (aI (zo_nextOfFirst (0) (zm_chooseTeam (b) (3) ((zm_chooseTeam (a) (0) ((zm_rstart (0) (a) (b) (zm_rankAll (zm_keep (0) σ))) 8 (0) 0) (zm_rstart (0) (a) (b) (zm_rankAll (zm_keep (0) σ)))) 8 (0) 0) (zm_chooseTeam (a) (0) ((zm_rstart (0) (a) (b) (zm_rankAll (zm_keep (0) σ))) 8 (0) 0) (zm_rstart (0) (a) (b) (zm_rankAll (zm_keep (0) σ)))))))) else .inr 1) else .inr 1) else .inr 0
def zm_xbeginRelay (a b : Int) (σ : Mem) : Mem := if (zo_isClub (a) σ) = 0 then σ else if (zo_isClub (b) σ) = 0 then σ else if ¬ (a) = (b) then (if (σ 2 (0) 0) = 0 then σ else if ¬ (σ 2 (0) 0) = 1 then (if (wr (sumTo (fo_countInClub (0) (a) σ) (σ 6 ((0)) 0))) < 3 then σ else if 3 ≤ (wr (sumTo (fo_countInClub (0) (b) σ) (σ 6 ((0)) 0))) then (zm_chooseTeam (b) (3) ((zm_chooseTeam (a) (0) ((zm_rstart (0) (a) (b) (zm_rankAll (zm_keep (0) σ))) 8 (0) 0) (zm_rstart (0) (a) (b) (zm_rankAll (zm_keep (0) σ)))) 8 (0) 0) (zm_chooseTeam (a) (0) ((zm_rstart (0) (a) (b) (zm_rankAll (zm_keep (0) σ))) 8 (0) 0) (zm_rstart (0) (a) (b) (zm_rankAll (zm_keep (0) σ))))) else σ) else σ) else σ
theorem ev_xbeginRelay (a b : Int) (σ : Mem) (hA : 0 ≤ zm_tally 0 (zm_keep 0 σ) 6 0 0 ∧ zm_tally 0 (zm_keep 0 σ) 6 0 0 ≤ 24) (hN : 0 ≤ zm_rankAll (zm_keep 0 σ) 8 0 0 ∧ zm_rankAll (zm_keep 0 σ) 8 0 0 ≤ 24) : Ev true 132 [aR 10 (0), aI (a), aI (b)] σ (zo_xbeginRelay a b σ) (zm_xbeginRelay a b σ) := by
  show wp true 132 0 [some (aR 10 (0)), some (aI (a)), some (aI (b))] [] σ 0 0 _
  refine wp_seg 1 (P := none) (ls' := [some (aR 10 (0)), some (aI (a)), some (aI (b))]) (st' := [aI (a)]) (σ' := σ) rq_132 rfl True.intro (i' := 1) rfl ?_
  refine wp_call (C := 0) (As := [aI (a)]) (rest := []) rq_132 (ev_isClub (a) σ ) rfl rfl (show clOK 132 142 2 0 0 1 0 = true by decide +kernel) rfl (show 0 ≤ 4 by decide) (fun h => absurd rfl h) rfl (c' := 0) (s' := 0) rfl rfl ?_
  refine wp_if rq_132 rfl (fun (h1 : (zo_isClub (a) σ) = 0) => ?_) (fun (h1 : ¬ ((zo_isClub (a) σ) = 0)) => ?_)
  · refine wp_throw rq_132 rfl (hcat_lt (by decide)) (show 0 ≤ 4 by decide) (by decide +kernel) (by decide +kernel) (by decide +kernel) ⟨?_, ?_⟩
    · (rw [zo_xbeginRelay, if_pos h1]; try rfl)
    · (rw [zm_xbeginRelay, if_pos h1]; try rfl)
  · refine wp_seg 1 (P := none) (ls' := [some (aR 10 (0)), some (aI (a)), some (aI (b))]) (st' := [aI (b)]) (σ' := σ) rq_132 rfl True.intro (i' := 4) rfl ?_
    refine wp_call (C := 0) (As := [aI (b)]) (rest := []) rq_132 (ev_isClub (b) σ ) rfl rfl (show clOK 132 142 2 0 0 1 0 = true by decide +kernel) rfl (show 0 ≤ 4 by decide) (fun h => absurd rfl h) rfl (c' := 0) (s' := 0) rfl rfl ?_
    refine wp_if rq_132 rfl (fun (h2 : (zo_isClub (b) σ) = 0) => ?_) (fun (h2 : ¬ ((zo_isClub (b) σ) = 0)) => ?_)
    · refine wp_throw rq_132 rfl (hcat_lt (by decide)) (show 0 ≤ 4 by decide) (by decide +kernel) (by decide +kernel) (by decide +kernel) ⟨?_, ?_⟩
      · (rw [zo_xbeginRelay, if_neg h1, if_pos h2]; try rfl)
      · (rw [zm_xbeginRelay, if_neg h1, if_pos h2]; try rfl)
    · refine wp_seg 2 (P := none) (ls' := [some (aR 10 (0)), some (aI (a)), some (aI (b))]) (st' := [aI (b), aI (a)]) (σ' := σ) rq_132 rfl True.intro (i' := 8) rfl ?_
      refine wp_icmp rq_132 rfl (fun (h3 : ¬ (a) = (b)) => ?_) (fun (h3 : ¬ (¬ (a) = (b))) => ?_)
      · refine wp_seg 3 (P := none) (ls' := [some (aR 10 (0)), some (aI (a)), some (aI (b))]) (st' := [aI (σ 2 (0) 0)]) (σ' := σ) rq_132 rfl True.intro (i' := 17) rfl ?_
        refine wp_if rq_132 rfl (fun (h4 : (σ 2 (0) 0) = 0) => ?_) (fun (h4 : ¬ ((σ 2 (0) 0) = 0)) => ?_)
        · refine wp_throw rq_132 rfl (hcat_lt (by decide)) (show 0 ≤ 4 by decide) (by decide +kernel) (by decide +kernel) (by decide +kernel) ⟨?_, ?_⟩
          · (rw [zo_xbeginRelay, if_neg h1, if_neg h2, if_pos h3, if_pos h4]; try rfl)
          · (rw [zm_xbeginRelay, if_neg h1, if_neg h2, if_pos h3, if_pos h4]; try rfl)
        · refine wp_seg 4 (P := none) (ls' := [some (aR 10 (0)), some (aI (a)), some (aI (b))]) (st' := [aI (1), aI (σ 2 (0) 0)]) (σ' := σ) rq_132 rfl True.intro (i' := 22) rfl ?_
          refine wp_icmp rq_132 rfl (fun (h5 : ¬ (σ 2 (0) 0) = 1) => ?_) (fun (h5 : ¬ (¬ (σ 2 (0) 0) = 1)) => ?_)
          · refine wp_seg 4 (P := none) (ls' := [some (aR 10 (0)), some (aI (a)), some (aI (b))]) (st' := [aI (a), aR 6 (0)]) (σ' := σ) rq_132 rfl True.intro (i' := 32) rfl ?_
            refine wp_call (C := 6) (As := [aR 6 (0), aI (a)]) (rest := []) rq_132 (ev_countInClub (0) (a) σ ) rfl rfl (show clOK 132 74 0 0 0 2 6 = true by decide +kernel) rfl (show 0 ≤ 4 by decide) (fun _ => ⟨_, rfl⟩) rfl (c' := 0) (s' := 0) rfl rfl ?_
            refine wp_seg 1 (P := none) (ls' := [some (aR 10 (0)), some (aI (a)), some (aI (b))]) (st' := [aI (3), aI (wr (sumTo (fo_countInClub (0) (a) σ) (σ 6 ((0)) 0)))]) (σ' := σ) rq_132 rfl True.intro (i' := 34) rfl ?_
            refine wp_icmp rq_132 rfl (fun (h6 : (wr (sumTo (fo_countInClub (0) (a) σ) (σ 6 ((0)) 0))) < 3) => ?_) (fun (h6 : ¬ ((wr (sumTo (fo_countInClub (0) (a) σ) (σ 6 ((0)) 0))) < 3)) => ?_)
            · refine wp_throw rq_132 rfl (hcat_lt (by decide)) (show 0 ≤ 4 by decide) (by decide +kernel) (by decide +kernel) (by decide +kernel) ⟨?_, ?_⟩
              · (rw [zo_xbeginRelay, if_neg h1, if_neg h2, if_pos h3, if_neg h4, if_pos h5, if_pos h6]; try rfl)
              · (rw [zm_xbeginRelay, if_neg h1, if_neg h2, if_pos h3, if_neg h4, if_pos h5, if_pos h6]; try rfl)
            · refine wp_seg 4 (P := none) (ls' := [some (aR 10 (0)), some (aI (a)), some (aI (b))]) (st' := [aI (b), aR 6 (0)]) (σ' := σ) rq_132 rfl True.intro (i' := 39) rfl ?_
              refine wp_call (C := 6) (As := [aR 6 (0), aI (b)]) (rest := []) rq_132 (ev_countInClub (0) (b) σ ) rfl rfl (show clOK 132 74 0 0 0 2 6 = true by decide +kernel) rfl (show 0 ≤ 4 by decide) (fun _ => ⟨_, rfl⟩) rfl (c' := 0) (s' := 0) rfl rfl ?_
              refine wp_seg 1 (P := none) (ls' := [some (aR 10 (0)), some (aI (a)), some (aI (b))]) (st' := [aI (3), aI (wr (sumTo (fo_countInClub (0) (b) σ) (σ 6 ((0)) 0)))]) (σ' := σ) rq_132 rfl True.intro (i' := 41) rfl ?_
              refine wp_icmp rq_132 rfl (fun (h7 : 3 ≤ (wr (sumTo (fo_countInClub (0) (b) σ) (σ 6 ((0)) 0)))) => ?_) (fun (h7 : ¬ (3 ≤ (wr (sumTo (fo_countInClub (0) (b) σ) (σ 6 ((0)) 0))))) => ?_)
              · refine wp_seg 4 (P := none) (ls' := [some (aR 10 (0)), some (aI (a)), some (aI (b))]) (st' := [aR 2 (0), aR 1 (0)]) (σ' := σ) rq_132 rfl True.intro (i' := 51) rfl ?_
                refine wp_call (C := 1) (As := [aR 1 (0), aR 2 (0)]) (rest := []) rq_132 (ev_keep (0) σ ) rfl rfl (show clOK 132 21 0 0 0 2 1 = true by decide +kernel) rfl (show 0 ≤ 4 by decide) (fun _ => ⟨_, rfl⟩) rfl (c' := 0) (s' := 0) rfl rfl ?_
                refine wp_seg 4 (P := none) (ls' := [some (aR 10 (0)), some (aI (a)), some (aI (b))]) (st' := [aR 2 (0), aR 8 (0)]) (σ' := (zm_keep (0) σ)) rq_132 rfl True.intro (i' := 56) rfl ?_
                refine wp_call (C := 8) (As := [aR 8 (0), aR 2 (0)]) (rest := []) rq_132 (ev_rankAll (zm_keep (0) σ) hA) rfl rfl (show clOK 132 91 0 0 0 2 8 = true by decide +kernel) rfl (show 0 ≤ 4 by decide) (fun _ => ⟨_, rfl⟩) rfl (c' := 0) (s' := 0) rfl rfl ?_
                refine wp_seg 5 (P := none) (ls' := [some (aR 10 (0)), some (aI (a)), some (aI (b))]) (st' := [aI (b), aI (a), aR 4 (0)]) (σ' := (zm_rankAll (zm_keep (0) σ))) rq_132 rfl True.intro (i' := 62) rfl ?_
                refine wp_call (C := 4) (As := [aR 4 (0), aI (a), aI (b)]) (rest := []) rq_132 (ev_rstart (0) (a) (b) (zm_rankAll (zm_keep (0) σ)) ) rfl rfl (show clOK 132 53 0 0 0 3 4 = true by decide +kernel) rfl (show 0 ≤ 4 by decide) (fun _ => ⟨_, rfl⟩) rfl (c' := 0) (s' := 0) rfl rfl ?_
                refine wp_seg 10 (P := none) (ls' := [some (aR 10 (0)), some (aI (a)), some (aI (b))]) (st' := [aI ((zm_rstart (0) (a) (b) (zm_rankAll (zm_keep (0) σ))) 8 (0) 0), aR 7 (184), aI (0), aI (a), aR 2 (0)]) (σ' := (zm_rstart (0) (a) (b) (zm_rankAll (zm_keep (0) σ)))) rq_132 rfl True.intro (i' := 73) rfl ?_
                refine wp_call (C := 2) (As := [aR 2 (0), aI (a), aI (0), aR 7 (184), aI ((zm_rstart (0) (a) (b) (zm_rankAll (zm_keep (0) σ))) 8 (0) 0)]) (rest := []) rq_132 (ev_chooseTeam (a) (0) ((zm_rstart (0) (a) (b) (zm_rankAll (zm_keep (0) σ))) 8 (0) 0) (zm_rstart (0) (a) (b) (zm_rankAll (zm_keep (0) σ))) (by decide) (by exact hN)) rfl rfl (show clOK 132 42 0 0 0 5 2 = true by decide +kernel) rfl (show 0 ≤ 4 by decide) (fun _ => ⟨_, rfl⟩) rfl (c' := 0) (s' := 0) rfl rfl ?_
                refine wp_seg 10 (P := none) (ls' := [some (aR 10 (0)), some (aI (a)), some (aI (b))]) (st' := [aI ((zm_chooseTeam (a) (0) ((zm_rstart (0) (a) (b) (zm_rankAll (zm_keep (0) σ))) 8 (0) 0) (zm_rstart (0) (a) (b) (zm_rankAll (zm_keep (0) σ)))) 8 (0) 0), aR 7 (184), aI (3), aI (b), aR 2 (0)]) (σ' := (zm_chooseTeam (a) (0) ((zm_rstart (0) (a) (b) (zm_rankAll (zm_keep (0) σ))) 8 (0) 0) (zm_rstart (0) (a) (b) (zm_rankAll (zm_keep (0) σ))))) rq_132 rfl True.intro (i' := 84) rfl ?_
                refine wp_call (C := 2) (As := [aR 2 (0), aI (b), aI (3), aR 7 (184), aI ((zm_chooseTeam (a) (0) ((zm_rstart (0) (a) (b) (zm_rankAll (zm_keep (0) σ))) 8 (0) 0) (zm_rstart (0) (a) (b) (zm_rankAll (zm_keep (0) σ)))) 8 (0) 0)]) (rest := []) rq_132 (ev_chooseTeam (b) (3) ((zm_chooseTeam (a) (0) ((zm_rstart (0) (a) (b) (zm_rankAll (zm_keep (0) σ))) 8 (0) 0) (zm_rstart (0) (a) (b) (zm_rankAll (zm_keep (0) σ)))) 8 (0) 0) (zm_chooseTeam (a) (0) ((zm_rstart (0) (a) (b) (zm_rankAll (zm_keep (0) σ))) 8 (0) 0) (zm_rstart (0) (a) (b) (zm_rankAll (zm_keep (0) σ)))) (by decide) (by exact hN)) rfl rfl (show clOK 132 42 0 0 0 5 2 = true by decide +kernel) rfl (show 0 ≤ 4 by decide) (fun _ => ⟨_, rfl⟩) rfl (c' := 0) (s' := 0) rfl rfl ?_
                refine wp_seg 3 (P := none) (ls' := [some (aR 10 (0)), some (aI (a)), some (aI (b))]) (st' := [aR 4 (0)]) (σ' := (zm_chooseTeam (b) (3) ((zm_chooseTeam (a) (0) ((zm_rstart (0) (a) (b) (zm_rankAll (zm_keep (0) σ))) 8 (0) 0) (zm_rstart (0) (a) (b) (zm_rankAll (zm_keep (0) σ)))) 8 (0) 0) (zm_chooseTeam (a) (0) ((zm_rstart (0) (a) (b) (zm_rankAll (zm_keep (0) σ))) 8 (0) 0) (zm_rstart (0) (a) (b) (zm_rankAll (zm_keep (0) σ)))))) rq_132 rfl True.intro (i' := 88) rfl ?_
                refine wp_call (C := 4) (As := [aR 4 (0)]) (rest := []) rq_132 (ev_nextOfFirst (0) (zm_chooseTeam (b) (3) ((zm_chooseTeam (a) (0) ((zm_rstart (0) (a) (b) (zm_rankAll (zm_keep (0) σ))) 8 (0) 0) (zm_rstart (0) (a) (b) (zm_rankAll (zm_keep (0) σ)))) 8 (0) 0) (zm_chooseTeam (a) (0) ((zm_rstart (0) (a) (b) (zm_rankAll (zm_keep (0) σ))) 8 (0) 0) (zm_rstart (0) (a) (b) (zm_rankAll (zm_keep (0) σ))))) ) rfl rfl (show clOK 132 57 0 0 0 1 4 = true by decide +kernel) rfl (show 0 ≤ 4 by decide) (fun _ => ⟨_, rfl⟩) rfl (c' := 0) (s' := 0) rfl rfl ?_
                refine wp_iret rq_132 rfl rt_132 ⟨?_, ?_⟩
                · (rw [zo_xbeginRelay, if_neg h1, if_neg h2, if_pos h3, if_neg h4, if_pos h5, if_neg h6, if_pos h7]; try rfl)
                · (rw [zm_xbeginRelay, if_neg h1, if_neg h2, if_pos h3, if_neg h4, if_pos h5, if_neg h6, if_pos h7]; try rfl)
              · refine wp_throw rq_132 rfl (hcat_lt (by decide)) (show 0 ≤ 4 by decide) (by decide +kernel) (by decide +kernel) (by decide +kernel) ⟨?_, ?_⟩
                · (rw [zo_xbeginRelay, if_neg h1, if_neg h2, if_pos h3, if_neg h4, if_pos h5, if_neg h6, if_neg h7]; try rfl)
                · (rw [zm_xbeginRelay, if_neg h1, if_neg h2, if_pos h3, if_neg h4, if_pos h5, if_neg h6, if_neg h7]; try rfl)
          · refine wp_throw rq_132 rfl (hcat_lt (by decide)) (show 0 ≤ 4 by decide) (by decide +kernel) (by decide +kernel) (by decide +kernel) ⟨?_, ?_⟩
            · (rw [zo_xbeginRelay, if_neg h1, if_neg h2, if_pos h3, if_neg h4, if_neg h5]; try rfl)
            · (rw [zm_xbeginRelay, if_neg h1, if_neg h2, if_pos h3, if_neg h4, if_neg h5]; try rfl)
      · refine wp_throw rq_132 rfl (hcat_lt (by decide)) (show 0 ≤ 4 by decide) (by decide +kernel) (by decide +kernel) (by decide +kernel) ⟨?_, ?_⟩
        · (rw [zo_xbeginRelay, if_neg h1, if_neg h2, if_neg h3]; try rfl)
        · (rw [zm_xbeginRelay, if_neg h1, if_neg h2, if_neg h3]; try rfl)
