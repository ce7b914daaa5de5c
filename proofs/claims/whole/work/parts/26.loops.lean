/-! The loops of the parts of a meet, by program. -/
def fo_bcountIn (m t : Int) (σ : Mem) (i : Int) : Int := if ¬ (rget σ (18 * (m) + 11) (i)) = (t) then 0 else 1
theorem lp_bcountIn (m t : Int) (σ : Mem) (hL : σ 0 (m) 0 ≤ 2147483647) : ∀ (n : Nat) (i a : Int), a = wr (sumTo (fo_bcountIn m t σ) i) → 0 ≤ i → (i ≤ σ 0 (m) 0 ∨ i = 0) → (σ 0 (m) 0 - i).toNat < n → wp true 16 4 [some (aR 0 (m)), some (aI (t)), some (aI (a)), some (aI (i))] [] σ 0 0 (fun o' σ2 => o' = .inl (some (aI (wr (sumTo (fo_bcountIn m t σ) (σ 0 (m) 0))))) ∧ σ2 = σ) := by
  intro n
  induction n with
  | zero => intros; omega
  | succ n ih =>
    intro i a ha h0 hi hm
    refine wp_seg 3 (P := none) (ls' := [some (aR 0 (m)), some (aI (t)), some (aI (a)), some (aI (i))]) (st' := [aI (σ 0 (m) 0), aI (i)]) (σ' := σ) rq_16 rfl True.intro (i' := 7) rfl ?_
    refine wp_icmp rq_16 rfl (fun (h1 : (σ 0 (m) 0) ≤ (i)) => ?_) (fun (h1 : ¬ ((σ 0 (m) 0) ≤ (i))) => ?_)
    · refine wp_seg 1 (P := none) (ls' := [some (aR 0 (m)), some (aI (t)), some (aI (a)), some (aI (i))]) (st' := [aI (a)]) (σ' := σ) rq_16 rfl True.intro (i' := 18) rfl ?_
      refine wp_iret rq_16 rfl rt_16 ⟨?_, ?_⟩
      · show (Sum.inl (some (aI a)) : Out) = _
        rw [ha, sumTo_end _ h1 hi]
      · rfl
    · refine wp_seg 3 (P := none) (ls' := [some (aR 0 (m)), some (aI (t)), some (aI (a)), some (aI (i))]) (st' := [aI (i), aR 7 (18 * (m) + 11)]) (σ' := σ) rq_16 rfl True.intro (i' := 11) rfl ?_
      refine wp_call (C := 7) (As := [aR 7 (18 * (m) + 11), aI (i)]) (rest := []) rq_16 (ev_get (18 * (m) + 11) (i) σ ) rfl rfl (show clOK 16 78 0 0 0 2 7 = true by decide +kernel) rfl (show 0 ≤ 4 by decide) (fun _ => ⟨_, rfl⟩) rfl (c' := 0) (s' := 0) rfl rfl ?_
      refine wp_seg 1 (P := none) (ls' := [some (aR 0 (m)), some (aI (t)), some (aI (a)), some (aI (i))]) (st' := [aI (t), aI (rget σ (18 * (m) + 11) (i))]) (σ' := σ) rq_16 rfl True.intro (i' := 13) rfl ?_
      refine wp_icmp rq_16 rfl (fun (h2 : ¬ (rget σ (18 * (m) + 11) (i)) = (t)) => ?_) (fun (h2 : ¬ (¬ (rget σ (18 * (m) + 11) (i)) = (t))) => ?_)
      · refine wp_seg 1 (P := none) (ls' := [some (aR 0 (m)), some (aI (t)), some (aI (a)), some (aI (wr (i + 1)))]) (st' := []) (σ' := σ) rq_16 rfl True.intro (i' := 16) rfl ?_
        refine wp_goto rq_16 rfl ?_
        have e : wr (i + 1) = i + 1 := wr_eq (by omega) (by omega)
        rw [e]
        have eF : fo_bcountIn m t σ i = 0 := by rw [fo_bcountIn, if_pos h2]
        refine ih (i + 1) _ ?_ (by omega) (by omega) (by omega)
        rw [ha, sumTo_s _ h0, eF, Int.add_zero]
      · refine wp_seg 2 (P := none) (ls' := [some (aR 0 (m)), some (aI (t)), some (aI (wr (a + 1))), some (aI (wr (i + 1)))]) (st' := []) (σ' := σ) rq_16 rfl True.intro (i' := 16) rfl ?_
        refine wp_goto rq_16 rfl ?_
        have e : wr (i + 1) = i + 1 := wr_eq (by omega) (by omega)
        rw [e]
        have eF : fo_bcountIn m t σ i = 1 := by rw [fo_bcountIn, if_neg h2]
        refine ih (i + 1) _ ?_ (by omega) (by omega) (by omega)
        show wr (a + 1) = _
        rw [ha, wr_wl, sumTo_s _ h0, eF]
theorem ev_bcountIn (m t : Int) (σ : Mem) : Ev true 16 [aR 0 (m), aI (t)] σ (.inl (some (aI (wr (sumTo (fo_bcountIn m t σ) (σ 0 (m) 0)))))) σ := by
  show wp true 16 0 [some (aR 0 (m)), some (aI (t)), none, none] [] σ 0 0 _
  refine wp_seg 4 (P := none) (ls' := [some (aR 0 (m)), some (aI (t)), some (aI (0)), some (aI (0))]) (st' := []) (σ' := σ) rq_16 rfl True.intro (i' := 4) rfl ?_
  refine wp_wf (fun hw hl => ?_)
  have h := lp_bcountIn m t σ (wf_le hw 0 (m) 0 (by decide)).2 ((σ 0 (m) 0 - 0).toNat + 1) 0 0 (by rw [sumTo_0]; rfl) (by omega) (Or.inr rfl) (by omega)
  exact h

def fo_touchesInFinished (m : Int) (σ : Mem) (i : Int) : Int := if ¬ (rget σ (18 * (m) + 11) (i)) = 2 then 0 else wr ((zo_touchesOn (m) (i) (0) σ) + (zo_touchesOn (m) (i) (1) σ))
theorem lp_touchesInFinished (m : Int) (σ : Mem) (hL : σ 0 (m) 0 ≤ 2147483647) : ∀ (n : Nat) (i a : Int), a = wr (sumTo (fo_touchesInFinished m σ) i) → 0 ≤ i → (i ≤ σ 0 (m) 0 ∨ i = 0) → (σ 0 (m) 0 - i).toNat < n → wp true 17 4 [some (aR 0 (m)), some (aI (a)), some (aI (i))] [] σ 0 0 (fun o' σ2 => o' = .inl (some (aI (wr (sumTo (fo_touchesInFinished m σ) (σ 0 (m) 0))))) ∧ σ2 = σ) := by
  intro n
  induction n with
  | zero => intros; omega
  | succ n ih =>
    intro i a ha h0 hi hm
    refine wp_seg 3 (P := none) (ls' := [some (aR 0 (m)), some (aI (a)), some (aI (i))]) (st' := [aI (σ 0 (m) 0), aI (i)]) (σ' := σ) rq_17 rfl True.intro (i' := 7) rfl ?_
    refine wp_icmp rq_17 rfl (fun (h1 : (σ 0 (m) 0) ≤ (i)) => ?_) (fun (h1 : ¬ ((σ 0 (m) 0) ≤ (i))) => ?_)
    · refine wp_seg 1 (P := none) (ls' := [some (aR 0 (m)), some (aI (a)), some (aI (i))]) (st' := [aI (a)]) (σ' := σ) rq_17 rfl True.intro (i' := 29) rfl ?_
      refine wp_iret rq_17 rfl rt_17 ⟨?_, ?_⟩
      · show (Sum.inl (some (aI a)) : Out) = _
        rw [ha, sumTo_end _ h1 hi]
      · rfl
    · refine wp_seg 3 (P := none) (ls' := [some (aR 0 (m)), some (aI (a)), some (aI (i))]) (st' := [aI (i), aR 7 (18 * (m) + 11)]) (σ' := σ) rq_17 rfl True.intro (i' := 11) rfl ?_
      refine wp_call (C := 7) (As := [aR 7 (18 * (m) + 11), aI (i)]) (rest := []) rq_17 (ev_get (18 * (m) + 11) (i) σ ) rfl rfl (show clOK 17 78 0 0 0 2 7 = true by decide +kernel) rfl (show 0 ≤ 4 by decide) (fun _ => ⟨_, rfl⟩) rfl (c' := 0) (s' := 0) rfl rfl ?_
      refine wp_seg 1 (P := none) (ls' := [some (aR 0 (m)), some (aI (a)), some (aI (i))]) (st' := [aI (2), aI (rget σ (18 * (m) + 11) (i))]) (σ' := σ) rq_17 rfl True.intro (i' := 13) rfl ?_
      refine wp_icmp rq_17 rfl (fun (h2 : ¬ (rget σ (18 * (m) + 11) (i)) = 2) => ?_) (fun (h2 : ¬ (¬ (rget σ (18 * (m) + 11) (i)) = 2)) => ?_)
      · refine wp_seg 1 (P := none) (ls' := [some (aR 0 (m)), some (aI (a)), some (aI (wr (i + 1)))]) (st' := []) (σ' := σ) rq_17 rfl True.intro (i' := 27) rfl ?_
        refine wp_goto rq_17 rfl ?_
        have e : wr (i + 1) = i + 1 := wr_eq (by omega) (by omega)
        rw [e]
        have eF : fo_touchesInFinished m σ i = 0 := by rw [fo_touchesInFinished, if_pos h2]
        refine ih (i + 1) _ ?_ (by omega) (by omega) (by omega)
        rw [ha, sumTo_s _ h0, eF, Int.add_zero]
      · refine wp_seg 4 (P := none) (ls' := [some (aR 0 (m)), some (aI (a)), some (aI (i))]) (st' := [aI (0), aI (i), aR 0 (m), aI (a)]) (σ' := σ) rq_17 rfl True.intro (i' := 18) rfl ?_
        refine wp_call (C := 0) (As := [aR 0 (m), aI (i), aI (0)]) (rest := [aI (a)]) rq_17 (ev_touchesOn (m) (i) (0) σ ) rfl rfl (show clOK 17 5 0 0 0 3 0 = true by decide +kernel) rfl (show 1 ≤ 4 by decide) (fun _ => ⟨_, rfl⟩) rfl (c' := 0) (s' := 0) rfl rfl ?_
        refine wp_seg 3 (P := none) (ls' := [some (aR 0 (m)), some (aI (a)), some (aI (i))]) (st' := [aI (1), aI (i), aR 0 (m), aI (zo_touchesOn (m) (i) (0) σ), aI (a)]) (σ' := σ) rq_17 rfl True.intro (i' := 22) rfl ?_
        refine wp_call (C := 0) (As := [aR 0 (m), aI (i), aI (1)]) (rest := [aI (zo_touchesOn (m) (i) (0) σ), aI (a)]) rq_17 (ev_touchesOn (m) (i) (1) σ ) rfl rfl (show clOK 17 5 0 0 0 3 0 = true by decide +kernel) rfl (show 2 ≤ 4 by decide) (fun _ => ⟨_, rfl⟩) rfl (c' := 0) (s' := 0) rfl rfl ?_
        refine wp_seg 4 (P := none) (ls' := [some (aR 0 (m)), some (aI (wr ((a) + (wr ((zo_touchesOn (m) (i) (0) σ) + (zo_touchesOn (m) (i) (1) σ)))))), some (aI (wr (i + 1)))]) (st' := []) (σ' := σ) rq_17 rfl True.intro (i' := 27) rfl ?_
        refine wp_goto rq_17 rfl ?_
        have e : wr (i + 1) = i + 1 := wr_eq (by omega) (by omega)
        rw [e]
        have eF : fo_touchesInFinished m σ i = wr ((zo_touchesOn (m) (i) (0) σ) + (zo_touchesOn (m) (i) (1) σ)) := by rw [fo_touchesInFinished, if_neg h2]
        refine ih (i + 1) _ ?_ (by omega) (by omega) (by omega)
        show wr (a + (wr ((zo_touchesOn (m) (i) (0) σ) + (zo_touchesOn (m) (i) (1) σ)))) = _
        rw [ha, wr_wl, sumTo_s _ h0, eF]
theorem ev_touchesInFinished (m : Int) (σ : Mem) : Ev true 17 [aR 0 (m)] σ (.inl (some (aI (wr (sumTo (fo_touchesInFinished m σ) (σ 0 (m) 0)))))) σ := by
  show wp true 17 0 [some (aR 0 (m)), none, none] [] σ 0 0 _
  refine wp_seg 4 (P := none) (ls' := [some (aR 0 (m)), some (aI (0)), some (aI (0))]) (st' := []) (σ' := σ) rq_17 rfl True.intro (i' := 4) rfl ?_
  refine wp_wf (fun hw hl => ?_)
  have h := lp_touchesInFinished m σ (wf_le hw 0 (m) 0 (by decide)).2 ((σ 0 (m) 0 - 0).toNat + 1) 0 0 (by rw [sumTo_0]; rfl) (by omega) (Or.inr rfl) (by omega)
  exact h

def fo_fcountIn (m : Int) (σ : Mem) (i : Int) : Int := if ¬ (zo_isExcluded (m) (i) σ) = 0 then 0 else 1
theorem lp_fcountIn (m : Int) (σ : Mem) (hL : σ 6 (m) 0 ≤ 2147483647) : ∀ (n : Nat) (i a : Int), a = wr (sumTo (fo_fcountIn m σ) i) → 0 ≤ i → (i ≤ σ 6 (m) 0 ∨ i = 0) → (σ 6 (m) 0 - i).toNat < n → wp true 73 4 [some (aR 6 (m)), some (aI (a)), some (aI (i))] [] σ 0 0 (fun o' σ2 => o' = .inl (some (aI (wr (sumTo (fo_fcountIn m σ) (σ 6 (m) 0))))) ∧ σ2 = σ) := by
  intro n
  induction n with
  | zero => intros; omega
  | succ n ih =>
    intro i a ha h0 hi hm
    refine wp_seg 3 (P := none) (ls' := [some (aR 6 (m)), some (aI (a)), some (aI (i))]) (st' := [aI (σ 6 (m) 0), aI (i)]) (σ' := σ) rq_73 rfl True.intro (i' := 7) rfl ?_
    refine wp_icmp rq_73 rfl (fun (h1 : (σ 6 (m) 0) ≤ (i)) => ?_) (fun (h1 : ¬ ((σ 6 (m) 0) ≤ (i))) => ?_)
    · refine wp_seg 1 (P := none) (ls' := [some (aR 6 (m)), some (aI (a)), some (aI (i))]) (st' := [aI (a)]) (σ' := σ) rq_73 rfl True.intro (i' := 16) rfl ?_
      refine wp_iret rq_73 rfl rt_73 ⟨?_, ?_⟩
      · show (Sum.inl (some (aI a)) : Out) = _
        rw [ha, sumTo_end _ h1 hi]
      · rfl
    · refine wp_seg 2 (P := none) (ls' := [some (aR 6 (m)), some (aI (a)), some (aI (i))]) (st' := [aI (i), aR 6 (m)]) (σ' := σ) rq_73 rfl True.intro (i' := 10) rfl ?_
      refine wp_call (C := 6) (As := [aR 6 (m), aI (i)]) (rest := []) rq_73 (ev_isExcluded (m) (i) σ ) rfl rfl (show clOK 73 71 0 0 0 2 6 = true by decide +kernel) rfl (show 0 ≤ 4 by decide) (fun _ => ⟨_, rfl⟩) rfl (c' := 0) (s' := 0) rfl rfl ?_
      refine wp_if rq_73 rfl (fun (h2 : ¬ (zo_isExcluded (m) (i) σ) = 0) => ?_) (fun (h2 : ¬ (¬ (zo_isExcluded (m) (i) σ) = 0)) => ?_)
      · refine wp_seg 1 (P := none) (ls' := [some (aR 6 (m)), some (aI (a)), some (aI (wr (i + 1)))]) (st' := []) (σ' := σ) rq_73 rfl True.intro (i' := 14) rfl ?_
        refine wp_goto rq_73 rfl ?_
        have e : wr (i + 1) = i + 1 := wr_eq (by omega) (by omega)
        rw [e]
        have eF : fo_fcountIn m σ i = 0 := by rw [fo_fcountIn, if_pos h2]
        refine ih (i + 1) _ ?_ (by omega) (by omega) (by omega)
        rw [ha, sumTo_s _ h0, eF, Int.add_zero]
      · refine wp_seg 2 (P := none) (ls' := [some (aR 6 (m)), some (aI (wr (a + 1))), some (aI (wr (i + 1)))]) (st' := []) (σ' := σ) rq_73 rfl True.intro (i' := 14) rfl ?_
        refine wp_goto rq_73 rfl ?_
        have e : wr (i + 1) = i + 1 := wr_eq (by omega) (by omega)
        rw [e]
        have eF : fo_fcountIn m σ i = 1 := by rw [fo_fcountIn, if_neg h2]
        refine ih (i + 1) _ ?_ (by omega) (by omega) (by omega)
        show wr (a + 1) = _
        rw [ha, wr_wl, sumTo_s _ h0, eF]
theorem ev_fcountIn (m : Int) (σ : Mem) : Ev true 73 [aR 6 (m)] σ (.inl (some (aI (wr (sumTo (fo_fcountIn m σ) (σ 6 (m) 0)))))) σ := by
  show wp true 73 0 [some (aR 6 (m)), none, none] [] σ 0 0 _
  refine wp_seg 4 (P := none) (ls' := [some (aR 6 (m)), some (aI (0)), some (aI (0))]) (st' := []) (σ' := σ) rq_73 rfl True.intro (i' := 4) rfl ?_
  refine wp_wf (fun hw hl => ?_)
  have h := lp_fcountIn m σ (wf_le hw 6 (m) 0 (by decide)).2 ((σ 6 (m) 0 - 0).toNat + 1) 0 0 (by rw [sumTo_0]; rfl) (by omega) (Or.inr rfl) (by omega)
  exact h

def fo_countInClub (m c : Int) (σ : Mem) (i : Int) : Int := if ¬ (zo_isExcluded (m) (i) σ) = 0 then 0 else if ¬ (rget σ (18 * (m) + 1) (i)) = (c) then 0 else 1
theorem lp_countInClub (m c : Int) (σ : Mem) (hL : σ 6 (m) 0 ≤ 2147483647) : ∀ (n : Nat) (i a : Int), a = wr (sumTo (fo_countInClub m c σ) i) → 0 ≤ i → (i ≤ σ 6 (m) 0 ∨ i = 0) → (σ 6 (m) 0 - i).toNat < n → wp true 74 4 [some (aR 6 (m)), some (aI (c)), some (aI (a)), some (aI (i))] [] σ 0 0 (fun o' σ2 => o' = .inl (some (aI (wr (sumTo (fo_countInClub m c σ) (σ 6 (m) 0))))) ∧ σ2 = σ) := by
  intro n
  induction n with
  | zero => intros; omega
  | succ n ih =>
    intro i a ha h0 hi hm
    refine wp_seg 3 (P := none) (ls' := [some (aR 6 (m)), some (aI (c)), some (aI (a)), some (aI (i))]) (st' := [aI (σ 6 (m) 0), aI (i)]) (σ' := σ) rq_74 rfl True.intro (i' := 7) rfl ?_
    refine wp_icmp rq_74 rfl (fun (h1 : (σ 6 (m) 0) ≤ (i)) => ?_) (fun (h1 : ¬ ((σ 6 (m) 0) ≤ (i))) => ?_)
    · refine wp_seg 1 (P := none) (ls' := [some (aR 6 (m)), some (aI (c)), some (aI (a)), some (aI (i))]) (st' := [aI (a)]) (σ' := σ) rq_74 rfl True.intro (i' := 22) rfl ?_
      refine wp_iret rq_74 rfl rt_74 ⟨?_, ?_⟩
      · show (Sum.inl (some (aI a)) : Out) = _
        rw [ha, sumTo_end _ h1 hi]
      · rfl
    · refine wp_seg 2 (P := none) (ls' := [some (aR 6 (m)), some (aI (c)), some (aI (a)), some (aI (i))]) (st' := [aI (i), aR 6 (m)]) (σ' := σ) rq_74 rfl True.intro (i' := 10) rfl ?_
      refine wp_call (C := 6) (As := [aR 6 (m), aI (i)]) (rest := []) rq_74 (ev_isExcluded (m) (i) σ ) rfl rfl (show clOK 74 71 0 0 0 2 6 = true by decide +kernel) rfl (show 0 ≤ 4 by decide) (fun _ => ⟨_, rfl⟩) rfl (c' := 0) (s' := 0) rfl rfl ?_
      refine wp_if rq_74 rfl (fun (h2 : ¬ (zo_isExcluded (m) (i) σ) = 0) => ?_) (fun (h2 : ¬ (¬ (zo_isExcluded (m) (i) σ) = 0)) => ?_)
      · refine wp_seg 1 (P := none) (ls' := [some (aR 6 (m)), some (aI (c)), some (aI (a)), some (aI (wr (i + 1)))]) (st' := []) (σ' := σ) rq_74 rfl True.intro (i' := 20) rfl ?_
        refine wp_goto rq_74 rfl ?_
        have e : wr (i + 1) = i + 1 := wr_eq (by omega) (by omega)
        rw [e]
        have eF : fo_countInClub m c σ i = 0 := by rw [fo_countInClub, if_pos h2]
        refine ih (i + 1) _ ?_ (by omega) (by omega) (by omega)
        rw [ha, sumTo_s _ h0, eF, Int.add_zero]
      · refine wp_seg 3 (P := none) (ls' := [some (aR 6 (m)), some (aI (c)), some (aI (a)), some (aI (i))]) (st' := [aI (i), aR 7 (18 * (m) + 1)]) (σ' := σ) rq_74 rfl True.intro (i' := 15) rfl ?_
        refine wp_call (C := 7) (As := [aR 7 (18 * (m) + 1), aI (i)]) (rest := []) rq_74 (ev_get (18 * (m) + 1) (i) σ ) rfl rfl (show clOK 74 78 0 0 0 2 7 = true by decide +kernel) rfl (show 0 ≤ 4 by decide) (fun _ => ⟨_, rfl⟩) rfl (c' := 0) (s' := 0) rfl rfl ?_
        refine wp_seg 1 (P := none) (ls' := [some (aR 6 (m)), some (aI (c)), some (aI (a)), some (aI (i))]) (st' := [aI (c), aI (rget σ (18 * (m) + 1) (i))]) (σ' := σ) rq_74 rfl True.intro (i' := 17) rfl ?_
        refine wp_icmp rq_74 rfl (fun (h3 : ¬ (rget σ (18 * (m) + 1) (i)) = (c)) => ?_) (fun (h3 : ¬ (¬ (rget σ (18 * (m) + 1) (i)) = (c))) => ?_)
        · refine wp_seg 1 (P := none) (ls' := [some (aR 6 (m)), some (aI (c)), some (aI (a)), some (aI (wr (i + 1)))]) (st' := []) (σ' := σ) rq_74 rfl True.intro (i' := 20) rfl ?_
          refine wp_goto rq_74 rfl ?_
          have e : wr (i + 1) = i + 1 := wr_eq (by omega) (by omega)
          rw [e]
          have eF : fo_countInClub m c σ i = 0 := by rw [fo_countInClub, if_neg h2, if_pos h3]
          refine ih (i + 1) _ ?_ (by omega) (by omega) (by omega)
          rw [ha, sumTo_s _ h0, eF, Int.add_zero]
        · refine wp_seg 2 (P := none) (ls' := [some (aR 6 (m)), some (aI (c)), some (aI (wr (a + 1))), some (aI (wr (i + 1)))]) (st' := []) (σ' := σ) rq_74 rfl True.intro (i' := 20) rfl ?_
          refine wp_goto rq_74 rfl ?_
          have e : wr (i + 1) = i + 1 := wr_eq (by omega) (by omega)
          rw [e]
          have eF : fo_countInClub m c σ i = 1 := by rw [fo_countInClub, if_neg h2, if_neg h3]
          refine ih (i + 1) _ ?_ (by omega) (by omega) (by omega)
          show wr (a + 1) = _
          rw [ha, wr_wl, sumTo_s _ h0, eF]
theorem ev_countInClub (m c : Int) (σ : Mem) : Ev true 74 [aR 6 (m), aI (c)] σ (.inl (some (aI (wr (sumTo (fo_countInClub m c σ) (σ 6 (m) 0)))))) σ := by
  show wp true 74 0 [some (aR 6 (m)), some (aI (c)), none, none] [] σ 0 0 _
  refine wp_seg 4 (P := none) (ls' := [some (aR 6 (m)), some (aI (c)), some (aI (0)), some (aI (0))]) (st' := []) (σ' := σ) rq_74 rfl True.intro (i' := 4) rfl ?_
  refine wp_wf (fun hw hl => ?_)
  have h := lp_countInClub m c σ (wf_le hw 6 (m) 0 (by decide)).2 ((σ 6 (m) 0 - 0).toNat + 1) 0 0 (by rw [sumTo_0]; rfl) (by omega) (Or.inr rfl) (by omega)
  exact h

def fo_sumOfCards (m : Int) (σ : Mem) (i : Int) : Int := rget σ (18 * (m) + 6) (i)
theorem lp_sumOfCards (m : Int) (σ : Mem) (hL : wr ((3) * (σ 6 (m) 0)) ≤ 2147483647) : ∀ (n : Nat) (i a : Int), a = wr (sumTo (fo_sumOfCards m σ) i) → 0 ≤ i → (i ≤ wr ((3) * (σ 6 (m) 0)) ∨ i = 0) → (wr ((3) * (σ 6 (m) 0)) - i).toNat < n → wp true 75 4 [some (aR 6 (m)), some (aI (a)), some (aI (i))] [] σ 0 0 (fun o' σ2 => o' = .inl (some (aI (wr (sumTo (fo_sumOfCards m σ) (wr ((3) * (σ 6 (m) 0))))))) ∧ σ2 = σ) := by
  intro n
  induction n with
  | zero => intros; omega
  | succ n ih =>
    intro i a ha h0 hi hm
    refine wp_seg 5 (P := none) (ls' := [some (aR 6 (m)), some (aI (a)), some (aI (i))]) (st' := [aI (wr ((3) * (σ 6 (m) 0))), aI (i)]) (σ' := σ) rq_75 rfl True.intro (i' := 9) rfl ?_
    refine wp_icmp rq_75 rfl (fun (h1 : (wr ((3) * (σ 6 (m) 0))) ≤ (i)) => ?_) (fun (h1 : ¬ ((wr ((3) * (σ 6 (m) 0))) ≤ (i))) => ?_)
    · refine wp_seg 1 (P := none) (ls' := [some (aR 6 (m)), some (aI (a)), some (aI (i))]) (st' := [aI (a)]) (σ' := σ) rq_75 rfl True.intro (i' := 20) rfl ?_
      refine wp_iret rq_75 rfl rt_75 ⟨?_, ?_⟩
      · show (Sum.inl (some (aI a)) : Out) = _
        rw [ha, sumTo_end _ h1 hi]
      · rfl
    · refine wp_seg 4 (P := none) (ls' := [some (aR 6 (m)), some (aI (a)), some (aI (i))]) (st' := [aI (i), aR 7 (18 * (m) + 6), aI (a)]) (σ' := σ) rq_75 rfl True.intro (i' := 14) rfl ?_
      refine wp_call (C := 7) (As := [aR 7 (18 * (m) + 6), aI (i)]) (rest := [aI (a)]) rq_75 (ev_get (18 * (m) + 6) (i) σ ) rfl rfl (show clOK 75 78 0 0 0 2 7 = true by decide +kernel) rfl (show 1 ≤ 4 by decide) (fun _ => ⟨_, rfl⟩) rfl (c' := 0) (s' := 0) rfl rfl ?_
      refine wp_seg 3 (P := none) (ls' := [some (aR 6 (m)), some (aI (wr ((a) + (rget σ (18 * (m) + 6) (i))))), some (aI (wr (i + 1)))]) (st' := []) (σ' := σ) rq_75 rfl True.intro (i' := 18) rfl ?_
      refine wp_goto rq_75 rfl ?_
      have e : wr (i + 1) = i + 1 := wr_eq (by omega) (by omega)
      rw [e]
      have eF : fo_sumOfCards m σ i = rget σ (18 * (m) + 6) (i) := by rfl
      refine ih (i + 1) _ ?_ (by omega) (by omega) (by omega)
      show wr (a + (rget σ (18 * (m) + 6) (i))) = _
      rw [ha, wr_wl, sumTo_s _ h0, eF]
theorem ev_sumOfCards (m : Int) (σ : Mem) : Ev true 75 [aR 6 (m)] σ (.inl (some (aI (wr (sumTo (fo_sumOfCards m σ) (wr ((3) * (σ 6 (m) 0)))))))) σ := by
  show wp true 75 0 [some (aR 6 (m)), none, none] [] σ 0 0 _
  refine wp_seg 4 (P := none) (ls' := [some (aR 6 (m)), some (aI (0)), some (aI (0))]) (st' := []) (σ' := σ) rq_75 rfl True.intro (i' := 4) rfl ?_
  refine wp_wf (fun hw hl => ?_)
  have h := lp_sumOfCards m σ (wr_le _) ((wr ((3) * (σ 6 (m) 0)) - 0).toNat + 1) 0 0 (by rw [sumTo_0]; rfl) (by omega) (Or.inr rfl) (by omega)
  exact h

def fo_countOfClub (m p c q : Int) (σ : Mem) (i : Int) : Int := if ¬ (rget σ (18 * (q) + 1) (zo_pfencerAt (m) (p) (i) σ)) = (c) then 0 else 1
theorem lp_countOfClub (m p c q : Int) (σ : Mem) (hL : rget σ (18 * (m) + 7) (p) ≤ 2147483647) : ∀ (n : Nat) (i a : Int), a = wr (sumTo (fo_countOfClub m p c q σ) i) → 0 ≤ i → (i ≤ rget σ (18 * (m) + 7) (p) ∨ i = 0) → (rget σ (18 * (m) + 7) (p) - i).toNat < n → wp true 49 4 [some (aR 3 (m)), some (aI (p)), some (aI (c)), some (aR 6 (q)), some (aI (a)), some (aI (i))] [] σ 0 0 (fun o' σ2 => o' = .inl (some (aI (wr (sumTo (fo_countOfClub m p c q σ) (rget σ (18 * (m) + 7) (p)))))) ∧ σ2 = σ) := by
  intro n
  induction n with
  | zero => intros; omega
  | succ n ih =>
    intro i a ha h0 hi hm
    refine wp_seg 4 (P := none) (ls' := [some (aR 3 (m)), some (aI (p)), some (aI (c)), some (aR 6 (q)), some (aI (a)), some (aI (i))]) (st' := [aI (p), aR 7 (18 * (m) + 7), aI (i)]) (σ' := σ) rq_49 rfl True.intro (i' := 8) rfl ?_
    refine wp_call (C := 7) (As := [aR 7 (18 * (m) + 7), aI (p)]) (rest := [aI (i)]) rq_49 (ev_get (18 * (m) + 7) (p) σ ) rfl rfl (show clOK 49 78 0 0 0 2 7 = true by decide +kernel) rfl (show 1 ≤ 4 by decide) (fun _ => ⟨_, rfl⟩) rfl (c' := 0) (s' := 0) rfl rfl ?_
    refine wp_icmp rq_49 rfl (fun (h1 : (rget σ (18 * (m) + 7) (p)) ≤ (i)) => ?_) (fun (h1 : ¬ ((rget σ (18 * (m) + 7) (p)) ≤ (i))) => ?_)
    · refine wp_seg 1 (P := none) (ls' := [some (aR 3 (m)), some (aI (p)), some (aI (c)), some (aR 6 (q)), some (aI (a)), some (aI (i))]) (st' := [aI (a)]) (σ' := σ) rq_49 rfl True.intro (i' := 23) rfl ?_
      refine wp_iret rq_49 rfl rt_49 ⟨?_, ?_⟩
      · show (Sum.inl (some (aI a)) : Out) = _
        rw [ha, sumTo_end _ h1 hi]
      · rfl
    · refine wp_seg 5 (P := none) (ls' := [some (aR 3 (m)), some (aI (p)), some (aI (c)), some (aR 6 (q)), some (aI (a)), some (aI (i))]) (st' := [aI (i), aI (p), aR 3 (m), aR 7 (18 * (q) + 1)]) (σ' := σ) rq_49 rfl True.intro (i' := 15) rfl ?_
      refine wp_call (C := 3) (As := [aR 3 (m), aI (p), aI (i)]) (rest := [aR 7 (18 * (q) + 1)]) rq_49 (ev_pfencerAt (m) (p) (i) σ ) rfl rfl (show clOK 49 47 0 0 0 3 3 = true by decide +kernel) rfl (show 1 ≤ 4 by decide) (fun _ => ⟨_, rfl⟩) rfl (c' := 0) (s' := 0) rfl rfl ?_
      refine wp_call (C := 7) (As := [aR 7 (18 * (q) + 1), aI (zo_pfencerAt (m) (p) (i) σ)]) (rest := []) rq_49 (ev_get (18 * (q) + 1) (zo_pfencerAt (m) (p) (i) σ) σ ) rfl rfl (show clOK 49 78 0 0 0 2 7 = true by decide +kernel) rfl (show 0 ≤ 4 by decide) (fun _ => ⟨_, rfl⟩) rfl (c' := 0) (s' := 0) rfl rfl ?_
      refine wp_seg 1 (P := none) (ls' := [some (aR 3 (m)), some (aI (p)), some (aI (c)), some (aR 6 (q)), some (aI (a)), some (aI (i))]) (st' := [aI (c), aI (rget σ (18 * (q) + 1) (zo_pfencerAt (m) (p) (i) σ))]) (σ' := σ) rq_49 rfl True.intro (i' := 18) rfl ?_
      refine wp_icmp rq_49 rfl (fun (h2 : ¬ (rget σ (18 * (q) + 1) (zo_pfencerAt (m) (p) (i) σ)) = (c)) => ?_) (fun (h2 : ¬ (¬ (rget σ (18 * (q) + 1) (zo_pfencerAt (m) (p) (i) σ)) = (c))) => ?_)
      · refine wp_seg 1 (P := none) (ls' := [some (aR 3 (m)), some (aI (p)), some (aI (c)), some (aR 6 (q)), some (aI (a)), some (aI (wr (i + 1)))]) (st' := []) (σ' := σ) rq_49 rfl True.intro (i' := 21) rfl ?_
        refine wp_goto rq_49 rfl ?_
        have e : wr (i + 1) = i + 1 := wr_eq (by omega) (by omega)
        rw [e]
        have eF : fo_countOfClub m p c q σ i = 0 := by rw [fo_countOfClub, if_pos h2]
        refine ih (i + 1) _ ?_ (by omega) (by omega) (by omega)
        rw [ha, sumTo_s _ h0, eF, Int.add_zero]
      · refine wp_seg 2 (P := none) (ls' := [some (aR 3 (m)), some (aI (p)), some (aI (c)), some (aR 6 (q)), some (aI (wr (a + 1))), some (aI (wr (i + 1)))]) (st' := []) (σ' := σ) rq_49 rfl True.intro (i' := 21) rfl ?_
        refine wp_goto rq_49 rfl ?_
        have e : wr (i + 1) = i + 1 := wr_eq (by omega) (by omega)
        rw [e]
        have eF : fo_countOfClub m p c q σ i = 1 := by rw [fo_countOfClub, if_neg h2]
        refine ih (i + 1) _ ?_ (by omega) (by omega) (by omega)
        show wr (a + 1) = _
        rw [ha, wr_wl, sumTo_s _ h0, eF]
theorem ev_countOfClub (m p c q : Int) (σ : Mem) : Ev true 49 [aR 3 (m), aI (p), aI (c), aR 6 (q)] σ (.inl (some (aI (wr (sumTo (fo_countOfClub m p c q σ) (rget σ (18 * (m) + 7) (p))))))) σ := by
  show wp true 49 0 [some (aR 3 (m)), some (aI (p)), some (aI (c)), some (aR 6 (q)), none, none] [] σ 0 0 _
  refine wp_seg 4 (P := none) (ls' := [some (aR 3 (m)), some (aI (p)), some (aI (c)), some (aR 6 (q)), some (aI (0)), some (aI (0))]) (st' := []) (σ' := σ) rq_49 rfl True.intro (i' := 4) rfl ?_
  refine wp_wf (fun hw hl => ?_)
  have h := lp_countOfClub m p c q σ (wf_rg hw _ _).2 ((rget σ (18 * (m) + 7) (p) - 0).toNat + 1) 0 0 (by rw [sumTo_0]; rfl) (by omega) (Or.inr rfl) (by omega)
  exact h

def fo_sumOfIndicators  (σ : Mem) (i : Int) : Int := zo_indicator (i) σ
theorem lp_sumOfIndicators  (σ : Mem) (hL : (24 : Int) ≤ 2147483647) : ∀ (n : Nat) (i a : Int), a = wr (sumTo (fo_sumOfIndicators σ) i) → 0 ≤ i → (i ≤ (24 : Int) ∨ i = 0) → ((24 : Int) - i).toNat < n → wp true 93 4 [some (aR 8 (0)), some (aI (a)), some (aI (i))] [] σ 0 0 (fun o' σ2 => o' = .inl (some (aI (wr (sumTo (fo_sumOfIndicators σ) ((24 : Int)))))) ∧ σ2 = σ) := by
  intro n
  induction n with
  | zero => intros; omega
  | succ n ih =>
    intro i a ha h0 hi hm
    refine wp_seg 2 (P := none) (ls' := [some (aR 8 (0)), some (aI (a)), some (aI (i))]) (st' := [aI (24), aI (i)]) (σ' := σ) rq_93 rfl True.intro (i' := 6) rfl ?_
    refine wp_icmp rq_93 rfl (fun (h1 : 24 ≤ (i)) => ?_) (fun (h1 : ¬ (24 ≤ (i))) => ?_)
    · refine wp_seg 1 (P := none) (ls' := [some (aR 8 (0)), some (aI (a)), some (aI (i))]) (st' := [aI (a)]) (σ' := σ) rq_93 rfl True.intro (i' := 16) rfl ?_
      refine wp_iret rq_93 rfl rt_93 ⟨?_, ?_⟩
      · show (Sum.inl (some (aI a)) : Out) = _
        rw [ha, sumTo_end _ h1 hi]
      · rfl
    · refine wp_seg 3 (P := none) (ls' := [some (aR 8 (0)), some (aI (a)), some (aI (i))]) (st' := [aI (i), aR 8 (0), aI (a)]) (σ' := σ) rq_93 rfl True.intro (i' := 10) rfl ?_
      refine wp_call (C := 8) (As := [aR 8 (0), aI (i)]) (rest := [aI (a)]) rq_93 (ev_indicator (i) σ ) rfl rfl (show clOK 93 86 0 0 0 2 8 = true by decide +kernel) rfl (show 1 ≤ 4 by decide) (fun _ => ⟨_, rfl⟩) rfl (c' := 0) (s' := 0) rfl rfl ?_
      refine wp_seg 3 (P := none) (ls' := [some (aR 8 (0)), some (aI (wr ((a) + (zo_indicator (i) σ)))), some (aI (wr (i + 1)))]) (st' := []) (σ' := σ) rq_93 rfl True.intro (i' := 14) rfl ?_
      refine wp_goto rq_93 rfl ?_
      have e : wr (i + 1) = i + 1 := wr_eq (by omega) (by omega)
      rw [e]
      have eF : fo_sumOfIndicators  σ i = zo_indicator (i) σ := by rfl
      refine ih (i + 1) _ ?_ (by omega) (by omega) (by omega)
      show wr (a + (zo_indicator (i) σ)) = _
      rw [ha, wr_wl, sumTo_s _ h0, eF]
theorem ev_sumOfIndicators  (σ : Mem) : Ev true 93 [aR 8 (0)] σ (.inl (some (aI (wr (sumTo (fo_sumOfIndicators σ) ((24 : Int))))))) σ := by
  show wp true 93 0 [some (aR 8 (0)), none, none] [] σ 0 0 _
  refine wp_seg 4 (P := none) (ls' := [some (aR 8 (0)), some (aI (0)), some (aI (0))]) (st' := []) (σ' := σ) rq_93 rfl True.intro (i' := 4) rfl ?_
  refine wp_wf (fun hw hl => ?_)
  have h := lp_sumOfIndicators σ (by decide) (((24 : Int) - 0).toNat + 1) 0 0 (by rw [sumTo_0]; rfl) (by omega) (Or.inr rfl) (by omega)
  exact h

def fo_sumOfVictories  (σ : Mem) (i : Int) : Int := rget σ (180) (i)
theorem lp_sumOfVictories  (σ : Mem) (hL : (24 : Int) ≤ 2147483647) : ∀ (n : Nat) (i a : Int), a = wr (sumTo (fo_sumOfVictories σ) i) → 0 ≤ i → (i ≤ (24 : Int) ∨ i = 0) → ((24 : Int) - i).toNat < n → wp true 94 4 [some (aR 8 (0)), some (aI (a)), some (aI (i))] [] σ 0 0 (fun o' σ2 => o' = .inl (some (aI (wr (sumTo (fo_sumOfVictories σ) ((24 : Int)))))) ∧ σ2 = σ) := by
  intro n
  induction n with
  | zero => intros; omega
  | succ n ih =>
    intro i a ha h0 hi hm
    refine wp_seg 2 (P := none) (ls' := [some (aR 8 (0)), some (aI (a)), some (aI (i))]) (st' := [aI (24), aI (i)]) (σ' := σ) rq_94 rfl True.intro (i' := 6) rfl ?_
    refine wp_icmp rq_94 rfl (fun (h1 : 24 ≤ (i)) => ?_) (fun (h1 : ¬ (24 ≤ (i))) => ?_)
    · refine wp_seg 1 (P := none) (ls' := [some (aR 8 (0)), some (aI (a)), some (aI (i))]) (st' := [aI (a)]) (σ' := σ) rq_94 rfl True.intro (i' := 17) rfl ?_
      refine wp_iret rq_94 rfl rt_94 ⟨?_, ?_⟩
      · show (Sum.inl (some (aI a)) : Out) = _
        rw [ha, sumTo_end _ h1 hi]
      · rfl
    · refine wp_seg 4 (P := none) (ls' := [some (aR 8 (0)), some (aI (a)), some (aI (i))]) (st' := [aI (i), aR 7 (180), aI (a)]) (σ' := σ) rq_94 rfl True.intro (i' := 11) rfl ?_
      refine wp_call (C := 7) (As := [aR 7 (180), aI (i)]) (rest := [aI (a)]) rq_94 (ev_get (180) (i) σ ) rfl rfl (show clOK 94 78 0 0 0 2 7 = true by decide +kernel) rfl (show 1 ≤ 4 by decide) (fun _ => ⟨_, rfl⟩) rfl (c' := 0) (s' := 0) rfl rfl ?_
      refine wp_seg 3 (P := none) (ls' := [some (aR 8 (0)), some (aI (wr ((a) + (rget σ (180) (i))))), some (aI (wr (i + 1)))]) (st' := []) (σ' := σ) rq_94 rfl True.intro (i' := 15) rfl ?_
      refine wp_goto rq_94 rfl ?_
      have e : wr (i + 1) = i + 1 := wr_eq (by omega) (by omega)
      rw [e]
      have eF : fo_sumOfVictories  σ i = rget σ (180) (i) := by rfl
      refine ih (i + 1) _ ?_ (by omega) (by omega) (by omega)
      show wr (a + (rget σ (180) (i))) = _
      rw [ha, wr_wl, sumTo_s _ h0, eF]
theorem ev_sumOfVictories  (σ : Mem) : Ev true 94 [aR 8 (0)] σ (.inl (some (aI (wr (sumTo (fo_sumOfVictories σ) ((24 : Int))))))) σ := by
  show wp true 94 0 [some (aR 8 (0)), none, none] [] σ 0 0 _
  refine wp_seg 4 (P := none) (ls' := [some (aR 8 (0)), some (aI (0)), some (aI (0))]) (st' := []) (σ' := σ) rq_94 rfl True.intro (i' := 4) rfl ?_
  refine wp_wf (fun hw hl => ?_)
  have h := lp_sumOfVictories σ (by decide) (((24 : Int) - 0).toNat + 1) 0 0 (by rw [sumTo_0]; rfl) (by omega) (Or.inr rfl) (by omega)
  exact h

def fo_countBefore (q f : Int) (σ : Mem) (i : Int) : Int := if (i) = (f) then 0 else if ¬ (zo_isExcluded (q) (i) σ) = 0 then 0 else if (zo_compare (q) (i) (f) σ) ≤ 0 then 0 else 1
theorem lp_countBefore (q f : Int) (σ : Mem) (hL : σ 6 (q) 0 ≤ 2147483647) : ∀ (n : Nat) (i a : Int), a = wr (sumTo (fo_countBefore q f σ) i) → 0 ≤ i → (i ≤ σ 6 (q) 0 ∨ i = 0) → (σ 6 (q) 0 - i).toNat < n → wp true 90 4 [some (aR 8 (0)), some (aR 6 (q)), some (aI (f)), some (aI (a)), some (aI (i))] [] σ 0 0 (fun o' σ2 => o' = .inl (some (aI (wr (sumTo (fo_countBefore q f σ) (σ 6 (q) 0))))) ∧ σ2 = σ) := by
  intro n
  induction n with
  | zero => intros; omega
  | succ n ih =>
    intro i a ha h0 hi hm
    refine wp_seg 3 (P := none) (ls' := [some (aR 8 (0)), some (aR 6 (q)), some (aI (f)), some (aI (a)), some (aI (i))]) (st' := [aI (σ 6 (q) 0), aI (i)]) (σ' := σ) rq_90 rfl True.intro (i' := 7) rfl ?_
    refine wp_icmp rq_90 rfl (fun (h1 : (σ 6 (q) 0) ≤ (i)) => ?_) (fun (h1 : ¬ ((σ 6 (q) 0) ≤ (i))) => ?_)
    · refine wp_seg 1 (P := none) (ls' := [some (aR 8 (0)), some (aR 6 (q)), some (aI (f)), some (aI (a)), some (aI (i))]) (st' := [aI (a)]) (σ' := σ) rq_90 rfl True.intro (i' := 25) rfl ?_
      refine wp_iret rq_90 rfl rt_90 ⟨?_, ?_⟩
      · show (Sum.inl (some (aI a)) : Out) = _
        rw [ha, sumTo_end _ h1 hi]
      · rfl
    · refine wp_seg 2 (P := none) (ls' := [some (aR 8 (0)), some (aR 6 (q)), some (aI (f)), some (aI (a)), some (aI (i))]) (st' := [aI (f), aI (i)]) (σ' := σ) rq_90 rfl True.intro (i' := 10) rfl ?_
      refine wp_icmp rq_90 rfl (fun (h2 : (i) = (f)) => ?_) (fun (h2 : ¬ ((i) = (f))) => ?_)
      · refine wp_seg 1 (P := none) (ls' := [some (aR 8 (0)), some (aR 6 (q)), some (aI (f)), some (aI (a)), some (aI (wr (i + 1)))]) (st' := []) (σ' := σ) rq_90 rfl True.intro (i' := 23) rfl ?_
        refine wp_goto rq_90 rfl ?_
        have e : wr (i + 1) = i + 1 := wr_eq (by omega) (by omega)
        rw [e]
        have eF : fo_countBefore q f σ i = 0 := by rw [fo_countBefore, if_pos h2]
        refine ih (i + 1) _ ?_ (by omega) (by omega) (by omega)
        rw [ha, sumTo_s _ h0, eF, Int.add_zero]
      · refine wp_seg 2 (P := none) (ls' := [some (aR 8 (0)), some (aR 6 (q)), some (aI (f)), some (aI (a)), some (aI (i))]) (st' := [aI (i), aR 6 (q)]) (σ' := σ) rq_90 rfl True.intro (i' := 13) rfl ?_
        refine wp_call (C := 6) (As := [aR 6 (q), aI (i)]) (rest := []) rq_90 (ev_isExcluded (q) (i) σ ) rfl rfl (show clOK 90 71 0 0 0 2 6 = true by decide +kernel) rfl (show 0 ≤ 4 by decide) (fun _ => ⟨_, rfl⟩) rfl (c' := 0) (s' := 0) rfl rfl ?_
        refine wp_if rq_90 rfl (fun (h3 : ¬ (zo_isExcluded (q) (i) σ) = 0) => ?_) (fun (h3 : ¬ (¬ (zo_isExcluded (q) (i) σ) = 0)) => ?_)
        · refine wp_seg 1 (P := none) (ls' := [some (aR 8 (0)), some (aR 6 (q)), some (aI (f)), some (aI (a)), some (aI (wr (i + 1)))]) (st' := []) (σ' := σ) rq_90 rfl True.intro (i' := 23) rfl ?_
          refine wp_goto rq_90 rfl ?_
          have e : wr (i + 1) = i + 1 := wr_eq (by omega) (by omega)
          rw [e]
          have eF : fo_countBefore q f σ i = 0 := by rw [fo_countBefore, if_neg h2, if_pos h3]
          refine ih (i + 1) _ ?_ (by omega) (by omega) (by omega)
          rw [ha, sumTo_s _ h0, eF, Int.add_zero]
        · refine wp_seg 4 (P := none) (ls' := [some (aR 8 (0)), some (aR 6 (q)), some (aI (f)), some (aI (a)), some (aI (i))]) (st' := [aI (f), aI (i), aR 6 (q), aR 8 (0)]) (σ' := σ) rq_90 rfl True.intro (i' := 19) rfl ?_
          refine wp_call (C := 8) (As := [aR 8 (0), aR 6 (q), aI (i), aI (f)]) (rest := []) rq_90 (ev_compare (q) (i) (f) σ ) rfl rfl (show clOK 90 88 0 0 0 4 8 = true by decide +kernel) rfl (show 0 ≤ 4 by decide) (fun _ => ⟨_, rfl⟩) rfl (c' := 0) (s' := 0) rfl rfl ?_
          refine wp_if rq_90 rfl (fun (h4 : (zo_compare (q) (i) (f) σ) ≤ 0) => ?_) (fun (h4 : ¬ ((zo_compare (q) (i) (f) σ) ≤ 0)) => ?_)
          · refine wp_seg 1 (P := none) (ls' := [some (aR 8 (0)), some (aR 6 (q)), some (aI (f)), some (aI (a)), some (aI (wr (i + 1)))]) (st' := []) (σ' := σ) rq_90 rfl True.intro (i' := 23) rfl ?_
            refine wp_goto rq_90 rfl ?_
            have e : wr (i + 1) = i + 1 := wr_eq (by omega) (by omega)
            rw [e]
            have eF : fo_countBefore q f σ i = 0 := by rw [fo_countBefore, if_neg h2, if_neg h3, if_pos h4]
            refine ih (i + 1) _ ?_ (by omega) (by omega) (by omega)
            rw [ha, sumTo_s _ h0, eF, Int.add_zero]
          · refine wp_seg 2 (P := none) (ls' := [some (aR 8 (0)), some (aR 6 (q)), some (aI (f)), some (aI (wr (a + 1))), some (aI (wr (i + 1)))]) (st' := []) (σ' := σ) rq_90 rfl True.intro (i' := 23) rfl ?_
            refine wp_goto rq_90 rfl ?_
            have e : wr (i + 1) = i + 1 := wr_eq (by omega) (by omega)
            rw [e]
            have eF : fo_countBefore q f σ i = 1 := by rw [fo_countBefore, if_neg h2, if_neg h3, if_neg h4]
            refine ih (i + 1) _ ?_ (by omega) (by omega) (by omega)
            show wr (a + 1) = _
            rw [ha, wr_wl, sumTo_s _ h0, eF]
theorem ev_countBefore (q f : Int) (σ : Mem) : Ev true 90 [aR 8 (0), aR 6 (q), aI (f)] σ (.inl (some (aI (wr (sumTo (fo_countBefore q f σ) (σ 6 (q) 0)))))) σ := by
  show wp true 90 0 [some (aR 8 (0)), some (aR 6 (q)), some (aI (f)), none, none] [] σ 0 0 _
  refine wp_seg 4 (P := none) (ls' := [some (aR 8 (0)), some (aR 6 (q)), some (aI (f)), some (aI (0)), some (aI (0))]) (st' := []) (σ' := σ) rq_90 rfl True.intro (i' := 4) rfl ?_
  refine wp_wf (fun hw hl => ?_)
  have h := lp_countBefore q f σ (wf_le hw 6 (q) 0 (by decide)).2 ((σ 6 (q) 0 - 0).toNat + 1) 0 0 (by rw [sumTo_0]; rfl) (by omega) (Or.inr rfl) (by omega)
  exact h

def fp_findInPool (m x y : Int) (σ : Mem) (i : Int) : Bool := if (zo_isWith (m) (i) (x) σ) = 0 then false else if (zo_isWith (m) (i) (y) σ) = 0 then false else true
theorem lp_findInPool (m x y : Int) (σ : Mem) (hL : σ 0 (m) 1 ≤ 2147483647) (r : Int) : ∀ (n : Nat) (i : Int), 0 ≤ i → (σ 0 (m) 1 - i).toNat < n → r = fnd (fp_findInPool m x y σ) i (σ 0 (m) 1) → wp true 13 2 [some (aR 0 (m)), some (aI (x)), some (aI (y)), some (aI (i))] [] σ 0 0 (fun o' σ2 => o' = .inl (some (aI r)) ∧ σ2 = σ) := by
  intro n
  induction n with
  | zero => intros; omega
  | succ n ih =>
    intro i h0 hm hr
    refine wp_seg 3 (P := none) (ls' := [some (aR 0 (m)), some (aI (x)), some (aI (y)), some (aI (i))]) (st' := [aI (σ 0 (m) 1), aI (i)]) (σ' := σ) rq_13 rfl True.intro (i' := 5) rfl ?_
    refine wp_icmp rq_13 rfl (fun (h1 : (σ 0 (m) 1) ≤ (i)) => ?_) (fun (h1 : ¬ ((σ 0 (m) 1) ≤ (i))) => ?_)
    · refine wp_seg 1 (P := none) (ls' := [some (aR 0 (m)), some (aI (x)), some (aI (y)), some (aI (i))]) (st' := [aI (-1)]) (σ' := σ) rq_13 rfl True.intro (i' := 21) rfl ?_
      refine wp_iret rq_13 rfl rt_13 ⟨?_, ?_⟩
      · show (Sum.inl (some (aI _)) : Out) = _
        rw [hr, fnd_end h1]
      · rfl
    · refine wp_seg 3 (P := none) (ls' := [some (aR 0 (m)), some (aI (x)), some (aI (y)), some (aI (i))]) (st' := [aI (x), aI (i), aR 0 (m)]) (σ' := σ) rq_13 rfl True.intro (i' := 9) rfl ?_
      refine wp_call (C := 0) (As := [aR 0 (m), aI (i), aI (x)]) (rest := []) rq_13 (ev_isWith (m) (i) (x) σ ) rfl rfl (show clOK 13 7 0 0 0 3 0 = true by decide +kernel) rfl (show 0 ≤ 4 by decide) (fun _ => ⟨_, rfl⟩) rfl (c' := 0) (s' := 0) rfl rfl ?_
      refine wp_if rq_13 rfl (fun (h2 : (zo_isWith (m) (i) (x) σ) = 0) => ?_) (fun (h2 : ¬ ((zo_isWith (m) (i) (x) σ) = 0)) => ?_)
      · refine wp_seg 1 (P := none) (ls' := [some (aR 0 (m)), some (aI (x)), some (aI (y)), some (aI (wr (i + 1)))]) (st' := []) (σ' := σ) rq_13 rfl True.intro (i' := 19) rfl ?_
        refine wp_goto rq_13 rfl ?_
        have e : wr (i + 1) = i + 1 := wr_eq (by omega) (by omega)
        rw [e]
        exact ih (i + 1) (by omega) (by omega) (hr.trans (by rw [fnd_n (by omega) (by rw [fp_findInPool, if_pos h2]; decide)]))
      · refine wp_seg 3 (P := none) (ls' := [some (aR 0 (m)), some (aI (x)), some (aI (y)), some (aI (i))]) (st' := [aI (y), aI (i), aR 0 (m)]) (σ' := σ) rq_13 rfl True.intro (i' := 14) rfl ?_
        refine wp_call (C := 0) (As := [aR 0 (m), aI (i), aI (y)]) (rest := []) rq_13 (ev_isWith (m) (i) (y) σ ) rfl rfl (show clOK 13 7 0 0 0 3 0 = true by decide +kernel) rfl (show 0 ≤ 4 by decide) (fun _ => ⟨_, rfl⟩) rfl (c' := 0) (s' := 0) rfl rfl ?_
        refine wp_if rq_13 rfl (fun (h3 : (zo_isWith (m) (i) (y) σ) = 0) => ?_) (fun (h3 : ¬ ((zo_isWith (m) (i) (y) σ) = 0)) => ?_)
        · refine wp_seg 1 (P := none) (ls' := [some (aR 0 (m)), some (aI (x)), some (aI (y)), some (aI (wr (i + 1)))]) (st' := []) (σ' := σ) rq_13 rfl True.intro (i' := 19) rfl ?_
          refine wp_goto rq_13 rfl ?_
          have e : wr (i + 1) = i + 1 := wr_eq (by omega) (by omega)
          rw [e]
          exact ih (i + 1) (by omega) (by omega) (hr.trans (by rw [fnd_n (by omega) (by rw [fp_findInPool, if_neg h2, if_pos h3]; decide)]))
        · refine wp_seg 1 (P := none) (ls' := [some (aR 0 (m)), some (aI (x)), some (aI (y)), some (aI (i))]) (st' := [aI (i)]) (σ' := σ) rq_13 rfl True.intro (i' := 17) rfl ?_
          refine wp_iret rq_13 rfl rt_13 ⟨?_, ?_⟩
          · show (Sum.inl (some (aI _)) : Out) = _
            rw [hr, fnd_y (by omega) (by rw [fp_findInPool, if_neg h2, if_neg h3])]
          · rfl
theorem ev_findInPool (m x y : Int) (σ : Mem) : Ev true 13 [aR 0 (m), aI (x), aI (y)] σ (.inl (some (aI (fnd (fp_findInPool m x y σ) (0) (σ 0 (m) 1))))) σ := by
  show wp true 13 0 [some (aR 0 (m)), some (aI (x)), some (aI (y)), none] [] σ 0 0 _
  refine wp_seg 2 (P := none) (ls' := [some (aR 0 (m)), some (aI (x)), some (aI (y)), some (aI (0))]) (st' := []) (σ' := σ) rq_13 rfl True.intro (i' := 2) rfl ?_
  refine wp_wf (fun hw hl => ?_)
  exact lp_findInPool m x y σ (wf_le hw 0 (m) 1 (by decide)).2 _ ((σ 0 (m) 1 - (0)).toNat + 1) (0) (by decide) (by omega) rfl

def fm_annulInPool (m f : Int) (i : Int) (s : Mem) : Mem := if (zo_isWith (m) (i) (f) s) = 0 then s else (zm_wipe (m) (i) (3) s)
theorem kl_annulInPool (m f : Int) (i : Int) (s : Mem) : (fm_annulInPool m f i s) 0 (m) 1 = s 0 (m) 1 := by
  unfold fm_annulInPool; split <;> simp [zm_wipe, rset, up] <;> repeat' (first | rfl | split)
theorem lp_annulInPool (m f : Int) (σ : Mem) (hL : σ 0 (m) 1 ≤ 2147483647) : ∀ (n : Nat) (i : Int) (s : Mem), s = itM (fm_annulInPool m f) i σ → 0 ≤ i → (i ≤ σ 0 (m) 1 ∨ i = 0) → (σ 0 (m) 1 - i).toNat < n → wp true 15 2 [some (aR 0 (m)), some (aI (f)), some (aI (i))] [] s 0 0 (fun o' σ2 => o' = .inl none ∧ σ2 = (itM (fm_annulInPool m f) (σ 0 (m) 1) σ)) := by
  intro n
  induction n with
  | zero => intros; omega
  | succ n ih =>
    intro i s hs h0 hi hm
    have hk : s 0 (m) 1 = σ 0 (m) 1 := by rw [hs]; exact itM_inv (fun s => s 0 (m) 1) σ i (fun j s _ _ => kl_annulInPool m f j s)
    refine wp_seg 3 (P := none) (ls' := [some (aR 0 (m)), some (aI (f)), some (aI (i))]) (st' := [aI (s 0 (m) 1), aI (i)]) (σ' := s) rq_15 rfl True.intro (i' := 5) rfl ?_
    refine wp_icmp rq_15 rfl (fun (h1 : (s 0 (m) 1) ≤ (i)) => ?_) (fun (h1 : ¬ ((s 0 (m) 1) ≤ (i))) => ?_)
    · refine wp_vret rq_15 rfl rt_15 ⟨?_, ?_⟩
      · rfl
      · rw [hs, itM_end _ σ (by omega) hi]
    · refine wp_seg 3 (P := none) (ls' := [some (aR 0 (m)), some (aI (f)), some (aI (i))]) (st' := [aI (f), aI (i), aR 0 (m)]) (σ' := s) rq_15 rfl True.intro (i' := 9) rfl ?_
      refine wp_call (C := 0) (As := [aR 0 (m), aI (i), aI (f)]) (rest := []) rq_15 (ev_isWith (m) (i) (f) s ) rfl rfl (show clOK 15 7 0 0 0 3 0 = true by decide +kernel) rfl (show 0 ≤ 4 by decide) (fun _ => ⟨_, rfl⟩) rfl (c' := 0) (s' := 0) rfl rfl ?_
      refine wp_if rq_15 rfl (fun (h2 : (zo_isWith (m) (i) (f) s) = 0) => ?_) (fun (h2 : ¬ ((zo_isWith (m) (i) (f) s) = 0)) => ?_)
      · refine wp_seg 1 (P := none) (ls' := [some (aR 0 (m)), some (aI (f)), some (aI (wr (i + 1)))]) (st' := []) (σ' := s) rq_15 rfl True.intro (i' := 16) rfl ?_
        refine wp_goto rq_15 rfl ?_
        have e : wr (i + 1) = i + 1 := wr_eq (by omega) (by omega)
        rw [e]
        have eF : fm_annulInPool m f i s = s := by rw [fm_annulInPool, if_pos h2]
        refine ih (i + 1) _ ?_ (by omega) (by omega) (by omega)
        rw [itM_s _ σ h0, ← hs, eF]
      · refine wp_seg 3 (P := none) (ls' := [some (aR 0 (m)), some (aI (f)), some (aI (i))]) (st' := [aI (3), aI (i), aR 0 (m)]) (σ' := s) rq_15 rfl True.intro (i' := 14) rfl ?_
        refine wp_call (C := 0) (As := [aR 0 (m), aI (i), aI (3)]) (rest := []) rq_15 (ev_wipe (m) (i) (3) s ) rfl rfl (show clOK 15 2 0 0 0 3 0 = true by decide +kernel) rfl (show 0 ≤ 4 by decide) (fun _ => ⟨_, rfl⟩) rfl (c' := 0) (s' := 0) rfl rfl ?_
        refine wp_seg 1 (P := none) (ls' := [some (aR 0 (m)), some (aI (f)), some (aI (wr (i + 1)))]) (st' := []) (σ' := (zm_wipe (m) (i) (3) s)) rq_15 rfl True.intro (i' := 16) rfl ?_
        refine wp_goto rq_15 rfl ?_
        have e : wr (i + 1) = i + 1 := wr_eq (by omega) (by omega)
        rw [e]
        have eF : fm_annulInPool m f i s = (zm_wipe (m) (i) (3) s) := by rw [fm_annulInPool, if_neg h2]
        refine ih (i + 1) _ ?_ (by omega) (by omega) (by omega)
        rw [itM_s _ σ h0, ← hs, eF]
def zm_annulInPool (m f : Int) (σ : Mem) : Mem := (itM (fm_annulInPool m f) (σ 0 (m) 1) σ)
theorem ev_annulInPool (m f : Int) (σ : Mem) : Ev true 15 [aR 0 (m), aI (f)] σ (.inl none) (zm_annulInPool m f σ) := by
  show wp true 15 0 [some (aR 0 (m)), some (aI (f)), none] [] σ 0 0 _
  refine wp_seg 2 (P := none) (ls' := [some (aR 0 (m)), some (aI (f)), some (aI (0))]) (st' := []) (σ' := σ) rq_15 rfl True.intro (i' := 2) rfl ?_
  refine wp_wf (fun hw hl => ?_)
  exact lp_annulInPool m f σ (wf_le hw 0 (m) 1 (by decide)).2 ((σ 0 (m) 1 - 0).toNat + 1) 0 _ rfl (by omega) (Or.inr rfl) (by omega)

theorem countSide_o {q b s r k : Int} {σ : Mem} {C : Nat} (h : C ≠ 13) : zm_countSide q b s σ C r k = σ C r k := by
  unfold zm_countSide
  split
  · repeat rw [rset_o (Or.inl h)]
  · repeat rw [rset_o (Or.inl h)]

def fm_tally (w : Int) (i : Int) (s : Mem) : Mem := if ¬ (rget s (18 * (w) + 11) (i)) = 2 then s else (zm_countSide (w) (i) (1) (zm_countSide (w) (i) (0) s))
theorem kl_tally (w : Int) (i : Int) (s : Mem) : (fm_tally w i s) 0 (w) 1 = s 0 (w) 1 := by
  unfold fm_tally; split
  · rfl
  · rw [countSide_o (by decide), countSide_o (by decide)]
theorem lp_tally (w : Int) (σ : Mem) (hL : σ 0 (w) 1 ≤ 2147483647) : ∀ (n : Nat) (i : Int) (s : Mem), s = itM (fm_tally w) i σ → 0 ≤ i → (i ≤ σ 0 (w) 1 ∨ i = 0) → (σ 0 (w) 1 - i).toNat < n → wp true 84 18 [some (aR 8 (0)), some (aR 2 (w)), some (aI (i))] [] s 0 0 (fun o' σ2 => o' = .inl none ∧ σ2 = (itM (fm_tally w) (σ 0 (w) 1) σ)) := by
  intro n
  induction n with
  | zero => intros; omega
  | succ n ih =>
    intro i s hs h0 hi hm
    have hk : s 0 (w) 1 = σ 0 (w) 1 := by rw [hs]; exact itM_inv (fun s => s 0 (w) 1) σ i (fun j s _ _ => kl_tally w j s)
    refine wp_seg 4 (P := none) (ls' := [some (aR 8 (0)), some (aR 2 (w)), some (aI (i))]) (st' := [aI (s 0 (w) 1), aI (i)]) (σ' := s) rq_84 rfl True.intro (i' := 22) rfl ?_
    refine wp_icmp rq_84 rfl (fun (h1 : (s 0 (w) 1) ≤ (i)) => ?_) (fun (h1 : ¬ ((s 0 (w) 1) ≤ (i))) => ?_)
    · refine wp_vret rq_84 rfl rt_84 ⟨?_, ?_⟩
      · rfl
      · rw [hs, itM_end _ σ (by omega) hi]
    · refine wp_seg 4 (P := none) (ls' := [some (aR 8 (0)), some (aR 2 (w)), some (aI (i))]) (st' := [aI (i), aR 7 (18 * (w) + 11)]) (σ' := s) rq_84 rfl True.intro (i' := 27) rfl ?_
      refine wp_call (C := 7) (As := [aR 7 (18 * (w) + 11), aI (i)]) (rest := []) rq_84 (ev_get (18 * (w) + 11) (i) s ) rfl rfl (show clOK 84 78 0 0 0 2 7 = true by decide +kernel) rfl (show 0 ≤ 4 by decide) (fun _ => ⟨_, rfl⟩) rfl (c' := 0) (s' := 0) rfl rfl ?_
      refine wp_seg 1 (P := none) (ls' := [some (aR 8 (0)), some (aR 2 (w)), some (aI (i))]) (st' := [aI (2), aI (rget s (18 * (w) + 11) (i))]) (σ' := s) rq_84 rfl True.intro (i' := 29) rfl ?_
      refine wp_icmp rq_84 rfl (fun (h2 : ¬ (rget s (18 * (w) + 11) (i)) = 2) => ?_) (fun (h2 : ¬ (¬ (rget s (18 * (w) + 11) (i)) = 2)) => ?_)
      · refine wp_seg 1 (P := none) (ls' := [some (aR 8 (0)), some (aR 2 (w)), some (aI (wr (i + 1)))]) (st' := []) (σ' := s) rq_84 rfl True.intro (i' := 43) rfl ?_
        refine wp_goto rq_84 rfl ?_
        have e : wr (i + 1) = i + 1 := wr_eq (by omega) (by omega)
        rw [e]
        have eF : fm_tally w i s = s := by rw [fm_tally, if_pos h2]
        refine ih (i + 1) _ ?_ (by omega) (by omega) (by omega)
        rw [itM_s _ σ h0, ← hs, eF]
      · refine wp_seg 5 (P := none) (ls' := [some (aR 8 (0)), some (aR 2 (w)), some (aI (i))]) (st' := [aI (0), aI (i), aR 0 (w), aR 8 (0)]) (σ' := s) rq_84 rfl True.intro (i' := 35) rfl ?_
        refine wp_call (C := 8) (As := [aR 8 (0), aR 0 (w), aI (i), aI (0)]) (rest := []) rq_84 (ev_countSide (w) (i) (0) s ) rfl rfl (show clOK 84 85 0 0 0 4 8 = true by decide +kernel) rfl (show 0 ≤ 4 by decide) (fun _ => ⟨_, rfl⟩) rfl (c' := 0) (s' := 0) rfl rfl ?_
        refine wp_seg 5 (P := none) (ls' := [some (aR 8 (0)), some (aR 2 (w)), some (aI (i))]) (st' := [aI (1), aI (i), aR 0 (w), aR 8 (0)]) (σ' := (zm_countSide (w) (i) (0) s)) rq_84 rfl True.intro (i' := 41) rfl ?_
        refine wp_call (C := 8) (As := [aR 8 (0), aR 0 (w), aI (i), aI (1)]) (rest := []) rq_84 (ev_countSide (w) (i) (1) (zm_countSide (w) (i) (0) s) ) rfl rfl (show clOK 84 85 0 0 0 4 8 = true by decide +kernel) rfl (show 0 ≤ 4 by decide) (fun _ => ⟨_, rfl⟩) rfl (c' := 0) (s' := 0) rfl rfl ?_
        refine wp_seg 1 (P := none) (ls' := [some (aR 8 (0)), some (aR 2 (w)), some (aI (wr (i + 1)))]) (st' := []) (σ' := (zm_countSide (w) (i) (1) (zm_countSide (w) (i) (0) s))) rq_84 rfl True.intro (i' := 43) rfl ?_
        refine wp_goto rq_84 rfl ?_
        have e : wr (i + 1) = i + 1 := wr_eq (by omega) (by omega)
        rw [e]
        have eF : fm_tally w i s = (zm_countSide (w) (i) (1) (zm_countSide (w) (i) (0) s)) := by rw [fm_tally, if_neg h2]
        refine ih (i + 1) _ ?_ (by omega) (by omega) (by omega)
        rw [itM_s _ σ h0, ← hs, eF]
def zm_tally (w : Int) (σ : Mem) : Mem := (itM (fm_tally w) ((rfill (rfill (rfill (rfill σ (180) (0)) (181) (0)) (182) (0)) (183) (0)) 0 (w) 1) (rfill (rfill (rfill (rfill σ (180) (0)) (181) (0)) (182) (0)) (183) (0)))
theorem ev_tally (w : Int) (σ : Mem) : Ev true 84 [aR 8 (0), aR 2 (w)] σ (.inl none) (zm_tally w σ) := by
  show wp true 84 0 [some (aR 8 (0)), some (aR 2 (w)), none] [] σ 0 0 _
  refine wp_seg 3 (P := none) (ls' := [some (aR 8 (0)), some (aR 2 (w)), none]) (st' := [aI (0), aR 7 (180)]) (σ' := σ) rq_84 rfl True.intro (i' := 3) rfl ?_
  refine wp_call (C := 7) (As := [aR 7 (180), aI (0)]) (rest := []) rq_84 (ev_fill (180) (0) σ ) rfl rfl (show clOK 84 81 0 0 0 2 7 = true by decide +kernel) rfl (show 0 ≤ 4 by decide) (fun _ => ⟨_, rfl⟩) rfl (c' := 0) (s' := 0) rfl rfl ?_
  refine wp_seg 3 (P := none) (ls' := [some (aR 8 (0)), some (aR 2 (w)), none]) (st' := [aI (0), aR 7 (181)]) (σ' := (rfill σ (180) (0))) rq_84 rfl True.intro (i' := 7) rfl ?_
  refine wp_call (C := 7) (As := [aR 7 (181), aI (0)]) (rest := []) rq_84 (ev_fill (181) (0) (rfill σ (180) (0)) ) rfl rfl (show clOK 84 81 0 0 0 2 7 = true by decide +kernel) rfl (show 0 ≤ 4 by decide) (fun _ => ⟨_, rfl⟩) rfl (c' := 0) (s' := 0) rfl rfl ?_
  refine wp_seg 3 (P := none) (ls' := [some (aR 8 (0)), some (aR 2 (w)), none]) (st' := [aI (0), aR 7 (182)]) (σ' := (rfill (rfill σ (180) (0)) (181) (0))) rq_84 rfl True.intro (i' := 11) rfl ?_
  refine wp_call (C := 7) (As := [aR 7 (182), aI (0)]) (rest := []) rq_84 (ev_fill (182) (0) (rfill (rfill σ (180) (0)) (181) (0)) ) rfl rfl (show clOK 84 81 0 0 0 2 7 = true by decide +kernel) rfl (show 0 ≤ 4 by decide) (fun _ => ⟨_, rfl⟩) rfl (c' := 0) (s' := 0) rfl rfl ?_
  refine wp_seg 3 (P := none) (ls' := [some (aR 8 (0)), some (aR 2 (w)), none]) (st' := [aI (0), aR 7 (183)]) (σ' := (rfill (rfill (rfill σ (180) (0)) (181) (0)) (182) (0))) rq_84 rfl True.intro (i' := 15) rfl ?_
  refine wp_call (C := 7) (As := [aR 7 (183), aI (0)]) (rest := []) rq_84 (ev_fill (183) (0) (rfill (rfill (rfill σ (180) (0)) (181) (0)) (182) (0)) ) rfl rfl (show clOK 84 81 0 0 0 2 7 = true by decide +kernel) rfl (show 0 ≤ 4 by decide) (fun _ => ⟨_, rfl⟩) rfl (c' := 0) (s' := 0) rfl rfl ?_
  refine wp_seg 2 (P := none) (ls' := [some (aR 8 (0)), some (aR 2 (w)), some (aI (0))]) (st' := []) (σ' := (rfill (rfill (rfill (rfill σ (180) (0)) (181) (0)) (182) (0)) (183) (0))) rq_84 rfl True.intro (i' := 18) rfl ?_
  refine wp_wf (fun hw hl => ?_)
  exact lp_tally w (rfill (rfill (rfill (rfill σ (180) (0)) (181) (0)) (182) (0)) (183) (0)) (wf_le hw 0 (w) 1 (by decide)).2 (((rfill (rfill (rfill (rfill σ (180) (0)) (181) (0)) (182) (0)) (183) (0)) 0 (w) 1 - 0).toNat + 1) 0 _ rfl (by omega) (Or.inr rfl) (by omega)

