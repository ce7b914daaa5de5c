/-! Loops of the parts of a meet, as steps. -/
def fr_insert (q f : Int) : Int × Mem → Int × Mem ⊕ Out × Mem := fun ⟨i, s⟩ => if (i) ≤ 0 then (.inr (.inl none, (up (rset s (184) (i) (f)) 8 (0) 0 (wr (((rset s (184) (i) (f)) 8 (0) 0) + (1)))))) else (if (zo_compare (q) (f) (rget s (184) (wr ((i) - (1)))) s) ≤ 0 then (.inr (.inl none, (up (rset s (184) (i) (f)) 8 (0) 0 (wr (((rset s (184) (i) (f)) 8 (0) 0) + (1)))))) else (.inl (wr (i + (-1)), (rset s (184) (i) (rget s (184) (wr ((i) - (1))))))))
theorem lr_insert (q f : Int) (o : Out) (t : Mem) : ∀ (fu : Nat) (i : Int) (s : Mem), rs (fr_insert q f) fu (i, s) = some (o, t) → wp true 92 3 [some (aR 8 (0)), some (aR 6 (q)), some (aI (f)), some (aI (i))] [] s 0 0 (fun o' σ2 => o' = o ∧ σ2 = t) := by
  intro fu
  induction fu with
  | zero => intro i s hr; cases hr
  | succ fu ih =>
    intro i s hr
    refine wp_seg 1 (P := none) (ls' := [some (aR 8 (0)), some (aR 6 (q)), some (aI (f)), some (aI (i))]) (st' := [aI (i)]) (σ' := s) rq_92 rfl True.intro (i' := 4) rfl ?_
    refine wp_if rq_92 rfl (fun (h1 : (i) ≤ 0) => ?_) (fun (h1 : ¬ ((i) ≤ 0)) => ?_)
    · refine wp_seg 4 (P := none) (ls' := [some (aR 8 (0)), some (aR 6 (q)), some (aI (f)), some (aI (i))]) (st' := [aI (f), aI (i), aR 7 (184)]) (σ' := s) rq_92 rfl True.intro (i' := 32) rfl ?_
      refine wp_call (C := 7) (As := [aR 7 (184), aI (i), aI (f)]) (rest := []) rq_92 (ev_set (184) (i) (f) s ) rfl rfl (show clOK 92 79 0 0 0 3 7 = true by decide +kernel) rfl (show 0 ≤ 4 by decide) (fun _ => ⟨_, rfl⟩) rfl (c' := 0) (s' := 0) rfl rfl ?_
      refine wp_seg 6 (P := none) (ls' := [some (aR 8 (0)), some (aR 6 (q)), some (aI (f)), some (aI (i))]) (st' := []) (σ' := (up (rset s (184) (i) (f)) 8 (0) 0 (wr (((rset s (184) (i) (f)) 8 (0) 0) + (1))))) rq_92 rfl True.intro (i' := 39) rfl ?_
      refine wp_vret rq_92 rfl rt_92 ⟨?_, ?_⟩
      · have eF : fr_insert q f (i, s) = .inr (.inl none, (up (rset s (184) (i) (f)) 8 (0) 0 (wr (((rset s (184) (i) (f)) 8 (0) 0) + (1))))) := by simp only [fr_insert]; rw [if_pos h1]
        rw [rs_s, eF] at hr
        have hr2 := Option.some.inj hr
        exact congrArg Prod.fst hr2
      · have eF : fr_insert q f (i, s) = .inr (.inl none, (up (rset s (184) (i) (f)) 8 (0) 0 (wr (((rset s (184) (i) (f)) 8 (0) 0) + (1))))) := by simp only [fr_insert]; rw [if_pos h1]
        rw [rs_s, eF] at hr
        have hr2 := Option.some.inj hr
        exact congrArg Prod.snd hr2
    · refine wp_seg 8 (P := none) (ls' := [some (aR 8 (0)), some (aR 6 (q)), some (aI (f)), some (aI (i))]) (st' := [aI (wr ((i) - (1))), aR 7 (184), aI (f), aR 6 (q), aR 8 (0)]) (σ' := s) rq_92 rfl True.intro (i' := 13) rfl ?_
      refine wp_call (C := 7) (As := [aR 7 (184), aI (wr ((i) - (1)))]) (rest := [aI (f), aR 6 (q), aR 8 (0)]) rq_92 (ev_get (184) (wr ((i) - (1))) s ) rfl rfl (show clOK 92 78 0 0 0 2 7 = true by decide +kernel) rfl (show 3 ≤ 4 by decide) (fun _ => ⟨_, rfl⟩) rfl (c' := 0) (s' := 0) rfl rfl ?_
      refine wp_call (C := 8) (As := [aR 8 (0), aR 6 (q), aI (f), aI (rget s (184) (wr ((i) - (1))))]) (rest := []) rq_92 (ev_compare (q) (f) (rget s (184) (wr ((i) - (1)))) s ) rfl rfl (show clOK 92 88 0 0 0 4 8 = true by decide +kernel) rfl (show 0 ≤ 4 by decide) (fun _ => ⟨_, rfl⟩) rfl (c' := 0) (s' := 0) rfl rfl ?_
      refine wp_if rq_92 rfl (fun (h2 : (zo_compare (q) (f) (rget s (184) (wr ((i) - (1)))) s) ≤ 0) => ?_) (fun (h2 : ¬ ((zo_compare (q) (f) (rget s (184) (wr ((i) - (1)))) s) ≤ 0)) => ?_)
      · refine wp_seg 4 (P := none) (ls' := [some (aR 8 (0)), some (aR 6 (q)), some (aI (f)), some (aI (i))]) (st' := [aI (f), aI (i), aR 7 (184)]) (σ' := s) rq_92 rfl True.intro (i' := 32) rfl ?_
        refine wp_call (C := 7) (As := [aR 7 (184), aI (i), aI (f)]) (rest := []) rq_92 (ev_set (184) (i) (f) s ) rfl rfl (show clOK 92 79 0 0 0 3 7 = true by decide +kernel) rfl (show 0 ≤ 4 by decide) (fun _ => ⟨_, rfl⟩) rfl (c' := 0) (s' := 0) rfl rfl ?_
        refine wp_seg 6 (P := none) (ls' := [some (aR 8 (0)), some (aR 6 (q)), some (aI (f)), some (aI (i))]) (st' := []) (σ' := (up (rset s (184) (i) (f)) 8 (0) 0 (wr (((rset s (184) (i) (f)) 8 (0) 0) + (1))))) rq_92 rfl True.intro (i' := 39) rfl ?_
        refine wp_vret rq_92 rfl rt_92 ⟨?_, ?_⟩
        · have eF : fr_insert q f (i, s) = .inr (.inl none, (up (rset s (184) (i) (f)) 8 (0) 0 (wr (((rset s (184) (i) (f)) 8 (0) 0) + (1))))) := by simp only [fr_insert]; rw [if_neg h1, if_pos h2]
          rw [rs_s, eF] at hr
          have hr2 := Option.some.inj hr
          exact congrArg Prod.fst hr2
        · have eF : fr_insert q f (i, s) = .inr (.inl none, (up (rset s (184) (i) (f)) 8 (0) 0 (wr (((rset s (184) (i) (f)) 8 (0) 0) + (1))))) := by simp only [fr_insert]; rw [if_neg h1, if_pos h2]
          rw [rs_s, eF] at hr
          have hr2 := Option.some.inj hr
          exact congrArg Prod.snd hr2
      · refine wp_seg 8 (P := none) (ls' := [some (aR 8 (0)), some (aR 6 (q)), some (aI (f)), some (aI (i))]) (st' := [aI (wr ((i) - (1))), aR 7 (184), aI (i), aR 7 (184)]) (σ' := s) rq_92 rfl True.intro (i' := 24) rfl ?_
        refine wp_call (C := 7) (As := [aR 7 (184), aI (wr ((i) - (1)))]) (rest := [aI (i), aR 7 (184)]) rq_92 (ev_get (184) (wr ((i) - (1))) s ) rfl rfl (show clOK 92 78 0 0 0 2 7 = true by decide +kernel) rfl (show 2 ≤ 4 by decide) (fun _ => ⟨_, rfl⟩) rfl (c' := 0) (s' := 0) rfl rfl ?_
        refine wp_call (C := 7) (As := [aR 7 (184), aI (i), aI (rget s (184) (wr ((i) - (1))))]) (rest := []) rq_92 (ev_set (184) (i) (rget s (184) (wr ((i) - (1)))) s ) rfl rfl (show clOK 92 79 0 0 0 3 7 = true by decide +kernel) rfl (show 0 ≤ 4 by decide) (fun _ => ⟨_, rfl⟩) rfl (c' := 0) (s' := 0) rfl rfl ?_
        refine wp_seg 1 (P := none) (ls' := [some (aR 8 (0)), some (aR 6 (q)), some (aI (f)), some (aI (wr (i + (-1))))]) (st' := []) (σ' := (rset s (184) (i) (rget s (184) (wr ((i) - (1)))))) rq_92 rfl True.intro (i' := 27) rfl ?_
        refine wp_goto rq_92 rfl ?_
        have eF : fr_insert q f (i, s) = .inl (wr (i + (-1)), (rset s (184) (i) (rget s (184) (wr ((i) - (1)))))) := by simp only [fr_insert]; rw [if_neg h1, if_neg h2]
        rw [rs_s, eF] at hr
        exact ih _ _ hr

def fr_choose (m r c q : Int) (σ : Mem) : Int × Int × Int → Int × Int × Int ⊕ Out := fun ⟨b, w, i⟩ => if (σ 3 (m) 0) ≤ (i) then (.inr (.inl (some (aI (b))))) else (if ¬ ((r : Int).tmod (2)) = 0 then (if ¬ (rget σ (18 * (m) + 7) (wr ((wr ((σ 3 (m) 0) - (1))) - (i)))) = (r) then (.inl (b, w, wr (i + 1))) else (if (w) ≤ (wr (sumTo (fo_countOfClub (m) (wr ((wr ((σ 3 (m) 0) - (1))) - (i))) (c) (q) σ) (rget σ (18 * ((m)) + 7) ((wr ((wr ((σ 3 (m) 0) - (1))) - (i))))))) then (.inl (b, w, wr (i + 1))) else (.inl (wr ((wr ((σ 3 (m) 0) - (1))) - (i)), wr (sumTo (fo_countOfClub (m) (wr ((wr ((σ 3 (m) 0) - (1))) - (i))) (c) (q) σ) (rget σ (18 * ((m)) + 7) ((wr ((wr ((σ 3 (m) 0) - (1))) - (i)))))), wr (i + 1))))) else (if ¬ (rget σ (18 * (m) + 7) (i)) = (r) then (.inl (b, w, wr (i + 1))) else (if (w) ≤ (wr (sumTo (fo_countOfClub (m) (i) (c) (q) σ) (rget σ (18 * ((m)) + 7) ((i))))) then (.inl (b, w, wr (i + 1))) else (.inl (i, wr (sumTo (fo_countOfClub (m) (i) (c) (q) σ) (rget σ (18 * ((m)) + 7) ((i)))), wr (i + 1))))))
theorem lr_choose (m r c q : Int) (σ : Mem) (o : Out) : ∀ (fu : Nat) (b : Int) (w : Int) (i : Int), rs (fr_choose m r c q σ) fu (b, w, i) = some o → wp true 48 6 [some (aR 3 (m)), some (aI (r)), some (aI (c)), some (aR 6 (q)), some (aI (b)), some (aI (w)), some (aI (i)), none, none] [] σ 0 0 (fun o' σ2 => o' = o ∧ σ2 = σ) := by
  intro fu
  induction fu with
  | zero => intro b w i hr; cases hr
  | succ fu ih =>
    intro b w i hr
    refine wp_seg 3 (P := none) (ls' := [some (aR 3 (m)), some (aI (r)), some (aI (c)), some (aR 6 (q)), some (aI (b)), some (aI (w)), some (aI (i)), none, none]) (st' := [aI (σ 3 (m) 0), aI (i)]) (σ' := σ) rq_48 rfl True.intro (i' := 9) rfl ?_
    refine wp_icmp rq_48 rfl (fun (h1 : (σ 3 (m) 0) ≤ (i)) => ?_) (fun (h1 : ¬ ((σ 3 (m) 0) ≤ (i))) => ?_)
    · refine wp_seg 1 (P := none) (ls' := [some (aR 3 (m)), some (aI (r)), some (aI (c)), some (aR 6 (q)), some (aI (b)), some (aI (w)), some (aI (i)), none, none]) (st' := [aI (b)]) (σ' := σ) rq_48 rfl True.intro (i' := 45) rfl ?_
      refine wp_iret rq_48 rfl rt_48 ⟨?_, ?_⟩
      · have eF : fr_choose m r c q σ (b, w, i) = .inr (.inl (some (aI (b)))) := by simp only [fr_choose]; rw [if_pos h1]
        rw [rs_s, eF] at hr
        have hr2 := Option.some.inj hr
        exact hr2
      · rfl
    · refine wp_seg 3 (P := some ((2 : Int) ≠ 0)) (ls' := [some (aR 3 (m)), some (aI (r)), some (aI (c)), some (aR 6 (q)), some (aI (b)), some (aI (w)), some (aI (i)), none, none]) (st' := [aI ((r : Int).tmod (2))]) (σ' := σ) rq_48 rfl ?_ (i' := 13) rfl ?_
      · show (2 : Int) ≠ 0
        decide
      refine wp_if rq_48 rfl (fun (h2 : ¬ ((r : Int).tmod (2)) = 0) => ?_) (fun (h2 : ¬ (¬ ((r : Int).tmod (2)) = 0)) => ?_)
      · refine wp_seg 11 (P := none) (ls' := [some (aR 3 (m)), some (aI (r)), some (aI (c)), some (aR 6 (q)), some (aI (b)), some (aI (w)), some (aI (i)), some (aI (wr ((wr ((σ 3 (m) 0) - (1))) - (i)))), none]) (st' := [aR 6 (q), aI (c), aI (wr ((wr ((σ 3 (m) 0) - (1))) - (i))), aR 3 (m)]) (σ' := σ) rq_48 rfl True.intro (i' := 27) rfl ?_
        refine wp_call (C := 3) (As := [aR 3 (m), aI (wr ((wr ((σ 3 (m) 0) - (1))) - (i))), aI (c), aR 6 (q)]) (rest := []) rq_48 (ev_countOfClub (m) (wr ((wr ((σ 3 (m) 0) - (1))) - (i))) (c) (q) σ ) rfl rfl (show clOK 48 49 0 0 0 4 3 = true by decide +kernel) rfl (show 0 ≤ 4 by decide) (fun _ => ⟨_, rfl⟩) rfl (c' := 0) (s' := 0) rfl rfl ?_
        refine wp_seg 4 (P := none) (ls' := [some (aR 3 (m)), some (aI (r)), some (aI (c)), some (aR 6 (q)), some (aI (b)), some (aI (w)), some (aI (i)), some (aI (wr ((wr ((σ 3 (m) 0) - (1))) - (i)))), some (aI (wr (sumTo (fo_countOfClub (m) (wr ((wr ((σ 3 (m) 0) - (1))) - (i))) (c) (q) σ) (rget σ (18 * ((m)) + 7) ((wr ((wr ((σ 3 (m) 0) - (1))) - (i))))))))]) (st' := [aI (wr ((wr ((σ 3 (m) 0) - (1))) - (i))), aR 7 (18 * (m) + 7)]) (σ' := σ) rq_48 rfl True.intro (i' := 32) rfl ?_
        refine wp_call (C := 7) (As := [aR 7 (18 * (m) + 7), aI (wr ((wr ((σ 3 (m) 0) - (1))) - (i)))]) (rest := []) rq_48 (ev_get (18 * (m) + 7) (wr ((wr ((σ 3 (m) 0) - (1))) - (i))) σ ) rfl rfl (show clOK 48 78 0 0 0 2 7 = true by decide +kernel) rfl (show 0 ≤ 4 by decide) (fun _ => ⟨_, rfl⟩) rfl (c' := 0) (s' := 0) rfl rfl ?_
        refine wp_seg 1 (P := none) (ls' := [some (aR 3 (m)), some (aI (r)), some (aI (c)), some (aR 6 (q)), some (aI (b)), some (aI (w)), some (aI (i)), some (aI (wr ((wr ((σ 3 (m) 0) - (1))) - (i)))), some (aI (wr (sumTo (fo_countOfClub (m) (wr ((wr ((σ 3 (m) 0) - (1))) - (i))) (c) (q) σ) (rget σ (18 * ((m)) + 7) ((wr ((wr ((σ 3 (m) 0) - (1))) - (i))))))))]) (st' := [aI (r), aI (rget σ (18 * (m) + 7) (wr ((wr ((σ 3 (m) 0) - (1))) - (i))))]) (σ' := σ) rq_48 rfl True.intro (i' := 34) rfl ?_
        refine wp_icmp rq_48 rfl (fun (h3 : ¬ (rget σ (18 * (m) + 7) (wr ((wr ((σ 3 (m) 0) - (1))) - (i)))) = (r)) => ?_) (fun (h3 : ¬ (¬ (rget σ (18 * (m) + 7) (wr ((wr ((σ 3 (m) 0) - (1))) - (i)))) = (r))) => ?_)
        · refine wp_seg 1 (P := none) (ls' := [some (aR 3 (m)), some (aI (r)), some (aI (c)), some (aR 6 (q)), some (aI (b)), some (aI (w)), some (aI (wr (i + 1))), some (aI (wr ((wr ((σ 3 (m) 0) - (1))) - (i)))), some (aI (wr (sumTo (fo_countOfClub (m) (wr ((wr ((σ 3 (m) 0) - (1))) - (i))) (c) (q) σ) (rget σ (18 * ((m)) + 7) ((wr ((wr ((σ 3 (m) 0) - (1))) - (i))))))))]) (st' := []) (σ' := σ) rq_48 rfl True.intro (i' := 43) rfl ?_
          refine wp_goto rq_48 rfl ?_
          have eF : fr_choose m r c q σ (b, w, i) = .inl (b, w, wr (i + 1)) := by simp only [fr_choose]; rw [if_neg h1, if_pos h2, if_pos h3]
          rw [rs_s, eF] at hr
          refine wp_weak (lessL_c (lessL_c (lessL_c (lessL_c (lessL_c (lessL_c (lessL_c (lessL_n (lessL_n lessL_0))))))))) ?_
          exact ih _ _ _ hr
        · refine wp_seg 2 (P := none) (ls' := [some (aR 3 (m)), some (aI (r)), some (aI (c)), some (aR 6 (q)), some (aI (b)), some (aI (w)), some (aI (i)), some (aI (wr ((wr ((σ 3 (m) 0) - (1))) - (i)))), some (aI (wr (sumTo (fo_countOfClub (m) (wr ((wr ((σ 3 (m) 0) - (1))) - (i))) (c) (q) σ) (rget σ (18 * ((m)) + 7) ((wr ((wr ((σ 3 (m) 0) - (1))) - (i))))))))]) (st' := [aI (w), aI (wr (sumTo (fo_countOfClub (m) (wr ((wr ((σ 3 (m) 0) - (1))) - (i))) (c) (q) σ) (rget σ (18 * ((m)) + 7) ((wr ((wr ((σ 3 (m) 0) - (1))) - (i)))))))]) (σ' := σ) rq_48 rfl True.intro (i' := 37) rfl ?_
          refine wp_icmp rq_48 rfl (fun (h4 : (w) ≤ (wr (sumTo (fo_countOfClub (m) (wr ((wr ((σ 3 (m) 0) - (1))) - (i))) (c) (q) σ) (rget σ (18 * ((m)) + 7) ((wr ((wr ((σ 3 (m) 0) - (1))) - (i)))))))) => ?_) (fun (h4 : ¬ ((w) ≤ (wr (sumTo (fo_countOfClub (m) (wr ((wr ((σ 3 (m) 0) - (1))) - (i))) (c) (q) σ) (rget σ (18 * ((m)) + 7) ((wr ((wr ((σ 3 (m) 0) - (1))) - (i))))))))) => ?_)
          · refine wp_seg 1 (P := none) (ls' := [some (aR 3 (m)), some (aI (r)), some (aI (c)), some (aR 6 (q)), some (aI (b)), some (aI (w)), some (aI (wr (i + 1))), some (aI (wr ((wr ((σ 3 (m) 0) - (1))) - (i)))), some (aI (wr (sumTo (fo_countOfClub (m) (wr ((wr ((σ 3 (m) 0) - (1))) - (i))) (c) (q) σ) (rget σ (18 * ((m)) + 7) ((wr ((wr ((σ 3 (m) 0) - (1))) - (i))))))))]) (st' := []) (σ' := σ) rq_48 rfl True.intro (i' := 43) rfl ?_
            refine wp_goto rq_48 rfl ?_
            have eF : fr_choose m r c q σ (b, w, i) = .inl (b, w, wr (i + 1)) := by simp only [fr_choose]; rw [if_neg h1, if_pos h2, if_neg h3, if_pos h4]
            rw [rs_s, eF] at hr
            refine wp_weak (lessL_c (lessL_c (lessL_c (lessL_c (lessL_c (lessL_c (lessL_c (lessL_n (lessL_n lessL_0))))))))) ?_
            exact ih _ _ _ hr
          · refine wp_seg 5 (P := none) (ls' := [some (aR 3 (m)), some (aI (r)), some (aI (c)), some (aR 6 (q)), some (aI (wr ((wr ((σ 3 (m) 0) - (1))) - (i)))), some (aI (wr (sumTo (fo_countOfClub (m) (wr ((wr ((σ 3 (m) 0) - (1))) - (i))) (c) (q) σ) (rget σ (18 * ((m)) + 7) ((wr ((wr ((σ 3 (m) 0) - (1))) - (i)))))))), some (aI (wr (i + 1))), some (aI (wr ((wr ((σ 3 (m) 0) - (1))) - (i)))), some (aI (wr (sumTo (fo_countOfClub (m) (wr ((wr ((σ 3 (m) 0) - (1))) - (i))) (c) (q) σ) (rget σ (18 * ((m)) + 7) ((wr ((wr ((σ 3 (m) 0) - (1))) - (i))))))))]) (st' := []) (σ' := σ) rq_48 rfl True.intro (i' := 43) rfl ?_
            refine wp_goto rq_48 rfl ?_
            have eF : fr_choose m r c q σ (b, w, i) = .inl (wr ((wr ((σ 3 (m) 0) - (1))) - (i)), wr (sumTo (fo_countOfClub (m) (wr ((wr ((σ 3 (m) 0) - (1))) - (i))) (c) (q) σ) (rget σ (18 * ((m)) + 7) ((wr ((wr ((σ 3 (m) 0) - (1))) - (i)))))), wr (i + 1)) := by simp only [fr_choose]; rw [if_neg h1, if_pos h2, if_neg h3, if_neg h4]
            rw [rs_s, eF] at hr
            refine wp_weak (lessL_c (lessL_c (lessL_c (lessL_c (lessL_c (lessL_c (lessL_c (lessL_n (lessL_n lessL_0))))))))) ?_
            exact ih _ _ _ hr
      · refine wp_seg 1 (P := none) (ls' := [some (aR 3 (m)), some (aI (r)), some (aI (c)), some (aR 6 (q)), some (aI (b)), some (aI (w)), some (aI (i)), none, none]) (st' := [aI (i)]) (σ' := σ) rq_48 rfl True.intro (i' := 15) rfl ?_
        refine wp_goto rq_48 rfl ?_
        refine wp_seg 5 (P := none) (ls' := [some (aR 3 (m)), some (aI (r)), some (aI (c)), some (aR 6 (q)), some (aI (b)), some (aI (w)), some (aI (i)), some (aI (i)), none]) (st' := [aR 6 (q), aI (c), aI (i), aR 3 (m)]) (σ' := σ) rq_48 rfl True.intro (i' := 27) rfl ?_
        refine wp_call (C := 3) (As := [aR 3 (m), aI (i), aI (c), aR 6 (q)]) (rest := []) rq_48 (ev_countOfClub (m) (i) (c) (q) σ ) rfl rfl (show clOK 48 49 0 0 0 4 3 = true by decide +kernel) rfl (show 0 ≤ 4 by decide) (fun _ => ⟨_, rfl⟩) rfl (c' := 0) (s' := 0) rfl rfl ?_
        refine wp_seg 4 (P := none) (ls' := [some (aR 3 (m)), some (aI (r)), some (aI (c)), some (aR 6 (q)), some (aI (b)), some (aI (w)), some (aI (i)), some (aI (i)), some (aI (wr (sumTo (fo_countOfClub (m) (i) (c) (q) σ) (rget σ (18 * ((m)) + 7) ((i))))))]) (st' := [aI (i), aR 7 (18 * (m) + 7)]) (σ' := σ) rq_48 rfl True.intro (i' := 32) rfl ?_
        refine wp_call (C := 7) (As := [aR 7 (18 * (m) + 7), aI (i)]) (rest := []) rq_48 (ev_get (18 * (m) + 7) (i) σ ) rfl rfl (show clOK 48 78 0 0 0 2 7 = true by decide +kernel) rfl (show 0 ≤ 4 by decide) (fun _ => ⟨_, rfl⟩) rfl (c' := 0) (s' := 0) rfl rfl ?_
        refine wp_seg 1 (P := none) (ls' := [some (aR 3 (m)), some (aI (r)), some (aI (c)), some (aR 6 (q)), some (aI (b)), some (aI (w)), some (aI (i)), some (aI (i)), some (aI (wr (sumTo (fo_countOfClub (m) (i) (c) (q) σ) (rget σ (18 * ((m)) + 7) ((i))))))]) (st' := [aI (r), aI (rget σ (18 * (m) + 7) (i))]) (σ' := σ) rq_48 rfl True.intro (i' := 34) rfl ?_
        refine wp_icmp rq_48 rfl (fun (h5 : ¬ (rget σ (18 * (m) + 7) (i)) = (r)) => ?_) (fun (h5 : ¬ (¬ (rget σ (18 * (m) + 7) (i)) = (r))) => ?_)
        · refine wp_seg 1 (P := none) (ls' := [some (aR 3 (m)), some (aI (r)), some (aI (c)), some (aR 6 (q)), some (aI (b)), some (aI (w)), some (aI (wr (i + 1))), some (aI (i)), some (aI (wr (sumTo (fo_countOfClub (m) (i) (c) (q) σ) (rget σ (18 * ((m)) + 7) ((i))))))]) (st' := []) (σ' := σ) rq_48 rfl True.intro (i' := 43) rfl ?_
          refine wp_goto rq_48 rfl ?_
          have eF : fr_choose m r c q σ (b, w, i) = .inl (b, w, wr (i + 1)) := by simp only [fr_choose]; rw [if_neg h1, if_neg h2, if_pos h5]
          rw [rs_s, eF] at hr
          refine wp_weak (lessL_c (lessL_c (lessL_c (lessL_c (lessL_c (lessL_c (lessL_c (lessL_n (lessL_n lessL_0))))))))) ?_
          exact ih _ _ _ hr
        · refine wp_seg 2 (P := none) (ls' := [some (aR 3 (m)), some (aI (r)), some (aI (c)), some (aR 6 (q)), some (aI (b)), some (aI (w)), some (aI (i)), some (aI (i)), some (aI (wr (sumTo (fo_countOfClub (m) (i) (c) (q) σ) (rget σ (18 * ((m)) + 7) ((i))))))]) (st' := [aI (w), aI (wr (sumTo (fo_countOfClub (m) (i) (c) (q) σ) (rget σ (18 * ((m)) + 7) ((i)))))]) (σ' := σ) rq_48 rfl True.intro (i' := 37) rfl ?_
          refine wp_icmp rq_48 rfl (fun (h6 : (w) ≤ (wr (sumTo (fo_countOfClub (m) (i) (c) (q) σ) (rget σ (18 * ((m)) + 7) ((i)))))) => ?_) (fun (h6 : ¬ ((w) ≤ (wr (sumTo (fo_countOfClub (m) (i) (c) (q) σ) (rget σ (18 * ((m)) + 7) ((i))))))) => ?_)
          · refine wp_seg 1 (P := none) (ls' := [some (aR 3 (m)), some (aI (r)), some (aI (c)), some (aR 6 (q)), some (aI (b)), some (aI (w)), some (aI (wr (i + 1))), some (aI (i)), some (aI (wr (sumTo (fo_countOfClub (m) (i) (c) (q) σ) (rget σ (18 * ((m)) + 7) ((i))))))]) (st' := []) (σ' := σ) rq_48 rfl True.intro (i' := 43) rfl ?_
            refine wp_goto rq_48 rfl ?_
            have eF : fr_choose m r c q σ (b, w, i) = .inl (b, w, wr (i + 1)) := by simp only [fr_choose]; rw [if_neg h1, if_neg h2, if_neg h5, if_pos h6]
            rw [rs_s, eF] at hr
            refine wp_weak (lessL_c (lessL_c (lessL_c (lessL_c (lessL_c (lessL_c (lessL_c (lessL_n (lessL_n lessL_0))))))))) ?_
            exact ih _ _ _ hr
          · refine wp_seg 5 (P := none) (ls' := [some (aR 3 (m)), some (aI (r)), some (aI (c)), some (aR 6 (q)), some (aI (i)), some (aI (wr (sumTo (fo_countOfClub (m) (i) (c) (q) σ) (rget σ (18 * ((m)) + 7) ((i)))))), some (aI (wr (i + 1))), some (aI (i)), some (aI (wr (sumTo (fo_countOfClub (m) (i) (c) (q) σ) (rget σ (18 * ((m)) + 7) ((i))))))]) (st' := []) (σ' := σ) rq_48 rfl True.intro (i' := 43) rfl ?_
            refine wp_goto rq_48 rfl ?_
            have eF : fr_choose m r c q σ (b, w, i) = .inl (i, wr (sumTo (fo_countOfClub (m) (i) (c) (q) σ) (rget σ (18 * ((m)) + 7) ((i)))), wr (i + 1)) := by simp only [fr_choose]; rw [if_neg h1, if_neg h2, if_neg h5, if_neg h6]
            rw [rs_s, eF] at hr
            refine wp_weak (lessL_c (lessL_c (lessL_c (lessL_c (lessL_c (lessL_c (lessL_c (lessL_n (lessL_n lessL_0))))))))) ?_
            exact ih _ _ _ hr

def fr_fencerAt (m p : Int) (σ : Mem) : Int × Int × Int → Int × Int × Int ⊕ Out := fun ⟨e, a, u⟩ => if (u) < 1 then (.inr (.inl (some (aI (zo_fencerWith (m) (e) σ))))) else (if (iandI (p) (u)) = 0 then (.inl (e, wr ((a) * (2)), wr ((u).tdiv (2)))) else (.inl (wr ((wr ((a) + (1))) - (e)), wr ((a) * (2)), wr ((u).tdiv (2)))))
theorem lr_fencerAt (m p : Int) (σ : Mem) (o : Out) : ∀ (fu : Nat) (e : Int) (a : Int) (u : Int), rs (fr_fencerAt m p σ) fu (e, a, u) = some o → wp true 99 9 [some (aR 9 (m)), some (aI (p)), some (aI (e)), some (aI (a)), some (aI (u))] [] σ 0 0 (fun o' σ2 => o' = o ∧ σ2 = σ) := by
  intro fu
  induction fu with
  | zero => intro e a u hr; cases hr
  | succ fu ih =>
    intro e a u hr
    refine wp_seg 2 (P := none) (ls' := [some (aR 9 (m)), some (aI (p)), some (aI (e)), some (aI (a)), some (aI (u))]) (st' := [aI (1), aI (u)]) (σ' := σ) rq_99 rfl True.intro (i' := 11) rfl ?_
    refine wp_icmp rq_99 rfl (fun (h1 : (u) < 1) => ?_) (fun (h1 : ¬ ((u) < 1)) => ?_)
    · refine wp_seg 2 (P := none) (ls' := [some (aR 9 (m)), some (aI (p)), some (aI (e)), some (aI (a)), some (aI (u))]) (st' := [aI (e), aR 9 (m)]) (σ' := σ) rq_99 rfl True.intro (i' := 33) rfl ?_
      refine wp_call (C := 9) (As := [aR 9 (m), aI (e)]) (rest := []) rq_99 (ev_fencerWith (m) (e) σ ) rfl rfl (show clOK 99 98 0 0 0 2 9 = true by decide +kernel) rfl (show 0 ≤ 4 by decide) (fun _ => ⟨_, rfl⟩) rfl (c' := 0) (s' := 0) rfl rfl ?_
      refine wp_iret rq_99 rfl rt_99 ⟨?_, ?_⟩
      · have eF : fr_fencerAt m p σ (e, a, u) = .inr (.inl (some (aI (zo_fencerWith (m) (e) σ)))) := by simp only [fr_fencerAt]; rw [if_pos h1]
        rw [rs_s, eF] at hr
        have hr2 := Option.some.inj hr
        exact hr2
      · rfl
    · refine wp_seg 3 (P := none) (ls' := [some (aR 9 (m)), some (aI (p)), some (aI (e)), some (aI (a)), some (aI (u))]) (st' := [aI (iandI (p) (u))]) (σ' := σ) rq_99 rfl True.intro (i' := 15) rfl ?_
      refine wp_if rq_99 rfl (fun (h2 : (iandI (p) (u)) = 0) => ?_) (fun (h2 : ¬ ((iandI (p) (u)) = 0)) => ?_)
      · refine wp_seg 8 (P := some ((2 : Int) ≠ 0)) (ls' := [some (aR 9 (m)), some (aI (p)), some (aI (e)), some (aI (wr ((a) * (2)))), some (aI (wr ((u).tdiv (2))))]) (st' := []) (σ' := σ) rq_99 rfl ?_ (i' := 30) rfl ?_
        · show (2 : Int) ≠ 0
          decide
        refine wp_goto rq_99 rfl ?_
        have eF : fr_fencerAt m p σ (e, a, u) = .inl (e, wr ((a) * (2)), wr ((u).tdiv (2))) := by simp only [fr_fencerAt]; rw [if_neg h1, if_pos h2]
        rw [rs_s, eF] at hr
        exact ih _ _ _ hr
      · refine wp_seg 14 (P := some ((2 : Int) ≠ 0)) (ls' := [some (aR 9 (m)), some (aI (p)), some (aI (wr ((wr ((a) + (1))) - (e)))), some (aI (wr ((a) * (2)))), some (aI (wr ((u).tdiv (2))))]) (st' := []) (σ' := σ) rq_99 rfl ?_ (i' := 30) rfl ?_
        · show (2 : Int) ≠ 0
          decide
        refine wp_goto rq_99 rfl ?_
        have eF : fr_fencerAt m p σ (e, a, u) = .inl (wr ((wr ((a) + (1))) - (e)), wr ((a) * (2)), wr ((u).tdiv (2))) := by simp only [fr_fencerAt]; rw [if_neg h1, if_neg h2]
        rw [rs_s, eF] at hr
        exact ih _ _ _ hr

def fr_isStillIn (m f : Int) (σ : Mem) : Int → Int ⊕ Out := fun (i) => if (σ 9 (m) 1) < (i) then (.inr (.inl (some (aI (0))))) else (if ¬ (zo_fencerWith (m) (i) σ) = (f) then (.inl (wr (i + 1))) else (if ¬ (rget σ (18 * (m) + 16) (f)) = 1 then (.inr (.inl (some (aI (0))))) else (.inr (.inl (some (aI (1)))))))
theorem lr_isStillIn (m f : Int) (σ : Mem) (o : Out) : ∀ (fu : Nat) (i : Int), rs (fr_isStillIn m f σ) fu (i) = some o → wp true 101 2 [some (aR 9 (m)), some (aI (f)), some (aI (i))] [] σ 0 0 (fun o' σ2 => o' = o ∧ σ2 = σ) := by
  intro fu
  induction fu with
  | zero => intro i hr; cases hr
  | succ fu ih =>
    intro i hr
    refine wp_seg 3 (P := none) (ls' := [some (aR 9 (m)), some (aI (f)), some (aI (i))]) (st' := [aI (σ 9 (m) 1), aI (i)]) (σ' := σ) rq_101 rfl True.intro (i' := 5) rfl ?_
    refine wp_icmp rq_101 rfl (fun (h1 : (σ 9 (m) 1) < (i)) => ?_) (fun (h1 : ¬ ((σ 9 (m) 1) < (i))) => ?_)
    · refine wp_seg 1 (P := none) (ls' := [some (aR 9 (m)), some (aI (f)), some (aI (i))]) (st' := [aI (0)]) (σ' := σ) rq_101 rfl True.intro (i' := 24) rfl ?_
      refine wp_zret rq_101 rfl rt_101 ?_ ⟨?_, ?_⟩
      · first | exact Or.inl rfl | exact Or.inr rfl
      · have eF : fr_isStillIn m f σ (i) = .inr (.inl (some (aI (0)))) := by simp only [fr_isStillIn]; rw [if_pos h1]
        rw [rs_s, eF] at hr
        have hr2 := Option.some.inj hr
        exact hr2
      · rfl
    · refine wp_seg 2 (P := none) (ls' := [some (aR 9 (m)), some (aI (f)), some (aI (i))]) (st' := [aI (i), aR 9 (m)]) (σ' := σ) rq_101 rfl True.intro (i' := 8) rfl ?_
      refine wp_call (C := 9) (As := [aR 9 (m), aI (i)]) (rest := []) rq_101 (ev_fencerWith (m) (i) σ ) rfl rfl (show clOK 101 98 0 0 0 2 9 = true by decide +kernel) rfl (show 0 ≤ 4 by decide) (fun _ => ⟨_, rfl⟩) rfl (c' := 0) (s' := 0) rfl rfl ?_
      refine wp_seg 1 (P := none) (ls' := [some (aR 9 (m)), some (aI (f)), some (aI (i))]) (st' := [aI (f), aI (zo_fencerWith (m) (i) σ)]) (σ' := σ) rq_101 rfl True.intro (i' := 10) rfl ?_
      refine wp_icmp rq_101 rfl (fun (h2 : ¬ (zo_fencerWith (m) (i) σ) = (f)) => ?_) (fun (h2 : ¬ (¬ (zo_fencerWith (m) (i) σ) = (f))) => ?_)
      · refine wp_seg 1 (P := none) (ls' := [some (aR 9 (m)), some (aI (f)), some (aI (wr (i + 1)))]) (st' := []) (σ' := σ) rq_101 rfl True.intro (i' := 22) rfl ?_
        refine wp_goto rq_101 rfl ?_
        have eF : fr_isStillIn m f σ (i) = .inl (wr (i + 1)) := by simp only [fr_isStillIn]; rw [if_neg h1, if_pos h2]
        rw [rs_s, eF] at hr
        exact ih _ hr
      · refine wp_seg 3 (P := none) (ls' := [some (aR 9 (m)), some (aI (f)), some (aI (i))]) (st' := [aI (f), aR 7 (18 * (m) + 16)]) (σ' := σ) rq_101 rfl True.intro (i' := 14) rfl ?_
        refine wp_call (C := 7) (As := [aR 7 (18 * (m) + 16), aI (f)]) (rest := []) rq_101 (ev_get (18 * (m) + 16) (f) σ ) rfl rfl (show clOK 101 78 0 0 0 2 7 = true by decide +kernel) rfl (show 0 ≤ 4 by decide) (fun _ => ⟨_, rfl⟩) rfl (c' := 0) (s' := 0) rfl rfl ?_
        refine wp_seg 1 (P := none) (ls' := [some (aR 9 (m)), some (aI (f)), some (aI (i))]) (st' := [aI (1), aI (rget σ (18 * (m) + 16) (f))]) (σ' := σ) rq_101 rfl True.intro (i' := 16) rfl ?_
        refine wp_icmp rq_101 rfl (fun (h3 : ¬ (rget σ (18 * (m) + 16) (f)) = 1) => ?_) (fun (h3 : ¬ (¬ (rget σ (18 * (m) + 16) (f)) = 1)) => ?_)
        · refine wp_seg 1 (P := none) (ls' := [some (aR 9 (m)), some (aI (f)), some (aI (i))]) (st' := [aI (0)]) (σ' := σ) rq_101 rfl True.intro (i' := 20) rfl ?_
          refine wp_zret rq_101 rfl rt_101 ?_ ⟨?_, ?_⟩
          · first | exact Or.inl rfl | exact Or.inr rfl
          · have eF : fr_isStillIn m f σ (i) = .inr (.inl (some (aI (0)))) := by simp only [fr_isStillIn]; rw [if_neg h1, if_neg h2, if_pos h3]
            rw [rs_s, eF] at hr
            have hr2 := Option.some.inj hr
            exact hr2
          · rfl
        · refine wp_seg 1 (P := none) (ls' := [some (aR 9 (m)), some (aI (f)), some (aI (i))]) (st' := [aI (1)]) (σ' := σ) rq_101 rfl True.intro (i' := 18) rfl ?_
          refine wp_goto rq_101 rfl ?_
          refine wp_zret rq_101 rfl rt_101 ?_ ⟨?_, ?_⟩
          · first | exact Or.inl rfl | exact Or.inr rfl
          · have eF : fr_isStillIn m f σ (i) = .inr (.inl (some (aI (1)))) := by simp only [fr_isStillIn]; rw [if_neg h1, if_neg h2, if_neg h3]
            rw [rs_s, eF] at hr
            have hr2 := Option.some.inj hr
            exact hr2
          · rfl

def fr_roundsFrom (r : Int) (σ : Mem) : Int × Int → Int × Int ⊕ Out := fun ⟨a, e⟩ => if (e) < 2 then (.inr (.inl (some (aI (a))))) else (.inl (wr (a + 1), wr ((e).tdiv (2))))
theorem lr_roundsFrom (r : Int) (σ : Mem) (o : Out) : ∀ (fu : Nat) (a : Int) (e : Int), rs (fr_roundsFrom r σ) fu (a, e) = some o → wp true 41 4 [some (aI (r)), some (aI (a)), some (aI (e))] [] σ 0 0 (fun o' σ2 => o' = o ∧ σ2 = σ) := by
  intro fu
  induction fu with
  | zero => intro a e hr; cases hr
  | succ fu ih =>
    intro a e hr
    refine wp_seg 2 (P := none) (ls' := [some (aI (r)), some (aI (a)), some (aI (e))]) (st' := [aI (2), aI (e)]) (σ' := σ) rq_41 rfl True.intro (i' := 6) rfl ?_
    refine wp_icmp rq_41 rfl (fun (h1 : (e) < 2) => ?_) (fun (h1 : ¬ ((e) < 2)) => ?_)
    · refine wp_seg 1 (P := none) (ls' := [some (aI (r)), some (aI (a)), some (aI (e))]) (st' := [aI (a)]) (σ' := σ) rq_41 rfl True.intro (i' := 14) rfl ?_
      refine wp_iret rq_41 rfl rt_41 ⟨?_, ?_⟩
      · have eF : fr_roundsFrom r σ (a, e) = .inr (.inl (some (aI (a)))) := by simp only [fr_roundsFrom]; rw [if_pos h1]
        rw [rs_s, eF] at hr
        have hr2 := Option.some.inj hr
        exact hr2
      · rfl
    · refine wp_seg 5 (P := some ((2 : Int) ≠ 0)) (ls' := [some (aI (r)), some (aI (wr (a + 1))), some (aI (wr ((e).tdiv (2))))]) (st' := []) (σ' := σ) rq_41 rfl ?_ (i' := 12) rfl ?_
      · show (2 : Int) ≠ 0
        decide
      refine wp_goto rq_41 rfl ?_
      have eF : fr_roundsFrom r σ (a, e) = .inl (wr (a + 1), wr ((e).tdiv (2))) := by simp only [fr_roundsFrom]; rw [if_neg h1]
      rw [rs_s, eF] at hr
      exact ih _ _ hr

def fr_chooseTeam (m c z q n : Int) : Int × Int × Mem → Int × Int × Mem ⊕ Out × Mem := fun ⟨a, i, s⟩ => if (n) ≤ (i) then (.inr (.inl none, s)) else (if 3 ≤ (a) then (.inr (.inl none, s)) else (if ¬ (rget s (18 * (m) + 1) (rget s (q) (i))) = (c) then (.inl (a, wr (i + 1), s)) else (.inl (wr (a + 1), wr (i + 1), (rset s (18 * (m) + 17) (wr ((z) + (a))) (rget s (q) (i)))))))
theorem lr_chooseTeam (m c z q n : Int) (o : Out) (t : Mem) : ∀ (fu : Nat) (a : Int) (i : Int) (s : Mem), rs (fr_chooseTeam m c z q n) fu (a, i, s) = some (o, t) → wp true 42 4 [some (aR 2 (m)), some (aI (c)), some (aI (z)), some (aR 7 (q)), some (aI (n)), some (aI (a)), some (aI (i)), none] [] s 0 0 (fun o' σ2 => o' = o ∧ σ2 = t) := by
  intro fu
  induction fu with
  | zero => intro a i s hr; cases hr
  | succ fu ih =>
    intro a i s hr
    refine wp_seg 2 (P := none) (ls' := [some (aR 2 (m)), some (aI (c)), some (aI (z)), some (aR 7 (q)), some (aI (n)), some (aI (a)), some (aI (i)), none]) (st' := [aI (n), aI (i)]) (σ' := s) rq_42 rfl True.intro (i' := 6) rfl ?_
    refine wp_icmp rq_42 rfl (fun (h1 : (n) ≤ (i)) => ?_) (fun (h1 : ¬ ((n) ≤ (i))) => ?_)
    · refine wp_vret rq_42 rfl rt_42 ⟨?_, ?_⟩
      · have eF : fr_chooseTeam m c z q n (a, i, s) = .inr (.inl none, s) := by simp only [fr_chooseTeam]; rw [if_pos h1]
        rw [rs_s, eF] at hr
        have hr2 := Option.some.inj hr
        exact congrArg Prod.fst hr2
      · have eF : fr_chooseTeam m c z q n (a, i, s) = .inr (.inl none, s) := by simp only [fr_chooseTeam]; rw [if_pos h1]
        rw [rs_s, eF] at hr
        have hr2 := Option.some.inj hr
        exact congrArg Prod.snd hr2
    · refine wp_seg 2 (P := none) (ls' := [some (aR 2 (m)), some (aI (c)), some (aI (z)), some (aR 7 (q)), some (aI (n)), some (aI (a)), some (aI (i)), none]) (st' := [aI (3), aI (a)]) (σ' := s) rq_42 rfl True.intro (i' := 9) rfl ?_
      refine wp_icmp rq_42 rfl (fun (h2 : 3 ≤ (a)) => ?_) (fun (h2 : ¬ (3 ≤ (a))) => ?_)
      · refine wp_vret rq_42 rfl rt_42 ⟨?_, ?_⟩
        · have eF : fr_chooseTeam m c z q n (a, i, s) = .inr (.inl none, s) := by simp only [fr_chooseTeam]; rw [if_neg h1, if_pos h2]
          rw [rs_s, eF] at hr
          have hr2 := Option.some.inj hr
          exact congrArg Prod.fst hr2
        · have eF : fr_chooseTeam m c z q n (a, i, s) = .inr (.inl none, s) := by simp only [fr_chooseTeam]; rw [if_neg h1, if_pos h2]
          rw [rs_s, eF] at hr
          have hr2 := Option.some.inj hr
          exact congrArg Prod.snd hr2
      · refine wp_seg 2 (P := none) (ls' := [some (aR 2 (m)), some (aI (c)), some (aI (z)), some (aR 7 (q)), some (aI (n)), some (aI (a)), some (aI (i)), none]) (st' := [aI (i), aR 7 (q)]) (σ' := s) rq_42 rfl True.intro (i' := 12) rfl ?_
        refine wp_call (C := 7) (As := [aR 7 (q), aI (i)]) (rest := []) rq_42 (ev_get (q) (i) s ) rfl rfl (show clOK 42 78 0 0 0 2 7 = true by decide +kernel) rfl (show 0 ≤ 4 by decide) (fun _ => ⟨_, rfl⟩) rfl (c' := 0) (s' := 0) rfl rfl ?_
        refine wp_seg 5 (P := none) (ls' := [some (aR 2 (m)), some (aI (c)), some (aI (z)), some (aR 7 (q)), some (aI (n)), some (aI (a)), some (aI (i)), some (aI (rget s (q) (i)))]) (st' := [aI (rget s (q) (i)), aR 7 (18 * (m) + 1)]) (σ' := s) rq_42 rfl True.intro (i' := 18) rfl ?_
        refine wp_call (C := 7) (As := [aR 7 (18 * (m) + 1), aI (rget s (q) (i))]) (rest := []) rq_42 (ev_get (18 * (m) + 1) (rget s (q) (i)) s ) rfl rfl (show clOK 42 78 0 0 0 2 7 = true by decide +kernel) rfl (show 0 ≤ 4 by decide) (fun _ => ⟨_, rfl⟩) rfl (c' := 0) (s' := 0) rfl rfl ?_
        refine wp_seg 1 (P := none) (ls' := [some (aR 2 (m)), some (aI (c)), some (aI (z)), some (aR 7 (q)), some (aI (n)), some (aI (a)), some (aI (i)), some (aI (rget s (q) (i)))]) (st' := [aI (c), aI (rget s (18 * (m) + 1) (rget s (q) (i)))]) (σ' := s) rq_42 rfl True.intro (i' := 20) rfl ?_
        refine wp_icmp rq_42 rfl (fun (h3 : ¬ (rget s (18 * (m) + 1) (rget s (q) (i))) = (c)) => ?_) (fun (h3 : ¬ (¬ (rget s (18 * (m) + 1) (rget s (q) (i))) = (c))) => ?_)
        · refine wp_seg 1 (P := none) (ls' := [some (aR 2 (m)), some (aI (c)), some (aI (z)), some (aR 7 (q)), some (aI (n)), some (aI (a)), some (aI (wr (i + 1))), some (aI (rget s (q) (i)))]) (st' := []) (σ' := s) rq_42 rfl True.intro (i' := 31) rfl ?_
          refine wp_goto rq_42 rfl ?_
          have eF : fr_chooseTeam m c z q n (a, i, s) = .inl (a, wr (i + 1), s) := by simp only [fr_chooseTeam]; rw [if_neg h1, if_neg h2, if_pos h3]
          rw [rs_s, eF] at hr
          refine wp_weak (lessL_c (lessL_c (lessL_c (lessL_c (lessL_c (lessL_c (lessL_c (lessL_n lessL_0)))))))) ?_
          exact ih _ _ _ hr
        · refine wp_seg 7 (P := none) (ls' := [some (aR 2 (m)), some (aI (c)), some (aI (z)), some (aR 7 (q)), some (aI (n)), some (aI (a)), some (aI (i)), some (aI (rget s (q) (i)))]) (st' := [aI (rget s (q) (i)), aI (wr ((z) + (a))), aR 7 (18 * (m) + 17)]) (σ' := s) rq_42 rfl True.intro (i' := 28) rfl ?_
          refine wp_call (C := 7) (As := [aR 7 (18 * (m) + 17), aI (wr ((z) + (a))), aI (rget s (q) (i))]) (rest := []) rq_42 (ev_set (18 * (m) + 17) (wr ((z) + (a))) (rget s (q) (i)) s ) rfl rfl (show clOK 42 79 0 0 0 3 7 = true by decide +kernel) rfl (show 0 ≤ 4 by decide) (fun _ => ⟨_, rfl⟩) rfl (c' := 0) (s' := 0) rfl rfl ?_
          refine wp_seg 2 (P := none) (ls' := [some (aR 2 (m)), some (aI (c)), some (aI (z)), some (aR 7 (q)), some (aI (n)), some (aI (wr (a + 1))), some (aI (wr (i + 1))), some (aI (rget s (q) (i)))]) (st' := []) (σ' := (rset s (18 * (m) + 17) (wr ((z) + (a))) (rget s (q) (i)))) rq_42 rfl True.intro (i' := 31) rfl ?_
          refine wp_goto rq_42 rfl ?_
          have eF : fr_chooseTeam m c z q n (a, i, s) = .inl (wr (a + 1), wr (i + 1), (rset s (18 * (m) + 17) (wr ((z) + (a))) (rget s (q) (i)))) := by simp only [fr_chooseTeam]; rw [if_neg h1, if_neg h2, if_neg h3]
          rw [rs_s, eF] at hr
          refine wp_weak (lessL_c (lessL_c (lessL_c (lessL_c (lessL_c (lessL_c (lessL_c (lessL_n lessL_0)))))))) ?_
          exact ih _ _ _ hr

def fr_clubPairs  (σ : Mem) : Int × Int → Int × Int ⊕ Out := fun ⟨a, i⟩ => if (σ 0 (0) 1) ≤ (i) then (.inr (.inl (some (aI (a))))) else (if ¬ (rget σ (1) (zo_fencerOn (0) (i) (0) σ)) = (rget σ (1) (zo_fencerOn (0) (i) (1) σ)) then (.inl (a, wr (i + 1))) else (.inl (wr (a + 1), wr (i + 1))))
theorem lr_clubPairs  (σ : Mem) (o : Out) : ∀ (fu : Nat) (a : Int) (i : Int), rs (fr_clubPairs σ) fu (a, i) = some o → wp true 112 4 [some (aR 10 (0)), some (aI (a)), some (aI (i)), none, none] [] σ 0 0 (fun o' σ2 => o' = o ∧ σ2 = σ) := by
  intro fu
  induction fu with
  | zero => intro a i hr; cases hr
  | succ fu ih =>
    intro a i hr
    refine wp_seg 5 (P := none) (ls' := [some (aR 10 (0)), some (aI (a)), some (aI (i)), none, none]) (st' := [aI (σ 0 (0) 1), aI (i)]) (σ' := σ) rq_112 rfl True.intro (i' := 9) rfl ?_
    refine wp_icmp rq_112 rfl (fun (h1 : (σ 0 (0) 1) ≤ (i)) => ?_) (fun (h1 : ¬ ((σ 0 (0) 1) ≤ (i))) => ?_)
    · refine wp_seg 1 (P := none) (ls' := [some (aR 10 (0)), some (aI (a)), some (aI (i)), none, none]) (st' := [aI (a)]) (σ' := σ) rq_112 rfl True.intro (i' := 41) rfl ?_
      refine wp_iret rq_112 rfl rt_112 ⟨?_, ?_⟩
      · have eF : fr_clubPairs σ (a, i) = .inr (.inl (some (aI (a)))) := by simp only [fr_clubPairs]; rw [if_pos h1]
        rw [rs_s, eF] at hr
        have hr2 := Option.some.inj hr
        exact hr2
      · rfl
    · refine wp_seg 9 (P := none) (ls' := [some (aR 10 (0)), some (aI (a)), some (aI (i)), none, none]) (st' := [aI (0), aI (i), aR 0 (0), aR 7 (1)]) (σ' := σ) rq_112 rfl True.intro (i' := 19) rfl ?_
      refine wp_call (C := 0) (As := [aR 0 (0), aI (i), aI (0)]) (rest := [aR 7 (1)]) rq_112 (ev_fencerOn (0) (i) (0) σ ) rfl rfl (show clOK 112 4 0 0 0 3 0 = true by decide +kernel) rfl (show 1 ≤ 4 by decide) (fun _ => ⟨_, rfl⟩) rfl (c' := 0) (s' := 0) rfl rfl ?_
      refine wp_call (C := 7) (As := [aR 7 (1), aI (zo_fencerOn (0) (i) (0) σ)]) (rest := []) rq_112 (ev_get (1) (zo_fencerOn (0) (i) (0) σ) σ ) rfl rfl (show clOK 112 78 0 0 0 2 7 = true by decide +kernel) rfl (show 0 ≤ 4 by decide) (fun _ => ⟨_, rfl⟩) rfl (c' := 0) (s' := 0) rfl rfl ?_
      refine wp_seg 10 (P := none) (ls' := [some (aR 10 (0)), some (aI (a)), some (aI (i)), some (aI (rget σ (1) (zo_fencerOn (0) (i) (0) σ))), none]) (st' := [aI (1), aI (i), aR 0 (0), aR 7 (1)]) (σ' := σ) rq_112 rfl True.intro (i' := 31) rfl ?_
      refine wp_call (C := 0) (As := [aR 0 (0), aI (i), aI (1)]) (rest := [aR 7 (1)]) rq_112 (ev_fencerOn (0) (i) (1) σ ) rfl rfl (show clOK 112 4 0 0 0 3 0 = true by decide +kernel) rfl (show 1 ≤ 4 by decide) (fun _ => ⟨_, rfl⟩) rfl (c' := 0) (s' := 0) rfl rfl ?_
      refine wp_call (C := 7) (As := [aR 7 (1), aI (zo_fencerOn (0) (i) (1) σ)]) (rest := []) rq_112 (ev_get (1) (zo_fencerOn (0) (i) (1) σ) σ ) rfl rfl (show clOK 112 78 0 0 0 2 7 = true by decide +kernel) rfl (show 0 ≤ 4 by decide) (fun _ => ⟨_, rfl⟩) rfl (c' := 0) (s' := 0) rfl rfl ?_
      refine wp_seg 3 (P := none) (ls' := [some (aR 10 (0)), some (aI (a)), some (aI (i)), some (aI (rget σ (1) (zo_fencerOn (0) (i) (0) σ))), some (aI (rget σ (1) (zo_fencerOn (0) (i) (1) σ)))]) (st' := [aI (rget σ (1) (zo_fencerOn (0) (i) (1) σ)), aI (rget σ (1) (zo_fencerOn (0) (i) (0) σ))]) (σ' := σ) rq_112 rfl True.intro (i' := 36) rfl ?_
      refine wp_icmp rq_112 rfl (fun (h2 : ¬ (rget σ (1) (zo_fencerOn (0) (i) (0) σ)) = (rget σ (1) (zo_fencerOn (0) (i) (1) σ))) => ?_) (fun (h2 : ¬ (¬ (rget σ (1) (zo_fencerOn (0) (i) (0) σ)) = (rget σ (1) (zo_fencerOn (0) (i) (1) σ)))) => ?_)
      · refine wp_seg 1 (P := none) (ls' := [some (aR 10 (0)), some (aI (a)), some (aI (wr (i + 1))), some (aI (rget σ (1) (zo_fencerOn (0) (i) (0) σ))), some (aI (rget σ (1) (zo_fencerOn (0) (i) (1) σ)))]) (st' := []) (σ' := σ) rq_112 rfl True.intro (i' := 39) rfl ?_
        refine wp_goto rq_112 rfl ?_
        have eF : fr_clubPairs σ (a, i) = .inl (a, wr (i + 1)) := by simp only [fr_clubPairs]; rw [if_neg h1, if_pos h2]
        rw [rs_s, eF] at hr
        refine wp_weak (lessL_c (lessL_c (lessL_c (lessL_n (lessL_n lessL_0))))) ?_
        exact ih _ _ hr
      · refine wp_seg 2 (P := none) (ls' := [some (aR 10 (0)), some (aI (wr (a + 1))), some (aI (wr (i + 1))), some (aI (rget σ (1) (zo_fencerOn (0) (i) (0) σ))), some (aI (rget σ (1) (zo_fencerOn (0) (i) (1) σ)))]) (st' := []) (σ' := σ) rq_112 rfl True.intro (i' := 39) rfl ?_
        refine wp_goto rq_112 rfl ?_
        have eF : fr_clubPairs σ (a, i) = .inl (wr (a + 1), wr (i + 1)) := by simp only [fr_clubPairs]; rw [if_neg h1, if_neg h2]
        rw [rs_s, eF] at hr
        refine wp_weak (lessL_c (lessL_c (lessL_c (lessL_n (lessL_n lessL_0))))) ?_
        exact ih _ _ hr

