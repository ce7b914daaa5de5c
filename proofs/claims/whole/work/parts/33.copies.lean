/-! The model's copies. -/
theorem wp_mem {ph : Bool} {k i : Nat} {ls : Vls} {st : List AV} {σ σ' : Mem} {c s : Nat} {Q : Out → Mem → Prop} (e : σ' = σ) (h : wp ph k i ls st σ' c s Q) : wp ph k i ls st σ c s Q := by rw [← e]; exact h
theorem cpM_0 (σ : Mem) (s d sp dp : Int) : cpM σ s d sp dp 0 = σ := by
  funext C r k
  unfold cpM
  rw [if_neg (by omega)]
theorem cpM_s {σ : Mem} {s d sp dp i : Int} (h : s ≠ d) (h0 : 0 ≤ i) : up (cpM σ s d sp dp i) 13 d (dp + i) ((cpM σ s d sp dp i) 13 s (sp + i)) = cpM σ s d sp dp (i + 1) := by
  have e1 : (cpM σ s d sp dp i) 13 s (sp + i) = σ 13 s (sp + i) := by unfold cpM; exact if_neg (fun q => h q.2.1)
  rw [e1]
  funext C r k
  unfold up cpM
  by_cases h1 : C = 13 ∧ r = d ∧ k = dp + i
  · rw [if_pos h1, if_pos ⟨h1.1, h1.2.1, by omega, by omega⟩, show sp + (k - dp) = sp + i by omega]
  · rw [if_neg h1]
    by_cases h2 : C = 13 ∧ r = d ∧ dp ≤ k ∧ k < dp + i
    · rw [if_pos h2, if_pos ⟨h2.1, h2.2.1, h2.2.2.1, by omega⟩]
    · rw [if_neg h2, if_neg]
      rintro ⟨a, b, c, d'⟩
      have h3 : ¬ k = dp + i := fun e => h1 ⟨a, b, e⟩
      exact h2 ⟨a, b, c, by omega⟩
/-- the past moved on by one -/
def shM (σ : Mem) (n : Int) : Mem := fun C r k => if C = 13 ∧ r = 188 ∧ 0 ≤ k ∧ k < n then σ 13 188 (k + 3330) else σ C r k
theorem shM_0 (σ : Mem) : shM σ 0 = σ := by
  funext C r k
  unfold shM
  rw [if_neg (by omega)]
theorem shM_s {σ : Mem} {i : Int} (h0 : 0 ≤ i) : up (shM σ i) 13 188 i ((shM σ i) 13 188 (i + 3330)) = shM σ (i + 1) := by
  have e1 : (shM σ i) 13 188 (i + 3330) = σ 13 188 (i + 3330) := by unfold shM; exact if_neg (fun q => by omega)
  rw [e1]
  funext C r k
  unfold up shM
  by_cases h1 : C = 13 ∧ r = 188 ∧ k = i
  · rw [if_pos h1, if_pos ⟨h1.1, h1.2.1, by omega, by omega⟩, h1.2.2]
  · rw [if_neg h1]
    by_cases h2 : C = 13 ∧ r = 188 ∧ 0 ≤ k ∧ k < i
    · rw [if_pos h2, if_pos ⟨h2.1, h2.2.1, h2.2.2.1, by omega⟩]
    · rw [if_neg h2, if_neg]
      rintro ⟨a, b, c, d'⟩
      have h3 : ¬ k = i := fun e => h1 ⟨a, b, e⟩
      exact h2 ⟨a, b, c, by omega⟩

theorem lc_mshift   (σ : Mem) {Q : Out → Mem → Prop} (hw : wp true 160 21 [some (aR 11 (0)), some (aI (23310))] [] (shM σ 23310) 0 0 Q) : ∀ (n : Nat) (i : Int), 0 ≤ i → i ≤ 23310 → (23310 - i).toNat < n → wp true 160 6 [some (aR 11 (0)), some (aI (i))] [] (shM σ i) 0 0 Q := by
  intro n
  induction n with
  | zero => intros; omega
  | succ n ih =>
    intro i h0 hi hm
    refine wp_seg 2 (P := none) (ls' := [some (aR 11 (0)), some (aI (i))]) (st' := [aI (23310), aI (i)]) (σ' := (shM σ i)) rq_160 rfl True.intro (i' := 8) rfl ?_
    refine wp_icmp rq_160 rfl (fun (h1 : 23310 ≤ (i)) => ?_) (fun (h1 : ¬ (23310 ≤ (i))) => ?_)
    · have eL : i = 23310 := by omega
      rw [eL]
      exact hw
    · refine wp_seg 11 (P := some ((0 ≤ (wr ((i) + (3330))) ∧ (wr ((i) + (3330))) < alen (shM σ i) 13 (188)) ∧ (0 ≤ (i) ∧ (i) < rowLen (188)))) (ls' := [some (aR 11 (0)), some (aI (wr (i + 1)))]) (st' := []) (σ' := (up (shM σ i) 13 (188) (i) ((shM σ i) 13 (188) (wr ((i) + (3330)))))) rq_160 rfl ?_ (i' := 20) rfl ?_
      · show (0 ≤ (wr ((i) + (3330))) ∧ (wr ((i) + (3330))) < alen (shM σ i) 13 (188)) ∧ (0 ≤ (i) ∧ (i) < rowLen (188))
        (first | decide | exact Or.inl rfl | exact Or.inr rfl | ((try simp only [al_g, al_k, al_p, al_c, al_r, al_t, al_o, rl_g, rl_k, rl_p, rl_c, rl_r, rl_t, rl_o]); (try simp (disch := omega) only [wr_eq]); omega))
      refine wp_goto rq_160 rfl ?_
      have e : wr (i + 1) = i + 1 := wr_eq (by omega) (by omega)
      rw [e]
      have eS : (up (shM σ i) 13 (188) (i) ((shM σ i) 13 (188) (wr ((i) + (3330))))) = (shM σ (i + 1)) := by
        simp (disch := omega) only [wr_eq]
        exact shM_s h0
      rw [eS]
      exact ih (i + 1) (by omega) (by omega) (by omega)

theorem lc_mkeep  (p : Int) (σ : Mem) (hp : 0 ≤ p ∧ p ≤ 7) (he : σ 11 0 4 = p) {Q : Out → Mem → Prop} (hw : wp true 160 47 [some (aR 11 (0)), some (aI (3330))] [] (cpM σ 186 188 0 (3330 * p) 3330) 0 0 Q) : ∀ (n : Nat) (i : Int), 0 ≤ i → i ≤ 3330 → (3330 - i).toNat < n → wp true 160 29 [some (aR 11 (0)), some (aI (i))] [] (cpM σ 186 188 0 (3330 * p) i) 0 0 Q := by
  intro n
  induction n with
  | zero => intros; omega
  | succ n ih =>
    intro i h0 hi hm
    have e4 : (cpM σ 186 188 0 (3330 * p) i) 11 0 4 = p := he
    refine wp_seg 2 (P := none) (ls' := [some (aR 11 (0)), some (aI (i))]) (st' := [aI (3330), aI (i)]) (σ' := (cpM σ 186 188 0 (3330 * p) i)) rq_160 rfl True.intro (i' := 31) rfl ?_
    refine wp_icmp rq_160 rfl (fun (h1 : 3330 ≤ (i)) => ?_) (fun (h1 : ¬ (3330 ≤ (i))) => ?_)
    · have eL : i = 3330 := by omega
      rw [eL]
      exact hw
    · refine wp_seg 14 (P := some ((0 ≤ (i) ∧ (i) < alen (cpM σ 186 188 0 (3330 * p) i) 13 (186)) ∧ (0 ≤ (wr ((wr ((3330) * ((cpM σ 186 188 0 (3330 * p) i) 11 (0) 4))) + (i))) ∧ (wr ((wr ((3330) * ((cpM σ 186 188 0 (3330 * p) i) 11 (0) 4))) + (i))) < rowLen (188)))) (ls' := [some (aR 11 (0)), some (aI (wr (i + 1)))]) (st' := []) (σ' := (up (cpM σ 186 188 0 (3330 * p) i) 13 (188) (wr ((wr ((3330) * ((cpM σ 186 188 0 (3330 * p) i) 11 (0) 4))) + (i))) ((cpM σ 186 188 0 (3330 * p) i) 13 (186) (i)))) rq_160 rfl ?_ (i' := 46) rfl ?_
      · show (0 ≤ (i) ∧ (i) < alen (cpM σ 186 188 0 (3330 * p) i) 13 (186)) ∧ (0 ≤ (wr ((wr ((3330) * ((cpM σ 186 188 0 (3330 * p) i) 11 (0) 4))) + (i))) ∧ (wr ((wr ((3330) * ((cpM σ 186 188 0 (3330 * p) i) 11 (0) 4))) + (i))) < rowLen (188))
        (simp only [e4, al_g, al_p, rl_g, rl_p]; (try simp (disch := omega) only [wr_eq]); omega)
      refine wp_goto rq_160 rfl ?_
      have e : wr (i + 1) = i + 1 := wr_eq (by omega) (by omega)
      rw [e]
      have eS : (up (cpM σ 186 188 0 (3330 * p) i) 13 (188) (wr ((wr ((3330) * ((cpM σ 186 188 0 (3330 * p) i) 11 (0) 4))) + (i))) ((cpM σ 186 188 0 (3330 * p) i) 13 (186) (i))) = (cpM σ 186 188 0 (3330 * p) (i + 1)) := by
        rw [e4]
        simp (disch := omega) only [wr_eq]
        have h9 := cpM_s (σ := σ) (s := 186) (d := 188) (sp := 0) (dp := 3330 * p) (i := i) (by decide) h0
        rw [Int.zero_add] at h9
        exact h9
      rw [eS]
      exact ih (i + 1) (by omega) (by omega) (by omega)

theorem lc_msave   (σ : Mem) {Q : Out → Mem → Prop} (hw : wp true 162 21 [some (aR 11 (0)), some (aI (3330))] [] (cpM σ 186 187 0 0 3330) 0 0 Q) : ∀ (n : Nat) (i : Int), 0 ≤ i → i ≤ 3330 → (3330 - i).toNat < n → wp true 162 8 [some (aR 11 (0)), some (aI (i))] [] (cpM σ 186 187 0 0 i) 0 0 Q := by
  intro n
  induction n with
  | zero => intros; omega
  | succ n ih =>
    intro i h0 hi hm
    refine wp_seg 2 (P := none) (ls' := [some (aR 11 (0)), some (aI (i))]) (st' := [aI (3330), aI (i)]) (σ' := (cpM σ 186 187 0 0 i)) rq_162 rfl True.intro (i' := 10) rfl ?_
    refine wp_icmp rq_162 rfl (fun (h1 : 3330 ≤ (i)) => ?_) (fun (h1 : ¬ (3330 ≤ (i))) => ?_)
    · have eL : i = 3330 := by omega
      rw [eL]
      exact hw
    · refine wp_seg 9 (P := some ((0 ≤ (i) ∧ (i) < alen (cpM σ 186 187 0 0 i) 13 (186)) ∧ (0 ≤ (i) ∧ (i) < rowLen (187)))) (ls' := [some (aR 11 (0)), some (aI (wr (i + 1)))]) (st' := []) (σ' := (up (cpM σ 186 187 0 0 i) 13 (187) (i) ((cpM σ 186 187 0 0 i) 13 (186) (i)))) rq_162 rfl ?_ (i' := 20) rfl ?_
      · show (0 ≤ (i) ∧ (i) < alen (cpM σ 186 187 0 0 i) 13 (186)) ∧ (0 ≤ (i) ∧ (i) < rowLen (187))
        (first | decide | exact Or.inl rfl | exact Or.inr rfl | ((try simp only [al_g, al_k, al_p, al_c, al_r, al_t, al_o, rl_g, rl_k, rl_p, rl_c, rl_r, rl_t, rl_o]); (try simp (disch := omega) only [wr_eq]); omega))
      refine wp_goto rq_162 rfl ?_
      have e : wr (i + 1) = i + 1 := wr_eq (by omega) (by omega)
      rw [e]
      have eS : (up (cpM σ 186 187 0 0 i) 13 (187) (i) ((cpM σ 186 187 0 0 i) 13 (186) (i))) = (cpM σ 186 187 0 0 (i + 1)) := by
        have h9 := cpM_s (σ := σ) (s := 186) (d := 187) (sp := 0) (dp := 0) (i := i) (by decide) h0
        rw [Int.zero_add] at h9
        exact h9
      rw [eS]
      exact ih (i + 1) (by omega) (by omega) (by omega)

theorem lc_mundo  (p : Int) (σ : Mem) (hp : 0 ≤ p ∧ p ≤ 7) (he : σ 11 0 4 = p) {Q : Out → Mem → Prop} (hw : wp true 161 39 [some (aR 11 (0)), some (aI (3330))] [] (cpM σ 188 186 (3330 * p) 0 3330) 0 0 Q) : ∀ (n : Nat) (i : Int), 0 ≤ i → i ≤ 3330 → (3330 - i).toNat < n → wp true 161 21 [some (aR 11 (0)), some (aI (i))] [] (cpM σ 188 186 (3330 * p) 0 i) 0 0 Q := by
  intro n
  induction n with
  | zero => intros; omega
  | succ n ih =>
    intro i h0 hi hm
    have e4 : (cpM σ 188 186 (3330 * p) 0 i) 11 0 4 = p := he
    refine wp_seg 2 (P := none) (ls' := [some (aR 11 (0)), some (aI (i))]) (st' := [aI (3330), aI (i)]) (σ' := (cpM σ 188 186 (3330 * p) 0 i)) rq_161 rfl True.intro (i' := 23) rfl ?_
    refine wp_icmp rq_161 rfl (fun (h1 : 3330 ≤ (i)) => ?_) (fun (h1 : ¬ (3330 ≤ (i))) => ?_)
    · have eL : i = 3330 := by omega
      rw [eL]
      exact hw
    · refine wp_seg 14 (P := some ((0 ≤ (wr ((wr ((3330) * ((cpM σ 188 186 (3330 * p) 0 i) 11 (0) 4))) + (i))) ∧ (wr ((wr ((3330) * ((cpM σ 188 186 (3330 * p) 0 i) 11 (0) 4))) + (i))) < alen (cpM σ 188 186 (3330 * p) 0 i) 13 (188)) ∧ (0 ≤ (i) ∧ (i) < rowLen (186)))) (ls' := [some (aR 11 (0)), some (aI (wr (i + 1)))]) (st' := []) (σ' := (up (cpM σ 188 186 (3330 * p) 0 i) 13 (186) (i) ((cpM σ 188 186 (3330 * p) 0 i) 13 (188) (wr ((wr ((3330) * ((cpM σ 188 186 (3330 * p) 0 i) 11 (0) 4))) + (i)))))) rq_161 rfl ?_ (i' := 38) rfl ?_
      · show (0 ≤ (wr ((wr ((3330) * ((cpM σ 188 186 (3330 * p) 0 i) 11 (0) 4))) + (i))) ∧ (wr ((wr ((3330) * ((cpM σ 188 186 (3330 * p) 0 i) 11 (0) 4))) + (i))) < alen (cpM σ 188 186 (3330 * p) 0 i) 13 (188)) ∧ (0 ≤ (i) ∧ (i) < rowLen (186))
        (simp only [e4, al_g, al_p, rl_g, rl_p]; (try simp (disch := omega) only [wr_eq]); omega)
      refine wp_goto rq_161 rfl ?_
      have e : wr (i + 1) = i + 1 := wr_eq (by omega) (by omega)
      rw [e]
      have eS : (up (cpM σ 188 186 (3330 * p) 0 i) 13 (186) (i) ((cpM σ 188 186 (3330 * p) 0 i) 13 (188) (wr ((wr ((3330) * ((cpM σ 188 186 (3330 * p) 0 i) 11 (0) 4))) + (i))))) = (cpM σ 188 186 (3330 * p) 0 (i + 1)) := by
        rw [e4]
        simp (disch := omega) only [wr_eq]
        have h9 := cpM_s (σ := σ) (s := 188) (d := 186) (sp := 3330 * p) (dp := 0) (i := i) (by decide) h0
        rw [Int.zero_add] at h9
        exact h9
      rw [eS]
      exact ih (i + 1) (by omega) (by omega) (by omega)

theorem lc_mrestore   (σ : Mem) {Q : Out → Mem → Prop} (hw : wp true 163 27 [some (aR 11 (0)), some (aI (3330))] [] (cpM σ 187 186 0 0 3330) 0 0 Q) : ∀ (n : Nat) (i : Int), 0 ≤ i → i ≤ 3330 → (3330 - i).toNat < n → wp true 163 14 [some (aR 11 (0)), some (aI (i))] [] (cpM σ 187 186 0 0 i) 0 0 Q := by
  intro n
  induction n with
  | zero => intros; omega
  | succ n ih =>
    intro i h0 hi hm
    refine wp_seg 2 (P := none) (ls' := [some (aR 11 (0)), some (aI (i))]) (st' := [aI (3330), aI (i)]) (σ' := (cpM σ 187 186 0 0 i)) rq_163 rfl True.intro (i' := 16) rfl ?_
    refine wp_icmp rq_163 rfl (fun (h1 : 3330 ≤ (i)) => ?_) (fun (h1 : ¬ (3330 ≤ (i))) => ?_)
    · have eL : i = 3330 := by omega
      rw [eL]
      exact hw
    · refine wp_seg 9 (P := some ((0 ≤ (i) ∧ (i) < alen (cpM σ 187 186 0 0 i) 13 (187)) ∧ (0 ≤ (i) ∧ (i) < rowLen (186)))) (ls' := [some (aR 11 (0)), some (aI (wr (i + 1)))]) (st' := []) (σ' := (up (cpM σ 187 186 0 0 i) 13 (186) (i) ((cpM σ 187 186 0 0 i) 13 (187) (i)))) rq_163 rfl ?_ (i' := 26) rfl ?_
      · show (0 ≤ (i) ∧ (i) < alen (cpM σ 187 186 0 0 i) 13 (187)) ∧ (0 ≤ (i) ∧ (i) < rowLen (186))
        (first | decide | exact Or.inl rfl | exact Or.inr rfl | ((try simp only [al_g, al_k, al_p, al_c, al_r, al_t, al_o, rl_g, rl_k, rl_p, rl_c, rl_r, rl_t, rl_o]); (try simp (disch := omega) only [wr_eq]); omega))
      refine wp_goto rq_163 rfl ?_
      have e : wr (i + 1) = i + 1 := wr_eq (by omega) (by omega)
      rw [e]
      have eS : (up (cpM σ 187 186 0 0 i) 13 (186) (i) ((cpM σ 187 186 0 0 i) 13 (187) (i))) = (cpM σ 187 186 0 0 (i + 1)) := by
        have h9 := cpM_s (σ := σ) (s := 187) (d := 186) (sp := 0) (dp := 0) (i := i) (by decide) h0
        rw [Int.zero_add] at h9
        exact h9
      rw [eS]
      exact ih (i + 1) (by omega) (by omega) (by omega)

def zm_ysave  (σ : Mem) : Mem := (cpM (up (up σ 11 (0) 6 (0)) 11 (0) 2 (1)) 186 187 0 0 3330)
theorem ev_ysave  (σ : Mem) : Ev true 162 [aR 11 (0)] σ (.inl none) (zm_ysave  σ) := by
  show wp true 162 0 [some (aR 11 (0)), none] [] σ 0 0 _
  refine wp_seg 8 (P := some ((1 : Int) = 0 ∨ (1 : Int) = 1)) (ls' := [some (aR 11 (0)), some (aI (0))]) (st' := []) (σ' := (up (up σ 11 (0) 6 (0)) 11 (0) 2 (1))) rq_162 rfl ?_ (i' := 8) rfl ?_
  · show (1 : Int) = 0 ∨ (1 : Int) = 1
    (first | decide | exact Or.inl rfl | exact Or.inr rfl | ((try simp only [al_g, al_k, al_p, al_c, al_r, al_t, al_o, rl_g, rl_k, rl_p, rl_c, rl_r, rl_t, rl_o]); (try simp (disch := omega) only [wr_eq]); omega))
  refine wp_mem (cpM_0 (up (up σ 11 (0) 6 (0)) 11 (0) 2 (1)) 186 187 0 0) (lc_msave (up (up σ 11 (0) 6 (0)) 11 (0) 2 (1)) ?_ 3331 0 (by decide) (by decide) (by decide))
  refine wp_vret rq_162 rfl rt_162 ⟨?_, ?_⟩
  · rfl
  · rfl

def zm_yrestore  (σ : Mem) : Mem := if (σ 11 (0) 2) = 0 then (up σ 11 (0) 6 (1)) else (up (cpM (up σ 11 (0) 6 (0)) 187 186 0 0 3330) 11 (0) 4 (0))
theorem ev_yrestore  (σ : Mem) : Ev true 163 [aR 11 (0)] σ (.inl none) (zm_yrestore  σ) := by
  show wp true 163 0 [some (aR 11 (0)), none] [] σ 0 0 _
  refine wp_seg 3 (P := none) (ls' := [some (aR 11 (0)), none]) (st' := [aI (σ 11 (0) 2), aR 11 (0)]) (σ' := σ) rq_163 rfl True.intro (i' := 3) rfl ?_
  refine wp_if rq_163 rfl (fun (h1 : (σ 11 (0) 2) = 0) => ?_) (fun (h1 : ¬ ((σ 11 (0) 2) = 0)) => ?_)
  · refine wp_seg 4 (P := none) (ls' := [some (aR 11 (0)), none]) (st' := [aI (1)]) (σ' := (up σ 11 (0) 6 (1))) rq_163 rfl True.intro (i' := 10) rfl ?_
    refine wp_if rq_163 rfl (fun (h2 : (1 : Int) ≤ (0 : Int)) => absurd h2 (show ¬ ((1 : Int) ≤ (0 : Int)) from by decide)) (fun _ => ?_)
    refine wp_vret rq_163 rfl rt_163 ⟨?_, ?_⟩
    · rfl
    · (rw [zm_yrestore, if_pos h1]; try rfl)
  · refine wp_seg 1 (P := none) (ls' := [some (aR 11 (0)), none]) (st' := [aI (0), aR 11 (0)]) (σ' := σ) rq_163 rfl True.intro (i' := 5) rfl ?_
    refine wp_goto rq_163 rfl ?_
    refine wp_seg 3 (P := none) (ls' := [some (aR 11 (0)), none]) (st' := [aI (0)]) (σ' := (up σ 11 (0) 6 (0))) rq_163 rfl True.intro (i' := 10) rfl ?_
    refine wp_if rq_163 rfl (fun _ => ?_) (fun (h3 : ¬ ((0 : Int) ≤ (0 : Int))) => absurd (show (0 : Int) ≤ (0 : Int) from by decide) h3)
    refine wp_seg 2 (P := none) (ls' := [some (aR 11 (0)), some (aI (0))]) (st' := []) (σ' := (up σ 11 (0) 6 (0))) rq_163 rfl True.intro (i' := 14) rfl ?_
    refine wp_mem (cpM_0 (up σ 11 (0) 6 (0)) 187 186 0 0) (lc_mrestore (up σ 11 (0) 6 (0)) ?_ 3331 0 (by decide) (by decide) (by decide))
    refine wp_seg 3 (P := none) (ls' := [some (aR 11 (0)), some (aI (3330))]) (st' := []) (σ' := (up (cpM (up σ 11 (0) 6 (0)) 187 186 0 0 3330) 11 (0) 4 (0))) rq_163 rfl True.intro (i' := 30) rfl ?_
    refine wp_vret rq_163 rfl rt_163 ⟨?_, ?_⟩
    · rfl
    · (rw [zm_yrestore, if_neg h1]; try rfl)

def zm_mchanges  (σ : Mem) : Mem := if ¬ (σ 11 (0) 4) = 8 then (up (cpM σ 186 188 0 (3330 * (σ 11 0 4)) 3330) 11 (0) 4 (wr (((cpM σ 186 188 0 (3330 * (σ 11 0 4)) 3330) 11 (0) 4) + (1)))) else (up (cpM (up (shM σ 23310) 11 (0) 4 (wr (((shM σ 23310) 11 (0) 4) - (1)))) 186 188 0 (3330 * ((up (shM σ 23310) 11 (0) 4 (wr (((shM σ 23310) 11 (0) 4) - (1)))) 11 0 4)) 3330) 11 (0) 4 (wr (((cpM (up (shM σ 23310) 11 (0) 4 (wr (((shM σ 23310) 11 (0) 4) - (1)))) 186 188 0 (3330 * ((up (shM σ 23310) 11 (0) 4 (wr (((shM σ 23310) 11 (0) 4) - (1)))) 11 0 4)) 3330) 11 (0) 4) + (1))))
theorem ev_mchanges  (σ : Mem) (hp : 0 ≤ σ 11 0 4 ∧ σ 11 0 4 ≤ 8) : Ev true 160 [aR 11 (0)] σ (.inl none) (zm_mchanges  σ) := by
  show wp true 160 0 [some (aR 11 (0)), none] [] σ 0 0 _
  refine wp_seg 3 (P := none) (ls' := [some (aR 11 (0)), none]) (st' := [aI (8), aI (σ 11 (0) 4)]) (σ' := σ) rq_160 rfl True.intro (i' := 3) rfl ?_
  refine wp_icmp rq_160 rfl (fun (h1 : ¬ (σ 11 (0) 4) = 8) => ?_) (fun (h1 : ¬ (¬ (σ 11 (0) 4) = 8)) => ?_)
  · refine wp_seg 2 (P := none) (ls' := [some (aR 11 (0)), some (aI (0))]) (st' := []) (σ' := σ) rq_160 rfl True.intro (i' := 29) rfl ?_
    refine wp_mem (cpM_0 σ 186 188 0 (3330 * (σ 11 0 4))) (lc_mkeep (σ 11 0 4) σ (by first | (show 0 ≤ σ 11 0 4 ∧ σ 11 0 4 ≤ 7; omega) | (show 0 ≤ wr (σ 11 0 4 - 1) ∧ wr (σ 11 0 4 - 1) ≤ 7; rw [wr_eq (by omega) (by omega)]; omega)) rfl ?_ 3331 0 (by decide) (by decide) (by decide))
    refine wp_seg 6 (P := none) (ls' := [some (aR 11 (0)), some (aI (3330))]) (st' := []) (σ' := (up (cpM σ 186 188 0 (3330 * (σ 11 0 4)) 3330) 11 (0) 4 (wr (((cpM σ 186 188 0 (3330 * (σ 11 0 4)) 3330) 11 (0) 4) + (1))))) rq_160 rfl True.intro (i' := 53) rfl ?_
    refine wp_vret rq_160 rfl rt_160 ⟨?_, ?_⟩
    · rfl
    · (rw [zm_mchanges, if_pos h1]; try rfl)
  · refine wp_seg 2 (P := none) (ls' := [some (aR 11 (0)), some (aI (0))]) (st' := []) (σ' := σ) rq_160 rfl True.intro (i' := 6) rfl ?_
    refine wp_mem (shM_0 σ) (lc_mshift σ ?_ 23311 0 (by decide) (by decide) (by decide))
    refine wp_seg 8 (P := none) (ls' := [some (aR 11 (0)), some (aI (0))]) (st' := []) (σ' := (up (shM σ 23310) 11 (0) 4 (wr (((shM σ 23310) 11 (0) 4) - (1))))) rq_160 rfl True.intro (i' := 29) rfl ?_
    refine wp_mem (cpM_0 (up (shM σ 23310) 11 (0) 4 (wr (((shM σ 23310) 11 (0) 4) - (1)))) 186 188 0 (3330 * ((up (shM σ 23310) 11 (0) 4 (wr (((shM σ 23310) 11 (0) 4) - (1)))) 11 0 4))) (lc_mkeep ((up (shM σ 23310) 11 (0) 4 (wr (((shM σ 23310) 11 (0) 4) - (1)))) 11 0 4) (up (shM σ 23310) 11 (0) 4 (wr (((shM σ 23310) 11 (0) 4) - (1)))) (by first | (show 0 ≤ σ 11 0 4 ∧ σ 11 0 4 ≤ 7; omega) | (show 0 ≤ wr (σ 11 0 4 - 1) ∧ wr (σ 11 0 4 - 1) ≤ 7; rw [wr_eq (by omega) (by omega)]; omega)) rfl ?_ 3331 0 (by decide) (by decide) (by decide))
    refine wp_seg 6 (P := none) (ls' := [some (aR 11 (0)), some (aI (3330))]) (st' := []) (σ' := (up (cpM (up (shM σ 23310) 11 (0) 4 (wr (((shM σ 23310) 11 (0) 4) - (1)))) 186 188 0 (3330 * ((up (shM σ 23310) 11 (0) 4 (wr (((shM σ 23310) 11 (0) 4) - (1)))) 11 0 4)) 3330) 11 (0) 4 (wr (((cpM (up (shM σ 23310) 11 (0) 4 (wr (((shM σ 23310) 11 (0) 4) - (1)))) 186 188 0 (3330 * ((up (shM σ 23310) 11 (0) 4 (wr (((shM σ 23310) 11 (0) 4) - (1)))) 11 0 4)) 3330) 11 (0) 4) + (1))))) rq_160 rfl True.intro (i' := 53) rfl ?_
    refine wp_vret rq_160 rfl rt_160 ⟨?_, ?_⟩
    · rfl
    · (rw [zm_mchanges, if_neg h1]; try rfl)

def zo_yundo  (σ : Mem) : Int := if ¬ (σ 11 (0) 4) = 0 then (cpM (up (up σ 11 (0) 6 (0)) 11 (0) 4 (wr ((σ 11 (0) 4) - (1)))) 188 186 (3330 * ((up (up σ 11 (0) 6 (0)) 11 (0) 4 (wr ((σ 11 (0) 4) - (1)))) 11 0 4)) 0 3330) 11 (0) 4 else 0
def zm_yundo  (σ : Mem) : Mem := if ¬ (σ 11 (0) 4) = 0 then (cpM (up (up σ 11 (0) 6 (0)) 11 (0) 4 (wr ((σ 11 (0) 4) - (1)))) 188 186 (3330 * ((up (up σ 11 (0) 6 (0)) 11 (0) 4 (wr ((σ 11 (0) 4) - (1)))) 11 0 4)) 0 3330) else (up σ 11 (0) 6 (1))
theorem ev_yundo  (σ : Mem) (hp : 0 ≤ σ 11 0 4 ∧ σ 11 0 4 ≤ 8) : Ev true 161 [aR 11 (0)] σ (.inl (some (aI (zo_yundo  σ)))) (zm_yundo  σ) := by
  show wp true 161 0 [some (aR 11 (0)), none] [] σ 0 0 _
  refine wp_seg 3 (P := none) (ls' := [some (aR 11 (0)), none]) (st' := [aI (σ 11 (0) 4), aR 11 (0)]) (σ' := σ) rq_161 rfl True.intro (i' := 3) rfl ?_
  refine wp_if rq_161 rfl (fun (h1 : ¬ (σ 11 (0) 4) = 0) => ?_) (fun (h1 : ¬ (¬ (σ 11 (0) 4) = 0)) => ?_)
  · refine wp_seg 4 (P := none) (ls' := [some (aR 11 (0)), none]) (st' := [aI (0)]) (σ' := (up σ 11 (0) 6 (0))) rq_161 rfl True.intro (i' := 10) rfl ?_
    refine wp_if rq_161 rfl (fun _ => ?_) (fun (h2 : ¬ ((0 : Int) ≤ (0 : Int))) => absurd (show (0 : Int) ≤ (0 : Int) from by decide) h2)
    refine wp_seg 8 (P := none) (ls' := [some (aR 11 (0)), some (aI (0))]) (st' := []) (σ' := (up (up σ 11 (0) 6 (0)) 11 (0) 4 (wr ((σ 11 (0) 4) - (1))))) rq_161 rfl True.intro (i' := 21) rfl ?_
    refine wp_mem (cpM_0 (up (up σ 11 (0) 6 (0)) 11 (0) 4 (wr ((σ 11 (0) 4) - (1)))) 188 186 (3330 * ((up (up σ 11 (0) 6 (0)) 11 (0) 4 (wr ((σ 11 (0) 4) - (1)))) 11 0 4)) 0) (lc_mundo ((up (up σ 11 (0) 6 (0)) 11 (0) 4 (wr ((σ 11 (0) 4) - (1)))) 11 0 4) (up (up σ 11 (0) 6 (0)) 11 (0) 4 (wr ((σ 11 (0) 4) - (1)))) (by first | (show 0 ≤ σ 11 0 4 ∧ σ 11 0 4 ≤ 7; omega) | (show 0 ≤ wr (σ 11 0 4 - 1) ∧ wr (σ 11 0 4 - 1) ≤ 7; rw [wr_eq (by omega) (by omega)]; omega)) rfl ?_ 3331 0 (by decide) (by decide) (by decide))
    refine wp_seg 2 (P := none) (ls' := [some (aR 11 (0)), some (aI (3330))]) (st' := [aI ((cpM (up (up σ 11 (0) 6 (0)) 11 (0) 4 (wr ((σ 11 (0) 4) - (1)))) 188 186 (3330 * ((up (up σ 11 (0) 6 (0)) 11 (0) 4 (wr ((σ 11 (0) 4) - (1)))) 11 0 4)) 0 3330) 11 (0) 4)]) (σ' := (cpM (up (up σ 11 (0) 6 (0)) 11 (0) 4 (wr ((σ 11 (0) 4) - (1)))) 188 186 (3330 * ((up (up σ 11 (0) 6 (0)) 11 (0) 4 (wr ((σ 11 (0) 4) - (1)))) 11 0 4)) 0 3330)) rq_161 rfl True.intro (i' := 41) rfl ?_
    refine wp_iret rq_161 rfl rt_161 ⟨?_, ?_⟩
    · (rw [zo_yundo, if_pos h1]; try rfl)
    · (rw [zm_yundo, if_pos h1]; try rfl)
  · refine wp_seg 1 (P := none) (ls' := [some (aR 11 (0)), none]) (st' := [aI (1), aR 11 (0)]) (σ' := σ) rq_161 rfl True.intro (i' := 5) rfl ?_
    refine wp_goto rq_161 rfl ?_
    refine wp_seg 3 (P := none) (ls' := [some (aR 11 (0)), none]) (st' := [aI (1)]) (σ' := (up σ 11 (0) 6 (1))) rq_161 rfl True.intro (i' := 10) rfl ?_
    refine wp_if rq_161 rfl (fun (h3 : (1 : Int) ≤ (0 : Int)) => absurd h3 (show ¬ ((1 : Int) ≤ (0 : Int)) from by decide)) (fun _ => ?_)
    refine wp_seg 1 (P := none) (ls' := [some (aR 11 (0)), none]) (st' := [aI (0)]) (σ' := (up σ 11 (0) 6 (1))) rq_161 rfl True.intro (i' := 12) rfl ?_
    refine wp_iret rq_161 rfl rt_161 ⟨?_, ?_⟩
    · (rw [zo_yundo, if_neg h1]; try rfl)
    · (rw [zm_yundo, if_neg h1]; try rfl)

