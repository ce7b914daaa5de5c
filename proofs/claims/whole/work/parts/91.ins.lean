/-! The class's ranking: insertion. -/
def wor (K : Mem) (o : Int → Int) (n : Int) : Mem := fun C r k => if C = 13 ∧ r = 184 then o k else if C = 8 ∧ r = 0 ∧ k = 0 then n else K C r k
def cmB (K : Mem) (x y : Int) : Bool := decide (0 < zo_compare 0 x y K)
def inB (K : Mem) (f : Int) : Bool := decide (zo_isExcluded 0 f K = 0)
def shO (o : Int → Int) (j n : Int) : Int → Int := fun i => if j < i ∧ i ≤ n then o (i - 1) else o i
section Wor
variable {K : Mem} {o : Int → Int} {n i v x y f : Int}
theorem wor_o {C : Nat} {r k : Int} (h : ¬ (C = 13 ∧ r = 184)) (h2 : ¬ (C = 8 ∧ r = 0 ∧ k = 0)) : wor K o n C r k = K C r k := by unfold wor; rw [if_neg h, if_neg h2]
theorem wor_n : wor K o n 8 0 0 = n := by unfold wor; rw [if_neg (by omega), if_pos ⟨rfl, rfl, rfl⟩]
theorem wor_r {k : Int} : wor K o n 13 184 k = o k := if_pos ⟨rfl, rfl⟩
theorem wor_get (h : 0 ≤ i ∧ i < 24) : rget (wor K o n) 184 i = o i := by
  unfold rget
  rw [if_pos (show 0 ≤ i ∧ i < rowLen 184 from h)]
  exact wor_r
theorem wor_gr {r : Int} (h : ¬ r = 184) : rget (wor K o n) r i = rget K r i := by
  unfold rget
  rw [wor_o (by omega) (by omega)]
theorem wor_set (h : 0 ≤ i ∧ i < 24) : rset (wor K o n) 184 i v = wor K (fun k => if k = i then v else o k) n := by
  unfold rset
  rw [if_pos (show 0 ≤ i ∧ i < rowLen 184 from h)]
  funext C r k
  unfold up wor
  by_cases q : C = 13 ∧ r = 184
  · by_cases e : k = i
    · rw [if_pos ⟨q.1, q.2, e⟩, if_pos q]; exact (if_pos e).symm
    · rw [if_neg (fun z => e z.2.2), if_pos q, if_pos q]; exact (if_neg e).symm
  · rw [if_neg (fun z => q ⟨z.1, z.2.1⟩), if_neg q, if_neg q]
theorem wor_up : up (wor K o n) 8 0 0 v = wor K o v := by
  funext C r k
  unfold up wor
  by_cases q : C = 8 ∧ r = 0 ∧ k = 0
  · rw [if_pos q, if_neg (by omega), if_pos q]
  · rw [if_neg q, if_neg q, if_neg q]
theorem wor_id : up K 8 0 0 v = wor K (K 13 184) v := by
  funext C r k
  unfold up wor
  by_cases q : C = 8 ∧ r = 0 ∧ k = 0
  · rw [if_pos q, if_neg (by omega)]
  · rw [if_neg q]
    by_cases q2 : C = 13 ∧ r = 184
    · rw [if_pos q2, q2.1, q2.2]
    · rw [if_neg q2]
theorem cmp_wor : zo_compare 0 x y (wor K o n) = zo_compare 0 x y K := by
  unfold zo_compare zo_compareRatios zo_indicator zo_isStronger zo_icompare
  simp only [wor_gr (show ¬ (180 : Int) = 184 by decide), wor_gr (show ¬ (181 : Int) = 184 by decide), wor_gr (show ¬ (182 : Int) = 184 by decide), wor_gr (show ¬ (183 : Int) = 184 by decide), wor_gr (show ¬ (18 * 0 + 2 : Int) = 184 by decide)]
theorem exc_wor : zo_isExcluded 0 f (wor K o n) = zo_isExcluded 0 f K := by
  unfold zo_isExcluded
  rw [wor_gr (show ¬ (18 * 0 + 5 : Int) = 184 by decide)]
theorem shO_id : shO o n n = o := by
  funext i
  unfold shO
  rw [if_neg (by omega)]
theorem rs_ins (n : Nat) (hn : n < 24) : ∀ m : Nat, m ≤ n → rs (fr_insert 0 f) (m + 1) ((m : Int), wor K (shO o m n) n) = some (.inl none, wor K (insO f o (idxN (cmB K) f o m) n) (n + 1)) := by
  have fin : ∀ m : Nat, m ≤ n → up (rset (wor K (shO o m n) n) 184 m f) 8 0 0 (wr ((rset (wor K (shO o m n) n) 184 m f) 8 0 0 + 1)) = wor K (insO f o m n) (n + 1) := fun m hm => by
    rw [wor_set (by omega), wor_n, wr_eq (by omega) (by omega), wor_up]
    rfl
  intro m
  induction m with
  | zero =>
    intro hm
    rw [rs_s]
    have eF : fr_insert 0 f (((0 : Nat) : Int), wor K (shO o ((0 : Nat) : Int) n) n) = .inr (.inl none, up (rset (wor K (shO o ((0 : Nat) : Int) n) n) 184 ((0 : Nat) : Int) f) 8 0 0 (wr ((rset (wor K (shO o ((0 : Nat) : Int) n) n) 184 ((0 : Nat) : Int) f) 8 0 0 + 1))) := by
      simp only [fr_insert]
      rw [if_pos (by omega)]
    rw [eF, fin 0 hm]
    rfl
  | succ m ih =>
    intro hm
    have ew : wr (((m + 1 : Nat) : Int) - 1) = m := by rw [wr_eq (by omega) (by omega)]; omega
    have eg : rget (wor K (shO o ((m + 1 : Nat) : Int) n) n) 184 m = o m := by
      rw [wor_get (by omega)]
      unfold shO
      rw [if_neg (by omega)]
    rw [rs_s]
    have eI : idxN (cmB K) f o (m + 1) = if cmB K f (o (m : Int)) = true then idxN (cmB K) f o m else m + 1 := rfl
    rw [eI]
    by_cases q : zo_compare 0 f (o m) K ≤ 0
    · have eF : fr_insert 0 f (((m + 1 : Nat) : Int), wor K (shO o ((m + 1 : Nat) : Int) n) n) = .inr (.inl none, up (rset (wor K (shO o ((m + 1 : Nat) : Int) n) n) 184 ((m + 1 : Nat) : Int) f) 8 0 0 (wr ((rset (wor K (shO o ((m + 1 : Nat) : Int) n) n) 184 ((m + 1 : Nat) : Int) f) 8 0 0 + 1))) := by
        simp only [fr_insert]
        rw [if_neg (by omega), ew, eg, cmp_wor, if_pos q]
      rw [eF, fin (m + 1) hm, if_neg (by unfold cmB; intro z; have := of_decide_eq_true z; omega)]
    · have eS : rset (wor K (shO o ((m + 1 : Nat) : Int) n) n) 184 ((m + 1 : Nat) : Int) (o m) = wor K (shO o m n) n := by
        rw [wor_set (by omega)]
        congr 1
        funext k
        unfold shO
        by_cases e : k = ((m + 1 : Nat) : Int)
        · rw [if_pos e, if_pos (by omega), show k - 1 = m by omega]
        · rw [if_neg e]
          by_cases e2 : (m : Int) < k ∧ k ≤ n
          · rw [if_pos e2, if_pos (by omega)]
          · rw [if_neg e2, if_neg (by omega)]
      have eF : fr_insert 0 f (((m + 1 : Nat) : Int), wor K (shO o ((m + 1 : Nat) : Int) n) n) = .inl ((m : Int), wor K (shO o m n) n) := by
        simp only [fr_insert]
        rw [if_neg (by omega), ew, eg, cmp_wor, if_neg q, eS]
        rw [show wr (((m + 1 : Nat) : Int) + (-1)) = m by rw [wr_eq (by omega) (by omega)]; omega]
      rw [eF, if_pos (by unfold cmB; exact decide_eq_true (by omega))]
      exact ih (by omega)
theorem ev_insert (f : Int) (K : Mem) (o : Int → Int) (n : Nat) (hn : n < 24) : Ev true 92 [aR 8 (0), aR 6 (0), aI (f)] (wor K o n) (.inl none) (wor K (insO f o (idxN (cmB K) f o n) n) (n + 1)) := by
  show wp true 92 0 [some (aR 8 (0)), some (aR 6 (0)), some (aI (f)), none] [] (wor K o n) 0 0 _
  refine wp_seg 3 (P := none) (ls' := [some (aR 8 (0)), some (aR 6 (0)), some (aI (f)), some (aI ((wor K o n) 8 0 0))]) (st' := []) (σ' := wor K o n) rq_92 rfl True.intro (i' := 3) rfl ?_
  rw [wor_n]
  have h := rs_ins (K := K) (o := o) (f := f) n hn n (Nat.le_refl n)
  rw [shO_id] at h
  exact lr_insert 0 f _ _ (n + 1) n (wor K o n) h
theorem lp_rank (K : Mem) (F : Nat) (hF : K 6 0 0 = F) (hF2 : F ≤ 24) (o : Int → Int) (Q : Out → Mem → Prop) (hq : wp true 91 25 [some (aR 8 (0)), some (aR 2 (0)), some (aI (F : Int))] [] (wor K (rkS (cmB K) (inB K) o F).1 (rkS (cmB K) (inB K) o F).2) 0 0 Q) : ∀ (m i : Nat), i + m = F → wp true 91 8 [some (aR 8 (0)), some (aR 2 (0)), some (aI (i : Int))] [] (wor K (rkS (cmB K) (inB K) o i).1 (rkS (cmB K) (inB K) o i).2) 0 0 Q := by
  intro m
  induction m with
  | zero =>
    intro i e
    have e' : i = F := by omega
    rw [e']
    generalize hM : wor K (rkS (cmB K) (inB K) o F).1 (rkS (cmB K) (inB K) o F).2 = M at hq
    have hM6 : M 6 0 0 = F := by rw [← hM, wor_o (by omega) (by omega)]; exact hF
    refine wp_seg 4 (P := none) (ls' := [some (aR 8 (0)), some (aR 2 (0)), some (aI (F : Int))]) (st' := [aI (M 6 (0) 0), aI (F : Int)]) (σ' := M) rq_91 rfl True.intro (i' := 12) rfl ?_
    refine wp_icmp rq_91 rfl (fun (h1 : (M 6 (0) 0) ≤ (F : Int)) => hq) (fun (h1 : ¬ ((M 6 (0) 0) ≤ (F : Int))) => absurd (show (M 6 (0) 0) ≤ (F : Int) by omega) h1)
  | succ m ih =>
    intro i e
    have hi := ih (i + 1) (by omega)
    rw [rkS_s] at hi
    have hle := rkS_le (cmB K) (inB K) o i
    generalize rkS (cmB K) (inB K) o i = S at hi hle ⊢
    generalize hM : wor K S.1 S.2 = M
    have hM6 : M 6 0 0 = F := by rw [← hM, wor_o (by omega) (by omega)]; exact hF
    have hx : zo_isExcluded 0 i M = zo_isExcluded 0 i K := by rw [← hM]; exact exc_wor
    have ei : wr ((i : Int) + 1) = ((i + 1 : Nat) : Int) := by rw [wr_eq (by omega) (by omega)]; rfl
    refine wp_seg 4 (P := none) (ls' := [some (aR 8 (0)), some (aR 2 (0)), some (aI (i : Int))]) (st' := [aI (M 6 (0) 0), aI (i : Int)]) (σ' := M) rq_91 rfl True.intro (i' := 12) rfl ?_
    refine wp_icmp rq_91 rfl (fun (h1 : (M 6 (0) 0) ≤ (i : Int)) => absurd h1 (by omega)) (fun (h1 : ¬ ((M 6 (0) 0) ≤ (i : Int))) => ?_)
    refine wp_seg 3 (P := none) (ls' := [some (aR 8 (0)), some (aR 2 (0)), some (aI (i : Int))]) (st' := [aI (i : Int), aR 6 (0)]) (σ' := M) rq_91 rfl True.intro (i' := 16) rfl ?_
    refine wp_call (C := 6) (As := [aR 6 (0), aI (i : Int)]) (rest := []) rq_91 (ev_isExcluded (0) (i : Int) M) rfl rfl (show clOK 91 71 0 0 0 2 6 = true by decide +kernel) rfl (show 0 ≤ 4 by decide) (fun _ => ⟨_, rfl⟩) rfl (c' := 0) (s' := 0) rfl rfl ?_
    refine wp_if rq_91 rfl (fun (h2 : ¬ (zo_isExcluded (0) (i : Int) M) = 0) => ?_) (fun (h2 : ¬ (¬ (zo_isExcluded (0) (i : Int) M) = 0)) => ?_)
    · refine wp_seg 1 (P := none) (ls' := [some (aR 8 (0)), some (aR 2 (0)), some (aI (wr ((i : Int) + 1)))]) (st' := []) (σ' := M) rq_91 rfl True.intro (i' := 24) rfl ?_
      refine wp_goto rq_91 rfl ?_
      rw [if_neg (by unfold inB; intro z; have := of_decide_eq_true z; rw [hx] at h2; exact h2 this), hM] at hi
      rw [ei]
      exact hi
    · refine wp_seg 4 (P := none) (ls' := [some (aR 8 (0)), some (aR 2 (0)), some (aI (i : Int))]) (st' := [aI (i : Int), aR 6 (0), aR 8 (0)]) (σ' := M) rq_91 rfl True.intro (i' := 22) rfl ?_
      rw [← hM]
      refine wp_call (C := 8) (As := [aR 8 (0), aR 6 (0), aI (i : Int)]) (rest := []) rq_91 (ev_insert (i : Int) K S.1 S.2 (by omega)) rfl rfl (show clOK 91 92 0 0 0 3 8 = true by decide +kernel) rfl (show 0 ≤ 4 by decide) (fun _ => ⟨_, rfl⟩) rfl (c' := 0) (s' := 0) rfl rfl ?_
      refine wp_seg 1 (P := none) (ls' := [some (aR 8 (0)), some (aR 2 (0)), some (aI (wr ((i : Int) + 1)))]) (st' := []) (σ' := (wor K (insO (i : Int) S.1 (idxN (cmB K) (i : Int) S.1 S.2) S.2) (S.2 + 1))) rq_91 rfl True.intro (i' := 24) rfl ?_
      refine wp_goto rq_91 rfl ?_
      rw [if_pos (by unfold inB; rw [hx] at h2; exact decide_eq_true (by omega))] at hi
      rw [ei]
      exact hi
/-- the class's memory once all are ranked -/
def ordO (T : Mem) : Nat → (Int → Int) × Nat := rkS (cmB T) (inB T) (T 13 184)
def zm_rankAll (σ : Mem) : Mem := wor (zm_tally 0 σ) (ordO (zm_tally 0 σ) (zm_tally 0 σ 6 0 0).toNat).1 (ordO (zm_tally 0 σ) (zm_tally 0 σ 6 0 0).toNat).2
theorem ev_rankAll (σ : Mem) (h : 0 ≤ zm_tally 0 σ 6 0 0 ∧ zm_tally 0 σ 6 0 0 ≤ 24) : Ev true 91 [aR 8 (0), aR 2 (0)] σ (.inl none) (zm_rankAll σ) := by
  show wp true 91 0 [some (aR 8 (0)), some (aR 2 (0)), none] [] σ 0 0 _
  refine wp_seg 2 (P := none) (ls' := [some (aR 8 (0)), some (aR 2 (0)), none]) (st' := [aR 2 (0), aR 8 (0)]) (σ' := σ) rq_91 rfl True.intro (i' := 2) rfl ?_
  refine wp_call (C := 8) (As := [aR 8 (0), aR 2 (0)]) (rest := []) rq_91 (ev_tally (0) σ) rfl rfl (show clOK 91 84 0 0 0 2 8 = true by decide +kernel) rfl (show 0 ≤ 4 by decide) (fun _ => ⟨_, rfl⟩) rfl (c' := 0) (s' := 0) rfl rfl ?_
  generalize hT : zm_tally 0 σ = T at h
  refine wp_seg 5 (P := none) (ls' := [some (aR 8 (0)), some (aR 2 (0)), some (aI (0))]) (st' := []) (σ' := up T 8 0 0 0) rq_91 rfl True.intro (i' := 8) rfl ?_
  have e : zm_rankAll σ = wor T (rkS (cmB T) (inB T) (T 13 184) (T 6 0 0).toNat).1 (rkS (cmB T) (inB T) (T 13 184) (T 6 0 0).toNat).2 := by unfold zm_rankAll ordO; rw [hT]
  rw [wor_id, e]
  refine lp_rank T (T 6 0 0).toNat (by omega) (by omega) (T 13 184) _ ?_ (T 6 0 0).toNat 0 (by omega)
  refine wp_vret rq_91 rfl rt_91 ⟨?_, ?_⟩
  · rfl
  · rfl
end Wor
