/-! Row -/
def rget (σ : Mem) (r i : Int) : Int := if 0 ≤ i ∧ i < rowLen r then σ 13 r i else -1
def rset (σ : Mem) (r i v : Int) : Mem := if 0 ≤ i ∧ i < rowLen r then up σ 13 r i v else σ
theorem alen13 (σ : Mem) (r : Int) : alen σ 13 r = rowLen r := rfl

theorem ev_get (r i : Int) (σ : Mem) : Ev true 78 [aR 7 (r), aI (i)] σ (.inl (some (aI (rget σ r i)))) (σ) := by
  show wp true 78 0 [some (aR 7 (r)), some (aI (i))] [] σ 0 0 _
  refine wp_seg 1 (P := none) (ls' := [some (aR 7 (r)), some (aI (i))]) (st' := [aI (i)]) (σ' := σ) rq_78 rfl True.intro (i' := 1) rfl ?_
  refine wp_if rq_78 rfl (fun (h1 : (i) < 0) => ?_) (fun (h1 : ¬ ((i) < 0)) => ?_)
  · refine wp_seg 1 (P := none) (ls' := [some (aR 7 (r)), some (aI (i))]) (st' := [aI (-1)]) (σ' := σ) rq_78 rfl True.intro (i' := 13) rfl ?_
    refine wp_iret rq_78 rfl rt_78 ⟨?_, ?_⟩
    · (first | exact congrArg (fun z => (Sum.inl (some (aI z)) : Out)) (if_pos ⟨by omega, by show i < rowLen r; change ¬ rowLen r ≤ i at h2; omega⟩).symm | exact congrArg (fun z => (Sum.inl (some (aI z)) : Out)) (if_neg (by first | (change rowLen r ≤ i at h2; omega) | omega)).symm)
    · rfl
  · refine wp_seg 4 (P := none) (ls' := [some (aR 7 (r)), some (aI (i))]) (st' := [aI (alen σ 13 (r)), aI (i)]) (σ' := σ) rq_78 rfl True.intro (i' := 6) rfl ?_
    refine wp_icmp rq_78 rfl (fun (h2 : (alen σ 13 (r)) ≤ (i)) => ?_) (fun (h2 : ¬ ((alen σ 13 (r)) ≤ (i))) => ?_)
    · refine wp_seg 1 (P := none) (ls' := [some (aR 7 (r)), some (aI (i))]) (st' := [aI (-1)]) (σ' := σ) rq_78 rfl True.intro (i' := 13) rfl ?_
      refine wp_iret rq_78 rfl rt_78 ⟨?_, ?_⟩
      · (first | exact congrArg (fun z => (Sum.inl (some (aI z)) : Out)) (if_pos ⟨by omega, by show i < rowLen r; change ¬ rowLen r ≤ i at h2; omega⟩).symm | exact congrArg (fun z => (Sum.inl (some (aI z)) : Out)) (if_neg (by first | (change rowLen r ≤ i at h2; omega) | omega)).symm)
      · rfl
    · refine wp_seg 4 (P := some (0 ≤ (i) ∧ (i) < alen σ 13 (r))) (ls' := [some (aR 7 (r)), some (aI (i))]) (st' := [aI (σ 13 (r) (i))]) (σ' := σ) rq_78 rfl ?_ (i' := 11) rfl ?_
      · show 0 ≤ (i) ∧ (i) < alen σ 13 (r)
        (change ¬ rowLen r ≤ i at h2; show 0 ≤ i ∧ i < rowLen r; omega)
      refine wp_goto rq_78 rfl ?_
      refine wp_iret rq_78 rfl rt_78 ⟨?_, ?_⟩
      · (first | exact congrArg (fun z => (Sum.inl (some (aI z)) : Out)) (if_pos ⟨by omega, by show i < rowLen r; change ¬ rowLen r ≤ i at h2; omega⟩).symm | exact congrArg (fun z => (Sum.inl (some (aI z)) : Out)) (if_neg (by first | (change rowLen r ≤ i at h2; omega) | omega)).symm)
      · rfl

theorem ev_set (r i v : Int) (σ : Mem) : Ev true 79 [aR 7 (r), aI (i), aI (v)] σ (.inl none) (rset σ r i v) := by
  show wp true 79 0 [some (aR 7 (r)), some (aI (i)), some (aI (v))] [] σ 0 0 _
  refine wp_seg 1 (P := none) (ls' := [some (aR 7 (r)), some (aI (i)), some (aI (v))]) (st' := [aI (i)]) (σ' := σ) rq_79 rfl True.intro (i' := 1) rfl ?_
  refine wp_if rq_79 rfl (fun (h1 : (i) < 0) => ?_) (fun (h1 : ¬ ((i) < 0)) => ?_)
  · refine wp_vret rq_79 rfl rt_79 ⟨?_, ?_⟩
    · rfl
    · (first | exact (if_pos ⟨by omega, by show i < rowLen r; change ¬ rowLen r ≤ i at h2; omega⟩).symm | exact (if_neg (by first | (change rowLen r ≤ i at h2; omega) | omega)).symm)
  · refine wp_seg 4 (P := none) (ls' := [some (aR 7 (r)), some (aI (i)), some (aI (v))]) (st' := [aI (alen σ 13 (r)), aI (i)]) (σ' := σ) rq_79 rfl True.intro (i' := 6) rfl ?_
    refine wp_icmp rq_79 rfl (fun (h2 : (alen σ 13 (r)) ≤ (i)) => ?_) (fun (h2 : ¬ ((alen σ 13 (r)) ≤ (i))) => ?_)
    · refine wp_vret rq_79 rfl rt_79 ⟨?_, ?_⟩
      · rfl
      · (first | exact (if_pos ⟨by omega, by show i < rowLen r; change ¬ rowLen r ≤ i at h2; omega⟩).symm | exact (if_neg (by first | (change rowLen r ≤ i at h2; omega) | omega)).symm)
    · refine wp_seg 5 (P := some (0 ≤ (i) ∧ (i) < rowLen (r))) (ls' := [some (aR 7 (r)), some (aI (i)), some (aI (v))]) (st' := []) (σ' := (up σ 13 (r) (i) (v))) rq_79 rfl ?_ (i' := 12) rfl ?_
      · show 0 ≤ (i) ∧ (i) < rowLen (r)
        (change ¬ rowLen r ≤ i at h2; show 0 ≤ i ∧ i < rowLen r; omega)
      refine wp_vret rq_79 rfl rt_79 ⟨?_, ?_⟩
      · rfl
      · (first | exact (if_pos ⟨by omega, by show i < rowLen r; change ¬ rowLen r ≤ i at h2; omega⟩).symm | exact (if_neg (by first | (change rowLen r ≤ i at h2; omega) | omega)).symm)

theorem ev_add (r i v : Int) (σ : Mem) : Ev true 80 [aR 7 (r), aI (i), aI (v)] σ (.inl none) (rset σ r i (wr (rget σ r i + v))) := by
  show wp true 80 0 [some (aR 7 (r)), some (aI (i)), some (aI (v))] [] σ 0 0 _
  refine wp_seg 4 (P := none) (ls' := [some (aR 7 (r)), some (aI (i)), some (aI (v))]) (st' := [aI (i), aR 7 (r), aI (i), aR 7 (r)]) (σ' := σ) rq_80 rfl True.intro (i' := 4) rfl ?_
  refine wp_call (C := 7) (As := [aR 7 (r), aI (i)]) (rest := [aI (i), aR 7 (r)]) rq_80 (ev_get (r) (i) σ ) rfl rfl (show clOK 80 78 0 0 0 2 7 = true by decide +kernel) rfl (show 2 ≤ 4 by decide) (fun _ => ⟨_, rfl⟩) rfl (c' := 0) (s' := 0) rfl rfl ?_
  refine wp_seg 2 (P := none) (ls' := [some (aR 7 (r)), some (aI (i)), some (aI (v))]) (st' := [aI (wr ((rget σ (r) (i)) + (v))), aI (i), aR 7 (r)]) (σ' := σ) rq_80 rfl True.intro (i' := 7) rfl ?_
  refine wp_call (C := 7) (As := [aR 7 (r), aI (i), aI (wr ((rget σ (r) (i)) + (v)))]) (rest := []) rq_80 (ev_set (r) (i) (wr ((rget σ (r) (i)) + (v))) σ ) rfl rfl (show clOK 80 79 0 0 0 3 7 = true by decide +kernel) rfl (show 0 ≤ 4 by decide) (fun _ => ⟨_, rfl⟩) rfl (c' := 0) (s' := 0) rfl rfl ?_
  refine wp_vret rq_80 rfl rt_80 ⟨?_, ?_⟩
  · rfl
  · rfl

def rfillTo (σ : Mem) (r v n : Int) : Mem := fun C r' k => if C = 13 ∧ r' = r ∧ 0 ≤ k ∧ k < n then v else σ C r' k
def rfill (σ : Mem) (r v : Int) : Mem := rfillTo σ r v (rowLen r)
theorem wr_eq {z : Int} (h1 : -2147483648 ≤ z) (h2 : z < 2147483648) : wr z = z := by unfold wr; exact Int.bmod_eq_of_le (by omega) (by omega)
theorem rfillTo_0 (σ : Mem) (r v : Int) : rfillTo σ r v 0 = σ := by
  funext C r' k
  unfold rfillTo
  rw [if_neg (by omega)]
theorem rfillTo_1 (σ : Mem) (r v i : Int) (h : 0 ≤ i) : up (rfillTo σ r v i) 13 r i v = rfillTo σ r v (i + 1) := by
  funext C r' k
  unfold up rfillTo
  by_cases h1 : C = 13 ∧ r' = r ∧ k = i
  · rw [if_pos h1, if_pos ⟨h1.1, h1.2.1, by omega, by omega⟩]
  · rw [if_neg h1]
    by_cases h2 : C = 13 ∧ r' = r ∧ 0 ≤ k ∧ k < i
    · rw [if_pos h2, if_pos ⟨h2.1, h2.2.1, h2.2.2.1, by omega⟩]
    · rw [if_neg h2, if_neg]
      rintro ⟨a, b, c, d⟩
      have h3 : ¬ k = i := fun e => h1 ⟨a, b, e⟩
      exact h2 ⟨a, b, c, by omega⟩
theorem swD {lo : Int} {d : Nat} {ts : List Nat} {v : Int} (h : v < lo ∨ lo + ts.length ≤ v) : swT lo (d :: ts) v = d := by
  show (if lo ≤ v then ts.getD (v - lo).toNat d else d) = d
  by_cases h1 : lo ≤ v
  · rw [if_pos h1, List.getD_eq_getElem?_getD, List.getElem?_eq_none (by omega)]; rfl
  · rw [if_neg h1]

theorem lp_fill (r v : Int) (σ : Mem) : ∀ (n : Nat) (i : Int) (h_0 : 0 ≤ i) (h_1 : i ≤ rowLen r), (rowLen r - i).toNat < n → wp true 81 2 [some (aR 7 (r)), some (aI (v)), some (aI (i))] [] (rfillTo σ r v i) 0 0 (fun o' σ2 => o' = .inl none ∧ σ2 = rfill σ r v) := by
  intro n
  induction n with
  | zero => intros; omega
  | succ n ih =>
    intro i  h_0 h_1 hm
    refine wp_seg 4 (P := none) (ls' := [some (aR 7 (r)), some (aI (v)), some (aI (i))]) (st' := [aI (alen (rfillTo σ r v i) 13 (r)), aI (i)]) (σ' := (rfillTo σ r v i)) rq_81 rfl True.intro (i' := 6) rfl ?_
    refine wp_icmp rq_81 rfl (fun (h1 : (alen (rfillTo σ r v i) 13 (r)) ≤ (i)) => ?_) (fun (h1 : ¬ ((alen (rfillTo σ r v i) 13 (r)) ≤ (i))) => ?_)
    · refine wp_vret rq_81 rfl rt_81 ⟨?_, ?_⟩
      · rfl
      · (show rfillTo σ r v i = rfill σ r v; change rowLen r ≤ i at h1; rw [show i = rowLen r by omega]; rfl)
    · refine wp_seg 6 (P := some (0 ≤ (i) ∧ (i) < rowLen (r))) (ls' := [some (aR 7 (r)), some (aI (v)), some (aI (wr (i + 1)))]) (st' := []) (σ' := (up (rfillTo σ r v i) 13 (r) (i) (v))) rq_81 rfl ?_ (i' := 13) rfl ?_
      · show 0 ≤ (i) ∧ (i) < rowLen (r)
        (have hb := rowLen_bd r; change ¬ rowLen r ≤ i at h1; omega)
      refine wp_goto rq_81 rfl ?_
      have hb := rowLen_bd r
      change ¬ rowLen r ≤ i at h1
      have e : wr (i + 1) = i + 1 := wr_eq (by omega) (by omega)
      rw [e, rfillTo_1 σ r v i h_0]
      exact ih (i + 1) (by omega) (by omega) (by omega)

theorem ev_fill (r v : Int) (σ : Mem) : Ev true 81 [aR 7 r, aI v] σ (.inl none) (rfill σ r v) := by
  show wp true 81 0 [some (aR 7 (r)), some (aI (v)), none] [] σ 0 0 _
  refine wp_seg 2 (P := none) (ls' := [some (aR 7 (r)), some (aI (v)), some (aI (0))]) (st' := []) (σ' := σ) rq_81 rfl True.intro (i' := 2) rfl ?_
  have h := lp_fill r v σ ((rowLen r - 0).toNat + 1) 0 (by omega) (rowLen_bd r).1 (by omega)
  rw [rfillTo_0] at h
  exact h

def rcl (r q n : Int) : Int := rmin n (rmin (rowLen r) (rowLen q))
theorem rcl_le (r q n : Int) : rcl r q n ≤ rowLen r ∧ rcl r q n ≤ rowLen q := by
  unfold rcl rmin
  repeat' split
  all_goals omega
def rcpy (σ : Mem) (r q n : Int) : Mem := if 0 < rcl r q n then cpM σ q r 0 0 (rcl r q n) else σ

theorem ev_copyFrom (r q n : Int) (σ : Mem) : Ev true 82 [aR 7 (r), aR 7 (q), aI (n)] σ (.inl none) (rcpy σ r q n) := by
  show wp true 82 0 [some (aR 7 (r)), some (aR 7 (q)), some (aI (n)), none] [] σ 0 0 _
  refine wp_seg 11 (P := none) (ls' := [some (aR 7 (r)), some (aR 7 (q)), some (aI (n)), some (aI (rmin (n) (rmin (alen σ 13 (r)) (alen σ 13 (q)))))]) (st' := [aI (rmin (n) (rmin (alen σ 13 (r)) (alen σ 13 (q))))]) (σ' := σ) rq_82 rfl True.intro (i' := 11) rfl ?_
  refine wp_if rq_82 rfl (fun (h1 : (rmin (n) (rmin (alen σ 13 (r)) (alen σ 13 (q)))) ≤ 0) => ?_) (fun (h1 : ¬ ((rmin (n) (rmin (alen σ 13 (r)) (alen σ 13 (q)))) ≤ 0)) => ?_)
  · refine wp_vret rq_82 rfl rt_82 ⟨?_, ?_⟩
    · rfl
    · first | exact (if_neg (by show ¬ 0 < rcl r q n; have h8 : rcl r q n ≤ 0 := h1; omega)).symm | exact (if_pos (by show 0 < rcl r q n; have h8 : ¬ rcl r q n ≤ 0 := h1; omega)).symm
  · refine wp_seg 8 (P := some (0 ≤ (0) ∧ 0 ≤ (0) ∧ 0 ≤ (rmin (n) (rmin (alen σ 13 (r)) (alen σ 13 (q)))) ∧ (0) + (rmin (n) (rmin (alen σ 13 (r)) (alen σ 13 (q)))) ≤ rowLen (q) ∧ (0) + (rmin (n) (rmin (alen σ 13 (r)) (alen σ 13 (q)))) ≤ rowLen (r))) (ls' := [some (aR 7 (r)), some (aR 7 (q)), some (aI (n)), some (aI (rmin (n) (rmin (alen σ 13 (r)) (alen σ 13 (q)))))]) (st' := []) (σ' := (cpM σ (q) (r) (0) (0) (rmin (n) (rmin (alen σ 13 (r)) (alen σ 13 (q)))))) rq_82 rfl ?_ (i' := 20) rfl ?_
    · show 0 ≤ (0) ∧ 0 ≤ (0) ∧ 0 ≤ (rmin (n) (rmin (alen σ 13 (r)) (alen σ 13 (q)))) ∧ (0) + (rmin (n) (rmin (alen σ 13 (r)) (alen σ 13 (q)))) ≤ rowLen (q) ∧ (0) + (rmin (n) (rmin (alen σ 13 (r)) (alen σ 13 (q)))) ≤ rowLen (r)
      (have h9 := rcl_le r q n; have h8 : ¬ rcl r q n ≤ 0 := h1; show 0 ≤ (0 : Int) ∧ 0 ≤ (0 : Int) ∧ 0 ≤ rcl r q n ∧ 0 + rcl r q n ≤ rowLen q ∧ 0 + rcl r q n ≤ rowLen r; omega)
    refine wp_vret rq_82 rfl rt_82 ⟨?_, ?_⟩
    · rfl
    · first | exact (if_neg (by show ¬ 0 < rcl r q n; have h8 : rcl r q n ≤ 0 := h1; omega)).symm | exact (if_pos (by show 0 < rcl r q n; have h8 : ¬ rcl r q n ≤ 0 := h1; omega)).symm

