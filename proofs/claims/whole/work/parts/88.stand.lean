/-! Where the seeds stand. -/
def wsd (σ : Mem) (h : Int → Int) : Mem := fun C r k => if C = 13 ∧ r = 190 then h k else σ C r k
def hin (h : Int → Int) (n j : Int) : Int → Int := fun k => if 2 * (j + 1) ≤ k ∧ k < 2 * n then (if k % 2 = 0 then h (k / 2) else 2 * n + 1 - h (k / 2)) else h k
theorem up_wsd {σ : Mem} {h : Int → Int} {k v : Int} : up (wsd σ h) 13 190 k v = wsd σ (fun i => if i = k then v else h i) := by
  funext C r i
  unfold up wsd
  dsimp only
  by_cases q : C = 13 ∧ r = 190
  · by_cases e : i = k
    · rw [if_pos ⟨q.1, q.2, e⟩, if_pos q, if_pos e]
    · rw [if_neg (fun z => e z.2.2), if_pos q, if_pos q, if_neg e]
  · rw [if_neg (fun z => q ⟨z.1, z.2.1⟩), if_neg q, if_neg q]
theorem wsd_r {σ : Mem} {h : Int → Int} {k : Int} : wsd σ h 13 190 k = h k := if_pos ⟨rfl, rfl⟩
theorem hin_s {h : Int → Int} {n j : Int} (hj : 0 ≤ j ∧ j < n) : (fun i => if i = 2 * j + 1 then 2 * n + 1 - h j else (if i = 2 * j then h j else hin h n j i)) = hin h n (j - 1) := by
  funext i
  unfold hin
  by_cases q1 : i = 2 * j + 1
  · rw [if_pos q1, if_pos (by omega), if_neg (by omega), show i / 2 = j by omega]
  · rw [if_neg q1]
    by_cases q2 : i = 2 * j
    · rw [if_pos q2, if_pos (by omega), if_pos (by omega), show i / 2 = j by omega]
    · rw [if_neg q2]
      by_cases q3 : 2 * (j + 1) ≤ i ∧ i < 2 * n
      · rw [if_pos q3, if_pos (show 2 * (j - 1 + 1) ≤ i ∧ i < 2 * n by omega)]
      · rw [if_neg q3, if_neg (by omega)]
theorem lp_mstin (u n : Int) (h : Int → Int) (σ : Mem) (Q : Out → Mem → Prop) (hn : 2 ≤ n ∧ n ≤ 16) (hb : ∀ i, 0 ≤ i → i < n → 0 ≤ h i ∧ h i ≤ 32) (hq : wp true 215 12 [some (aR 11 (0)), some (aI (u)), some (aI (n * 2)), none, none] [] (wsd σ (hin h n (-1))) 0 0 Q) : ∀ (m : Nat) (j : Int), -1 ≤ j → j < n → (j + 1).toNat < m → wp true 215 19 [some (aR 11 (0)), some (aI (u)), some (aI (n)), some (aI (j)), none] [] (wsd σ (hin h n j)) 0 0 Q := by
  intro m
  induction m with
  | zero =>
    intro j hj0 hjn hn9
    exact absurd hn9 (by omega)
  | succ m ih =>
    intro j hj0 hjn hn9
    refine wp_seg 1 (P := none) (ls' := [some (aR 11 (0)), some (aI (u)), some (aI (n)), some (aI (j)), none]) (st' := [aI (j)]) (σ' := (wsd σ (hin h n j))) rq_215 rfl True.intro (i' := 20) rfl ?_
    refine wp_if rq_215 rfl (fun (h1 : (j) < 0) => ?_) (fun (h1 : ¬ ((j) < 0)) => ?_)
    · refine wp_seg 4 (P := none) (ls' := [some (aR 11 (0)), some (aI (u)), some (aI (wr ((n) * (2)))), some (aI (j)), none]) (st' := []) (σ' := (wsd σ (hin h n j))) rq_215 rfl True.intro (i' := 54) rfl ?_
      refine wp_goto rq_215 rfl ?_
      have e9 : j = -1 := by omega
      rw [wr_eq (by omega) (by omega)]
      rw [e9]
      exact wp_weak (lessL_c (lessL_c (lessL_c (lessL_n (lessL_n lessL_0))))) hq
    · refine wp_seg 28 (P := some ((0 ≤ (j) ∧ (j) < alen (wsd σ (hin h n j)) 13 (190)) ∧ (0 ≤ (wr ((2) * (j))) ∧ (wr ((2) * (j))) < rowLen (190)) ∧ (0 ≤ (wr ((wr ((2) * (j))) + (1))) ∧ (wr ((wr ((2) * (j))) + (1))) < rowLen (190)))) (ls' := [some (aR 11 (0)), some (aI (u)), some (aI (n)), some (aI (wr (j + (-1)))), some (aI ((wsd σ (hin h n j)) 13 (190) (j)))]) (st' := []) (σ' := (up (up (wsd σ (hin h n j)) 13 (190) (wr ((2) * (j))) ((wsd σ (hin h n j)) 13 (190) (j))) 13 (190) (wr ((wr ((2) * (j))) + (1))) (wr ((wr ((wr ((2) * (n))) + (1))) - ((wsd σ (hin h n j)) 13 (190) (j)))))) rq_215 rfl ?_ (i' := 49) rfl ?_
      · show (0 ≤ (j) ∧ (j) < alen (wsd σ (hin h n j)) 13 (190)) ∧ (0 ≤ (wr ((2) * (j))) ∧ (wr ((2) * (j))) < rowLen (190)) ∧ (0 ≤ (wr ((wr ((2) * (j))) + (1))) ∧ (wr ((wr ((2) * (j))) + (1))) < rowLen (190))
        (first | decide | exact Or.inl rfl | exact Or.inr rfl | ((try simp (disch := omega) only [wr_eq, td2, tm2, mat_mput, mat_up, fo_mput, up_g_o, mput_g_o, mat_mch, mch_g, up6_g, al_g, al_k, al_p, al_c, al_r, al_t, al_o, rl_g, rl_k, rl_p, rl_c, rl_r, rl_t, rl_o, fo_mch, fo_up11, mat_up11] at *); (try simp (disch := omega) only [wr_eq, td2, tm2, mat_mput, mat_up, fo_mput, up_g_o, mput_g_o, mat_mch, mch_g, up6_g, al_g, al_k, al_p, al_c, al_r, al_t, al_o, rl_g, rl_k, rl_p, rl_c, rl_r, rl_t, rl_o, fo_mch, fo_up11, mat_up11]); (try simp (disch := omega) only [wr_eq, td2, tm2, mat_mput, mat_up, fo_mput, up_g_o, mput_g_o, mat_mch, mch_g, up6_g, al_g, al_k, al_p, al_c, al_r, al_t, al_o, rl_g, rl_k, rl_p, rl_c, rl_r, rl_t, rl_o, fo_mch, fo_up11, mat_up11] at *); (try simp (disch := omega) only [wr_eq, td2, tm2, mat_mput, mat_up, fo_mput, up_g_o, mput_g_o, mat_mch, mch_g, up6_g, al_g, al_k, al_p, al_c, al_r, al_t, al_o, rl_g, rl_k, rl_p, rl_c, rl_r, rl_t, rl_o, fo_mch, fo_up11, mat_up11]); (try simp (disch := omega) only [wr_eq, td2, tm2, mat_mput, mat_up, fo_mput, up_g_o, mput_g_o, mat_mch, mch_g, up6_g, al_g, al_k, al_p, al_c, al_r, al_t, al_o, rl_g, rl_k, rl_p, rl_c, rl_r, rl_t, rl_o, fo_mch, fo_up11, mat_up11]); omega))
      refine wp_goto rq_215 rfl ?_
      have e1 : wsd σ (hin h n j) 13 190 j = h j := by (rw [wsd_r]; unfold hin; rw [if_neg (by omega)])
      have b1 := hb j (by omega) (by omega)
      rw [wr_eq (z := 2 * j) (by omega) (by omega), wr_eq (z := 2 * j + 1) (by omega) (by omega), wr_eq (z := 2 * n) (by omega) (by omega), wr_eq (z := 2 * n + 1) (by omega) (by omega), e1, wr_eq (z := 2 * n + 1 - h j) (by omega) (by omega), up_wsd, up_wsd, hin_s ⟨by omega, by omega⟩]
      rw [show wr (j + -1) = j - 1 from wr_eq (by omega) (by omega)]
      exact wp_weak (lessL_c (lessL_c (lessL_c (lessL_c (lessL_n lessL_0))))) (ih (j - 1) (by omega) (by omega) (by omega))
theorem hin_id {h : Int → Int} {n : Int} : hin h n (n - 1) = h := by
  funext i
  unfold hin
  rw [if_neg (by omega)]

