/-! The table is drawn: the calls of both sides. -/
def zo_xdrawTable (T9 σ : Mem) : Out := if ¬ (σ 2 (0) 0) = 1 then .inr 1 else if ¬ (σ 2 (0) 2) = (-1) then .inr 1 else if (wr (sumTo (fo_bcountIn (0) (0) σ) (σ 0 ((0)) 0))) ≤ 0 then (if 2 ≤ (wr (sumTo (fo_fcountIn (0) σ) (σ 6 ((0)) 0))) then .inl (some (aI (T9 9 (0) 0))) else .inr 1) else .inr 1
def zm_xdrawTable (T9 σ : Mem) : Mem := if ¬ (σ 2 (0) 0) = 1 then σ else if ¬ (σ 2 (0) 2) = (-1) then σ else if (wr (sumTo (fo_bcountIn (0) (0) σ) (σ 0 ((0)) 0))) ≤ 0 then (if 2 ≤ (wr (sumTo (fo_fcountIn (0) σ) (σ 6 ((0)) 0))) then T9 else σ) else σ
theorem ev_xdrawTable  (σ : Mem) (hA : 0 ≤ zm_tally 0 (zm_keep 0 σ) 6 0 0 ∧ zm_tally 0 (zm_keep 0 σ) 6 0 0 ≤ 24) (T9 : Mem) (hFT : σ 2 0 0 = 1 → 2 ≤ wr (sumTo (fo_fcountIn 0 σ) (σ 6 0 0)) → Ev true 38 [aR 2 (0), aR 7 (184), aI ((zm_rankAll (zm_keep (0) σ)) 8 (0) 0)] (zm_rankAll (zm_keep (0) σ)) (.inl none) T9) : Ev true 127 [aR 10 (0)] σ (zo_xdrawTable T9 σ) (zm_xdrawTable T9 σ) := by
  show wp true 127 0 [some (aR 10 (0))] [] σ 0 0 _
  refine wp_seg 4 (P := none) (ls' := [some (aR 10 (0))]) (st' := [aI (1), aI (σ 2 (0) 0)]) (σ' := σ) rq_127 rfl True.intro (i' := 4) rfl ?_
  refine wp_icmp rq_127 rfl (fun (h1 : ¬ (σ 2 (0) 0) = 1) => ?_) (fun (h1 : ¬ (¬ (σ 2 (0) 0) = 1)) => ?_)
  · refine wp_throw rq_127 rfl (hcat_lt (by decide)) (show 0 ≤ 4 by decide) (by decide +kernel) (by decide +kernel) (by decide +kernel) ⟨?_, ?_⟩
    · (rw [zo_xdrawTable, if_pos h1]; try rfl)
    · (rw [zm_xdrawTable, if_pos h1]; try rfl)
  · refine wp_seg 4 (P := none) (ls' := [some (aR 10 (0))]) (st' := [aI (-1), aI (σ 2 (0) 2)]) (σ' := σ) rq_127 rfl True.intro (i' := 9) rfl ?_
    refine wp_icmp rq_127 rfl (fun (h2 : ¬ (σ 2 (0) 2) = (-1)) => ?_) (fun (h2 : ¬ (¬ (σ 2 (0) 2) = (-1))) => ?_)
    · refine wp_throw rq_127 rfl (hcat_lt (by decide)) (show 0 ≤ 4 by decide) (by decide +kernel) (by decide +kernel) (by decide +kernel) ⟨?_, ?_⟩
      · (rw [zo_xdrawTable, if_neg h1, if_pos h2]; try rfl)
      · (rw [zm_xdrawTable, if_neg h1, if_pos h2]; try rfl)
    · refine wp_seg 4 (P := none) (ls' := [some (aR 10 (0))]) (st' := [aI (0), aR 0 (0)]) (σ' := σ) rq_127 rfl True.intro (i' := 14) rfl ?_
      refine wp_call (C := 0) (As := [aR 0 (0), aI (0)]) (rest := []) rq_127 (ev_bcountIn (0) (0) σ ) rfl rfl (show clOK 127 16 0 0 0 2 0 = true by decide +kernel) rfl (show 0 ≤ 4 by decide) (fun _ => ⟨_, rfl⟩) rfl (c' := 0) (s' := 0) rfl rfl ?_
      refine wp_if rq_127 rfl (fun (h3 : (wr (sumTo (fo_bcountIn (0) (0) σ) (σ 0 ((0)) 0))) ≤ 0) => ?_) (fun (h3 : ¬ ((wr (sumTo (fo_bcountIn (0) (0) σ) (σ 0 ((0)) 0))) ≤ 0)) => ?_)
      · refine wp_seg 3 (P := none) (ls' := [some (aR 10 (0))]) (st' := [aR 6 (0)]) (σ' := σ) rq_127 rfl True.intro (i' := 24) rfl ?_
        refine wp_call (C := 6) (As := [aR 6 (0)]) (rest := []) rq_127 (ev_fcountIn (0) σ ) rfl rfl (show clOK 127 73 0 0 0 1 6 = true by decide +kernel) rfl (show 0 ≤ 4 by decide) (fun _ => ⟨_, rfl⟩) rfl (c' := 0) (s' := 0) rfl rfl ?_
        refine wp_seg 1 (P := none) (ls' := [some (aR 10 (0))]) (st' := [aI (2), aI (wr (sumTo (fo_fcountIn (0) σ) (σ 6 ((0)) 0)))]) (σ' := σ) rq_127 rfl True.intro (i' := 26) rfl ?_
        refine wp_icmp rq_127 rfl (fun (h4 : 2 ≤ (wr (sumTo (fo_fcountIn (0) σ) (σ 6 ((0)) 0)))) => ?_) (fun (h4 : ¬ (2 ≤ (wr (sumTo (fo_fcountIn (0) σ) (σ 6 ((0)) 0))))) => ?_)
        · refine wp_seg 4 (P := none) (ls' := [some (aR 10 (0))]) (st' := [aR 2 (0), aR 1 (0)]) (σ' := σ) rq_127 rfl True.intro (i' := 36) rfl ?_
          refine wp_call (C := 1) (As := [aR 1 (0), aR 2 (0)]) (rest := []) rq_127 (ev_keep (0) σ ) rfl rfl (show clOK 127 21 0 0 0 2 1 = true by decide +kernel) rfl (show 0 ≤ 4 by decide) (fun _ => ⟨_, rfl⟩) rfl (c' := 0) (s' := 0) rfl rfl ?_
          refine wp_seg 4 (P := none) (ls' := [some (aR 10 (0))]) (st' := [aR 2 (0), aR 8 (0)]) (σ' := (zm_keep (0) σ)) rq_127 rfl True.intro (i' := 41) rfl ?_
          refine wp_call (C := 8) (As := [aR 8 (0), aR 2 (0)]) (rest := []) rq_127 (ev_rankAll (zm_keep (0) σ) hA) rfl rfl (show clOK 127 91 0 0 0 2 8 = true by decide +kernel) rfl (show 0 ≤ 4 by decide) (fun _ => ⟨_, rfl⟩) rfl (c' := 0) (s' := 0) rfl rfl ?_
          refine wp_seg 8 (P := none) (ls' := [some (aR 10 (0))]) (st' := [aI ((zm_rankAll (zm_keep (0) σ)) 8 (0) 0), aR 7 (184), aR 2 (0)]) (σ' := (zm_rankAll (zm_keep (0) σ))) rq_127 rfl True.intro (i' := 50) rfl ?_
          refine wp_call (C := 2) (As := [aR 2 (0), aR 7 (184), aI ((zm_rankAll (zm_keep (0) σ)) 8 (0) 0)]) (rest := []) rq_127 (hFT (by omega) (by omega)) rfl rfl (show clOK 127 38 0 0 0 3 2 = true by decide +kernel) rfl (show 0 ≤ 4 by decide) (fun _ => ⟨_, rfl⟩) rfl (c' := 0) (s' := 0) rfl rfl ?_
          refine wp_seg 4 (P := none) (ls' := [some (aR 10 (0))]) (st' := [aI (T9 9 (0) 0)]) (σ' := T9) rq_127 rfl True.intro (i' := 55) rfl ?_
          refine wp_iret rq_127 rfl rt_127 ⟨?_, ?_⟩
          · (rw [zo_xdrawTable, if_neg h1, if_neg h2, if_pos h3, if_pos h4]; try rfl)
          · (rw [zm_xdrawTable, if_neg h1, if_neg h2, if_pos h3, if_pos h4]; try rfl)
        · refine wp_throw rq_127 rfl (hcat_lt (by decide)) (show 0 ≤ 4 by decide) (by decide +kernel) (by decide +kernel) (by decide +kernel) ⟨?_, ?_⟩
          · (rw [zo_xdrawTable, if_neg h1, if_neg h2, if_pos h3, if_neg h4]; try rfl)
          · (rw [zm_xdrawTable, if_neg h1, if_neg h2, if_pos h3, if_neg h4]; try rfl)
      · refine wp_throw rq_127 rfl (hcat_lt (by decide)) (show 0 ≤ 4 by decide) (by decide +kernel) (by decide +kernel) (by decide +kernel) ⟨?_, ?_⟩
        · (rw [zo_xdrawTable, if_neg h1, if_neg h2, if_neg h3]; try rfl)
        · (rw [zm_xdrawTable, if_neg h1, if_neg h2, if_neg h3]; try rfl)
section DTc
variable {N n B t j i w b f k : Int} {C : Nat} {K X S M σ : Mem} {c : Cs} {g : Gs} {o : Int → Int} {P : Int → Bool}
theorem cnt_pos (i0 : 0 ≤ i) (i1 : i < n) (h : P i = true) : 1 ≤ cntP P n := by
  have s := cntP_s (P := P) i0
  rw [if_pos h] at s
  have b := (cntP_b (P := P) i0).1
  have l := cntP_le (P := P) (i := i + 1) (j := n) (by omega) (by omega)
  omega
theorem cnt_zero (n0 : 0 ≤ n) (h : ∀ i, 0 ≤ i → i < n → ¬ P i = true) : cntP P n = 0 := sumTo_00 n0 fun i i0 i1 => if_neg (h i i0 i1)
/-- the numbers of the meet with a new table -/
def TabG (g G : Gs) (n : Int) (o : Int → Int) : Prop := (G 0 = 2 ∧ G 3 = g 3 + szO n - 1 ∧ G 4 = szO n ∧ G 5 = g 3 ∧ G 8 = n) ∧ (∀ k, k ≠ 8 → k ≠ 4 → k ≠ 5 → k ≠ 0 → k ≠ 3 → k < 222 → G k = g k) ∧ (∀ b w, 0 ≤ b → b < g 3 → 0 ≤ w → w < 10 → ga G b w = ga g b w) ∧ (∀ i w, 0 ≤ i → i < szO n - 1 → 0 ≤ w → w < 10 → ga G (g 3 + i) w = nbt o n i w) ∧ (∀ i, 0 ≤ i → i < n → G (222 + i) = o i)
theorem tabG_of (hn : 2 ≤ n ∧ n ≤ 24) (hB : 0 ≤ g 3) : TabG g (gTab g (g 3) n o) n o := by
  obtain ⟨f1, f2, f3, f4, f5⟩ := szO_f hn
  obtain ⟨t8, t4, t5, t0, t3, t222, to⟩ := gTf_f (g := g) (B := g 3) (n := n) (o := o) hB
  have lo : ∀ k, k < 250 + 10 * g 3 → k ≠ 3 → gTab g (g 3) n o k = gTf g (g 3) n o k := fun k q1 q2 => gTab_lo hn q1 q2
  refine ⟨⟨?_, gTab_3 hn hB, ?_, ?_, ?_⟩, fun k q1 q2 q3 q4 q5 q6 => ?_, fun b w q0 q1 q2 q3 => ?_, fun i w q0 q1 q2 q3 => gTab_at hn hB q0 q1 q2 q3, fun i q0 q1 => ?_⟩
  · rw [lo 0 (by omega) (by decide)]; exact t0
  · rw [lo 4 (by omega) (by decide)]; exact t4
  · rw [lo 5 (by omega) (by decide)]; exact t5
  · rw [lo 8 (by omega) (by decide)]; exact t8
  · rw [lo k (by omega) q5]
    exact to k q1 q2 q3 q4 (by omega)
  · show gTab g (g 3) n o (250 + 10 * b + w) = g (250 + 10 * b + w)
    rw [lo _ (by omega) (by omega)]
    exact to _ (by omega) (by omega) (by omega) (by omega) (by omega)
  · rw [lo _ (by omega) (by omega)]; exact t222 i q0 q1
section TabGs
variable {G : Gs}
theorem tabG_IB (hT : TabG g G n o) (hi : I1 g) (iB : ∀ b, 0 ≤ b → b < g 3 → IB g b) (h0 : g 0 = 1) (h6 : g 6 < 0) (hn : 2 ≤ n ∧ n ≤ 24) (ho : ∀ i, 0 ≤ i → i < n → 0 ≤ o i ∧ o i < g 1) (b : Int) (q0 : 0 ≤ b) (q1 : b < G 3) : IB G b := by
  obtain ⟨⟨e0, e3, e4, e5, e8⟩, ek, ea, en, es⟩ := hT
  have b1 : g 4 = 0 ∧ (0 ≤ g 3 ∧ g 3 ≤ 276) ∧ -1 ≤ g 6 := by unfold I1 at hi; omega
  clear hi
  have p0 : pB g = g 3 := by unfold pB; rw [if_pos b1.1]
  have sz := (szO_f hn).2.1
  have p1 : pB G = g 3 := by unfold pB; rw [e4, if_neg (by omega), e5]
  by_cases q : b < g 3
  · have hb := iB b q0 q
    have ht : tgB G b = tgB g b := by unfold tgB; rw [p1, p0]
    unfold IB at hb ⊢
    rw [ea b 0 q0 q (by decide) (by decide), ea b 1 q0 q (by decide) (by decide), ea b 2 q0 q (by decide) (by decide), ea b 3 q0 q (by decide) (by decide), ea b 4 q0 q (by decide) (by decide), ea b 5 q0 q (by decide) (by decide), ea b 6 q0 q (by decide) (by decide), ea b 7 q0 q (by decide) (by decide), ea b 8 q0 q (by decide) (by decide), ea b 9 q0 q (by decide) (by decide), ek 1 (by decide) (by decide) (by decide) (by decide) (by decide) (by decide), ek 2 (by decide) (by decide) (by decide) (by decide) (by decide) (by decide), ek 6 (by decide) (by decide) (by decide) (by decide) (by decide) (by decide), ht, p1]
    rw [p0] at hb
    obtain ⟨u1, u2, u3, u4, u5, u6, u7, u8, u9, u10, u11, u12, u13, u14, u15, u16⟩ := hb
    exact ⟨u1, u2, u3, u4, u5, u6, u7, u8, u9, u10, u11, u12, u13, u14, fun z => absurd q (Int.not_lt.mpr z), u16⟩
  · obtain ⟨i, hi⟩ : ∃ i, b = g 3 + i := ⟨b - g 3, by omega⟩
    subst hi
    rw [e3] at q1
    have j0 : 0 ≤ i := by omega
    have j1 : i < szO n - 1 := by omega
    obtain ⟨n0, n1, n2, n3, n6, n7, n8, n9, n45, nL⟩ := nbt_f (b := g 1) hn ho j0 j1
    have k6 : g 6 = g 3 + i → False := fun z => by omega
    have k3 : ¬ g 3 + i < g 3 := by omega
    have k4 : g 3 ≤ g 3 + i := by omega
    unfold IB
    rw [en i 0 j0 j1 (by decide) (by decide), en i 1 j0 j1 (by decide) (by decide), en i 2 j0 j1 (by decide) (by decide), en i 3 j0 j1 (by decide) (by decide), en i 4 j0 j1 (by decide) (by decide), en i 5 j0 j1 (by decide) (by decide), en i 6 j0 j1 (by decide) (by decide), en i 7 j0 j1 (by decide) (by decide), en i 8 j0 j1 (by decide) (by decide), en i 9 j0 j1 (by decide) (by decide), ek 1 (by decide) (by decide) (by decide) (by decide) (by decide) (by decide), ek 6 (by decide) (by decide) (by decide) (by decide) (by decide) (by decide), p1, e4, e5, n2, n3, n6, n7, n8, n9, show g 3 + i - g 3 = i by omega]
    clear ea en ek es iB ho sz
    rcases n45 with ⟨s4, s5⟩ | ⟨s4, s5, s6, s7, s8⟩
    · rw [s4, s5]
      exact ⟨by decide, n0, n1, by decide, by decide, by decide, by decide, fun z => absurd z (by decide), fun z => absurd z k6, fun _ => ⟨rfl, rfl, rfl, rfl, rfl⟩, fun _ => rfl, fun z => absurd z (by decide), fun z => absurd z (by decide), fun z => absurd z k3, fun _ => rfl, fun z => absurd z (by decide)⟩
    · rw [s4, s5]
      exact ⟨by decide, n0, n1, by decide, by decide, by decide, by decide, fun z => absurd z (by decide), fun z => absurd z k6, fun z => absurd z (by decide), fun z => absurd z (by decide), fun z => absurd z (by decide), fun _ => ⟨rfl, (nL s6).2.2, s7, k4⟩, fun z => absurd z k3, fun _ => rfl, fun z => absurd z (by decide)⟩
theorem tabG_IT (hT : TabG g G n o) (hn : 2 ≤ n ∧ n ≤ 24) (ho : ∀ i, 0 ≤ i → i < n → 0 ≤ o i ∧ o i < g 1) : IT G := by
  obtain ⟨⟨e0, e3, e4, e5, e8⟩, -, -, en, -⟩ := hT
  have sz := (szO_f hn).2.1
  intro _
  rw [e0, e3, e4, e5]
  refine ⟨fun t s q1 q2 q3 => ?_, ⟨fun z => absurd z (by decide), fun z => ?_⟩, fun t q1 q2 q3 => ?_⟩
  · have j0 : 0 ≤ 2 * t - szO n + s := by omega
    have j1 : 2 * t - szO n + s < szO n - 1 := by omega
    have jt : 0 ≤ t := by omega
    rw [en t s jt q2 (by omega) (by omega), en _ 4 j0 j1 (by decide) (by decide), en _ 5 j0 j1 (by decide) (by decide)]
    obtain ⟨n0, n1, n2, n3, n6, n7, n8, n9, n45, nL⟩ := nbt_f (b := g 1) hn ho j0 j1
    have hR2 : tR o n t = -1 := by unfold tR; rw [if_neg (by omega)]
    have hL2 : tL o n t = -1 := by unfold tL; rw [if_neg (by omega)]
    have hv : nbt o n t s = if 2 * t - szO n + s < szO n / 2 ∧ tR o n (2 * t - szO n + s) = -1 then tL o n (2 * t - szO n + s) else -1 := by
      have ee : 2 * (t - szO n / 2) + s = 2 * t - szO n + s := by omega
      unfold nbt
      rw [if_neg (by omega), if_neg (by omega), ee]
      by_cases q : 2 * t - szO n + s < szO n / 2 ∧ tR o n (2 * t - szO n + s) = -1
      · rw [if_pos (show szO n / 2 ≤ t ∧ s < 2 ∧ 2 * t - szO n + s < szO n / 2 ∧ tR o n (2 * t - szO n + s) = -1 from ⟨by omega, by omega, q.1, q.2⟩), if_pos q]
      · rw [if_neg (fun x => q ⟨x.2.2.1, x.2.2.2⟩), if_neg q]
        rcases q3 with rfl | rfl
        · rw [if_pos rfl]; exact hL2
        · rw [if_neg (by decide), if_pos rfl]; exact hR2
    rw [hv]
    rcases n45 with ⟨s4, s5⟩ | ⟨s4, s5, s6, s7, s8⟩
    · rw [s4, if_neg (show ¬ ((0 : Int) = 2 ∨ (0 : Int) = 4) by decide), if_neg]
      intro z
      have n4 : nbt o n (2 * t - szO n + s) 4 = 4 := by
        unfold nbt
        exact if_pos ⟨z.1, rfl, z.2⟩
      rw [s4] at n4
      exact absurd n4 (by decide)
    · rw [s4, s5, if_pos (show (4 : Int) = 2 ∨ (4 : Int) = 4 by decide), if_pos ⟨s6, s8⟩, en _ 0 j0 j1 (by decide) (by decide)]
      exact (nL s6).1.symm
  · have j1 : szO n - 2 < szO n - 1 := by omega
    have j0 : 0 ≤ szO n - 2 := by omega
    rw [show g 3 + szO n - 1 - 1 = g 3 + (szO n - 2) by omega, en (szO n - 2) 4 j0 j1 (by decide) (by decide)] at z
    have n45 := (nbt_f (b := g 1) hn ho j0 j1).2.2.2.2.2.2.2.2.1
    omega
  · rw [en t 4 q1 q2 (by decide) (by decide)] at q3
    have n45 := (nbt_f (b := g 1) hn ho q1 q2).2.2.2.2.2.2.2.2.1
    omega
theorem tabG_ls (hT : TabG g G n o) (hn : 2 ≤ n ∧ n ≤ 24) (ho : ∀ i, 0 ≤ i → i < n → 0 ≤ o i ∧ o i < g 1) (f b : Int) : ¬ lstB G f b := by
  obtain ⟨⟨e0, e3, e4, e5, e8⟩, -, -, en, -⟩ := hT
  rintro ⟨q1, q2, q3, -⟩
  rw [e5] at q1
  rw [e3] at q2
  obtain ⟨i, hi⟩ : ∃ i, b = g 3 + i := ⟨b - g 3, by omega⟩
  subst hi
  have j0 : 0 ≤ i := by omega
  have j1 : i < szO n - 1 := by omega
  rw [en i 4 j0 j1 (by decide) (by decide)] at q3
  have n45 := (nbt_f (b := g 1) hn ho j0 j1).2.2.2.2.2.2.2.2.1
  omega
theorem tabG_IV (hT : TabG g G n o) (hi : IV g) (h0 : g 0 = 1) (h6 : g 6 < 0) (hn : 2 ≤ n ∧ n ≤ 24) (ho : ∀ i, 0 ≤ i → i < n → 0 ≤ o i ∧ o i < g 1) : IV G := by
  have hB := tabG_IB hT hi.1 hi.2.1 h0 h6 hn ho
  have hIT := tabG_IT hT hn ho
  obtain ⟨⟨e0, e3, e4, e5, e8⟩, ek, ea, en, es⟩ := hT
  obtain ⟨i1, iB, iF, iR, iT⟩ := hi
  obtain ⟨f1, f2, f3, f4, f5⟩ := szO_f hn
  have b1 : (0 ≤ g 1 ∧ g 1 ≤ 24) ∧ g 4 = 0 ∧ (0 ≤ g 3 ∧ g 3 ≤ 276) ∧ (0 ≤ g 2 ∧ g 2 ≤ 6) ∧ (0 ≤ g 7 ∧ g 7 ≤ 2147483647) ∧ -1 ≤ g 6 := by unfold I1 at i1; omega
  clear i1
  have e1 := ek 1 (by decide) (by decide) (by decide) (by decide) (by decide) (by decide)
  have e2 := ek 2 (by decide) (by decide) (by decide) (by decide) (by decide) (by decide)
  refine ⟨?_, hB, IF_cg iF e1 b1.1.2 e2 (by rw [e0]; omega) (fun k k0 k1 => ek k (by omega) (by omega) (by omega) (by omega) (by omega) k1), IRl_cg iR (fun k k0 k1 => ek k (by omega) (by omega) (by omega) (by omega) (by omega) (by omega)), hIT⟩
  unfold I1
  rw [e0, e3, e4, e5, e8, e1, e2, ek 6 (by decide) (by decide) (by decide) (by decide) (by decide) (by decide), ek 7 (by decide) (by decide) (by decide) (by decide) (by decide) (by decide)]
  exact ⟨by decide, b1.1, b1.2.2.2.1, by omega, by omega, b1.2.2.2.2.1, by omega, fun z => absurd z (by decide), Or.inr ⟨f2, by decide, b1.2.2.1, rfl, hn.1, f4, f5⟩⟩
end TabGs
theorem KP_tab (hk : KP N c g) (h0 : g 0 = 1) (h6 : g 6 < 0) (hn : 2 ≤ n ∧ n ≤ 24) (ho : ∀ i, 0 ≤ i → i < n → 0 ≤ o i ∧ o i < g 1) (hinj : ∀ i j, 0 ≤ i → i < n → 0 ≤ j → j < n → o i = o j → i = j) : KP N (cTab c (g 3) n o) (gTab g (g 3) n o) := by
  obtain ⟨f1, f2, f3, f4, f5⟩ := szO_f hn
  have hTG := tabG_of (g := g) (o := o) hn (by have i1 := hk.1.1; unfold I1 at i1; omega)
  have hIV := tabG_IV hTG hk.1 h0 h6 hn ho
  have hls := tabG_ls hTG hn ho
  obtain ⟨⟨i1, iB, iF, iR, iT⟩, ⟨r1, r2, r3, r4, r5, r6, r7⟩, ⟨x1, x2, x3, x4, x5, x6⟩⟩ := hk
  have b1 : (0 ≤ g 1 ∧ g 1 ≤ 24) ∧ g 4 = 0 ∧ (0 ≤ g 3 ∧ g 3 ≤ 276) ∧ (0 ≤ g 2 ∧ g 2 ≤ 6) ∧ (0 ≤ g 7 ∧ g 7 ≤ 2147483647) ∧ -1 ≤ g 6 := by unfold I1 at i1; omega
  have hB : 0 ≤ g 3 := b1.2.2.1.1
  clear i1 iR iT
  obtain ⟨⟨e0, e3, e4, e5, e8⟩, ek, ea, en, es⟩ := hTG
  have ef : ∀ f w, 0 ≤ f → f < 24 → 0 ≤ w → w < 8 → gf (gTab g (g 3) n o) f w = gf g f w := fun f w q0 q1 q2 q3 => ek _ (by omega) (by omega) (by omega) (by omega) (by omega) (by omega)
  have p0 : pB g = g 3 := by unfold pB; rw [if_pos b1.2.1]
  have p1 : pB (gTab g (g 3) n o) = g 3 := by unfold pB; rw [e4, if_neg (by omega), e5]
  have cl : ∀ C k, ¬ (C = 2 ∧ k = 0) → ¬ (C = 0 ∧ k = 0) → C ≠ 9 → C ≠ 25 → C ≠ 26 → ((C < 19 ∨ 24 < C) ∨ k < g 3 ∨ ((C = 19 ∨ C = 20) ∧ k < 2 * g 3)) → cTab c (g 3) n o C k = c C k := fun C k q1 q2 q3 q4 q5 q6 => cTab_lo hn hB q1 q2 q3 q4 q5 q6
  obtain ⟨c20, c00, c90, c91, c25, c26⟩ := cTab_f (c := c) (n := n) (B := g 3) (o := o) hn hB
  have ca := fun i (q0 : 0 ≤ i) (q1 : i < szO n - 1) => cTab_at (c := c) (n := n) (B := g 3) (o := o) (i := i) hn hB q0 q1
  generalize gTab g (g 3) n o = G at *
  generalize cTab c (g 3) n o = D at *
  refine ⟨hIV, ⟨?_, R2_cg r2 (ek 1 (by decide) (by decide) (by decide) (by decide) (by decide) (by decide)) b1.1.2 (fun k k0 k1 => ek k (by omega) (by omega) (by omega) (by omega) (by omega) k1) (fun C k q1 q2 => cl C k (by omega) (by omega) (by omega) (by omega) (by omega) (by omega)), fun b q0 q1 => ?_, R4_cg r4 (fun _ => by omega) (ek 1 (by decide) (by decide) (by decide) (by decide) (by decide) (by decide)) (ek 2 (by decide) (by decide) (by decide) (by decide) (by decide) (by decide)) b1.1.2 (fun q f f0 f1 => (iF f f0 f1).2.2.2.2 q) (fun k k0 k1 => ek k (by omega) (by omega) (by omega) (by omega) (by omega) k1) (fun C k q1 q2 => cl C k (by omega) (by omega) (by omega) (by omega) (by omega) (by omega)), ⟨fun i q0 q1 => ?_, fun q f q0 q1 => ?_⟩, fun q => ?_, R7_cg r7 (fun k k0 k1 => ek k (by omega) (by omega) (by omega) (by omega) (by omega) (by omega)) (fun C k q => cl C k (by omega) (by omega) (by omega) (by omega) (by omega) (by omega))⟩, ⟨fun i q0 q1 => ?_, fun i j q0 q1 q2 => ?_, fun _ p q0 q1 => ?_, fun x y q0 q1 q2 q3 q4 q5 q6 => ?_, ?_, fun b q0 q1 => ?_⟩⟩
  · unfold R1 at r1 ⊢
    rw [c20, c00, c90, c91, e0, e3, e4, e8, p1, cl 2 1 (by omega) (by omega) (by omega) (by omega) (by omega) (by omega), cl 2 2 (by omega) (by omega) (by omega) (by omega) (by omega) (by omega), cl 6 0 (by omega) (by omega) (by omega) (by omega) (by omega) (by omega), cl 3 0 (by omega) (by omega) (by omega) (by omega) (by omega) (by omega), cl 0 1 (by omega) (by omega) (by omega) (by omega) (by omega) (by omega), ek 1 (by decide) (by decide) (by decide) (by decide) (by decide) (by decide), ek 2 (by decide) (by decide) (by decide) (by decide) (by decide) (by decide), ek 6 (by decide) (by decide) (by decide) (by decide) (by decide) (by decide), ek 7 (by decide) (by decide) (by decide) (by decide) (by decide) (by decide)]
    rw [p0] at r1
    exact ⟨rfl, r1.2.1, r1.2.2.1, r1.2.2.2.1, r1.2.2.2.2.1, rfl, r1.2.2.2.2.2.2.1, rfl, rfl⟩
  · by_cases q : b < g 3
    · have h3 := r3 b q0 q
      have hb := iB b q0 q
      have w5 : -1 ≤ ga g b 5 ∧ ga g b 5 ≤ 1 := by unfold IB at hb; exact hb.2.2.2.1
      clear hb
      unfold R3b at h3 ⊢
      rw [ea b 0 q0 q (by decide) (by decide), ea b 1 q0 q (by decide) (by decide), ea b 2 q0 q (by decide) (by decide), ea b 3 q0 q (by decide) (by decide), ea b 4 q0 q (by decide) (by decide), ea b 5 q0 q (by decide) (by decide), ea b 6 q0 q (by decide) (by decide), ea b 7 q0 q (by decide) (by decide), cl 19 _ (by omega) (by omega) (by omega) (by omega) (by omega) (by omega), cl 19 _ (by omega) (by omega) (by omega) (by omega) (by omega) (by omega), cl 20 _ (by omega) (by omega) (by omega) (by omega) (by omega) (by omega), cl 20 _ (by omega) (by omega) (by omega) (by omega) (by omega) (by omega), cl 21 _ (by omega) (by omega) (by omega) (by omega) (by omega) (by omega), cl 22 _ (by omega) (by omega) (by omega) (by omega) (by omega) (by omega), cl 23 _ (by omega) (by omega) (by omega) (by omega) (by omega) (by omega), cl 24 _ (by omega) (by omega) (by omega) (by omega) (by omega) (by omega)]
      refine ⟨h3.1, h3.2.1, h3.2.2.1, h3.2.2.2.1, h3.2.2.2.2.1, ?_, h3.2.2.2.2.2.2⟩
      rw [h3.2.2.2.2.2.1]
      by_cases z : ga g b 5 < 0
      · rw [if_pos z, if_pos z]
      · rw [if_neg z, if_neg z, ea b _ q0 q (by omega) (by omega)]
    · obtain ⟨i, hi⟩ : ∃ i, b = g 3 + i := ⟨b - g 3, by omega⟩
      subst hi
      rw [e3] at q1
      have j0 : 0 ≤ i := by omega
      have j1 : i < szO n - 1 := by omega
      obtain ⟨n0, n1, n2, n3, n6, n7, n8, n9, n45, nL⟩ := nbt_f (b := g 1) hn ho j0 j1
      obtain ⟨u1, u2, u3, u4, u5, u6, u7, u8⟩ := ca i j0 j1
      unfold R3b
      rw [en i 0 j0 j1 (by decide) (by decide), en i 1 j0 j1 (by decide) (by decide), en i 2 j0 j1 (by decide) (by decide), en i 3 j0 j1 (by decide) (by decide), en i 4 j0 j1 (by decide) (by decide), en i 5 j0 j1 (by decide) (by decide), en i 6 j0 j1 (by decide) (by decide), en i 7 j0 j1 (by decide) (by decide), u1, u2, u3, u4, u5, u6, u7, u8, n2, n3, n6]
      refine ⟨rfl, rfl, rfl, rfl, rfl, ?_, ?_, rfl⟩
      · rcases n45 with ⟨s4, s5⟩ | ⟨s4, s5, s6, s7, s8⟩
        · rw [s5, if_pos (by decide), if_pos (by decide)]
        · rw [s5, if_neg (by decide), if_neg (by decide), en i 0 j0 j1 (by decide) (by decide)]
          exact (nL s6).1.symm
      · rw [n7]; rfl
  · rw [e8] at q1
    rw [c25 i q0 q1, es i q0 q1]
  · exact Or.inl ⟨c26 f q0 q1, fun b => hls f b⟩
  · rw [ek 6 (by decide) (by decide) (by decide) (by decide) (by decide) (by decide)] at q
    omega
  · rw [e8] at q1
    rw [es i q0 q1, ek 1 (by decide) (by decide) (by decide) (by decide) (by decide) (by decide)]
    exact ho i q0 q1
  · rw [e8] at q2
    rw [es i q0 (by omega), es j (by omega) q2]
    intro z
    have := hinj i j q0 (by omega) (by omega) q2 z
    omega
  · rw [e4] at q1
    have hl : lg2 (szO n) = lgO n := by
      unfold lg2 szO lgO
      by_cases z1 : n ≤ 2
      · rw [if_pos z1, if_pos z1]; rfl
      · rw [if_neg z1, if_neg z1]
        by_cases z2 : n ≤ 4
        · rw [if_pos z2, if_pos z2]; rfl
        · rw [if_neg z2, if_neg z2]
          by_cases z3 : n ≤ 8
          · rw [if_pos z3, if_pos z3]; rfl
          · rw [if_neg z3, if_neg z3]
            by_cases z4 : n ≤ 16
            · rw [if_pos z4, if_pos z4]; rfl
            · rw [if_neg z4, if_neg z4]; rfl
    have sb := sdN_b (lgO n) p
    have j0 : 0 ≤ p / 2 := by omega
    have j1 : p / 2 < szO n - 1 := by omega
    obtain ⟨n0, n1, n2, n3, n6, n7, n8, n9, n45, nL⟩ := nbt_f (b := g 1) hn ho j0 j1
    have nl := nL (by omega)
    rw [e4, e5, e8, hl, en (p / 2) (p % 2) j0 j1 (by omega) (by omega)]
    have hv : nbt o n (p / 2) (p % 2) = seat o n (sdN (lgO n) p) := by
      have h2 : p % 2 = 0 ∨ p % 2 = 1 := by omega
      rcases h2 with q | q
      · rw [q, nl.1]
        unfold tL
        rw [if_pos (by omega), show 2 * (p / 2) = p by omega]
      · rw [q, nl.2.1]
        unfold tR
        rw [if_pos (by omega), show 2 * (p / 2) + 1 = p by omega]
    rw [hv]
    unfold seat
    rw [if_neg (by omega)]
    by_cases q : sdN (lgO n) p ≤ n
    · rw [if_pos q, if_neg (by omega), show 221 + sdN (lgO n) p = 222 + (sdN (lgO n) p - 1) by omega, es _ (by omega) (by omega)]
    · rw [if_neg q, if_pos (by omega)]
  · rw [ek 1 (by decide) (by decide) (by decide) (by decide) (by decide) (by decide)] at q1 q3
    rw [ef x 6 q0 (by omega) (by decide) (by decide)] at q5 q6
    rw [ef y 6 q2 (by omega) (by decide) (by decide)] at q6
    obtain ⟨b, b0, b2, hb⟩ := x4 x y q0 q1 q2 q3 q4 q5 q6
    rw [p0] at b2
    refine ⟨b, b0, by rw [p1]; exact b2, ?_⟩
    rw [ea b 0 b0 b2 (by decide) (by decide), ea b 1 b0 b2 (by decide) (by decide)]
    exact hb
  · rw [p1, ek 1 (by decide) (by decide) (by decide) (by decide) (by decide) (by decide)]
    rw [p0] at x5
    refine (sumTo_congr fun b q0 q1 => ?_).trans (x5.trans (sumTo_congr fun x q0 q1 => sumTo_congr fun y q2 q3 => ?_))
    · have ib := iB b q0 q1
      have lb : (0 ≤ ga g b 0 ∧ ga g b 0 < g 1) ∧ (0 ≤ ga g b 1 ∧ ga g b 1 < g 1) := by
        unfold IB at ib
        have u14 := ib.2.2.2.2.2.2.2.2.2.2.2.2.2.1 (by rw [p0]; exact q1)
        have u2 := ib.2.1.2
        have u3 := ib.2.2.1.2
        clear ib
        omega
      rw [ea b 0 q0 q1 (by decide) (by decide), ea b 1 q0 q1 (by decide) (by decide), ef _ 0 lb.1.1 (by omega) (by decide) (by decide), ef _ 0 lb.2.1 (by omega) (by decide) (by decide)]
    · rw [ef x 6 q0 (by omega) (by decide) (by decide), ef y 6 q2 (by omega) (by decide) (by decide), ef x 0 q0 (by omega) (by decide) (by decide), ef y 0 q2 (by omega) (by decide) (by decide)]
  · rw [p1] at q1
    have ib := iB b q0 q1
    have lb : (0 ≤ ga g b 0 ∧ ga g b 0 < g 1) ∧ (0 ≤ ga g b 1 ∧ ga g b 1 < g 1) := by
      unfold IB at ib
      have u14 := ib.2.2.2.2.2.2.2.2.2.2.2.2.2.1 (by rw [p0]; exact q1)
      have u2 := ib.2.1.2
      have u3 := ib.2.2.1.2
      clear ib
      omega
    rw [ea b 0 q0 q1 (by decide) (by decide), ea b 1 q0 q1 (by decide) (by decide), ef _ 6 lb.1.1 (by omega) (by decide) (by decide), ef _ 6 lb.2.1 (by omega) (by decide) (by decide)]
    exact x6 b q0 (by rw [p0]; exact q1)
end DTc
