/-! The law's loop. -/
section Lp
variable {N i : Int} {c s : Nat} {σ : Mem} {Q : Out → Mem → Prop}
set_option maxRecDepth 100000 in
theorem lw_inc (hi : 0 ≤ i ∧ i < 1000000) (h : wp true 278 16 (LL (i + 5) none none none) [] σ c s Q) : wp true 278 1294 (LL i none none none) [] σ c s Q := by
  refine wp_seg 1 (P := none) (ls' := LL (wr (i + 5)) none none none) (st' := []) (σ' := σ) rq_278 rfl True.intro (i' := 1295) rfl ?_
  refine wp_goto rq_278 rfl ?_
  rw [wr_eq (by omega) (by omega)]
  exact h
theorem swT_big {lo : Int} {ts : List Nat} {d : Nat} {v : Int} (h : v < lo ∨ lo + ts.length ≤ v) : swT lo (d :: ts) v = d := by
  show (if lo ≤ v then ts.getD (v - lo).toNat d else d) = d
  by_cases q : lo ≤ v
  · rw [if_pos q, List.getD_eq_getElem?_getD, List.getElem?_eq_none (by omega)]
    rfl
  · rw [if_neg q]

set_option maxRecDepth 100000 in
theorem lw_step (hJ : J N σ σ) (hN : 0 ≤ N ∧ N < 2147483647) (hi : 0 ≤ i) (hL : i + 5 ≤ σ 17 0 (-1)) (hM : σ 17 0 (-1) < 2147483648) (hc : c + 5 ≤ 603072) (hs : s + 30 ≤ 7198826) (nx : Nxt i c s N σ Q) : wp true 278 22 (LL i none none none) [] σ c s Q := by
  refine wp_seg 5 (P := some (0 ≤ i ∧ i < alen σ 17 0)) (ls' := LL i none none none) (st' := [aI (iandI (σ 17 0 i) 63)]) (σ' := σ) rq_278 rfl ?_ (i' := 27) rfl ?_
  · show 0 ≤ i ∧ i < σ 17 0 (-1)
    omega
  generalize iandI (σ 17 0 i) 63 = v
  have dflt : swT 0 [1294, 28, 73, 108, 143, 188, 223, 258, 303, 310, 355, 380, 425, 460, 495, 520, 565, 630, 655, 700, 746, 781, 816, 861, 886, 921, 966, 1001, 1036, 1081, 1126, 1161, 1196, 1220, 1245, 1252, 1277, 1282] v = 1294 → wp true 278 27 (LL i none none none) [aI v] σ c s Q := fun e => wp_switch rq_278 rfl e (nx _ N _ _ hJ (by omega) (by omega) rfl (by omega) (by omega))
  by_cases h0 : v < 0 ∨ 37 ≤ v
  · exact dflt (swT_big (by show v < 0 ∨ 0 + 37 ≤ v; omega))
  by_cases h1 : v = 0
  · subst h1
    exact wp_switch rq_278 rfl (t := 28) (by decide) (ls_addFencer hJ hN hi hL hM hc hs nx)
  by_cases h2 : v = 1
  · subst h2
    exact wp_switch rq_278 rfl (t := 73) (by decide) (ls_drawPools hJ hN hi hL hM hc hs nx)
  by_cases h3 : v = 2
  · subst h3
    exact wp_switch rq_278 rfl (t := 108) (by decide) (ls_setSeed hJ hN hi hL hM hc hs nx)
  by_cases h4 : v = 3
  · subst h4
    exact wp_switch rq_278 rfl (t := 143) (by decide) (ls_fencer hJ hN hi hL hM hc hs nx)
  by_cases h5 : v = 4
  · subst h5
    exact wp_switch rq_278 rfl (t := 188) (by decide) (ls_meet hJ hN hi hL hM hc hs nx)
  by_cases h6 : v = 5
  · subst h6
    exact wp_switch rq_278 rfl (t := 223) (by decide) (ls_members hJ hN hi hL hM hc hs nx)
  by_cases h7 : v = 6
  · subst h7
    exact wp_switch rq_278 rfl (t := 258) (by decide) (ls_member hJ hN hi hL hM hc hs nx)
  by_cases h8 : v = 7
  · subst h8
    exact wp_switch rq_278 rfl (t := 303) (by decide) (ls_clubPairs hJ hN hi hL hM hc hs nx)
  by_cases h9 : v = 8
  · subst h9
    exact wp_switch rq_278 rfl (t := 310) (by decide) (ls_bout hJ hN hi hL hM hc hs nx)
  by_cases h10 : v = 9
  · subst h10
    exact wp_switch rq_278 rfl (t := 355) (by decide) (ls_current hJ hN hi hL hM hc hs nx)
  by_cases h11 : v = 10
  · subst h11
    exact wp_switch rq_278 rfl (t := 380) (by decide) (ls_poolBout hJ hN hi hL hM hc hs nx)
  by_cases h12 : v = 11
  · subst h12
    exact wp_switch rq_278 rfl (t := 425) (by decide) (ls_begin hJ hN hi hL hM hc hs nx)
  by_cases h13 : v = 12
  · subst h13
    exact wp_switch rq_278 rfl (t := 460) (by decide) (ls_touch hJ hN hi hL hM hc hs nx)
  by_cases h14 : v = 13
  · subst h14
    exact wp_switch rq_278 rfl (t := 495) (by decide) (ls_time hJ hN hi hL hM hc hs nx)
  by_cases h15 : v = 14
  · subst h15
    exact wp_switch rq_278 rfl (t := 520) (by decide) (ls_card hJ hN hi hL hM hc hs nx)
  by_cases h16 : v = 15
  · subst h16
    exact wp_switch rq_278 rfl (t := 565) (by decide) (ls_enter hJ hN hi hL hM hc hs nx)
  by_cases h17 : v = 16
  · subst h17
    exact wp_switch rq_278 rfl (t := 630) (by decide) (ls_refusal hJ hN hi hL hM hc hs nx)
  by_cases h18 : v = 17
  · subst h18
    exact wp_switch rq_278 rfl (t := 655) (by decide) (ls_result hJ hN hi hL hM hc hs nx)
  by_cases h19 : v = 18
  · subst h19
    exact wp_switch rq_278 rfl (t := 700) (by decide) (ls_ratio hJ hN hi hL hM hc hs nx)
  by_cases h20 : v = 19
  · subst h20
    exact wp_switch rq_278 rfl (t := 746) (by decide) (ls_ranked hJ hN hi hL hM hc hs nx)
  by_cases h21 : v = 20
  · subst h21
    exact wp_switch rq_278 rfl (t := 781) (by decide) (ls_place hJ hN hi hL hM hc hs nx)
  by_cases h22 : v = 21
  · subst h22
    exact wp_switch rq_278 rfl (t := 816) (by decide) (ls_why hJ hN hi hL hM hc hs nx)
  by_cases h23 : v = 22
  · subst h23
    exact wp_switch rq_278 rfl (t := 861) (by decide) (ls_drawTable hJ hN hi hL hM hc hs nx)
  by_cases h24 : v = 23
  · subst h24
    exact wp_switch rq_278 rfl (t := 886) (by decide) (ls_seeded hJ hN hi hL hM hc hs nx)
  by_cases h25 : v = 24
  · subst h25
    exact wp_switch rq_278 rfl (t := 921) (by decide) (ls_tableBout hJ hN hi hL hM hc hs nx)
  by_cases h26 : v = 25
  · subst h26
    exact wp_switch rq_278 rfl (t := 966) (by decide) (ls_finalist hJ hN hi hL hM hc hs nx)
  by_cases h27 : v = 26
  · subst h27
    exact wp_switch rq_278 rfl (t := 1001) (by decide) (ls_toGo hJ hN hi hL hM hc hs nx)
  by_cases h28 : v = 27
  · subst h28
    exact wp_switch rq_278 rfl (t := 1036) (by decide) (ls_beginRelay hJ hN hi hL hM hc hs nx)
  by_cases h29 : v = 28
  · subst h29
    exact wp_switch rq_278 rfl (t := 1081) (by decide) (ls_leg hJ hN hi hL hM hc hs nx)
  by_cases h30 : v = 29
  · subst h30
    exact wp_switch rq_278 rfl (t := 1126) (by decide) (ls_relay hJ hN hi hL hM hc hs nx)
  by_cases h31 : v = 30
  · subst h31
    exact wp_switch rq_278 rfl (t := 1161) (by decide) (ls_account hJ hN hi hL hM hc hs nx)
  by_cases h32 : v = 31
  · subst h32
    exact wp_switch rq_278 rfl (t := 1196) (by decide) (ls_append hJ hN hi hL hM hc hs nx)
  by_cases h33 : v = 32
  · subst h33
    exact wp_switch rq_278 rfl (t := 1220) (by decide) (ls_readResults hJ hN hi hL hM hc hs nx)
  by_cases h34 : v = 33
  · subst h34
    exact wp_switch rq_278 rfl (t := 1245) (by decide) (ls_faultPosition hJ hN hi hL hM hc hs nx)
  by_cases h35 : v = 34
  · subst h35
    exact wp_switch rq_278 rfl (t := 1252) (by decide) (ls_undo hJ hN hi hL hM hc hs nx)
  by_cases h36 : v = 35
  · subst h36
    exact wp_switch rq_278 rfl (t := 1277) (by decide) (ls_save hJ hN hi hL hM hc hs nx)
  by_cases h37 : v = 36
  · subst h37
    exact wp_switch rq_278 rfl (t := 1282) (by decide) (ls_restore hJ hN hi hL hM hc hs nx)
  omega
set_option maxRecDepth 100000 in
theorem lw_loop : ∀ (n : Nat) {N i : Int} {c s : Nat} {σ : Mem}, J N σ σ → 0 ≤ N → N + n < 1000000 → 0 ≤ i → i ≤ σ 17 0 (-1) + 4 → 0 ≤ σ 17 0 (-1) → σ 17 0 (-1) ≤ 2560 → σ 17 0 (-1) - i < 5 * n + 5 → c + 5 * n ≤ 603072 → s + 30 * n ≤ 7198826 → wp true 278 16 (LL i none none none) [] σ c s (fun o _ => o = .inl (some (aI 1))) := by
  intro n
  induction n with
  | zero =>
    intro N i c s σ hJ hN hNn hi hi2 hL0 hL hn hc hs
    refine wp_seg 5 (P := none) (ls' := LL i none none none) (st' := [aI (wr (alen σ 17 0 - 5)), aI i]) (σ' := σ) rq_278 rfl True.intro (i' := 21) rfl ?_
    have e : wr (alen σ 17 0 - 5) = σ 17 0 (-1) - 5 := wr_eq (by show _ ≤ σ 17 0 (-1) - 5; omega) (by show σ 17 0 (-1) - 5 < _; omega)
    rw [e]
    refine wp_icmp rq_278 rfl (fun _ => ?_) (fun h => absurd (show σ 17 0 (-1) - 5 < i by omega) h)
    refine wp_seg 1 (P := none) (ls' := LL i none none none) (st' := [aI 1]) (σ' := σ) rq_278 rfl True.intro (i' := 1297) rfl ?_
    exact wp_zret rq_278 rfl rt_278 (Or.inr rfl) rfl
  | succ n ih =>
    intro N i c s σ hJ hN hNn hi hi2 hL0 hL hn hc hs
    refine wp_seg 5 (P := none) (ls' := LL i none none none) (st' := [aI (wr (alen σ 17 0 - 5)), aI i]) (σ' := σ) rq_278 rfl True.intro (i' := 21) rfl ?_
    have e : wr (alen σ 17 0 - 5) = σ 17 0 (-1) - 5 := wr_eq (by show _ ≤ σ 17 0 (-1) - 5; omega) (by show σ 17 0 (-1) - 5 < _; omega)
    rw [e]
    refine wp_icmp rq_278 rfl (fun _ => ?_) (fun h => ?_)
    · refine wp_seg 1 (P := none) (ls' := LL i none none none) (st' := [aI 1]) (σ' := σ) rq_278 rfl True.intro (i' := 1297) rfl ?_
      exact wp_zret rq_278 rfl rt_278 (Or.inr rfl) rfl
    · have h : ¬ σ 17 0 (-1) - 5 < i := h
      refine lw_step hJ (by omega) hi (by omega) (by omega) (by omega) (by omega) (fun τ N' c' s' hJ' h0 h1 h17 hc' hs' => ?_)
      have eL : τ 17 0 (-1) = σ 17 0 (-1) := by rw [h17]
      exact lw_inc (by omega) (ih hJ' h0 (by omega) (by omega) (by omega) (by omega) (by omega) (by omega) (by omega) (by omega))
end Lp
