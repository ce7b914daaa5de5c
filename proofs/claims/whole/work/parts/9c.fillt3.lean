/-! The table is filled: the class, all of it. -/
def tL (o : Int → Int) (n t : Int) : Int := if t < szO n / 2 then seat o n (sdN (lgO n) (2 * t)) else -1
def tR (o : Int → Int) (n t : Int) : Int := if t < szO n / 2 then seat o n (sdN (lgO n) (2 * t + 1)) else -1
def tH (n t : Int) : Int := 100 + rnd (szO n - t)
def cTab (c : Cs) (B n : Int) (o : Int → Int) : Cs := cset (cBye (cAdds (cTf c n o) B (szO n - 1) (tL o n) (tR o n) (tH n)) B (szO n) (szO n / 2) (tL o n) (tR o n)) 2 0 2
section FillV
variable {n p B z t j i r : Int} {K X S : Mem} {c : Cs} {o : Int → Int} {m : Nat}
theorem sdN_b (m : Nat) (p : Int) : 1 ≤ sdN m p ∧ sdN m p ≤ 2 ^ m := by
  induction m generalizing p with
  | zero => exact ⟨Int.le_refl 1, Int.le_refl 1⟩
  | succ m ih =>
    have h := ih (p / 2)
    have h2 : (2 : Int) ^ (m + 1) = 2 ^ m * 2 := Int.pow_succ 2 m
    unfold sdN
    split
    · omega
    · omega
theorem sdN_l (hn : 2 ≤ n ∧ n ≤ 24) (t : Int) : 1 ≤ sdN (lgO n) (2 * t) ∧ sdN (lgO n) (2 * t) ≤ n := by
  obtain ⟨f1, f2, f3, f4, f5⟩ := szO_f hn
  have e : ∃ k : Nat, lgO n = k + 1 := ⟨lgO n - 1, by omega⟩
  obtain ⟨k, hk⟩ := e
  have h2 : (2 : Int) ^ (k + 1) = 2 ^ k * 2 := Int.pow_succ 2 k
  rw [hk] at f1 ⊢
  have hb := sdN_b k t
  have es : sdN (k + 1) (2 * t) = sdN k t := by
    show (if 2 * t % 2 = 0 then sdN k (2 * t / 2) else _) = _
    rw [if_pos (by omega), show 2 * t / 2 = t by omega]
  rw [es]
  omega
theorem tL_at (hn : 2 ≤ n ∧ n ≤ 24) (t1 : t < szO n / 2) : tL o n t = o (sdN (lgO n) (2 * t) - 1) := by
  have s := sdN_l hn t
  unfold tL seat
  rw [if_pos t1, if_neg (by omega), if_neg (by omega)]
theorem tR_2 (hn : n = 2) : tR o n 0 = o 1 := by
  subst hn
  rfl
theorem ev_fillTable (hn : 2 ≤ n ∧ n ≤ 24) (hB : 0 ≤ B ∧ B ≤ 276) (h00 : c 0 0 = B) (h01 : c 0 1 = B) (ho : ∀ i, 0 ≤ i → i < n → 0 ≤ K 13 184 i) : Ev true 38 [aR 2 (0), aR 7 (184), aI (n)] (wcm K c) (.inl none) (wcm K (cTab c B n (K 13 184))) := by
  obtain ⟨f1, f2, f3, f4, f5⟩ := szO_f hn
  generalize hz : szO n = z at f1 f2 f4 f5
  have hrn : ∀ u, z / 2 < u → u ≤ z → rnd u = z := fun u u0 u1 => by
    unfold rnd
    repeat' split
    all_goals omega
  have k90 : cTf c n (K 13 184) 9 0 = z := by
    unfold cTf
    rw [if_neg (by omega), if_neg (by omega), if_pos ⟨rfl, rfl⟩]; exact hz
  have k91 : cTf c n (K 13 184) 9 1 = n := by
    unfold cTf
    rw [if_neg (by omega), if_neg (by omega), if_neg (by omega), if_pos ⟨rfl, rfl⟩]
  have k25 : ∀ k, 0 ≤ k → k < n → cTf c n (K 13 184) 25 k = K 13 184 k := fun k k0 k1 => by
    unfold cTf
    rw [if_neg (by omega), if_pos ⟨rfl, k0, k1⟩]
  have k00 : cTf c n (K 13 184) 0 0 = B := by
    unfold cTf
    rw [if_neg (by omega), if_neg (by omega), if_neg (by omega), if_neg (by omega)]; exact h00
  have k01 : cTf c n (K 13 184) 0 1 = B := by
    unfold cTf
    rw [if_neg (by omega), if_neg (by omega), if_neg (by omega), if_neg (by omega)]; exact h01
  generalize hcT : cTf c n (K 13 184) = cT at k90 k91 k25 k00 k01
  show wp true 38 0 [some (aR 2 (0)), some (aR 7 (184)), some (aI (n)), none, none] [] (wcm K c) 0 0 _
  refine wp_seg 4 (P := none) (ls' := [some (aR 2 (0)), some (aR 7 (184)), some (aI (n)), none, none]) (st' := [aI (n), aR 7 (184), aR 9 (0)]) (σ' := wcm K c) rq_38 rfl True.intro (i' := 4) rfl ?_
  refine wp_call (C := 9) (As := [aR 9 (0), aR 7 (184), aI (n)]) (rest := []) rq_38 (ev_tfill (0) (184) (n) (wcm K c)) rfl rfl (show clOK 38 96 0 0 0 3 9 = true by decide +kernel) rfl (show 0 ≤ 4 by decide) (fun _ => ⟨_, rfl⟩) rfl (c' := 0) (s' := 0) rfl rfl ?_
  rw [tfill_w hn, hcT]
  refine wp_seg 2 (P := none) (ls' := [some (aR 2 (0)), some (aR 7 (184)), some (aI (n)), some (aI (0)), none]) (st' := []) (σ' := wcm K cT) rq_38 rfl True.intro (i' := 7) rfl ?_
  have hlt : ∀ p, 0 ≤ p → p < z → tL (K 13 184) n (p / 2) = (if p % 2 = 0 then seat (K 13 184) n (sdN (lgO n) p) else tL (K 13 184) n (p / 2)) := fun p p0 p1 => by
    split
    · unfold tL
      rw [hz, if_pos (by omega), show 2 * (p / 2) = p by omega]
    · rfl
  have hfa : ∀ t p, 0 ≤ p → p < z → Ev true 99 [aR 9 (0), aI (p)] (wcm K (cAdds cT B t (tL (K 13 184) n) (tR (K 13 184) n) (tH n))) (.inl (some (aI (seat (K 13 184) n (sdN (lgO n) p))))) (wcm K (cAdds cT B t (tL (K 13 184) n) (tR (K 13 184) n) (tH n))) := fun t p p0 p1 => by
    have e := ev_fencerAt p (lgO n) (wcm K (cAdds cT B t (tL (K 13 184) n) (tR (K 13 184) n) (tH n))) (by omega) (by rw [wk_9, cAdds_row (by omega) (by omega), k90]; exact f1) (by omega)
    rw [fw_w (n := n) (o := K 13 184) (by rw [cAdds_row (by omega) (by omega)]; exact k91) (by omega) (fun k k0 k1 => by rw [cAdds_row (by omega) (by omega)]; exact k25 k k0 k1)] at e
    exact e
  have h1 := lf_1 (n := n) (K := K) (c := cT) (B := B) (z := z) (L := tL (K 13 184) n) (R := tR (K 13 184) n) (H := tH n) (FA := fun p => seat (K 13 184) n (sdN (lgO n) p)) k90 f2 hB hfa (fun t t0 t1 => ⟨by unfold tL; rw [hz, if_pos t1], by unfold tR; rw [hz, if_pos t1], by unfold tH; rw [hz, hrn (z - t) (by omega) (by omega)]⟩) (fun o' σ2 => o' = .inl none ∧ σ2 = wcm K (cTab c B n (K 13 184))) ?_ (z / 2).toNat 0 (by decide) (by omega)
  · rw [cAdds_0 k00] at h1
    exact h1
  have k9 : wcm K (cAdds cT B (z / 2) (tL (K 13 184) n) (tR (K 13 184) n) (tH n)) 9 0 0 = z := by rw [wk_9, cAdds_row (by omega) (by omega)]; exact k90
  refine wp_seg 6 (P := some ((2 : Int) ≠ 0)) (ls' := [some (aR 2 (0)), some (aR 7 (184)), some (aI (n)), some (aI (wr (((wcm K (cAdds cT B (z / 2) (tL (K 13 184) n) (tR (K 13 184) n) (tH n))) 9 (0) 0).tdiv (2)))), none]) (st' := []) (σ' := wcm K (cAdds cT B (z / 2) (tL (K 13 184) n) (tR (K 13 184) n) (tH n))) rq_38 rfl ?_ (i' := 38) rfl ?_
  · show (2 : Int) ≠ 0
    decide
  rw [k9]
  have hm : ∃ k : Nat, lgO n = k + 1 := ⟨lgO n - 1, by omega⟩
  obtain ⟨m, hm⟩ := hm
  have h2 : (2 : Int) ^ (m + 1) = 2 ^ m * 2 := Int.pow_succ 2 m
  have ez : z = 2 ^ m * 2 := by rw [f1, hm, h2]
  have h3 := lf_3 (n := n) (K := K) (c := cT) (B := B) (z := z) (L := tL (K 13 184) n) (R := tR (K 13 184) n) (H := tH n) hB (by omega) (fun r i r0 r1 r2 i0 i1 => ⟨by unfold tL; rw [hz, if_neg (by omega)], by unfold tR; rw [hz, if_neg (by omega)], by
    have e : rnd (z - (z - r + i)) = r := by
      unfold rnd
      repeat' split
      all_goals omega
    unfold tH
    rw [hz, e]⟩) (fun o' σ2 => o' = .inl none ∧ σ2 = wcm K (cTab c B n (K 13 184))) ?_ m (by omega) (by omega)
  · rw [show wr (z.tdiv 2) = 2 ^ m by rw [td2 (by omega), wr_eq (by omega) (by omega)]; omega]
    rw [show z - 2 ^ m = z / 2 by omega] at h3
    exact h3
  have hat : ∀ i, 0 ≤ i → i < z - 1 → _ := fun i i0 i1 => cAdds_at (c := cT) (B := B) (t := z - 1) (L := tL (K 13 184) n) (R := tR (K 13 184) n) (H := tH n) hB.1 i0 i1
  have a01 : cAdds cT B (z - 1) (tL (K 13 184) n) (tR (K 13 184) n) (tH n) 0 1 = B := by rw [cAdds_row (by omega) (by omega)]; exact k01
  have a90 : cAdds cT B (z - 1) (tL (K 13 184) n) (tR (K 13 184) n) (tH n) 9 0 = z := by rw [cAdds_row (by omega) (by omega)]; exact k90
  have hbw : ∀ j, 0 ≤ j → j < z / 2 → zm_passBye 0 (B + j) (wcm K (cBye (cAdds cT B (z - 1) (tL (K 13 184) n) (tR (K 13 184) n) (tH n)) B z j (tL (K 13 184) n) (tR (K 13 184) n))) = wcm K (cBye (cAdds cT B (z - 1) (tL (K 13 184) n) (tR (K 13 184) n) (tH n)) B z (j + 1) (tL (K 13 184) n) (tR (K 13 184) n)) := fun j j0 j1 => by
    refine bye_w f2 hB a01 a90 (fun i i0 i1 => ?_) (fun i i0 i1 e z2 => ?_) j0 j1
    · obtain ⟨u1, u2, u3, u4, u5, u6, u7, u8⟩ := hat i i0 (by omega)
      refine ⟨u2, u1, ?_⟩
      rw [u7]
      unfold tH
      rw [hz, hrn (z - i) (by omega) (by omega)]
    · have i9 : i = 0 := by omega
      have n2 : n = 2 := by omega
      rw [i9, tR_2 n2] at e
      have := ho 1 (by decide) (by omega)
      omega
  refine wp_seg 2 (P := none) (ls' := [some (aR 2 (0)), some (aR 7 (184)), some (aI (n)), some (aI (0)), none]) (st' := []) (σ' := wcm K (cAdds cT B (z - 1) (tL (K 13 184) n) (tR (K 13 184) n) (tH n))) rq_38 rfl True.intro (i' := 65) rfl ?_
  have h4 := lf_4 (n := n) (K := K) (c := cAdds cT B (z - 1) (tL (K 13 184) n) (tR (K 13 184) n) (tH n)) (B := B) (z := z) (L := tL (K 13 184) n) (R := tR (K 13 184) n) a90 f2 hB a01 hbw (fun o' σ2 => o' = .inl none ∧ σ2 = wcm K (cTab c B n (K 13 184))) ?_ (z / 2).toNat 0 (by decide) (by omega)
  · have e0 : cBye (cAdds cT B (z - 1) (tL (K 13 184) n) (tR (K 13 184) n) (tH n)) B z 0 (tL (K 13 184) n) (tR (K 13 184) n) = cAdds cT B (z - 1) (tL (K 13 184) n) (tR (K 13 184) n) (tH n) := by
      funext C k
      unfold cBye
      rw [if_neg (by omega), if_neg (by omega), if_neg (by omega)]
    rw [e0] at h4
    exact h4
  generalize hM : wcm K (cBye (cAdds cT B (z - 1) (tL (K 13 184) n) (tR (K 13 184) n) (tH n)) B z (z / 2) (tL (K 13 184) n) (tR (K 13 184) n)) = M
  refine wp_seg 3 (P := none) (ls' := [some (aR 2 (0)), some (aR 7 (184)), some (aI (n)), some (aI (z / 2)), none]) (st' := []) (σ' := (up M 2 (0) 0 (2))) rq_38 rfl True.intro (i' := 85) rfl ?_
  refine wp_vret rq_38 rfl rt_38 ⟨?_, ?_⟩
  · rfl
  · rw [← hM, wu_2]
    unfold cTab
    rw [hcT, hz]
end FillV
