/-! The constructors. -/
def dlt : List (Nat × Int) → Nat → Int
  | [], _ => 0
  | (C', v) :: L, C => (if C = C' then v else 0) + dlt L C
def adc (cn : Cnt) (L : List (Nat × Int)) : Cnt := fun C => cn C + dlt L C
def aft (h0 : Mem) (cn : Cnt) (S : Cel) : Out → Mem → Prop := fun o σ' => o = .inl none ∧ St h0 σ' cn S
theorem rowLen_18 {m j : Int} (hm : 0 ≤ m ∧ m < 10) (hj : 0 ≤ j ∧ j < 18) : rowLen (18 * m + j) = rl18 j := by
  unfold rowLen
  rw [if_pos (by omega), show (18 * m + j) % 18 = j by omega]
section Ctor
variable {k i : Nat} {ls : Vls} {st : List AV} {σ h0 : Mem} {c s : Nat} {Q : Out → Mem → Prop} {rs : List Rw} {cn cn2 : Cnt} {S S2 : Cel}
theorem ic_row {r n : Int} (hS : St h0 σ cn S) (h0r : 0 ≤ r) (h7 : r < cn 7) (h13 : cn 13 = r) (hn : n = rowLen r) (hn6 : 0 ≤ n ∧ n ≤ 614) : wpC 77 0 (entL 77 [aR 7 r, aI n]) [] σ 0 0 (aft h0 (adc cn [(13, 1)]) (fun C r' k => S C r' k ∨ (C = 7 ∧ r' = r))) := by
  show wpC 77 0 [some (aR 7 r), some (aI n)] [] σ 0 0 _
  refine wpC_seg 1 (P := none) (ls' := [some (aR 7 r), some (aI n)]) (st' := [aR 7 r]) (σ' := σ) rq_77 rfl True.intro (i' := 1) rfl ?_
  refine wpC_obj rq_77 rfl (by decide +kernel) (by decide +kernel) (by decide) ?_
  refine wpC_seg 2 (P := none) (ls' := [some (aR 7 r), some (aI n)]) (st' := [aI n, aR 7 r]) (σ' := σ) rq_77 rfl True.intro (i' := 4) rfl ?_
  refine wpC_if rq_77 rfl (fun _ => ?_) (fun h => absurd (show 0 ≤ n from hn6.1) h)
  refine wpC_seg 1 (P := none) (ls' := [some (aR 7 r), some (aI n)]) (st' := [aI n, aR 7 r]) (σ' := σ) rq_77 rfl True.intro (i' := 8) rfl ?_
  refine wpC_newa rq_77 (C := 13) rfl (Or.inr (Or.inl rfl)) hS h13 (by rw [hn]; rfl) (by decide +kernel) (by rw [show mss 77 = 614 from rfl]; omega) rfl rfl (fun σ1 hS1 => ?_)
  refine wpC_putq rq_77 (C := 7) (f := 0) rfl (show _ = some (2, 1, 0, 13) from rfl) (by show r = lay 1 0 r; unfold lay; simp) hS1 (by decide) (by unfold inc; simpa using h7) rfl (fun σ2 hS2 => ?_)
  refine wpC_vret rq_77 rfl rt_77 ⟨rfl, hS2.sub (fun C => ?_) (fun C r' k h => ?_)⟩
  · unfold inc adc dlt dlt
    by_cases e : C = 13
    · subst e; simp
    · simp [e]
  · rcases h with h | ⟨rfl, rfl⟩
    · exact Or.inl (Or.inl h)
    · by_cases hk : k = 0
      · subst hk; exact Or.inl (Or.inr ⟨rfl, rfl, rfl⟩)
      · exact Or.inr ⟨by decide, by unfold tgt; simp [hk]⟩
theorem wpC_row (hR : rows k = rs) {pc0 j0 l0 w0 pc1 l1 pc2 l2 pc3 j3 l3 w3 pc4 j4 l4 w4 C f c' s' : Nat} {x1 x2 : List Nat} {raw2 : Instr} {a b q r n : Int} (hi0 : rs[i]? = some (pc0, .new j0, l0, [0, 7, w0])) (hi1 : rs[i + 1]? = some (pc1, .dup, l1, x1)) (hi2 : rs[i + 2]? = some (pc2, raw2, l2, x2)) (hp2 : ∀ ls st σ, plain false raw2 x2 ls st σ = some (none, ls, aI n :: st, σ)) (hi3 : rs[i + 3]? = some (pc3, .invokespecial j3, l3, [3, 77, w3])) (hi4 : rs[i + 4]? = some (pc4, .putfield j4, l4, [C, f, w4, 0])) (hfs : (fsp C)[f]? = some (2, a, b, 7)) (hC : C < 12) (hC7 : C ≠ 7) (hS : St h0 σ cn S) (h7 : cn 7 = r) (h13 : cn 13 = r) (h0r : 0 ≤ r) (hr : r = lay a b q) (hn : n = rowLen r) (hn6 : 0 ≤ n ∧ n ≤ 614) (hq : q < cn C) (ht : tgt C q f = 1) (hcl : clOK k 77 3 (c + 1) (s + 1) 2 7 = true) (hstl : st.length ≤ 2) (hc' : c + 2 = c') (hs' : s + 615 = s') (hc1 : c' ≤ mcs k) (hs1 : s' ≤ mss k)
    (h : ∀ σ', St h0 σ' (adc cn [(7, 1), (13, 1)]) (fun C' r' k' => S C' r' k' ∨ (C' = C ∧ r' = q ∧ k' = f) ∨ (C' = 7 ∧ r' = r)) → wpC k (i + 5) ls st σ' c' s' Q) : wpC k i ls (aR C q :: st) σ c s Q := by
  subst hc'; subst hs'
  refine wpC_new hR hi0 (by decide) hS h7 (by omega) (by show s + 1 ≤ _; omega) rfl rfl (fun σ1 hS1 => ?_)
  refine wpC_plain (by rw [hR]; exact hi1) (show plain false .dup x1 ls (aR 7 r :: aR C q :: st) σ1 = some (none, ls, aR 7 r :: aR 7 r :: aR C q :: st, σ1) from rfl) True.intro ?_
  refine wpC_plain (by rw [hR]; exact hi2) (hp2 _ _ _) True.intro ?_
  refine wpC_call (C := 7) (As := [aR 7 r, aI n]) (rest := aR 7 r :: aR C q :: st) hR hi3 rfl hcl rfl (by show st.length + 1 + 1 ≤ 4; omega) (fun _ => ⟨_, rfl⟩) rfl (ic_row (r := r) (n := n) hS1 h0r (by unfold inc; simp; omega) (by unfold inc; simpa using h13) hn hn6) (fun o σ2 hq2 => ⟨hq2.1, ?_⟩)
  have hq2 := hq2.2
  refine wpC_putq hR hi4 hfs hr hq2 hC (by unfold adc inc dlt dlt; simp [hC7]; split <;> omega) ht (fun σ3 hS3 => ?_)
  refine h σ3 (hS3.sub (fun C' => ?_) (fun C' r' k' h => ?_))
  · unfold adc inc
    simp only [dlt]
    by_cases e : C' = 7
    · subst e; simp
    · simp [e]
  · rcases h with h | h | h
    · exact Or.inl (Or.inl (Or.inl h))
    · exact Or.inl (Or.inr h)
    · exact Or.inl (Or.inl (Or.inr h))
theorem wpC_sub (hR : rows k = rs) {pc0 j0 l0 w0 pc1 l1 pc3 j3 l3 w3 pc4 j4 l4 w4 n C D f k' c' s' cv sv : Nat} {x1 : List Nat} {a b q r : Int} (hi0 : rs[i]? = some (pc0, .new j0, l0, [0, D, w0])) (hi1 : rs[i + 1]? = some (pc1, .dup, l1, x1)) (hi3 : rs[i + 2]? = some (pc3, .invokespecial j3, l3, [n, k', w3])) (hn34 : n = 3 ∨ n = 4) (hi4 : rs[i + 3]? = some (pc4, .putfield j4, l4, [C, f, w4, 0])) (hfs : (fsp C)[f]? = some (2, a, b, D)) (hC : C < 12) (hD : D < 12) (hS : St h0 σ cn S) (hv : cn D = r) (hr : r = lay a b q) (ht : tgt C q f = 1) (hstl : st.length ≤ 2) (hcv : c + 1 = cv) (hsv : s + (fsp D).length = sv) (hcl : clOK k k' n cv sv 1 D = true) (hc' : cv + mcs k' = c') (hs' : sv + mss k' = s') (hc1 : c' ≤ mcs k) (hs1 : s' ≤ mss k)
    (hcal : ∀ σ1, St h0 σ1 (inc cn D) S → wpC k' 0 (entL k' [aR D r]) [] σ1 0 0 (aft h0 cn2 S2)) (hq : q < cn2 C)
    (h : ∀ σ', St h0 σ' cn2 (addS S2 C q f) → wpC k (i + 4) ls st σ' c' s' Q) : wpC k i ls (aR C q :: st) σ c s Q := by
  subst hc'; subst hs'
  refine wpC_new hR hi0 hD hS hv (by omega) (by omega) hcv hsv (fun σ1 hS1 => ?_)
  refine wpC_plain (by rw [hR]; exact hi1) (show plain false .dup x1 ls (aR D r :: aR C q :: st) σ1 = some (none, ls, aR D r :: aR D r :: aR C q :: st, σ1) from rfl) True.intro ?_
  refine wpC_call (C := D) (As := [aR D r]) (rest := aR D r :: aR C q :: st) hR hi3 (by rcases hn34 with rfl | rfl <;> rfl) hcl rfl (by show st.length + 1 + 1 ≤ 4; omega) (fun _ => ⟨_, rfl⟩) rfl (hcal σ1 hS1) (fun o σ2 hq2 => ⟨hq2.1, ?_⟩)
  exact wpC_putq hR hi4 hfs hr hq2.2 hC hq ht h

theorem ic_roster {m : Int} (hS : St h0 σ cn S) (hm : 0 ≤ m ∧ m < 10) (hc : m < cn 6) (h7 : cn 7 = 18 * m + 1) (h13 : cn 13 = 18 * m + 1) : wpC 68 0 (entL 68 [aR 6 m]) [] σ 0 0 (aft h0 (adc cn [(7, 6), (13, 6)]) (fun C r k => S C r k ∨ (C = 6 ∧ r = m) ∨ (C = 7 ∧ 18 * m + 1 ≤ r ∧ r < 18 * m + 7))) := by
  show wpC 68 0 [some (aR 6 m)] [] σ 0 0 _
  refine wpC_seg 1 (P := none) (ls' := [some (aR 6 m)]) (st' := [aR 6 m]) (σ' := σ) rq_68 rfl True.intro (i' := 1) rfl ?_
  refine wpC_obj rq_68 rfl (by decide +kernel) (by decide +kernel) (by decide) ?_
  refine wpC_seg 1 (P := none) (ls' := [some (aR 6 m)]) (st' := [aR 6 m]) (σ' := σ) rq_68 rfl True.intro (i' := 3) rfl ?_
  refine wpC_seg 1 (P := none) (ls' := [some (aR 6 m)]) (st' := [aI (0), aR 6 m]) (σ' := σ) rq_68 rfl True.intro (i' := 4) rfl ?_
  refine wpC_puti (P := none) rq_68 (v := 0) (C := 6) (f := 0) rfl rfl True.intro hS (by decide) (by first | (simp [adc, inc, dlt, *]; done) | (simp [adc, inc, dlt, *]; omega) | (simp [adc, inc, dlt] at *; omega)) (by rfl) (fun σ1 hS1 => ?_)
  refine wpC_seg 1 (P := none) (ls' := [some (aR 6 m)]) (st' := [aR 6 m]) (σ' := σ1) rq_68 rfl True.intro (i' := 6) rfl ?_
  refine wpC_row rq_68 (r := (18 * m + 1)) (n := 24) (q := m) rfl rfl rfl (fun _ _ _ => rfl) rfl rfl (show _ = some (2, 18, 1, 7) from rfl) (by decide) (by decide) hS1 (by first | (simp [adc, inc, dlt, *]; done) | (simp [adc, inc, dlt, *]; omega) | (simp [adc, inc, dlt] at *; omega)) (by first | (simp [adc, inc, dlt, *]; done) | (simp [adc, inc, dlt, *]; omega) | (simp [adc, inc, dlt] at *; omega)) (by omega) (by unfold lay; simp) (by first | (rw [rowLen_18 hm (by decide)]; rfl) | (have h := rowLen_18 (m := m) (j := 0) hm (by decide); rw [Int.add_zero] at h; rw [h]; rfl)) (by decide) (by first | (simp [adc, inc, dlt, *]; done) | (simp [adc, inc, dlt, *]; omega) | (simp [adc, inc, dlt] at *; omega)) (by rfl) (by decide +kernel) (by decide) (c' := 2) (s' := 615) rfl rfl (by decide +kernel) (by decide +kernel) (fun σ2 hS2 => ?_)
  refine wpC_seg 1 (P := none) (ls' := [some (aR 6 m)]) (st' := [aR 6 m]) (σ' := σ2) rq_68 rfl True.intro (i' := 12) rfl ?_
  refine wpC_row rq_68 (r := (18 * m + 2)) (n := 24) (q := m) rfl rfl rfl (fun _ _ _ => rfl) rfl rfl (show _ = some (2, 18, 2, 7) from rfl) (by decide) (by decide) hS2 (by first | (simp [adc, inc, dlt, *]; done) | (simp [adc, inc, dlt, *]; omega) | (simp [adc, inc, dlt] at *; omega)) (by first | (simp [adc, inc, dlt, *]; done) | (simp [adc, inc, dlt, *]; omega) | (simp [adc, inc, dlt] at *; omega)) (by omega) (by unfold lay; simp) (by first | (rw [rowLen_18 hm (by decide)]; rfl) | (have h := rowLen_18 (m := m) (j := 0) hm (by decide); rw [Int.add_zero] at h; rw [h]; rfl)) (by decide) (by first | (simp [adc, inc, dlt, *]; done) | (simp [adc, inc, dlt, *]; omega) | (simp [adc, inc, dlt] at *; omega)) (by rfl) (by decide +kernel) (by decide) (c' := 4) (s' := 1230) rfl rfl (by decide +kernel) (by decide +kernel) (fun σ3 hS3 => ?_)
  refine wpC_seg 1 (P := none) (ls' := [some (aR 6 m)]) (st' := [aR 6 m]) (σ' := σ3) rq_68 rfl True.intro (i' := 18) rfl ?_
  refine wpC_row rq_68 (r := (18 * m + 3)) (n := 24) (q := m) rfl rfl rfl (fun _ _ _ => rfl) rfl rfl (show _ = some (2, 18, 3, 7) from rfl) (by decide) (by decide) hS3 (by first | (simp [adc, inc, dlt, *]; done) | (simp [adc, inc, dlt, *]; omega) | (simp [adc, inc, dlt] at *; omega)) (by first | (simp [adc, inc, dlt, *]; done) | (simp [adc, inc, dlt, *]; omega) | (simp [adc, inc, dlt] at *; omega)) (by omega) (by unfold lay; simp) (by first | (rw [rowLen_18 hm (by decide)]; rfl) | (have h := rowLen_18 (m := m) (j := 0) hm (by decide); rw [Int.add_zero] at h; rw [h]; rfl)) (by decide) (by first | (simp [adc, inc, dlt, *]; done) | (simp [adc, inc, dlt, *]; omega) | (simp [adc, inc, dlt] at *; omega)) (by rfl) (by decide +kernel) (by decide) (c' := 6) (s' := 1845) rfl rfl (by decide +kernel) (by decide +kernel) (fun σ4 hS4 => ?_)
  refine wpC_seg 1 (P := none) (ls' := [some (aR 6 m)]) (st' := [aR 6 m]) (σ' := σ4) rq_68 rfl True.intro (i' := 24) rfl ?_
  refine wpC_row rq_68 (r := (18 * m + 4)) (n := 24) (q := m) rfl rfl rfl (fun _ _ _ => rfl) rfl rfl (show _ = some (2, 18, 4, 7) from rfl) (by decide) (by decide) hS4 (by first | (simp [adc, inc, dlt, *]; done) | (simp [adc, inc, dlt, *]; omega) | (simp [adc, inc, dlt] at *; omega)) (by first | (simp [adc, inc, dlt, *]; done) | (simp [adc, inc, dlt, *]; omega) | (simp [adc, inc, dlt] at *; omega)) (by omega) (by unfold lay; simp) (by first | (rw [rowLen_18 hm (by decide)]; rfl) | (have h := rowLen_18 (m := m) (j := 0) hm (by decide); rw [Int.add_zero] at h; rw [h]; rfl)) (by decide) (by first | (simp [adc, inc, dlt, *]; done) | (simp [adc, inc, dlt, *]; omega) | (simp [adc, inc, dlt] at *; omega)) (by rfl) (by decide +kernel) (by decide) (c' := 8) (s' := 2460) rfl rfl (by decide +kernel) (by decide +kernel) (fun σ5 hS5 => ?_)
  refine wpC_seg 1 (P := none) (ls' := [some (aR 6 m)]) (st' := [aR 6 m]) (σ' := σ5) rq_68 rfl True.intro (i' := 30) rfl ?_
  refine wpC_row rq_68 (r := (18 * m + 5)) (n := 24) (q := m) rfl rfl rfl (fun _ _ _ => rfl) rfl rfl (show _ = some (2, 18, 5, 7) from rfl) (by decide) (by decide) hS5 (by first | (simp [adc, inc, dlt, *]; done) | (simp [adc, inc, dlt, *]; omega) | (simp [adc, inc, dlt] at *; omega)) (by first | (simp [adc, inc, dlt, *]; done) | (simp [adc, inc, dlt, *]; omega) | (simp [adc, inc, dlt] at *; omega)) (by omega) (by unfold lay; simp) (by first | (rw [rowLen_18 hm (by decide)]; rfl) | (have h := rowLen_18 (m := m) (j := 0) hm (by decide); rw [Int.add_zero] at h; rw [h]; rfl)) (by decide) (by first | (simp [adc, inc, dlt, *]; done) | (simp [adc, inc, dlt, *]; omega) | (simp [adc, inc, dlt] at *; omega)) (by rfl) (by decide +kernel) (by decide) (c' := 10) (s' := 3075) rfl rfl (by decide +kernel) (by decide +kernel) (fun σ6 hS6 => ?_)
  refine wpC_seg 1 (P := none) (ls' := [some (aR 6 m)]) (st' := [aR 6 m]) (σ' := σ6) rq_68 rfl True.intro (i' := 36) rfl ?_
  refine wpC_row rq_68 (r := (18 * m + 6)) (n := 72) (q := m) rfl rfl rfl (fun _ _ _ => rfl) rfl rfl (show _ = some (2, 18, 6, 7) from rfl) (by decide) (by decide) hS6 (by first | (simp [adc, inc, dlt, *]; done) | (simp [adc, inc, dlt, *]; omega) | (simp [adc, inc, dlt] at *; omega)) (by first | (simp [adc, inc, dlt, *]; done) | (simp [adc, inc, dlt, *]; omega) | (simp [adc, inc, dlt] at *; omega)) (by omega) (by unfold lay; simp) (by first | (rw [rowLen_18 hm (by decide)]; rfl) | (have h := rowLen_18 (m := m) (j := 0) hm (by decide); rw [Int.add_zero] at h; rw [h]; rfl)) (by decide) (by first | (simp [adc, inc, dlt, *]; done) | (simp [adc, inc, dlt, *]; omega) | (simp [adc, inc, dlt] at *; omega)) (by rfl) (by decide +kernel) (by decide) (c' := 12) (s' := 3690) rfl rfl (by decide +kernel) (by decide +kernel) (fun σ7 hS7 => ?_)
  refine wpC_vret rq_68 rfl rt_68 ⟨rfl, hS7.sub (fun C => ?_) (fun C r k h => ?_)⟩
  · show _ = _
    by_cases e0 : C = 7
    · subst e0; first | (simp [adc, inc, dlt]; done) | (simp [adc, inc, dlt]; omega)
    by_cases e1 : C = 13
    · subst e1; first | (simp [adc, inc, dlt]; done) | (simp [adc, inc, dlt]; omega)
    simp [adc, inc, dlt, e0, e1]
  · rcases h with h | h | h
    · exact Or.inl (by simp [addS, h])
    · obtain ⟨rfl, rfl⟩ := h
      by_cases hk1 : k = 1
      · subst hk1; exact Or.inl (by simp [addS])
      by_cases hk2 : k = 2
      · subst hk2; exact Or.inl (by simp [addS])
      by_cases hk3 : k = 3
      · subst hk3; exact Or.inl (by simp [addS])
      by_cases hk4 : k = 4
      · subst hk4; exact Or.inl (by simp [addS])
      by_cases hk5 : k = 5
      · subst hk5; exact Or.inl (by simp [addS])
      by_cases hk6 : k = 6
      · subst hk6; exact Or.inl (by simp [addS])
      exact Or.inr ⟨by decide, by unfold tgt; first | (simp [hk1, hk2, hk3, hk4, hk5, hk6]; done) | (simp [hk1, hk2, hk3, hk4, hk5, hk6]; omega) | (simp; omega)⟩
    · obtain ⟨rfl, h1, h2⟩ := h
      refine Or.inl ?_
      first | (simp only [addS]; omega) | (simp [addS]; omega)

theorem ic_pools {m : Int} (hS : St h0 σ cn S) (hm : 0 ≤ m ∧ m < 10) (hc : m < cn 3) (h7 : cn 7 = 18 * m + 7) (h13 : cn 13 = 18 * m + 7) : wpC 45 0 (entL 45 [aR 3 m]) [] σ 0 0 (aft h0 (adc cn [(7, 2), (13, 2)]) (fun C r k => S C r k ∨ (C = 3 ∧ r = m) ∨ (C = 7 ∧ 18 * m + 7 ≤ r ∧ r < 18 * m + 9))) := by
  show wpC 45 0 [some (aR 3 m)] [] σ 0 0 _
  refine wpC_seg 1 (P := none) (ls' := [some (aR 3 m)]) (st' := [aR 3 m]) (σ' := σ) rq_45 rfl True.intro (i' := 1) rfl ?_
  refine wpC_obj rq_45 rfl (by decide +kernel) (by decide +kernel) (by decide) ?_
  refine wpC_seg 1 (P := none) (ls' := [some (aR 3 m)]) (st' := [aR 3 m]) (σ' := σ) rq_45 rfl True.intro (i' := 3) rfl ?_
  refine wpC_seg 1 (P := none) (ls' := [some (aR 3 m)]) (st' := [aI (0), aR 3 m]) (σ' := σ) rq_45 rfl True.intro (i' := 4) rfl ?_
  refine wpC_puti (P := none) rq_45 (v := 0) (C := 3) (f := 0) rfl rfl True.intro hS (by decide) (by first | (simp [adc, inc, dlt, *]; done) | (simp [adc, inc, dlt, *]; omega) | (simp [adc, inc, dlt] at *; omega)) (by rfl) (fun σ1 hS1 => ?_)
  refine wpC_seg 1 (P := none) (ls' := [some (aR 3 m)]) (st' := [aR 3 m]) (σ' := σ1) rq_45 rfl True.intro (i' := 6) rfl ?_
  refine wpC_row rq_45 (r := (18 * m + 7)) (n := 6) (q := m) rfl rfl rfl (fun _ _ _ => rfl) rfl rfl (show _ = some (2, 18, 7, 7) from rfl) (by decide) (by decide) hS1 (by first | (simp [adc, inc, dlt, *]; done) | (simp [adc, inc, dlt, *]; omega) | (simp [adc, inc, dlt] at *; omega)) (by first | (simp [adc, inc, dlt, *]; done) | (simp [adc, inc, dlt, *]; omega) | (simp [adc, inc, dlt] at *; omega)) (by omega) (by unfold lay; simp) (by first | (rw [rowLen_18 hm (by decide)]; rfl) | (have h := rowLen_18 (m := m) (j := 0) hm (by decide); rw [Int.add_zero] at h; rw [h]; rfl)) (by decide) (by first | (simp [adc, inc, dlt, *]; done) | (simp [adc, inc, dlt, *]; omega) | (simp [adc, inc, dlt] at *; omega)) (by rfl) (by decide +kernel) (by decide) (c' := 2) (s' := 615) rfl rfl (by decide +kernel) (by decide +kernel) (fun σ2 hS2 => ?_)
  refine wpC_seg 1 (P := none) (ls' := [some (aR 3 m)]) (st' := [aR 3 m]) (σ' := σ2) rq_45 rfl True.intro (i' := 12) rfl ?_
  refine wpC_row rq_45 (r := (18 * m + 8)) (n := 144) (q := m) rfl rfl rfl (fun _ _ _ => rfl) rfl rfl (show _ = some (2, 18, 8, 7) from rfl) (by decide) (by decide) hS2 (by first | (simp [adc, inc, dlt, *]; done) | (simp [adc, inc, dlt, *]; omega) | (simp [adc, inc, dlt] at *; omega)) (by first | (simp [adc, inc, dlt, *]; done) | (simp [adc, inc, dlt, *]; omega) | (simp [adc, inc, dlt] at *; omega)) (by omega) (by unfold lay; simp) (by first | (rw [rowLen_18 hm (by decide)]; rfl) | (have h := rowLen_18 (m := m) (j := 0) hm (by decide); rw [Int.add_zero] at h; rw [h]; rfl)) (by decide) (by first | (simp [adc, inc, dlt, *]; done) | (simp [adc, inc, dlt, *]; omega) | (simp [adc, inc, dlt] at *; omega)) (by rfl) (by decide +kernel) (by decide) (c' := 4) (s' := 1230) rfl rfl (by decide +kernel) (by decide +kernel) (fun σ3 hS3 => ?_)
  refine wpC_vret rq_45 rfl rt_45 ⟨rfl, hS3.sub (fun C => ?_) (fun C r k h => ?_)⟩
  · show _ = _
    by_cases e0 : C = 7
    · subst e0; first | (simp [adc, inc, dlt]; done) | (simp [adc, inc, dlt]; omega)
    by_cases e1 : C = 13
    · subst e1; first | (simp [adc, inc, dlt]; done) | (simp [adc, inc, dlt]; omega)
    simp [adc, inc, dlt, e0, e1]
  · rcases h with h | h | h
    · exact Or.inl (by simp [addS, h])
    · obtain ⟨rfl, rfl⟩ := h
      by_cases hk1 : k = 1
      · subst hk1; exact Or.inl (by simp [addS])
      by_cases hk2 : k = 2
      · subst hk2; exact Or.inl (by simp [addS])
      exact Or.inr ⟨by decide, by unfold tgt; first | (simp [hk1, hk2]; done) | (simp [hk1, hk2]; omega) | (simp; omega)⟩
    · obtain ⟨rfl, h1, h2⟩ := h
      refine Or.inl ?_
      first | (simp only [addS]; omega) | (simp [addS]; omega)

theorem ic_bouts {m : Int} (hS : St h0 σ cn S) (hm : 0 ≤ m ∧ m < 10) (hc : m < cn 0) (h7 : cn 7 = 18 * m + 9) (h13 : cn 13 = 18 * m + 9) : wpC 0 0 (entL 0 [aR 0 m]) [] σ 0 0 (aft h0 (adc cn [(7, 6), (13, 6)]) (fun C r k => S C r k ∨ (C = 0 ∧ r = m) ∨ (C = 7 ∧ 18 * m + 9 ≤ r ∧ r < 18 * m + 15))) := by
  show wpC 0 0 [some (aR 0 m)] [] σ 0 0 _
  refine wpC_seg 1 (P := none) (ls' := [some (aR 0 m)]) (st' := [aR 0 m]) (σ' := σ) rq_0 rfl True.intro (i' := 1) rfl ?_
  refine wpC_obj rq_0 rfl (by decide +kernel) (by decide +kernel) (by decide) ?_
  refine wpC_seg 1 (P := none) (ls' := [some (aR 0 m)]) (st' := [aR 0 m]) (σ' := σ) rq_0 rfl True.intro (i' := 3) rfl ?_
  refine wpC_seg 1 (P := none) (ls' := [some (aR 0 m)]) (st' := [aI (0), aR 0 m]) (σ' := σ) rq_0 rfl True.intro (i' := 4) rfl ?_
  refine wpC_puti (P := none) rq_0 (v := 0) (C := 0) (f := 0) rfl rfl True.intro hS (by decide) (by first | (simp [adc, inc, dlt, *]; done) | (simp [adc, inc, dlt, *]; omega) | (simp [adc, inc, dlt] at *; omega)) (by rfl) (fun σ1 hS1 => ?_)
  refine wpC_seg 1 (P := none) (ls' := [some (aR 0 m)]) (st' := [aR 0 m]) (σ' := σ1) rq_0 rfl True.intro (i' := 6) rfl ?_
  refine wpC_seg 1 (P := none) (ls' := [some (aR 0 m)]) (st' := [aI (0), aR 0 m]) (σ' := σ1) rq_0 rfl True.intro (i' := 7) rfl ?_
  refine wpC_puti (P := none) rq_0 (v := 0) (C := 0) (f := 1) rfl rfl True.intro hS1 (by decide) (by first | (simp [adc, inc, dlt, *]; done) | (simp [adc, inc, dlt, *]; omega) | (simp [adc, inc, dlt] at *; omega)) (by rfl) (fun σ2 hS2 => ?_)
  refine wpC_seg 1 (P := none) (ls' := [some (aR 0 m)]) (st' := [aR 0 m]) (σ' := σ2) rq_0 rfl True.intro (i' := 9) rfl ?_
  refine wpC_row rq_0 (r := (18 * m + 9)) (n := 614) (q := m) rfl rfl rfl (fun _ _ _ => rfl) rfl rfl (show _ = some (2, 18, 9, 7) from rfl) (by decide) (by decide) hS2 (by first | (simp [adc, inc, dlt, *]; done) | (simp [adc, inc, dlt, *]; omega) | (simp [adc, inc, dlt] at *; omega)) (by first | (simp [adc, inc, dlt, *]; done) | (simp [adc, inc, dlt, *]; omega) | (simp [adc, inc, dlt] at *; omega)) (by omega) (by unfold lay; simp) (by first | (rw [rowLen_18 hm (by decide)]; rfl) | (have h := rowLen_18 (m := m) (j := 0) hm (by decide); rw [Int.add_zero] at h; rw [h]; rfl)) (by decide) (by first | (simp [adc, inc, dlt, *]; done) | (simp [adc, inc, dlt, *]; omega) | (simp [adc, inc, dlt] at *; omega)) (by rfl) (by decide +kernel) (by decide) (c' := 2) (s' := 615) rfl rfl (by decide +kernel) (by decide +kernel) (fun σ3 hS3 => ?_)
  refine wpC_seg 1 (P := none) (ls' := [some (aR 0 m)]) (st' := [aR 0 m]) (σ' := σ3) rq_0 rfl True.intro (i' := 15) rfl ?_
  refine wpC_row rq_0 (r := (18 * m + 10)) (n := 614) (q := m) rfl rfl rfl (fun _ _ _ => rfl) rfl rfl (show _ = some (2, 18, 10, 7) from rfl) (by decide) (by decide) hS3 (by first | (simp [adc, inc, dlt, *]; done) | (simp [adc, inc, dlt, *]; omega) | (simp [adc, inc, dlt] at *; omega)) (by first | (simp [adc, inc, dlt, *]; done) | (simp [adc, inc, dlt, *]; omega) | (simp [adc, inc, dlt] at *; omega)) (by omega) (by unfold lay; simp) (by first | (rw [rowLen_18 hm (by decide)]; rfl) | (have h := rowLen_18 (m := m) (j := 0) hm (by decide); rw [Int.add_zero] at h; rw [h]; rfl)) (by decide) (by first | (simp [adc, inc, dlt, *]; done) | (simp [adc, inc, dlt, *]; omega) | (simp [adc, inc, dlt] at *; omega)) (by rfl) (by decide +kernel) (by decide) (c' := 4) (s' := 1230) rfl rfl (by decide +kernel) (by decide +kernel) (fun σ4 hS4 => ?_)
  refine wpC_seg 1 (P := none) (ls' := [some (aR 0 m)]) (st' := [aR 0 m]) (σ' := σ4) rq_0 rfl True.intro (i' := 21) rfl ?_
  refine wpC_row rq_0 (r := (18 * m + 11)) (n := 307) (q := m) rfl rfl rfl (fun _ _ _ => rfl) rfl rfl (show _ = some (2, 18, 11, 7) from rfl) (by decide) (by decide) hS4 (by first | (simp [adc, inc, dlt, *]; done) | (simp [adc, inc, dlt, *]; omega) | (simp [adc, inc, dlt] at *; omega)) (by first | (simp [adc, inc, dlt, *]; done) | (simp [adc, inc, dlt, *]; omega) | (simp [adc, inc, dlt] at *; omega)) (by omega) (by unfold lay; simp) (by first | (rw [rowLen_18 hm (by decide)]; rfl) | (have h := rowLen_18 (m := m) (j := 0) hm (by decide); rw [Int.add_zero] at h; rw [h]; rfl)) (by decide) (by first | (simp [adc, inc, dlt, *]; done) | (simp [adc, inc, dlt, *]; omega) | (simp [adc, inc, dlt] at *; omega)) (by rfl) (by decide +kernel) (by decide) (c' := 6) (s' := 1845) rfl rfl (by decide +kernel) (by decide +kernel) (fun σ5 hS5 => ?_)
  refine wpC_seg 1 (P := none) (ls' := [some (aR 0 m)]) (st' := [aR 0 m]) (σ' := σ5) rq_0 rfl True.intro (i' := 27) rfl ?_
  refine wpC_row rq_0 (r := (18 * m + 12)) (n := 307) (q := m) rfl rfl rfl (fun _ _ _ => rfl) rfl rfl (show _ = some (2, 18, 12, 7) from rfl) (by decide) (by decide) hS5 (by first | (simp [adc, inc, dlt, *]; done) | (simp [adc, inc, dlt, *]; omega) | (simp [adc, inc, dlt] at *; omega)) (by first | (simp [adc, inc, dlt, *]; done) | (simp [adc, inc, dlt, *]; omega) | (simp [adc, inc, dlt] at *; omega)) (by omega) (by unfold lay; simp) (by first | (rw [rowLen_18 hm (by decide)]; rfl) | (have h := rowLen_18 (m := m) (j := 0) hm (by decide); rw [Int.add_zero] at h; rw [h]; rfl)) (by decide) (by first | (simp [adc, inc, dlt, *]; done) | (simp [adc, inc, dlt, *]; omega) | (simp [adc, inc, dlt] at *; omega)) (by rfl) (by decide +kernel) (by decide) (c' := 8) (s' := 2460) rfl rfl (by decide +kernel) (by decide +kernel) (fun σ6 hS6 => ?_)
  refine wpC_seg 1 (P := none) (ls' := [some (aR 0 m)]) (st' := [aR 0 m]) (σ' := σ6) rq_0 rfl True.intro (i' := 33) rfl ?_
  refine wpC_row rq_0 (r := (18 * m + 13)) (n := 307) (q := m) rfl rfl rfl (fun _ _ _ => rfl) rfl rfl (show _ = some (2, 18, 13, 7) from rfl) (by decide) (by decide) hS6 (by first | (simp [adc, inc, dlt, *]; done) | (simp [adc, inc, dlt, *]; omega) | (simp [adc, inc, dlt] at *; omega)) (by first | (simp [adc, inc, dlt, *]; done) | (simp [adc, inc, dlt, *]; omega) | (simp [adc, inc, dlt] at *; omega)) (by omega) (by unfold lay; simp) (by first | (rw [rowLen_18 hm (by decide)]; rfl) | (have h := rowLen_18 (m := m) (j := 0) hm (by decide); rw [Int.add_zero] at h; rw [h]; rfl)) (by decide) (by first | (simp [adc, inc, dlt, *]; done) | (simp [adc, inc, dlt, *]; omega) | (simp [adc, inc, dlt] at *; omega)) (by rfl) (by decide +kernel) (by decide) (c' := 10) (s' := 3075) rfl rfl (by decide +kernel) (by decide +kernel) (fun σ7 hS7 => ?_)
  refine wpC_seg 1 (P := none) (ls' := [some (aR 0 m)]) (st' := [aR 0 m]) (σ' := σ7) rq_0 rfl True.intro (i' := 39) rfl ?_
  refine wpC_row rq_0 (r := (18 * m + 14)) (n := 307) (q := m) rfl rfl rfl (fun _ _ _ => rfl) rfl rfl (show _ = some (2, 18, 14, 7) from rfl) (by decide) (by decide) hS7 (by first | (simp [adc, inc, dlt, *]; done) | (simp [adc, inc, dlt, *]; omega) | (simp [adc, inc, dlt] at *; omega)) (by first | (simp [adc, inc, dlt, *]; done) | (simp [adc, inc, dlt, *]; omega) | (simp [adc, inc, dlt] at *; omega)) (by omega) (by unfold lay; simp) (by first | (rw [rowLen_18 hm (by decide)]; rfl) | (have h := rowLen_18 (m := m) (j := 0) hm (by decide); rw [Int.add_zero] at h; rw [h]; rfl)) (by decide) (by first | (simp [adc, inc, dlt, *]; done) | (simp [adc, inc, dlt, *]; omega) | (simp [adc, inc, dlt] at *; omega)) (by rfl) (by decide +kernel) (by decide) (c' := 12) (s' := 3690) rfl rfl (by decide +kernel) (by decide +kernel) (fun σ8 hS8 => ?_)
  refine wpC_vret rq_0 rfl rt_0 ⟨rfl, hS8.sub (fun C => ?_) (fun C r k h => ?_)⟩
  · show _ = _
    by_cases e0 : C = 7
    · subst e0; first | (simp [adc, inc, dlt]; done) | (simp [adc, inc, dlt]; omega)
    by_cases e1 : C = 13
    · subst e1; first | (simp [adc, inc, dlt]; done) | (simp [adc, inc, dlt]; omega)
    simp [adc, inc, dlt, e0, e1]
  · rcases h with h | h | h
    · exact Or.inl (by simp [addS, h])
    · obtain ⟨rfl, rfl⟩ := h
      by_cases hk2 : k = 2
      · subst hk2; exact Or.inl (by simp [addS])
      by_cases hk3 : k = 3
      · subst hk3; exact Or.inl (by simp [addS])
      by_cases hk4 : k = 4
      · subst hk4; exact Or.inl (by simp [addS])
      by_cases hk5 : k = 5
      · subst hk5; exact Or.inl (by simp [addS])
      by_cases hk6 : k = 6
      · subst hk6; exact Or.inl (by simp [addS])
      by_cases hk7 : k = 7
      · subst hk7; exact Or.inl (by simp [addS])
      exact Or.inr ⟨by decide, by unfold tgt; first | (simp [hk2, hk3, hk4, hk5, hk6, hk7]; done) | (simp [hk2, hk3, hk4, hk5, hk6, hk7]; omega) | (simp; omega)⟩
    · obtain ⟨rfl, h1, h2⟩ := h
      refine Or.inl ?_
      first | (simp only [addS]; omega) | (simp [addS]; omega)

theorem ic_table {m : Int} (hS : St h0 σ cn S) (hm : 0 ≤ m ∧ m < 10) (hc : m < cn 9) (h7 : cn 7 = 18 * m + 15) (h13 : cn 13 = 18 * m + 15) : wpC 95 0 (entL 95 [aR 9 m]) [] σ 0 0 (aft h0 (adc cn [(7, 2), (13, 2)]) (fun C r k => S C r k ∨ (C = 9 ∧ r = m) ∨ (C = 7 ∧ 18 * m + 15 ≤ r ∧ r < 18 * m + 17))) := by
  show wpC 95 0 [some (aR 9 m)] [] σ 0 0 _
  refine wpC_seg 1 (P := none) (ls' := [some (aR 9 m)]) (st' := [aR 9 m]) (σ' := σ) rq_95 rfl True.intro (i' := 1) rfl ?_
  refine wpC_obj rq_95 rfl (by decide +kernel) (by decide +kernel) (by decide) ?_
  refine wpC_seg 1 (P := none) (ls' := [some (aR 9 m)]) (st' := [aR 9 m]) (σ' := σ) rq_95 rfl True.intro (i' := 3) rfl ?_
  refine wpC_seg 1 (P := none) (ls' := [some (aR 9 m)]) (st' := [aI (0), aR 9 m]) (σ' := σ) rq_95 rfl True.intro (i' := 4) rfl ?_
  refine wpC_puti (P := none) rq_95 (v := 0) (C := 9) (f := 0) rfl rfl True.intro hS (by decide) (by first | (simp [adc, inc, dlt, *]; done) | (simp [adc, inc, dlt, *]; omega) | (simp [adc, inc, dlt] at *; omega)) (by rfl) (fun σ1 hS1 => ?_)
  refine wpC_seg 1 (P := none) (ls' := [some (aR 9 m)]) (st' := [aR 9 m]) (σ' := σ1) rq_95 rfl True.intro (i' := 6) rfl ?_
  refine wpC_seg 1 (P := none) (ls' := [some (aR 9 m)]) (st' := [aI (0), aR 9 m]) (σ' := σ1) rq_95 rfl True.intro (i' := 7) rfl ?_
  refine wpC_puti (P := none) rq_95 (v := 0) (C := 9) (f := 1) rfl rfl True.intro hS1 (by decide) (by first | (simp [adc, inc, dlt, *]; done) | (simp [adc, inc, dlt, *]; omega) | (simp [adc, inc, dlt] at *; omega)) (by rfl) (fun σ2 hS2 => ?_)
  refine wpC_seg 1 (P := none) (ls' := [some (aR 9 m)]) (st' := [aR 9 m]) (σ' := σ2) rq_95 rfl True.intro (i' := 9) rfl ?_
  refine wpC_row rq_95 (r := (18 * m + 15)) (n := 24) (q := m) rfl rfl rfl (fun _ _ _ => rfl) rfl rfl (show _ = some (2, 18, 15, 7) from rfl) (by decide) (by decide) hS2 (by first | (simp [adc, inc, dlt, *]; done) | (simp [adc, inc, dlt, *]; omega) | (simp [adc, inc, dlt] at *; omega)) (by first | (simp [adc, inc, dlt, *]; done) | (simp [adc, inc, dlt, *]; omega) | (simp [adc, inc, dlt] at *; omega)) (by omega) (by unfold lay; simp) (by first | (rw [rowLen_18 hm (by decide)]; rfl) | (have h := rowLen_18 (m := m) (j := 0) hm (by decide); rw [Int.add_zero] at h; rw [h]; rfl)) (by decide) (by first | (simp [adc, inc, dlt, *]; done) | (simp [adc, inc, dlt, *]; omega) | (simp [adc, inc, dlt] at *; omega)) (by rfl) (by decide +kernel) (by decide) (c' := 2) (s' := 615) rfl rfl (by decide +kernel) (by decide +kernel) (fun σ3 hS3 => ?_)
  refine wpC_seg 1 (P := none) (ls' := [some (aR 9 m)]) (st' := [aR 9 m]) (σ' := σ3) rq_95 rfl True.intro (i' := 15) rfl ?_
  refine wpC_row rq_95 (r := (18 * m + 16)) (n := 24) (q := m) rfl rfl rfl (fun _ _ _ => rfl) rfl rfl (show _ = some (2, 18, 16, 7) from rfl) (by decide) (by decide) hS3 (by first | (simp [adc, inc, dlt, *]; done) | (simp [adc, inc, dlt, *]; omega) | (simp [adc, inc, dlt] at *; omega)) (by first | (simp [adc, inc, dlt, *]; done) | (simp [adc, inc, dlt, *]; omega) | (simp [adc, inc, dlt] at *; omega)) (by omega) (by unfold lay; simp) (by first | (rw [rowLen_18 hm (by decide)]; rfl) | (have h := rowLen_18 (m := m) (j := 0) hm (by decide); rw [Int.add_zero] at h; rw [h]; rfl)) (by decide) (by first | (simp [adc, inc, dlt, *]; done) | (simp [adc, inc, dlt, *]; omega) | (simp [adc, inc, dlt] at *; omega)) (by rfl) (by decide +kernel) (by decide) (c' := 4) (s' := 1230) rfl rfl (by decide +kernel) (by decide +kernel) (fun σ4 hS4 => ?_)
  refine wpC_vret rq_95 rfl rt_95 ⟨rfl, hS4.sub (fun C => ?_) (fun C r k h => ?_)⟩
  · show _ = _
    by_cases e0 : C = 7
    · subst e0; first | (simp [adc, inc, dlt]; done) | (simp [adc, inc, dlt]; omega)
    by_cases e1 : C = 13
    · subst e1; first | (simp [adc, inc, dlt]; done) | (simp [adc, inc, dlt]; omega)
    simp [adc, inc, dlt, e0, e1]
  · rcases h with h | h | h
    · exact Or.inl (by simp [addS, h])
    · obtain ⟨rfl, rfl⟩ := h
      by_cases hk2 : k = 2
      · subst hk2; exact Or.inl (by simp [addS])
      by_cases hk3 : k = 3
      · subst hk3; exact Or.inl (by simp [addS])
      exact Or.inr ⟨by decide, by unfold tgt; first | (simp [hk2, hk3]; done) | (simp [hk2, hk3]; omega) | (simp; omega)⟩
    · obtain ⟨rfl, h1, h2⟩ := h
      refine Or.inl ?_
      first | (simp only [addS]; omega) | (simp [addS]; omega)

theorem ic_relay {m : Int} (hS : St h0 σ cn S) (hm : 0 ≤ m ∧ m < 10) (hc : m < cn 4) (h7 : cn 7 = 18 * m + 17) (h13 : cn 13 = 18 * m + 17) : wpC 52 0 (entL 52 [aR 4 m]) [] σ 0 0 (aft h0 (adc cn [(7, 1), (13, 1)]) (fun C r k => S C r k ∨ (C = 4 ∧ r = m) ∨ (C = 7 ∧ 18 * m + 17 ≤ r ∧ r < 18 * m + 18))) := by
  show wpC 52 0 [some (aR 4 m)] [] σ 0 0 _
  refine wpC_seg 1 (P := none) (ls' := [some (aR 4 m)]) (st' := [aR 4 m]) (σ' := σ) rq_52 rfl True.intro (i' := 1) rfl ?_
  refine wpC_obj rq_52 rfl (by decide +kernel) (by decide +kernel) (by decide) ?_
  refine wpC_seg 1 (P := none) (ls' := [some (aR 4 m)]) (st' := [aR 4 m]) (σ' := σ) rq_52 rfl True.intro (i' := 3) rfl ?_
  refine wpC_seg 1 (P := none) (ls' := [some (aR 4 m)]) (st' := [aI (0), aR 4 m]) (σ' := σ) rq_52 rfl True.intro (i' := 4) rfl ?_
  refine wpC_puti (P := some ((0 : Int) = 0 ∨ (0 : Int) = 1)) rq_52 (v := 0) (C := 4) (f := 0) rfl rfl (by show _ ∨ _; decide) hS (by decide) (by first | (simp [adc, inc, dlt, *]; done) | (simp [adc, inc, dlt, *]; omega) | (simp [adc, inc, dlt] at *; omega)) (by rfl) (fun σ1 hS1 => ?_)
  refine wpC_seg 1 (P := none) (ls' := [some (aR 4 m)]) (st' := [aR 4 m]) (σ' := σ1) rq_52 rfl True.intro (i' := 6) rfl ?_
  refine wpC_seg 1 (P := none) (ls' := [some (aR 4 m)]) (st' := [aI (-1), aR 4 m]) (σ' := σ1) rq_52 rfl True.intro (i' := 7) rfl ?_
  refine wpC_puti (P := none) rq_52 (v := -1) (C := 4) (f := 1) rfl rfl True.intro hS1 (by decide) (by first | (simp [adc, inc, dlt, *]; done) | (simp [adc, inc, dlt, *]; omega) | (simp [adc, inc, dlt] at *; omega)) (by rfl) (fun σ2 hS2 => ?_)
  refine wpC_seg 1 (P := none) (ls' := [some (aR 4 m)]) (st' := [aR 4 m]) (σ' := σ2) rq_52 rfl True.intro (i' := 9) rfl ?_
  refine wpC_seg 1 (P := none) (ls' := [some (aR 4 m)]) (st' := [aI (-1), aR 4 m]) (σ' := σ2) rq_52 rfl True.intro (i' := 10) rfl ?_
  refine wpC_puti (P := none) rq_52 (v := -1) (C := 4) (f := 2) rfl rfl True.intro hS2 (by decide) (by first | (simp [adc, inc, dlt, *]; done) | (simp [adc, inc, dlt, *]; omega) | (simp [adc, inc, dlt] at *; omega)) (by rfl) (fun σ3 hS3 => ?_)
  refine wpC_seg 1 (P := none) (ls' := [some (aR 4 m)]) (st' := [aR 4 m]) (σ' := σ3) rq_52 rfl True.intro (i' := 12) rfl ?_
  refine wpC_seg 1 (P := none) (ls' := [some (aR 4 m)]) (st' := [aI (0), aR 4 m]) (σ' := σ3) rq_52 rfl True.intro (i' := 13) rfl ?_
  refine wpC_puti (P := none) rq_52 (v := 0) (C := 4) (f := 3) rfl rfl True.intro hS3 (by decide) (by first | (simp [adc, inc, dlt, *]; done) | (simp [adc, inc, dlt, *]; omega) | (simp [adc, inc, dlt] at *; omega)) (by rfl) (fun σ4 hS4 => ?_)
  refine wpC_seg 1 (P := none) (ls' := [some (aR 4 m)]) (st' := [aR 4 m]) (σ' := σ4) rq_52 rfl True.intro (i' := 15) rfl ?_
  refine wpC_seg 1 (P := none) (ls' := [some (aR 4 m)]) (st' := [aI (0), aR 4 m]) (σ' := σ4) rq_52 rfl True.intro (i' := 16) rfl ?_
  refine wpC_puti (P := none) rq_52 (v := 0) (C := 4) (f := 4) rfl rfl True.intro hS4 (by decide) (by first | (simp [adc, inc, dlt, *]; done) | (simp [adc, inc, dlt, *]; omega) | (simp [adc, inc, dlt] at *; omega)) (by rfl) (fun σ5 hS5 => ?_)
  refine wpC_seg 1 (P := none) (ls' := [some (aR 4 m)]) (st' := [aR 4 m]) (σ' := σ5) rq_52 rfl True.intro (i' := 18) rfl ?_
  refine wpC_seg 1 (P := none) (ls' := [some (aR 4 m)]) (st' := [aI (0), aR 4 m]) (σ' := σ5) rq_52 rfl True.intro (i' := 19) rfl ?_
  refine wpC_puti (P := none) rq_52 (v := 0) (C := 4) (f := 5) rfl rfl True.intro hS5 (by decide) (by first | (simp [adc, inc, dlt, *]; done) | (simp [adc, inc, dlt, *]; omega) | (simp [adc, inc, dlt] at *; omega)) (by rfl) (fun σ6 hS6 => ?_)
  refine wpC_seg 1 (P := none) (ls' := [some (aR 4 m)]) (st' := [aR 4 m]) (σ' := σ6) rq_52 rfl True.intro (i' := 21) rfl ?_
  refine wpC_seg 1 (P := none) (ls' := [some (aR 4 m)]) (st' := [aI (-1), aR 4 m]) (σ' := σ6) rq_52 rfl True.intro (i' := 22) rfl ?_
  refine wpC_puti (P := none) rq_52 (v := -1) (C := 4) (f := 6) rfl rfl True.intro hS6 (by decide) (by first | (simp [adc, inc, dlt, *]; done) | (simp [adc, inc, dlt, *]; omega) | (simp [adc, inc, dlt] at *; omega)) (by rfl) (fun σ7 hS7 => ?_)
  refine wpC_seg 1 (P := none) (ls' := [some (aR 4 m)]) (st' := [aR 4 m]) (σ' := σ7) rq_52 rfl True.intro (i' := 24) rfl ?_
  refine wpC_seg 1 (P := none) (ls' := [some (aR 4 m)]) (st' := [aI (0), aR 4 m]) (σ' := σ7) rq_52 rfl True.intro (i' := 25) rfl ?_
  refine wpC_puti (P := some ((0 : Int) = 0 ∨ (0 : Int) = 1)) rq_52 (v := 0) (C := 4) (f := 7) rfl rfl (by show _ ∨ _; decide) hS7 (by decide) (by first | (simp [adc, inc, dlt, *]; done) | (simp [adc, inc, dlt, *]; omega) | (simp [adc, inc, dlt] at *; omega)) (by rfl) (fun σ8 hS8 => ?_)
  refine wpC_seg 1 (P := none) (ls' := [some (aR 4 m)]) (st' := [aR 4 m]) (σ' := σ8) rq_52 rfl True.intro (i' := 27) rfl ?_
  refine wpC_row rq_52 (r := (18 * m + 17)) (n := 6) (q := m) rfl rfl rfl (fun _ _ _ => rfl) rfl rfl (show _ = some (2, 18, 17, 7) from rfl) (by decide) (by decide) hS8 (by first | (simp [adc, inc, dlt, *]; done) | (simp [adc, inc, dlt, *]; omega) | (simp [adc, inc, dlt] at *; omega)) (by first | (simp [adc, inc, dlt, *]; done) | (simp [adc, inc, dlt, *]; omega) | (simp [adc, inc, dlt] at *; omega)) (by omega) (by unfold lay; simp) (by first | (rw [rowLen_18 hm (by decide)]; rfl) | (have h := rowLen_18 (m := m) (j := 0) hm (by decide); rw [Int.add_zero] at h; rw [h]; rfl)) (by decide) (by first | (simp [adc, inc, dlt, *]; done) | (simp [adc, inc, dlt, *]; omega) | (simp [adc, inc, dlt] at *; omega)) (by rfl) (by decide +kernel) (by decide) (c' := 2) (s' := 615) rfl rfl (by decide +kernel) (by decide +kernel) (fun σ9 hS9 => ?_)
  refine wpC_vret rq_52 rfl rt_52 ⟨rfl, hS9.sub (fun C => ?_) (fun C r k h => ?_)⟩
  · show _ = _
    by_cases e0 : C = 7
    · subst e0; first | (simp [adc, inc, dlt]; done) | (simp [adc, inc, dlt]; omega)
    by_cases e1 : C = 13
    · subst e1; first | (simp [adc, inc, dlt]; done) | (simp [adc, inc, dlt]; omega)
    simp [adc, inc, dlt, e0, e1]
  · rcases h with h | h | h
    · exact Or.inl (by simp [addS, h])
    · obtain ⟨rfl, rfl⟩ := h
      by_cases hk1 : k = 1
      · subst hk1; exact Or.inl (by simp [addS])
      by_cases hk2 : k = 2
      · subst hk2; exact Or.inl (by simp [addS])
      by_cases hk6 : k = 6
      · subst hk6; exact Or.inl (by simp [addS])
      by_cases hk8 : k = 8
      · subst hk8; exact Or.inl (by simp [addS])
      exact Or.inr ⟨by decide, by unfold tgt; first | (simp [hk1, hk2, hk6, hk8]; done) | (simp [hk1, hk2, hk6, hk8]; omega) | (simp; omega)⟩
    · obtain ⟨rfl, h1, h2⟩ := h
      refine Or.inl ?_
      first | (simp only [addS]; omega) | (simp [addS]; omega)

theorem ic_meet {m : Int} (hS : St h0 σ cn S) (hm : 0 ≤ m ∧ m < 10) (hc : m < cn 2) (h7 : cn 7 = 18 * m) (h13 : cn 13 = 18 * m) (h6 : cn 6 = m) (h3 : cn 3 = m) (hb : cn 0 = m) (h9 : cn 9 = m) (h4 : cn 4 = m) : wpC 24 0 (entL 24 [aR 2 m]) [] σ 0 0 (aft h0 (adc cn [(7, 18), (13, 18), (6, 1), (3, 1), (0, 1), (9, 1), (4, 1)]) (fun C r k => S C r k ∨ (C = 2 ∧ r = m) ∨ (C = 6 ∧ r = m) ∨ (C = 3 ∧ r = m) ∨ (C = 0 ∧ r = m) ∨ (C = 9 ∧ r = m) ∨ (C = 4 ∧ r = m) ∨ (C = 7 ∧ 18 * m ≤ r ∧ r < 18 * m + 18))) := by
  show wpC 24 0 [some (aR 2 m)] [] σ 0 0 _
  refine wpC_seg 1 (P := none) (ls' := [some (aR 2 m)]) (st' := [aR 2 m]) (σ' := σ) rq_24 rfl True.intro (i' := 1) rfl ?_
  refine wpC_obj rq_24 rfl (by decide +kernel) (by decide +kernel) (by decide) ?_
  refine wpC_seg 1 (P := none) (ls' := [some (aR 2 m)]) (st' := [aR 2 m]) (σ' := σ) rq_24 rfl True.intro (i' := 3) rfl ?_
  refine wpC_seg 1 (P := none) (ls' := [some (aR 2 m)]) (st' := [aI (0), aR 2 m]) (σ' := σ) rq_24 rfl True.intro (i' := 4) rfl ?_
  refine wpC_puti (P := none) rq_24 (v := 0) (C := 2) (f := 0) rfl rfl True.intro hS (by decide) (by first | (simp [adc, inc, dlt, *]; done) | (simp [adc, inc, dlt, *]; omega) | (simp [adc, inc, dlt] at *; omega)) (by rfl) (fun σ1 hS1 => ?_)
  refine wpC_seg 1 (P := none) (ls' := [some (aR 2 m)]) (st' := [aR 2 m]) (σ' := σ1) rq_24 rfl True.intro (i' := 6) rfl ?_
  refine wpC_seg 1 (P := none) (ls' := [some (aR 2 m)]) (st' := [aI (1), aR 2 m]) (σ' := σ1) rq_24 rfl True.intro (i' := 7) rfl ?_
  refine wpC_puti (P := none) rq_24 (v := 1) (C := 2) (f := 1) rfl rfl True.intro hS1 (by decide) (by first | (simp [adc, inc, dlt, *]; done) | (simp [adc, inc, dlt, *]; omega) | (simp [adc, inc, dlt] at *; omega)) (by rfl) (fun σ2 hS2 => ?_)
  refine wpC_seg 1 (P := none) (ls' := [some (aR 2 m)]) (st' := [aR 2 m]) (σ' := σ2) rq_24 rfl True.intro (i' := 9) rfl ?_
  refine wpC_seg 1 (P := none) (ls' := [some (aR 2 m)]) (st' := [aI (-1), aR 2 m]) (σ' := σ2) rq_24 rfl True.intro (i' := 10) rfl ?_
  refine wpC_puti (P := none) rq_24 (v := -1) (C := 2) (f := 2) rfl rfl True.intro hS2 (by decide) (by first | (simp [adc, inc, dlt, *]; done) | (simp [adc, inc, dlt, *]; omega) | (simp [adc, inc, dlt] at *; omega)) (by rfl) (fun σ3 hS3 => ?_)
  refine wpC_seg 1 (P := none) (ls' := [some (aR 2 m)]) (st' := [aR 2 m]) (σ' := σ3) rq_24 rfl True.intro (i' := 12) rfl ?_
  refine wpC_row rq_24 (r := (18 * m)) (n := 2) (q := m) rfl rfl rfl (fun _ _ _ => rfl) rfl rfl (show _ = some (2, 18, 0, 7) from rfl) (by decide) (by decide) hS3 (by first | (simp [adc, inc, dlt, *]; done) | (simp [adc, inc, dlt, *]; omega) | (simp [adc, inc, dlt] at *; omega)) (by first | (simp [adc, inc, dlt, *]; done) | (simp [adc, inc, dlt, *]; omega) | (simp [adc, inc, dlt] at *; omega)) (by omega) (by unfold lay; simp) (by first | (rw [rowLen_18 hm (by decide)]; rfl) | (have h := rowLen_18 (m := m) (j := 0) hm (by decide); rw [Int.add_zero] at h; rw [h]; rfl)) (by decide) (by first | (simp [adc, inc, dlt, *]; done) | (simp [adc, inc, dlt, *]; omega) | (simp [adc, inc, dlt] at *; omega)) (by rfl) (by decide +kernel) (by decide) (c' := 2) (s' := 615) rfl rfl (by decide +kernel) (by decide +kernel) (fun σ4 hS4 => ?_)
  refine wpC_seg 1 (P := none) (ls' := [some (aR 2 m)]) (st' := [aR 2 m]) (σ' := σ4) rq_24 rfl True.intro (i' := 18) rfl ?_
  refine wpC_sub rq_24 (r := m) (q := m) rfl rfl rfl (by decide) rfl (show _ = some (2, 1, 0, 6) from rfl) (by decide) (by decide) hS4 (by first | (simp [adc, inc, dlt, *]; done) | (simp [adc, inc, dlt, *]; omega) | (simp [adc, inc, dlt] at *; omega)) (by unfold lay; simp) (by rfl) (by decide) (cv := 3) (sv := 622) rfl rfl (by decide +kernel) (c' := 15) (s' := 4312) rfl rfl (by decide +kernel) (by decide +kernel) (fun σ' hS' => ic_roster (m := m) hS' hm (by first | (simp [adc, inc, dlt, *]; done) | (simp [adc, inc, dlt, *]; omega) | (simp [adc, inc, dlt] at *; omega)) (by first | (simp [adc, inc, dlt, *]; done) | (simp [adc, inc, dlt, *]; omega) | (simp [adc, inc, dlt] at *; omega)) (by first | (simp [adc, inc, dlt, *]; done) | (simp [adc, inc, dlt, *]; omega) | (simp [adc, inc, dlt] at *; omega))) (by first | (simp [adc, inc, dlt, *]; done) | (simp [adc, inc, dlt, *]; omega) | (simp [adc, inc, dlt] at *; omega)) (fun σ5 hS5 => ?_)
  refine wpC_seg 1 (P := none) (ls' := [some (aR 2 m)]) (st' := [aR 2 m]) (σ' := σ5) rq_24 rfl True.intro (i' := 23) rfl ?_
  refine wpC_sub rq_24 (r := m) (q := m) rfl rfl rfl (by decide) rfl (show _ = some (2, 1, 0, 3) from rfl) (by decide) (by decide) hS5 (by first | (simp [adc, inc, dlt, *]; done) | (simp [adc, inc, dlt, *]; omega) | (simp [adc, inc, dlt] at *; omega)) (by unfold lay; simp) (by rfl) (by decide) (cv := 16) (sv := 4315) rfl rfl (by decide +kernel) (c' := 20) (s' := 5545) rfl rfl (by decide +kernel) (by decide +kernel) (fun σ' hS' => ic_pools (m := m) hS' hm (by first | (simp [adc, inc, dlt, *]; done) | (simp [adc, inc, dlt, *]; omega) | (simp [adc, inc, dlt] at *; omega)) (by first | (simp [adc, inc, dlt, *]; done) | (simp [adc, inc, dlt, *]; omega) | (simp [adc, inc, dlt] at *; omega)) (by first | (simp [adc, inc, dlt, *]; done) | (simp [adc, inc, dlt, *]; omega) | (simp [adc, inc, dlt] at *; omega))) (by first | (simp [adc, inc, dlt, *]; done) | (simp [adc, inc, dlt, *]; omega) | (simp [adc, inc, dlt] at *; omega)) (fun σ6 hS6 => ?_)
  refine wpC_seg 1 (P := none) (ls' := [some (aR 2 m)]) (st' := [aR 2 m]) (σ' := σ6) rq_24 rfl True.intro (i' := 28) rfl ?_
  refine wpC_sub rq_24 (r := m) (q := m) rfl rfl rfl (by decide) rfl (show _ = some (2, 1, 0, 0) from rfl) (by decide) (by decide) hS6 (by first | (simp [adc, inc, dlt, *]; done) | (simp [adc, inc, dlt, *]; omega) | (simp [adc, inc, dlt] at *; omega)) (by unfold lay; simp) (by rfl) (by decide) (cv := 21) (sv := 5553) rfl rfl (by decide +kernel) (c' := 33) (s' := 9243) rfl rfl (by decide +kernel) (by decide +kernel) (fun σ' hS' => ic_bouts (m := m) hS' hm (by first | (simp [adc, inc, dlt, *]; done) | (simp [adc, inc, dlt, *]; omega) | (simp [adc, inc, dlt] at *; omega)) (by first | (simp [adc, inc, dlt, *]; done) | (simp [adc, inc, dlt, *]; omega) | (simp [adc, inc, dlt] at *; omega)) (by first | (simp [adc, inc, dlt, *]; done) | (simp [adc, inc, dlt, *]; omega) | (simp [adc, inc, dlt] at *; omega))) (by first | (simp [adc, inc, dlt, *]; done) | (simp [adc, inc, dlt, *]; omega) | (simp [adc, inc, dlt] at *; omega)) (fun σ7 hS7 => ?_)
  refine wpC_seg 1 (P := none) (ls' := [some (aR 2 m)]) (st' := [aR 2 m]) (σ' := σ7) rq_24 rfl True.intro (i' := 33) rfl ?_
  refine wpC_sub rq_24 (r := m) (q := m) rfl rfl rfl (by decide) rfl (show _ = some (2, 1, 0, 9) from rfl) (by decide) (by decide) hS7 (by first | (simp [adc, inc, dlt, *]; done) | (simp [adc, inc, dlt, *]; omega) | (simp [adc, inc, dlt] at *; omega)) (by unfold lay; simp) (by rfl) (by decide) (cv := 34) (sv := 9247) rfl rfl (by decide +kernel) (c' := 38) (s' := 10477) rfl rfl (by decide +kernel) (by decide +kernel) (fun σ' hS' => ic_table (m := m) hS' hm (by first | (simp [adc, inc, dlt, *]; done) | (simp [adc, inc, dlt, *]; omega) | (simp [adc, inc, dlt] at *; omega)) (by first | (simp [adc, inc, dlt, *]; done) | (simp [adc, inc, dlt, *]; omega) | (simp [adc, inc, dlt] at *; omega)) (by first | (simp [adc, inc, dlt, *]; done) | (simp [adc, inc, dlt, *]; omega) | (simp [adc, inc, dlt] at *; omega))) (by first | (simp [adc, inc, dlt, *]; done) | (simp [adc, inc, dlt, *]; omega) | (simp [adc, inc, dlt] at *; omega)) (fun σ8 hS8 => ?_)
  refine wpC_seg 1 (P := none) (ls' := [some (aR 2 m)]) (st' := [aR 2 m]) (σ' := σ8) rq_24 rfl True.intro (i' := 38) rfl ?_
  refine wpC_sub rq_24 (r := m) (q := m) rfl rfl rfl (by decide) rfl (show _ = some (2, 1, 0, 4) from rfl) (by decide) (by decide) hS8 (by first | (simp [adc, inc, dlt, *]; done) | (simp [adc, inc, dlt, *]; omega) | (simp [adc, inc, dlt] at *; omega)) (by unfold lay; simp) (by rfl) (by decide) (cv := 39) (sv := 10486) rfl rfl (by decide +kernel) (c' := 41) (s' := 11101) rfl rfl (by decide +kernel) (by decide +kernel) (fun σ' hS' => ic_relay (m := m) hS' hm (by first | (simp [adc, inc, dlt, *]; done) | (simp [adc, inc, dlt, *]; omega) | (simp [adc, inc, dlt] at *; omega)) (by first | (simp [adc, inc, dlt, *]; done) | (simp [adc, inc, dlt, *]; omega) | (simp [adc, inc, dlt] at *; omega)) (by first | (simp [adc, inc, dlt, *]; done) | (simp [adc, inc, dlt, *]; omega) | (simp [adc, inc, dlt] at *; omega))) (by first | (simp [adc, inc, dlt, *]; done) | (simp [adc, inc, dlt, *]; omega) | (simp [adc, inc, dlt] at *; omega)) (fun σ9 hS9 => ?_)
  refine wpC_vret rq_24 rfl rt_24 ⟨rfl, hS9.sub (fun C => ?_) (fun C r k h => ?_)⟩
  · show _ = _
    by_cases e0 : C = 0
    · subst e0; first | (simp [adc, inc, dlt]; done) | (simp [adc, inc, dlt]; omega)
    by_cases e1 : C = 3
    · subst e1; first | (simp [adc, inc, dlt]; done) | (simp [adc, inc, dlt]; omega)
    by_cases e2 : C = 4
    · subst e2; first | (simp [adc, inc, dlt]; done) | (simp [adc, inc, dlt]; omega)
    by_cases e3 : C = 6
    · subst e3; first | (simp [adc, inc, dlt]; done) | (simp [adc, inc, dlt]; omega)
    by_cases e4 : C = 7
    · subst e4; first | (simp [adc, inc, dlt]; done) | (simp [adc, inc, dlt]; omega)
    by_cases e5 : C = 9
    · subst e5; first | (simp [adc, inc, dlt]; done) | (simp [adc, inc, dlt]; omega)
    by_cases e6 : C = 13
    · subst e6; first | (simp [adc, inc, dlt]; done) | (simp [adc, inc, dlt]; omega)
    simp [adc, inc, dlt, e0, e1, e2, e3, e4, e5, e6]
  · rcases h with h | h | h | h | h | h | h | h
    · exact Or.inl (by simp [addS, h])
    · obtain ⟨rfl, rfl⟩ := h
      by_cases hk1 : k = 1
      · subst hk1; exact Or.inl (by simp [addS])
      by_cases hk2 : k = 2
      · subst hk2; exact Or.inl (by simp [addS])
      by_cases hk3 : k = 3
      · subst hk3; exact Or.inl (by simp [addS])
      by_cases hk4 : k = 4
      · subst hk4; exact Or.inl (by simp [addS])
      by_cases hk5 : k = 5
      · subst hk5; exact Or.inl (by simp [addS])
      by_cases hk6 : k = 6
      · subst hk6; exact Or.inl (by simp [addS])
      by_cases hk7 : k = 7
      · subst hk7; exact Or.inl (by simp [addS])
      by_cases hk8 : k = 8
      · subst hk8; exact Or.inl (by simp [addS])
      exact Or.inr ⟨by decide, by unfold tgt; first | (simp [hk1, hk2, hk3, hk4, hk5, hk6, hk7, hk8]; done) | (simp [hk1, hk2, hk3, hk4, hk5, hk6, hk7, hk8]; omega) | (simp; omega)⟩
    · exact Or.inl (by simp [addS, h])
    · exact Or.inl (by simp [addS, h])
    · exact Or.inl (by simp [addS, h])
    · exact Or.inl (by simp [addS, h])
    · exact Or.inl (by simp [addS, h])
    · obtain ⟨rfl, h1, h2⟩ := h
      refine Or.inl ?_
      first | (simp only [addS]; omega) | (simp [addS]; omega)

theorem ic_standing (hS : St h0 σ cn S) (hc : 0 < cn 8) (h7 : cn 7 = 180) (h13 : cn 13 = 180) : wpC 83 0 (entL 83 [aR 8 0]) [] σ 0 0 (aft h0 (adc cn [(7, 5), (13, 5)]) (fun C r k => S C r k ∨ (C = 8 ∧ r = 0) ∨ (C = 7 ∧ 180 ≤ r ∧ r < 185))) := by
  show wpC 83 0 [some (aR 8 0)] [] σ 0 0 _
  refine wpC_seg 1 (P := none) (ls' := [some (aR 8 0)]) (st' := [aR 8 0]) (σ' := σ) rq_83 rfl True.intro (i' := 1) rfl ?_
  refine wpC_obj rq_83 rfl (by decide +kernel) (by decide +kernel) (by decide) ?_
  refine wpC_seg 1 (P := none) (ls' := [some (aR 8 0)]) (st' := [aR 8 0]) (σ' := σ) rq_83 rfl True.intro (i' := 3) rfl ?_
  refine wpC_seg 1 (P := none) (ls' := [some (aR 8 0)]) (st' := [aI (0), aR 8 0]) (σ' := σ) rq_83 rfl True.intro (i' := 4) rfl ?_
  refine wpC_puti (P := none) rq_83 (v := 0) (C := 8) (f := 0) rfl rfl True.intro hS (by decide) (by first | (simp [adc, inc, dlt, *]; done) | (simp [adc, inc, dlt, *]; omega) | (simp [adc, inc, dlt] at *; omega)) (by rfl) (fun σ1 hS1 => ?_)
  refine wpC_seg 1 (P := none) (ls' := [some (aR 8 0)]) (st' := [aR 8 0]) (σ' := σ1) rq_83 rfl True.intro (i' := 6) rfl ?_
  refine wpC_row rq_83 (r := 180) (n := 24) (q := 0) rfl rfl rfl (fun _ _ _ => rfl) rfl rfl (show _ = some (2, 1, 180, 7) from rfl) (by decide) (by decide) hS1 (by first | (simp [adc, inc, dlt, *]; done) | (simp [adc, inc, dlt, *]; omega) | (simp [adc, inc, dlt] at *; omega)) (by first | (simp [adc, inc, dlt, *]; done) | (simp [adc, inc, dlt, *]; omega) | (simp [adc, inc, dlt] at *; omega)) (by omega) (by unfold lay; simp) (by rfl) (by decide) (by first | (simp [adc, inc, dlt, *]; done) | (simp [adc, inc, dlt, *]; omega) | (simp [adc, inc, dlt] at *; omega)) (by rfl) (by decide +kernel) (by decide) (c' := 2) (s' := 615) rfl rfl (by decide +kernel) (by decide +kernel) (fun σ2 hS2 => ?_)
  refine wpC_seg 1 (P := none) (ls' := [some (aR 8 0)]) (st' := [aR 8 0]) (σ' := σ2) rq_83 rfl True.intro (i' := 12) rfl ?_
  refine wpC_row rq_83 (r := 181) (n := 24) (q := 0) rfl rfl rfl (fun _ _ _ => rfl) rfl rfl (show _ = some (2, 1, 181, 7) from rfl) (by decide) (by decide) hS2 (by first | (simp [adc, inc, dlt, *]; done) | (simp [adc, inc, dlt, *]; omega) | (simp [adc, inc, dlt] at *; omega)) (by first | (simp [adc, inc, dlt, *]; done) | (simp [adc, inc, dlt, *]; omega) | (simp [adc, inc, dlt] at *; omega)) (by omega) (by unfold lay; simp) (by rfl) (by decide) (by first | (simp [adc, inc, dlt, *]; done) | (simp [adc, inc, dlt, *]; omega) | (simp [adc, inc, dlt] at *; omega)) (by rfl) (by decide +kernel) (by decide) (c' := 4) (s' := 1230) rfl rfl (by decide +kernel) (by decide +kernel) (fun σ3 hS3 => ?_)
  refine wpC_seg 1 (P := none) (ls' := [some (aR 8 0)]) (st' := [aR 8 0]) (σ' := σ3) rq_83 rfl True.intro (i' := 18) rfl ?_
  refine wpC_row rq_83 (r := 182) (n := 24) (q := 0) rfl rfl rfl (fun _ _ _ => rfl) rfl rfl (show _ = some (2, 1, 182, 7) from rfl) (by decide) (by decide) hS3 (by first | (simp [adc, inc, dlt, *]; done) | (simp [adc, inc, dlt, *]; omega) | (simp [adc, inc, dlt] at *; omega)) (by first | (simp [adc, inc, dlt, *]; done) | (simp [adc, inc, dlt, *]; omega) | (simp [adc, inc, dlt] at *; omega)) (by omega) (by unfold lay; simp) (by rfl) (by decide) (by first | (simp [adc, inc, dlt, *]; done) | (simp [adc, inc, dlt, *]; omega) | (simp [adc, inc, dlt] at *; omega)) (by rfl) (by decide +kernel) (by decide) (c' := 6) (s' := 1845) rfl rfl (by decide +kernel) (by decide +kernel) (fun σ4 hS4 => ?_)
  refine wpC_seg 1 (P := none) (ls' := [some (aR 8 0)]) (st' := [aR 8 0]) (σ' := σ4) rq_83 rfl True.intro (i' := 24) rfl ?_
  refine wpC_row rq_83 (r := 183) (n := 24) (q := 0) rfl rfl rfl (fun _ _ _ => rfl) rfl rfl (show _ = some (2, 1, 183, 7) from rfl) (by decide) (by decide) hS4 (by first | (simp [adc, inc, dlt, *]; done) | (simp [adc, inc, dlt, *]; omega) | (simp [adc, inc, dlt] at *; omega)) (by first | (simp [adc, inc, dlt, *]; done) | (simp [adc, inc, dlt, *]; omega) | (simp [adc, inc, dlt] at *; omega)) (by omega) (by unfold lay; simp) (by rfl) (by decide) (by first | (simp [adc, inc, dlt, *]; done) | (simp [adc, inc, dlt, *]; omega) | (simp [adc, inc, dlt] at *; omega)) (by rfl) (by decide +kernel) (by decide) (c' := 8) (s' := 2460) rfl rfl (by decide +kernel) (by decide +kernel) (fun σ5 hS5 => ?_)
  refine wpC_seg 1 (P := none) (ls' := [some (aR 8 0)]) (st' := [aR 8 0]) (σ' := σ5) rq_83 rfl True.intro (i' := 30) rfl ?_
  refine wpC_row rq_83 (r := 184) (n := 24) (q := 0) rfl rfl rfl (fun _ _ _ => rfl) rfl rfl (show _ = some (2, 1, 184, 7) from rfl) (by decide) (by decide) hS5 (by first | (simp [adc, inc, dlt, *]; done) | (simp [adc, inc, dlt, *]; omega) | (simp [adc, inc, dlt] at *; omega)) (by first | (simp [adc, inc, dlt, *]; done) | (simp [adc, inc, dlt, *]; omega) | (simp [adc, inc, dlt] at *; omega)) (by omega) (by unfold lay; simp) (by rfl) (by decide) (by first | (simp [adc, inc, dlt, *]; done) | (simp [adc, inc, dlt, *]; omega) | (simp [adc, inc, dlt] at *; omega)) (by rfl) (by decide +kernel) (by decide) (c' := 10) (s' := 3075) rfl rfl (by decide +kernel) (by decide +kernel) (fun σ6 hS6 => ?_)
  refine wpC_vret rq_83 rfl rt_83 ⟨rfl, hS6.sub (fun C => ?_) (fun C r k h => ?_)⟩
  · show _ = _
    by_cases e0 : C = 7
    · subst e0; first | (simp [adc, inc, dlt]; done) | (simp [adc, inc, dlt]; omega)
    by_cases e1 : C = 13
    · subst e1; first | (simp [adc, inc, dlt]; done) | (simp [adc, inc, dlt]; omega)
    simp [adc, inc, dlt, e0, e1]
  · rcases h with h | h | h
    · exact Or.inl (by simp [addS, h])
    · obtain ⟨rfl, rfl⟩ := h
      by_cases hk1 : k = 1
      · subst hk1; exact Or.inl (by simp [addS])
      by_cases hk2 : k = 2
      · subst hk2; exact Or.inl (by simp [addS])
      by_cases hk3 : k = 3
      · subst hk3; exact Or.inl (by simp [addS])
      by_cases hk4 : k = 4
      · subst hk4; exact Or.inl (by simp [addS])
      by_cases hk5 : k = 5
      · subst hk5; exact Or.inl (by simp [addS])
      exact Or.inr ⟨by decide, by unfold tgt; first | (simp [hk1, hk2, hk3, hk4, hk5]; done) | (simp [hk1, hk2, hk3, hk4, hk5]; omega) | (simp; omega)⟩
    · obtain ⟨rfl, h1, h2⟩ := h
      refine Or.inl ?_
      first | (simp only [addS]; omega) | (simp [addS]; omega)

theorem ic_text (hS : St h0 σ cn S) (hc : 0 < cn 5) (h7 : cn 7 = 185) (h13 : cn 13 = 185) (h12 : cn 12 = 0) : wpC 61 0 (entL 61 [aR 5 0]) [] σ 0 0 (aft h0 (adc cn [(7, 1), (13, 1), (12, 1)]) (fun C r k => S C r k ∨ (C = 5 ∧ r = 0) ∨ (C = 7 ∧ 185 ≤ r ∧ r < 186))) := by
  show wpC 61 0 [some (aR 5 0)] [] σ 0 0 _
  refine wpC_seg 1 (P := none) (ls' := [some (aR 5 0)]) (st' := [aR 5 0]) (σ' := σ) rq_61 rfl True.intro (i' := 1) rfl ?_
  refine wpC_obj rq_61 rfl (by decide +kernel) (by decide +kernel) (by decide) ?_
  refine wpC_seg 1 (P := none) (ls' := [some (aR 5 0)]) (st' := [aR 5 0]) (σ' := σ) rq_61 rfl True.intro (i' := 3) rfl ?_
  refine wpC_seg 1 (P := none) (ls' := [some (aR 5 0)]) (st' := [aI 60, aR 5 0]) (σ' := σ) rq_61 rfl True.intro (i' := 4) rfl ?_
  refine wpC_newa rq_61 (C := 12) (v := 0) rfl (by decide) hS (by first | (simp [adc, inc, dlt, *]; done) | (simp [adc, inc, dlt, *]; omega) | (simp [adc, inc, dlt] at *; omega)) (by decide) (by decide +kernel) (by decide +kernel) (c' := 1) (s' := 60) rfl rfl (fun σ1 hS1 => ?_)
  refine wpC_putq rq_61 (C := 5) (f := 0) rfl (show _ = some (2, 1, 0, 12) from rfl) (by unfold lay; simp) hS1 (by decide) (by first | (simp [adc, inc, dlt, *]; done) | (simp [adc, inc, dlt, *]; omega) | (simp [adc, inc, dlt] at *; omega)) (by rfl) (fun σ2 hS2 => ?_)
  refine wpC_seg 1 (P := none) (ls' := [some (aR 5 0)]) (st' := [aR 5 0]) (σ' := σ2) rq_61 rfl True.intro (i' := 7) rfl ?_
  refine wpC_seg 1 (P := none) (ls' := [some (aR 5 0)]) (st' := [aI (0), aR 5 0]) (σ' := σ2) rq_61 rfl True.intro (i' := 8) rfl ?_
  refine wpC_puti (P := none) rq_61 (v := 0) (C := 5) (f := 1) rfl rfl True.intro hS2 (by decide) (by first | (simp [adc, inc, dlt, *]; done) | (simp [adc, inc, dlt, *]; omega) | (simp [adc, inc, dlt] at *; omega)) (by rfl) (fun σ3 hS3 => ?_)
  refine wpC_seg 1 (P := none) (ls' := [some (aR 5 0)]) (st' := [aR 5 0]) (σ' := σ3) rq_61 rfl True.intro (i' := 10) rfl ?_
  refine wpC_seg 1 (P := none) (ls' := [some (aR 5 0)]) (st' := [aI (-1), aR 5 0]) (σ' := σ3) rq_61 rfl True.intro (i' := 11) rfl ?_
  refine wpC_puti (P := none) rq_61 (v := -1) (C := 5) (f := 2) rfl rfl True.intro hS3 (by decide) (by first | (simp [adc, inc, dlt, *]; done) | (simp [adc, inc, dlt, *]; omega) | (simp [adc, inc, dlt] at *; omega)) (by rfl) (fun σ4 hS4 => ?_)
  refine wpC_seg 1 (P := none) (ls' := [some (aR 5 0)]) (st' := [aR 5 0]) (σ' := σ4) rq_61 rfl True.intro (i' := 13) rfl ?_
  refine wpC_row rq_61 (r := 185) (n := 44) (q := 0) rfl rfl rfl (fun _ _ _ => rfl) rfl rfl (show _ = some (2, 1, 185, 7) from rfl) (by decide) (by decide) hS4 (by first | (simp [adc, inc, dlt, *]; done) | (simp [adc, inc, dlt, *]; omega) | (simp [adc, inc, dlt] at *; omega)) (by first | (simp [adc, inc, dlt, *]; done) | (simp [adc, inc, dlt, *]; omega) | (simp [adc, inc, dlt] at *; omega)) (by omega) (by unfold lay; simp) (by rfl) (by decide) (by first | (simp [adc, inc, dlt, *]; done) | (simp [adc, inc, dlt, *]; omega) | (simp [adc, inc, dlt] at *; omega)) (by rfl) (by decide +kernel) (by decide) (c' := 3) (s' := 675) rfl rfl (by decide +kernel) (by decide +kernel) (fun σ5 hS5 => ?_)
  refine wpC_seg 1 (P := none) (ls' := [some (aR 5 0)]) (st' := [aR 5 0]) (σ' := σ5) rq_61 rfl True.intro (i' := 19) rfl ?_
  refine wpC_seg 1 (P := none) (ls' := [some (aR 5 0)]) (st' := [aI (0), aR 5 0]) (σ' := σ5) rq_61 rfl True.intro (i' := 20) rfl ?_
  refine wpC_puti (P := none) rq_61 (v := 0) (C := 5) (f := 4) rfl rfl True.intro hS5 (by decide) (by first | (simp [adc, inc, dlt, *]; done) | (simp [adc, inc, dlt, *]; omega) | (simp [adc, inc, dlt] at *; omega)) (by rfl) (fun σ6 hS6 => ?_)
  refine wpC_seg 1 (P := none) (ls' := [some (aR 5 0)]) (st' := [aR 5 0]) (σ' := σ6) rq_61 rfl True.intro (i' := 22) rfl ?_
  refine wpC_seg 1 (P := none) (ls' := [some (aR 5 0)]) (st' := [aI (0), aR 5 0]) (σ' := σ6) rq_61 rfl True.intro (i' := 23) rfl ?_
  refine wpC_puti (P := none) rq_61 (v := 0) (C := 5) (f := 5) rfl rfl True.intro hS6 (by decide) (by first | (simp [adc, inc, dlt, *]; done) | (simp [adc, inc, dlt, *]; omega) | (simp [adc, inc, dlt] at *; omega)) (by rfl) (fun σ7 hS7 => ?_)
  refine wpC_seg 1 (P := none) (ls' := [some (aR 5 0)]) (st' := [aR 5 0]) (σ' := σ7) rq_61 rfl True.intro (i' := 25) rfl ?_
  refine wpC_seg 1 (P := none) (ls' := [some (aR 5 0)]) (st' := [aI (0), aR 5 0]) (σ' := σ7) rq_61 rfl True.intro (i' := 26) rfl ?_
  refine wpC_puti (P := none) rq_61 (v := 0) (C := 5) (f := 6) rfl rfl True.intro hS7 (by decide) (by first | (simp [adc, inc, dlt, *]; done) | (simp [adc, inc, dlt, *]; omega) | (simp [adc, inc, dlt] at *; omega)) (by rfl) (fun σ8 hS8 => ?_)
  refine wpC_vret rq_61 rfl rt_61 ⟨rfl, hS8.sub (fun C => ?_) (fun C r k h => ?_)⟩
  · show _ = _
    by_cases e0 : C = 7
    · subst e0; first | (simp [adc, inc, dlt]; done) | (simp [adc, inc, dlt]; omega)
    by_cases e1 : C = 12
    · subst e1; first | (simp [adc, inc, dlt]; done) | (simp [adc, inc, dlt]; omega)
    by_cases e2 : C = 13
    · subst e2; first | (simp [adc, inc, dlt]; done) | (simp [adc, inc, dlt]; omega)
    simp [adc, inc, dlt, e0, e1, e2]
  · rcases h with h | h | h
    · exact Or.inl (by simp [addS, h])
    · obtain ⟨rfl, rfl⟩ := h
      by_cases hk0 : k = 0
      · subst hk0; exact Or.inl (by simp [addS])
      by_cases hk2 : k = 2
      · subst hk2; exact Or.inl (by simp [addS])
      by_cases hk3 : k = 3
      · subst hk3; exact Or.inl (by simp [addS])
      exact Or.inr ⟨by decide, by unfold tgt; first | (simp [hk0, hk2, hk3]; done) | (simp [hk0, hk2, hk3]; omega) | (simp; omega)⟩
    · obtain ⟨rfl, h1, h2⟩ := h
      refine Or.inl ?_
      first | (simp only [addS]; omega) | (simp [addS]; omega)

def cnI (cn : Cnt) (i : Nat) : Cnt := adc cn [(14, 1), (2, i), (7, 18 * i), (13, 18 * i), (6, i), (3, i), (0, i), (9, i), (4, i)]
def SI (S : Cel) (i : Nat) : Cel := fun C r k => S C r k ∨ (C = 1 ∧ r = 0) ∨ ((C = 2 ∨ C = 6 ∨ C = 3 ∨ C = 0 ∨ C = 9 ∨ C = 4) ∧ 2 ≤ r ∧ r < 2 + (i : Int)) ∨ (C = 7 ∧ 36 ≤ r ∧ r < 36 + 18 * (i : Int)) ∨ (C = 14 ∧ r = 0 ∧ 0 ≤ k ∧ k < (i : Int))
theorem ic_hstep (i : Nat) (hi : i < 8) (hS : St h0 σ (cnI cn i) (SI S i)) (hcl : clOK 19 24 4 (c + 1) (s + 9) 1 2 = true) (hc1 : c + 1 ≤ mcs 19) (hs1 : s + 9 ≤ mss 19) (n2 : cn 2 = 2) (n7 : cn 7 = 36) (n13 : cn 13 = 36) (n6 : cn 6 = 2) (n3 : cn 3 = 2) (n0 : cn 0 = 2) (n9 : cn 9 = 2) (n4 : cn 4 = 2) (n14 : cn 14 = 0)
    (h : ∀ σ', St h0 σ' (cnI cn (i + 1)) (SI S (i + 1)) → wpC 19 14 [some (aR 1 0), some (aI ((i + 1 : Nat) : Int))] [] σ' (c + 1 + mcs 24) (s + 9 + mss 24) Q) : wpC 19 14 [some (aR 1 0), some (aI (i : Int))] [] σ c s Q := by
  have h1 : σ 1 0 0 = 1 := (hS.2.2.2.2.1 1 0 0 (Or.inr (Or.inl ⟨rfl, rfl⟩))).2
  refine wpC_seg 4 (P := some (σ 1 0 0 = 1)) (ls' := [some (aR 1 0), some (aI (i : Int))]) (st' := [aI 8, aI (i : Int)]) (σ' := σ) rq_19 rfl h1 (i' := 18) rfl ?_
  refine wpC_icmp rq_19 rfl (fun h => absurd (show (8 : Int) ≤ i from h) (by omega)) (fun _ => ?_)
  refine wpC_seg 3 (P := some (σ 1 0 0 = 1)) (ls' := [some (aR 1 0), some (aI (i : Int))]) (st' := [aI (i : Int), aR 14 0]) (σ' := σ) rq_19 rfl h1 (i' := 22) rfl ?_
  refine wpC_new rq_19 (v := (i : Int) + 2) rfl (by decide) hS (by simp [cnI, adc, dlt, n2]; omega) hc1 hs1 rfl rfl (fun σ1 hS1 => ?_)
  refine wpC_seg 1 (P := none) (ls' := [some (aR 1 0), some (aI (i : Int))]) (st' := [aR 2 ((i : Int) + 2), aR 2 ((i : Int) + 2), aI (i : Int), aR 14 0]) (σ' := σ1) rq_19 rfl True.intro (i' := 24) rfl ?_
  refine wpC_call (C := 2) (As := [aR 2 ((i : Int) + 2)]) (rest := [aR 2 ((i : Int) + 2), aI (i : Int), aR 14 0]) rq_19 rfl rfl hcl rfl (show 3 ≤ 4 by decide) (fun _ => ⟨_, rfl⟩) rfl (ic_meet (m := (i : Int) + 2) hS1 (by omega) (by simp [inc, cnI, adc, dlt, n2]; omega) (by simp [inc, cnI, adc, dlt, n7]; omega) (by simp [inc, cnI, adc, dlt, n13]; omega) (by simp [inc, cnI, adc, dlt, n6]; omega) (by simp [inc, cnI, adc, dlt, n3]; omega) (by simp [inc, cnI, adc, dlt, n0]; omega) (by simp [inc, cnI, adc, dlt, n9]; omega) (by simp [inc, cnI, adc, dlt, n4]; omega)) (fun o σ2 hq2 => ⟨hq2.1, ?_⟩)
  have hS2 := hq2.2
  refine wpC_astq rq_19 rfl (j := (i : Int)) (by omega) (by omega) rfl hS2 (by simp [inc, cnI, adc, dlt, n14]) (by simp [inc, cnI, adc, dlt, n2]; omega) (fun σ3 hS3 => ?_)
  refine wpC_seg 1 (P := none) (ls' := [some (aR 1 0), some (aI (wr ((i : Int) + 1)))]) (st' := []) (σ' := σ3) rq_19 rfl True.intro (i' := 27) rfl ?_
  refine wpC_goto rq_19 rfl ?_
  rw [wr_eq (by omega) (by omega)]
  refine h σ3 (hS3.sub (fun C => ?_) (fun C r k h => ?_))
  · simp only [cnI, adc, inc, dlt]
    by_cases e0 : C = 2
    · subst e0; simp; omega
    by_cases e1 : C = 7
    · subst e1; simp; omega
    by_cases e2 : C = 13
    · subst e2; simp; omega
    by_cases e3 : C = 6
    · subst e3; simp; omega
    by_cases e4 : C = 3
    · subst e4; simp; omega
    by_cases e5 : C = 0
    · subst e5; simp; omega
    by_cases e6 : C = 9
    · subst e6; simp; omega
    by_cases e7 : C = 4
    · subst e7; simp; omega
    simp [e0, e1, e2, e3, e4, e5, e6, e7]
  · rcases h with h | h | h | h | h
    · exact Or.inl (by simp [addS, SI, h])
    · exact Or.inl (by simp [addS, SI, h])
    · refine Or.inl ?_
      by_cases hr : r < 2 + (i : Int)
      · exact Or.inl (Or.inl (Or.inr (Or.inr (Or.inl ⟨h.1, h.2.1, hr⟩))))
      · have : r = (i : Int) + 2 := by omega
        obtain ⟨h1, -⟩ := h
        simp only [addS, this, and_true]
        rcases h1 with h1 | h1 | h1 | h1 | h1 | h1 <;> simp [h1]
    · refine Or.inl ?_
      by_cases hr : r < 36 + 18 * (i : Int)
      · exact Or.inl (Or.inl (Or.inr (Or.inr (Or.inr (Or.inl ⟨h.1, h.2.1, hr⟩)))))
      · refine Or.inl (Or.inr ?_)
        obtain ⟨h1, h2, h3⟩ := h
        simp only [h1, true_and]
        omega
    · refine Or.inl ?_
      by_cases hk : k < (i : Int)
      · exact Or.inl (Or.inl (Or.inr (Or.inr (Or.inr (Or.inr ⟨h.1, h.2.1, h.2.2.1, hk⟩)))))
      · exact Or.inr ⟨h.1, h.2.1, by omega⟩
theorem ic_hist (hS : St h0 σ cn S) (hc : 0 < cn 1) (n2 : cn 2 = 2) (n7 : cn 7 = 36) (n13 : cn 13 = 36) (n6 : cn 6 = 2) (n3 : cn 3 = 2) (n0 : cn 0 = 2) (n9 : cn 9 = 2) (n4 : cn 4 = 2) (n14 : cn 14 = 0) (nx : cn 12 = cn 12) : wpC 19 0 (entL 19 [aR 1 0]) [] σ 0 0 (aft h0 (adc cn [(14, 1), (2, 8), (7, 144), (13, 144), (6, 8), (3, 8), (0, 8), (9, 8), (4, 8)]) (fun C r k => S C r k ∨ (C = 1 ∧ r = 0) ∨ ((C = 2 ∨ C = 6 ∨ C = 3 ∨ C = 0 ∨ C = 9 ∨ C = 4) ∧ 2 ≤ r ∧ r < 10) ∨ (C = 7 ∧ 36 ≤ r ∧ r < 180) ∨ (C = 14 ∧ r = 0))) := by
  show wpC 19 0 [some (aR 1 0), none] [] σ 0 0 _
  refine wpC_seg 1 (P := none) (ls' := [some (aR 1 0), none]) (st' := [aR 1 0]) (σ' := σ) rq_19 rfl True.intro (i' := 1) rfl ?_
  refine wpC_obj rq_19 rfl (by decide +kernel) (by decide +kernel) (by decide) ?_
  refine wpC_seg 2 (P := none) (ls' := [some (aR 1 0), none]) (st' := [aI 8, aR 1 0]) (σ' := σ) rq_19 rfl True.intro (i' := 4) rfl ?_
  refine wpC_newq rq_19 (v := 0) rfl hS n14 (by decide +kernel) (by decide +kernel) (c' := 1) (s' := 8) rfl rfl (fun σ1 hS1 => ?_)
  refine wpC_putq rq_19 (C := 1) (f := 0) rfl (show _ = some (2, 1, 0, 14) from rfl) rfl hS1 (by decide) (by simp [inc]; exact hc) (by rfl) (fun σ2 hS2 => ?_)
  refine wpC_seg 2 (P := none) (ls' := [some (aR 1 0), none]) (st' := [aI 0, aR 1 0]) (σ' := σ2) rq_19 rfl True.intro (i' := 8) rfl ?_
  refine wpC_puti (P := none) rq_19 (v := 0) (C := 1) (f := 1) rfl rfl True.intro hS2 (by decide) (by simp [inc]; exact hc) (by rfl) (fun σ3 hS3 => ?_)
  refine wpC_seg 2 (P := none) (ls' := [some (aR 1 0), none]) (st' := [aI 0, aR 1 0]) (σ' := σ3) rq_19 rfl True.intro (i' := 11) rfl ?_
  refine wpC_puti (P := none) rq_19 (v := 0) (C := 1) (f := 2) rfl rfl True.intro hS3 (by decide) (by simp [inc]; exact hc) (by rfl) (fun σ4 hS4 => ?_)
  refine wpC_seg 2 (P := none) (ls' := [some (aR 1 0), some (aI ((0 : Nat) : Int))]) (st' := []) (σ' := σ4) rq_19 rfl True.intro (i' := 14) rfl ?_
  have hI : St h0 σ4 (cnI cn 0) (SI S 0) := hS4.sub (fun C => by
    simp only [cnI, adc, inc, dlt]
    by_cases e : C = 14
    · subst e; simp
    · simp [e]) (fun C r k h => by
    rcases h with h | ⟨rfl, rfl⟩ | h | h | h
    · exact Or.inl (by simp [addS, h])
    · by_cases hk : k = 0
      · subst hk; exact Or.inl (by simp [addS])
      · exact Or.inr ⟨by decide, by unfold tgt; simp [hk]⟩
    · omega
    · omega
    · omega)
  refine ic_hstep 0 (by decide) hI (by decide +kernel) (by decide +kernel) (by decide +kernel) n2 n7 n13 n6 n3 n0 n9 n4 n14 (fun σ5 h5 => ?_)
  refine ic_hstep 1 (by decide) h5 (by decide +kernel) (by decide +kernel) (by decide +kernel) n2 n7 n13 n6 n3 n0 n9 n4 n14 (fun σ6 h6 => ?_)
  refine ic_hstep 2 (by decide) h6 (by decide +kernel) (by decide +kernel) (by decide +kernel) n2 n7 n13 n6 n3 n0 n9 n4 n14 (fun σ7 h7 => ?_)
  refine ic_hstep 3 (by decide) h7 (by decide +kernel) (by decide +kernel) (by decide +kernel) n2 n7 n13 n6 n3 n0 n9 n4 n14 (fun σ8 h8 => ?_)
  refine ic_hstep 4 (by decide) h8 (by decide +kernel) (by decide +kernel) (by decide +kernel) n2 n7 n13 n6 n3 n0 n9 n4 n14 (fun σ9 h9 => ?_)
  refine ic_hstep 5 (by decide) h9 (by decide +kernel) (by decide +kernel) (by decide +kernel) n2 n7 n13 n6 n3 n0 n9 n4 n14 (fun σa ha => ?_)
  refine ic_hstep 6 (by decide) ha (by decide +kernel) (by decide +kernel) (by decide +kernel) n2 n7 n13 n6 n3 n0 n9 n4 n14 (fun σb hb => ?_)
  refine ic_hstep 7 (by decide) hb (by decide +kernel) (by decide +kernel) (by decide +kernel) n2 n7 n13 n6 n3 n0 n9 n4 n14 (fun σd hd => ?_)
  have h1 : σd 1 0 0 = 1 := (hd.2.2.2.2.1 1 0 0 (Or.inr (Or.inl ⟨rfl, rfl⟩))).2
  refine wpC_seg 4 (P := some (σd 1 0 0 = 1)) (ls' := [some (aR 1 0), some (aI ((8 : Nat) : Int))]) (st' := [aI 8, aI ((8 : Nat) : Int)]) (σ' := σd) rq_19 rfl h1 (i' := 18) rfl ?_
  refine wpC_icmp rq_19 rfl (fun _ => ?_) (fun h => absurd (show (8 : Int) ≤ ((8 : Nat) : Int) by decide) h)
  refine wpC_vret rq_19 rfl rt_19 ⟨rfl, hd.sub (fun C => ?_) (fun C r k h => ?_)⟩
  · simp [cnI, adc, dlt]
  · rcases h with h | h | h | h | ⟨rfl, rfl⟩
    · exact Or.inl (by simp [SI, h])
    · exact Or.inl (by simp [SI, h])
    · exact Or.inl (Or.inr (Or.inr (Or.inl ⟨h.1, h.2.1, by omega⟩)))
    · exact Or.inl (Or.inr (Or.inr (Or.inr (Or.inl ⟨h.1, h.2.1, by omega⟩))))
    · by_cases hk : 0 ≤ k ∧ k < 8
      · exact Or.inl (Or.inr (Or.inr (Or.inr (Or.inr ⟨rfl, rfl, hk.1, by omega⟩))))
      · exact Or.inr ⟨by decide, by unfold tgt; simp [hk]⟩

theorem ic_fm (hS : St h0 σ cn S) (hc : 0 < cn 10) (hz : ∀ C, C ≠ 10 → cn C = 0) : wpC 104 0 (entL 104 [aR 10 0]) [] σ 0 0 (aft h0 (adc cn [(2, 10), (7, 186), (13, 186), (6, 10), (3, 10), (0, 10), (9, 10), (4, 10), (1, 1), (14, 1), (8, 1), (5, 1), (12, 1)]) (fun C r k => S C r k ∨ (C = 10 ∧ r = 0) ∨ ((C = 2 ∨ C = 6 ∨ C = 3 ∨ C = 0 ∨ C = 9 ∨ C = 4) ∧ 0 ≤ r ∧ r < 10) ∨ (C = 7 ∧ 0 ≤ r ∧ r < 186) ∨ (C = 14 ∧ r = 0) ∨ (C = 1 ∧ r = 0) ∨ (C = 8 ∧ r = 0) ∨ (C = 5 ∧ r = 0))) := by
  show wpC 104 0 [some (aR 10 0)] [] σ 0 0 _
  refine wpC_seg 1 (P := none) (ls' := [some (aR 10 0)]) (st' := [aR 10 0]) (σ' := σ) rq_104 rfl True.intro (i' := 1) rfl ?_
  refine wpC_obj rq_104 rfl (by decide +kernel) (by decide +kernel) (by decide) ?_
  refine wpC_seg 1 (P := none) (ls' := [some (aR 10 0)]) (st' := [aR 10 0]) (σ' := σ) rq_104 rfl True.intro (i' := 3) rfl ?_
  refine wpC_sub rq_104 (r := 0) (q := 0) rfl rfl rfl (by decide) rfl (show _ = some (2, 1, 0, 2) from rfl) (by decide) (by decide) hS (by first | (simp [adc, inc, dlt, *]; done) | (simp [adc, inc, dlt, *]; omega) | (simp [adc, inc, dlt] at *; omega)) (by unfold lay; simp) (by rfl) (by decide) (cv := 1) (sv := 9) rfl rfl (by decide +kernel) (c' := 42) (s' := 11110) rfl rfl (by decide +kernel) (by decide +kernel) (fun σ' hS' => ic_meet (m := 0) hS' (by decide) (by simp [adc, inc, dlt, hc, hz]) (by simp [adc, inc, dlt, hc, hz]) (by simp [adc, inc, dlt, hc, hz]) (by simp [adc, inc, dlt, hc, hz]) (by simp [adc, inc, dlt, hc, hz]) (by simp [adc, inc, dlt, hc, hz]) (by simp [adc, inc, dlt, hc, hz]) (by simp [adc, inc, dlt, hc, hz])) (by first | (simp [adc, inc, dlt, *]; done) | (simp [adc, inc, dlt, *]; omega) | (simp [adc, inc, dlt] at *; omega)) (fun σ1 hS1 => ?_)
  refine wpC_seg 1 (P := none) (ls' := [some (aR 10 0)]) (st' := [aR 10 0]) (σ' := σ1) rq_104 rfl True.intro (i' := 8) rfl ?_
  refine wpC_sub rq_104 (r := 1) (q := 0) rfl rfl rfl (by decide) rfl (show _ = some (2, 1, 1, 2) from rfl) (by decide) (by decide) hS1 (by first | (simp [adc, inc, dlt, *]; done) | (simp [adc, inc, dlt, *]; omega) | (simp [adc, inc, dlt] at *; omega)) (by unfold lay; simp) (by rfl) (by decide) (cv := 43) (sv := 11119) rfl rfl (by decide +kernel) (c' := 84) (s' := 22220) rfl rfl (by decide +kernel) (by decide +kernel) (fun σ' hS' => ic_meet (m := 1) hS' (by decide) (by simp [adc, inc, dlt, hc, hz]) (by simp [adc, inc, dlt, hc, hz]) (by simp [adc, inc, dlt, hc, hz]) (by simp [adc, inc, dlt, hc, hz]) (by simp [adc, inc, dlt, hc, hz]) (by simp [adc, inc, dlt, hc, hz]) (by simp [adc, inc, dlt, hc, hz]) (by simp [adc, inc, dlt, hc, hz])) (by first | (simp [adc, inc, dlt, *]; done) | (simp [adc, inc, dlt, *]; omega) | (simp [adc, inc, dlt] at *; omega)) (fun σ2 hS2 => ?_)
  refine wpC_seg 1 (P := none) (ls' := [some (aR 10 0)]) (st' := [aR 10 0]) (σ' := σ2) rq_104 rfl True.intro (i' := 13) rfl ?_
  refine wpC_seg 1 (P := none) (ls' := [some (aR 10 0)]) (st' := [aI (0), aR 10 0]) (σ' := σ2) rq_104 rfl True.intro (i' := 14) rfl ?_
  refine wpC_puti (P := some ((0 : Int) = 0 ∨ (0 : Int) = 1)) rq_104 (v := 0) (C := 10) (f := 2) rfl rfl (by show _ ∨ _; decide) hS2 (by decide) (by first | (simp [adc, inc, dlt, *]; done) | (simp [adc, inc, dlt, *]; omega) | (simp [adc, inc, dlt] at *; omega)) (by rfl) (fun σ3 hS3 => ?_)
  refine wpC_seg 1 (P := none) (ls' := [some (aR 10 0)]) (st' := [aR 10 0]) (σ' := σ3) rq_104 rfl True.intro (i' := 16) rfl ?_
  refine wpC_sub rq_104 (r := 0) (q := 0) rfl rfl rfl (by decide) rfl (show _ = some (2, 1, 0, 1) from rfl) (by decide) (by decide) hS3 (by first | (simp [adc, inc, dlt, *]; done) | (simp [adc, inc, dlt, *]; omega) | (simp [adc, inc, dlt] at *; omega)) (by unfold lay; simp) (by rfl) (by decide) (cv := 85) (sv := 22223) rfl rfl (by decide +kernel) (c' := 422) (s' := 111111) rfl rfl (by decide +kernel) (by decide +kernel) (fun σ' hS' => ic_hist hS' (by simp [adc, inc, dlt, hc, hz]) (by simp [adc, inc, dlt, hc, hz]) (by simp [adc, inc, dlt, hc, hz]) (by simp [adc, inc, dlt, hc, hz]) (by simp [adc, inc, dlt, hc, hz]) (by simp [adc, inc, dlt, hc, hz]) (by simp [adc, inc, dlt, hc, hz]) (by simp [adc, inc, dlt, hc, hz]) (by simp [adc, inc, dlt, hc, hz]) (by simp [adc, inc, dlt, hc, hz]) (by simp [adc, inc, dlt, hc, hz])) (by first | (simp [adc, inc, dlt, *]; done) | (simp [adc, inc, dlt, *]; omega) | (simp [adc, inc, dlt] at *; omega)) (fun σ4 hS4 => ?_)
  refine wpC_seg 1 (P := none) (ls' := [some (aR 10 0)]) (st' := [aR 10 0]) (σ' := σ4) rq_104 rfl True.intro (i' := 21) rfl ?_
  refine wpC_sub rq_104 (r := 0) (q := 0) rfl rfl rfl (by decide) rfl (show _ = some (2, 1, 0, 8) from rfl) (by decide) (by decide) hS4 (by first | (simp [adc, inc, dlt, *]; done) | (simp [adc, inc, dlt, *]; omega) | (simp [adc, inc, dlt] at *; omega)) (by unfold lay; simp) (by rfl) (by decide) (cv := 423) (sv := 111117) rfl rfl (by decide +kernel) (c' := 433) (s' := 114192) rfl rfl (by decide +kernel) (by decide +kernel) (fun σ' hS' => ic_standing hS' (by simp [adc, inc, dlt, hc, hz]) (by simp [adc, inc, dlt, hc, hz]) (by simp [adc, inc, dlt, hc, hz])) (by first | (simp [adc, inc, dlt, *]; done) | (simp [adc, inc, dlt, *]; omega) | (simp [adc, inc, dlt] at *; omega)) (fun σ5 hS5 => ?_)
  refine wpC_seg 1 (P := none) (ls' := [some (aR 10 0)]) (st' := [aR 10 0]) (σ' := σ5) rq_104 rfl True.intro (i' := 26) rfl ?_
  refine wpC_sub rq_104 (r := 0) (q := 0) rfl rfl rfl (by decide) rfl (show _ = some (2, 1, 0, 5) from rfl) (by decide) (by decide) hS5 (by first | (simp [adc, inc, dlt, *]; done) | (simp [adc, inc, dlt, *]; omega) | (simp [adc, inc, dlt] at *; omega)) (by unfold lay; simp) (by rfl) (by decide) (cv := 434) (sv := 114199) rfl rfl (by decide +kernel) (c' := 437) (s' := 114874) rfl rfl (by decide +kernel) (by decide +kernel) (fun σ' hS' => ic_text hS' (by simp [adc, inc, dlt, hc, hz]) (by simp [adc, inc, dlt, hc, hz]) (by simp [adc, inc, dlt, hc, hz]) (by simp [adc, inc, dlt, hc, hz])) (by first | (simp [adc, inc, dlt, *]; done) | (simp [adc, inc, dlt, *]; omega) | (simp [adc, inc, dlt] at *; omega)) (fun σ6 hS6 => ?_)
  refine wpC_seg 1 (P := none) (ls' := [some (aR 10 0)]) (st' := [aR 10 0]) (σ' := σ6) rq_104 rfl True.intro (i' := 31) rfl ?_
  refine wpC_seg 1 (P := none) (ls' := [some (aR 10 0)]) (st' := [aI (0), aR 10 0]) (σ' := σ6) rq_104 rfl True.intro (i' := 32) rfl ?_
  refine wpC_puti (P := none) rq_104 (v := 0) (C := 10) (f := 6) rfl rfl True.intro hS6 (by decide) (by first | (simp [adc, inc, dlt, *]; done) | (simp [adc, inc, dlt, *]; omega) | (simp [adc, inc, dlt] at *; omega)) (by rfl) (fun σ7 hS7 => ?_)
  refine wpC_vret rq_104 rfl rt_104 ⟨rfl, hS7.sub (fun C => ?_) (fun C r k h => ?_)⟩
  · show _ = _
    by_cases e0 : C = 0
    · subst e0; first | (simp [adc, inc, dlt]; done) | (simp [adc, inc, dlt]; omega)
    by_cases e1 : C = 1
    · subst e1; first | (simp [adc, inc, dlt]; done) | (simp [adc, inc, dlt]; omega)
    by_cases e2 : C = 2
    · subst e2; first | (simp [adc, inc, dlt]; done) | (simp [adc, inc, dlt]; omega)
    by_cases e3 : C = 3
    · subst e3; first | (simp [adc, inc, dlt]; done) | (simp [adc, inc, dlt]; omega)
    by_cases e4 : C = 4
    · subst e4; first | (simp [adc, inc, dlt]; done) | (simp [adc, inc, dlt]; omega)
    by_cases e5 : C = 5
    · subst e5; first | (simp [adc, inc, dlt]; done) | (simp [adc, inc, dlt]; omega)
    by_cases e6 : C = 6
    · subst e6; first | (simp [adc, inc, dlt]; done) | (simp [adc, inc, dlt]; omega)
    by_cases e7 : C = 7
    · subst e7; first | (simp [adc, inc, dlt]; done) | (simp [adc, inc, dlt]; omega)
    by_cases e8 : C = 8
    · subst e8; first | (simp [adc, inc, dlt]; done) | (simp [adc, inc, dlt]; omega)
    by_cases e9 : C = 9
    · subst e9; first | (simp [adc, inc, dlt]; done) | (simp [adc, inc, dlt]; omega)
    by_cases e10 : C = 12
    · subst e10; first | (simp [adc, inc, dlt]; done) | (simp [adc, inc, dlt]; omega)
    by_cases e11 : C = 13
    · subst e11; first | (simp [adc, inc, dlt]; done) | (simp [adc, inc, dlt]; omega)
    by_cases e12 : C = 14
    · subst e12; first | (simp [adc, inc, dlt]; done) | (simp [adc, inc, dlt]; omega)
    simp [adc, inc, dlt, e0, e1, e2, e3, e4, e5, e6, e7, e8, e9, e10, e11, e12]
  · rcases h with h | h | h | h | h | h | h | h
    · exact Or.inl (by simp [addS, h])
    · obtain ⟨rfl, rfl⟩ := h
      by_cases hk0 : k = 0
      · subst hk0; exact Or.inl (by simp [addS])
      by_cases hk1 : k = 1
      · subst hk1; exact Or.inl (by simp [addS])
      by_cases hk3 : k = 3
      · subst hk3; exact Or.inl (by simp [addS])
      by_cases hk4 : k = 4
      · subst hk4; exact Or.inl (by simp [addS])
      by_cases hk5 : k = 5
      · subst hk5; exact Or.inl (by simp [addS])
      exact Or.inr ⟨by decide, by unfold tgt; first | (simp [hk0, hk1, hk3, hk4, hk5]; done) | (simp [hk0, hk1, hk3, hk4, hk5]; omega) | (simp; omega)⟩
    · obtain ⟨h1, h2, h3⟩ := h
      have hr : r = 0 ∨ r = 1 ∨ (2 ≤ r ∧ r < 10) := by omega
      refine Or.inl ?_
      rcases h1 with rfl | rfl | rfl | rfl | rfl | rfl <;> simp [addS] <;> omega
    · obtain ⟨rfl, h1, h2⟩ := h
      refine Or.inl ?_
      first | (simp only [addS]; omega) | (simp [addS]; omega)
    · exact Or.inl (by simp [addS, h])
    · exact Or.inl (by simp [addS, h])
    · exact Or.inl (by simp [addS, h])
    · exact Or.inl (by simp [addS, h])

theorem ic_model (hS : St h0 σ cn S) (hc : 0 < cn 11) (h13 : cn 13 = 186) : wpC 151 0 (entL 151 [aR 11 0]) [] σ 0 0 (aft h0 (adc cn [(13, 7)]) (fun C r k => S C r k ∨ (C = 11 ∧ r = 0) ∨ (C = 13 ∧ r = 186))) := by
  show wpC 151 0 [some (aR 11 0)] [] σ 0 0 _
  refine wpC_seg 1 (P := none) (ls' := [some (aR 11 0)]) (st' := [aR 11 0]) (σ' := σ) rq_151 rfl True.intro (i' := 1) rfl ?_
  refine wpC_obj rq_151 rfl (by decide +kernel) (by decide +kernel) (by decide) ?_
  refine wpC_seg 1 (P := none) (ls' := [some (aR 11 0)]) (st' := [aR 11 0]) (σ' := σ) rq_151 rfl True.intro (i' := 3) rfl ?_
  refine wpC_seg 1 (P := none) (ls' := [some (aR 11 0)]) (st' := [aI 3330, aR 11 0]) (σ' := σ) rq_151 rfl True.intro (i' := 4) rfl ?_
  refine wpC_newa rq_151 (C := 13) (v := 186) rfl (by decide) hS (by simp [inc, hc, h13]) (by decide) (by decide +kernel) (by decide +kernel) (c' := 1) (s' := 3330) rfl rfl (fun σ1 hS1 => ?_)
  refine wpC_putq rq_151 (C := 11) (f := 0) rfl (show _ = some (2, 1, 186, 13) from rfl) (by unfold lay; simp) hS1 (by decide) (by simp [inc, hc, h13]) (by rfl) (fun σ2 hS2 => ?_)
  refine wpC_seg 1 (P := none) (ls' := [some (aR 11 0)]) (st' := [aR 11 0]) (σ' := σ2) rq_151 rfl True.intro (i' := 7) rfl ?_
  refine wpC_seg 1 (P := none) (ls' := [some (aR 11 0)]) (st' := [aI 3330, aR 11 0]) (σ' := σ2) rq_151 rfl True.intro (i' := 8) rfl ?_
  refine wpC_newa rq_151 (C := 13) (v := 187) rfl (by decide) hS2 (by simp [inc, hc, h13]) (by decide) (by decide +kernel) (by decide +kernel) (c' := 2) (s' := 6660) rfl rfl (fun σ3 hS3 => ?_)
  refine wpC_putq rq_151 (C := 11) (f := 1) rfl (show _ = some (2, 1, 187, 13) from rfl) (by unfold lay; simp) hS3 (by decide) (by simp [inc, hc, h13]) (by rfl) (fun σ4 hS4 => ?_)
  refine wpC_seg 1 (P := none) (ls' := [some (aR 11 0)]) (st' := [aR 11 0]) (σ' := σ4) rq_151 rfl True.intro (i' := 11) rfl ?_
  refine wpC_seg 1 (P := none) (ls' := [some (aR 11 0)]) (st' := [aI 26640, aR 11 0]) (σ' := σ4) rq_151 rfl True.intro (i' := 12) rfl ?_
  refine wpC_newa rq_151 (C := 13) (v := 188) rfl (by decide) hS4 (by simp [inc, hc, h13]) (by decide) (by decide +kernel) (by decide +kernel) (c' := 3) (s' := 33300) rfl rfl (fun σ5 hS5 => ?_)
  refine wpC_putq rq_151 (C := 11) (f := 3) rfl (show _ = some (2, 1, 188, 13) from rfl) (by unfold lay; simp) hS5 (by decide) (by simp [inc, hc, h13]) (by rfl) (fun σ6 hS6 => ?_)
  refine wpC_seg 1 (P := none) (ls' := [some (aR 11 0)]) (st' := [aR 11 0]) (σ' := σ6) rq_151 rfl True.intro (i' := 15) rfl ?_
  refine wpC_seg 1 (P := none) (ls' := [some (aR 11 0)]) (st' := [aI 96, aR 11 0]) (σ' := σ6) rq_151 rfl True.intro (i' := 16) rfl ?_
  refine wpC_newa rq_151 (C := 13) (v := 189) rfl (by decide) hS6 (by simp [inc, hc, h13]) (by decide) (by decide +kernel) (by decide +kernel) (c' := 4) (s' := 33396) rfl rfl (fun σ7 hS7 => ?_)
  refine wpC_putq rq_151 (C := 11) (f := 7) rfl (show _ = some (2, 1, 189, 13) from rfl) (by unfold lay; simp) hS7 (by decide) (by simp [inc, hc, h13]) (by rfl) (fun σ8 hS8 => ?_)
  refine wpC_seg 1 (P := none) (ls' := [some (aR 11 0)]) (st' := [aR 11 0]) (σ' := σ8) rq_151 rfl True.intro (i' := 19) rfl ?_
  refine wpC_seg 1 (P := none) (ls' := [some (aR 11 0)]) (st' := [aI 32, aR 11 0]) (σ' := σ8) rq_151 rfl True.intro (i' := 20) rfl ?_
  refine wpC_newa rq_151 (C := 13) (v := 190) rfl (by decide) hS8 (by simp [inc, hc, h13]) (by decide) (by decide +kernel) (by decide +kernel) (c' := 5) (s' := 33428) rfl rfl (fun σ9 hS9 => ?_)
  refine wpC_putq rq_151 (C := 11) (f := 8) rfl (show _ = some (2, 1, 190, 13) from rfl) (by unfold lay; simp) hS9 (by decide) (by simp [inc, hc, h13]) (by rfl) (fun σ10 hS10 => ?_)
  refine wpC_seg 1 (P := none) (ls' := [some (aR 11 0)]) (st' := [aR 11 0]) (σ' := σ10) rq_151 rfl True.intro (i' := 23) rfl ?_
  refine wpC_seg 1 (P := none) (ls' := [some (aR 11 0)]) (st' := [aI 60, aR 11 0]) (σ' := σ10) rq_151 rfl True.intro (i' := 24) rfl ?_
  refine wpC_newa rq_151 (C := 13) (v := 191) rfl (by decide) hS10 (by simp [inc, hc, h13]) (by decide) (by decide +kernel) (by decide +kernel) (c' := 6) (s' := 33488) rfl rfl (fun σ11 hS11 => ?_)
  refine wpC_putq rq_151 (C := 11) (f := 9) rfl (show _ = some (2, 1, 191, 13) from rfl) (by unfold lay; simp) hS11 (by decide) (by simp [inc, hc, h13]) (by rfl) (fun σ12 hS12 => ?_)
  refine wpC_seg 1 (P := none) (ls' := [some (aR 11 0)]) (st' := [aR 11 0]) (σ' := σ12) rq_151 rfl True.intro (i' := 27) rfl ?_
  refine wpC_seg 1 (P := none) (ls' := [some (aR 11 0)]) (st' := [aI (-1), aR 11 0]) (σ' := σ12) rq_151 rfl True.intro (i' := 28) rfl ?_
  refine wpC_puti (P := none) rq_151 (v := -1) (C := 11) (f := 13) rfl rfl True.intro hS12 (by decide) (by simp [inc, hc, h13]) (by rfl) (fun σ13 hS13 => ?_)
  refine wpC_seg 1 (P := none) (ls' := [some (aR 11 0)]) (st' := [aR 11 0]) (σ' := σ13) rq_151 rfl True.intro (i' := 30) rfl ?_
  refine wpC_seg 1 (P := none) (ls' := [some (aR 11 0)]) (st' := [aI 60, aR 11 0]) (σ' := σ13) rq_151 rfl True.intro (i' := 31) rfl ?_
  refine wpC_newa rq_151 (C := 13) (v := 192) rfl (by decide) hS13 (by simp [inc, hc, h13]) (by decide) (by decide +kernel) (by decide +kernel) (c' := 7) (s' := 33548) rfl rfl (fun σ14 hS14 => ?_)
  refine wpC_putq rq_151 (C := 11) (f := 14) rfl (show _ = some (2, 1, 192, 13) from rfl) (by unfold lay; simp) hS14 (by decide) (by simp [inc, hc, h13]) (by rfl) (fun σ15 hS15 => ?_)
  have h1 : σ15 11 0 0 = 1 := (hS15.2.2.2.2.1 11 0 0 (by simp [addS])).2
  refine wpC_seg 5 (P := some (σ15 11 0 0 = 1 ∧ (0 ≤ (6 : Int) ∧ (6 : Int) < rowLen 186))) (ls' := [some (aR 11 0)]) (st' := []) (σ' := up σ15 13 186 6 (-1)) rq_151 rfl ⟨h1, by decide⟩ (i' := 38) rfl ?_
  refine wpC_gen (hS15.set (C := 13) (r := 186) (k := 6) (v := -1) (by decide) (by simp [inc, h13]) (by rfl) (fun e => absurd e (by decide))) (fun σ16 hS16 => ?_)
  have h2 : σ16 11 0 0 = 1 := (hS16.2.2.2.2.1 11 0 0 (by simp [addS])).2
  refine wpC_seg 5 (P := some (σ16 11 0 0 = 1 ∧ (0 ≤ (7 : Int) ∧ (7 : Int) < rowLen 186))) (ls' := [some (aR 11 0)]) (st' := []) (σ' := up σ16 13 186 7 1) rq_151 rfl ⟨h2, by decide⟩ (i' := 43) rfl ?_
  refine wpC_gen (hS16.set (C := 13) (r := 186) (k := 7) (v := 1) (by decide) (by simp [inc, h13]) (by rfl) (fun e => absurd e (by decide))) (fun σ17 hS17 => ?_)
  refine wpC_vret rq_151 rfl rt_151 ⟨rfl, hS17.sub (fun C => ?_) (fun C r k h => ?_)⟩
  · simp only [adc, inc, dlt]
    by_cases e : C = 13
    · subst e; first | (simp; done) | (simp; omega)
    simp [e]
  · rcases h with h | h | h
    · exact Or.inl (by simp [addS, h])
    · obtain ⟨rfl, rfl⟩ := h
      by_cases hk0 : k = 0
      · subst hk0; exact Or.inl (by simp [addS])
      by_cases hk1 : k = 1
      · subst hk1; exact Or.inl (by simp [addS])
      by_cases hk3 : k = 3
      · subst hk3; exact Or.inl (by simp [addS])
      by_cases hk7 : k = 7
      · subst hk7; exact Or.inl (by simp [addS])
      by_cases hk8 : k = 8
      · subst hk8; exact Or.inl (by simp [addS])
      by_cases hk9 : k = 9
      · subst hk9; exact Or.inl (by simp [addS])
      by_cases hk13 : k = 13
      · subst hk13; exact Or.inl (by simp [addS])
      by_cases hk14 : k = 14
      · subst hk14; exact Or.inl (by simp [addS])
      exact Or.inr ⟨by decide, by unfold tgt; simp [hk0, hk1, hk3, hk7, hk8, hk9, hk13, hk14]⟩
    · obtain ⟨rfl, rfl⟩ := h
      by_cases hk6 : k = 6
      · subst hk6; exact Or.inl (by simp [addS])
      by_cases hk7 : k = 7
      · subst hk7; exact Or.inl (by simp [addS])
      exact Or.inr ⟨by decide, by unfold tgt; simp [hk6, hk7]⟩


end Ctor
