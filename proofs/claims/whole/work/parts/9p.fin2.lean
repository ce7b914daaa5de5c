/-! The final places: both sides. -/
section FinB
variable {N f b n y t s u v x r i G : Int} {σ K M X : Mem} {c : Cs} {g : Gs} {P P' A B C : Int → Bool}
theorem cnt_add (h : ∀ i, 0 ≤ i → i < n → ((if A i = true then (1 : Int) else 0) + (if B i = true then 1 else 0)) = if C i = true then 1 else 0) : cntP A n + cntP B n = cntP C n := by
  have key : ∀ m : Nat, (m : Int) ≤ n → cntP A m + cntP B m = cntP C m := by
    intro m
    induction m with
    | zero => intro _; rfl
    | succ m ih =>
      intro hm
      have := h m (by omega) (by omega)
      rw [show ((m + 1 : Nat) : Int) = (m : Int) + 1 from rfl, cntP_s (by omega), cntP_s (by omega), cntP_s (by omega)]
      have := ih (by omega)
      omega
  by_cases q : 0 ≤ n
  · have := key n.toNat (by omega)
    rw [show (n.toNat : Int) = n by omega] at this
    exact this
  · unfold cntP
    rw [sumTo_neg _ (by omega), sumTo_neg _ (by omega), sumTo_neg _ (by omega)]
    rfl
def totP (P : Int → Int → Bool) (n : Int) : Nat → Nat → Int
  | 0, _ => 0
  | u + 1, m => cntP (P (2 ^ m)) n + totP P n u (m + 1)
theorem totP_0 {P : Int → Int → Bool} (hn : 0 ≤ n) : ∀ u m : Nat, 0 ≤ totP P n u m := by
  intro u
  induction u with
  | zero => intro m; exact Int.le_refl 0
  | succ u ih =>
    intro m
    have := ih (m + 1)
    have := (cntP_b (P := P (2 ^ m)) hn).1
    show 0 ≤ cntP (P (2 ^ m)) n + totP P n u (m + 1)
    omega
theorem faR_iff {P : Int → Int → Bool} {S : Int → Int} (hn : 0 ≤ n) (hS : ∀ i, 0 ≤ i → i < n → 0 ≤ S i) : ∀ (u m : Nat) (G : Int), faR P S n y u m G ≠ -1 ↔ (0 ≤ y - 1 - G ∧ y - 1 - G < totP P n u m) := by
  intro u
  induction u with
  | zero =>
    intro m G
    show (-1 : Int) ≠ -1 ↔ (0 ≤ y - 1 - G ∧ y - 1 - G < 0)
    omega
  | succ u ih =>
    intro m G
    have ht := totP_0 (P := P) hn u (m + 1)
    have hc := (cntP_b (P := P (2 ^ m)) hn).1
    have eT : totP P n (u + 1) m = cntP (P (2 ^ m)) n + totP P n u (m + 1) := rfl
    have eR : faR P S n y (u + 1) m G = if kth (P (2 ^ m)) (y - 1 - G) n = -1 then faR P S n y u (m + 1) (G + cntP (P (2 ^ m)) n) else S (kth (P (2 ^ m)) (y - 1 - G) n) := rfl
    rw [eT, eR]
    rcases kth_f (P := P (2 ^ m)) (j := y - 1 - G) hn with ⟨k1, k2⟩ | ⟨k1, k2, k3, k4, k5⟩
    · rw [if_pos k1, ih (m + 1) (G + cntP (P (2 ^ m)) n)]
      omega
    · rw [if_neg (by omega)]
      have := hS _ k1.1 k1.2
      omega
theorem faR_congr {P P' : Int → Int → Bool} {S S' : Int → Int} : ∀ (u m : Nat) (G : Int), (∀ q : Nat, m ≤ q → q < m + u → ∀ i, 0 ≤ i → i < n → P (2 ^ q) i = P' (2 ^ q) i) → (∀ i, 0 ≤ i → i < n → S i = S' i) → 0 ≤ n → faR P S n y u m G = faR P' S' n y u m G := by
  intro u
  induction u with
  | zero => intro m G _ _ _; rfl
  | succ u ih =>
    intro m G hP hS hn
    have e1 : kth (P (2 ^ m)) (y - 1 - G) n = kth (P' (2 ^ m)) (y - 1 - G) n := kth_congr (hP m (Nat.le_refl m) (by omega))
    have e2 : cntP (P (2 ^ m)) n = cntP (P' (2 ^ m)) n := cntP_congr (hP m (Nat.le_refl m) (by omega))
    have e3 := ih (m + 1) (G + cntP (P' (2 ^ m)) n) (fun q q0 q1 => hP q (by omega) (by omega)) hS hn
    show (if kth (P (2 ^ m)) (y - 1 - G) n = -1 then faR P S n y u (m + 1) (G + cntP (P (2 ^ m)) n) else S (kth (P (2 ^ m)) (y - 1 - G) n)) = (if kth (P' (2 ^ m)) (y - 1 - G) n = -1 then faR P' S' n y u (m + 1) (G + cntP (P' (2 ^ m)) n) else S' (kth (P' (2 ^ m)) (y - 1 - G) n))
    rw [e1, e2, e3]
    rcases kth_f (P := P' (2 ^ m)) (j := y - 1 - G) hn with ⟨k1, -⟩ | ⟨k1, -⟩
    · rw [if_pos k1, if_pos k1]
    · rw [if_neg (by omega), if_neg (by omega)]
      exact hS _ k1.1 k1.2
theorem p2lt {q m : Nat} (h : q < m) : (2 : Int) ^ q < 2 ^ m := by
  have h1 := p2le (q + 1) m h
  have h2 : (2 : Int) ^ (q + 1) = 2 ^ q * 2 := Int.pow_succ 2 q
  have := p2p q
  omega
theorem totP_eq {v : Int → Int} (hv : ∀ i, 0 ≤ i → i < n → ∃ q : Nat, v i = 2 ^ q) : ∀ u m : Nat, totP (fun r i => decide (v i = r)) n u m = cntP (fun i => decide ((2 : Int) ^ m ≤ v i ∧ v i < (2 : Int) ^ (m + u))) n := by
  intro u
  induction u with
  | zero =>
    intro m
    symm
    by_cases q : 0 ≤ n
    · refine cnt_zero q fun i i0 i1 h => ?_
      have := of_decide_eq_true h
      rw [show m + 0 = m from rfl] at this
      omega
    · unfold cntP
      exact sumTo_neg _ (by omega)
  | succ u ih =>
    intro m
    show cntP (fun i => decide (v i = (2 : Int) ^ m)) n + totP (fun r i => decide (v i = r)) n u (m + 1) = _
    rw [ih (m + 1)]
    refine cnt_add fun i i0 i1 => ?_
    obtain ⟨q, hq⟩ := hv i i0 i1
    have e2 : m + 1 + u = m + (u + 1) := by omega
    rw [hq, e2]
    by_cases c1 : q < m
    · have l1 := p2lt c1
      have l2 := p2lt (show q < m + 1 by omega)
      rw [if_neg (fun z => by have := of_decide_eq_true z; omega), if_neg (fun z => by have := of_decide_eq_true z; omega), if_neg (fun z => by have := of_decide_eq_true z; omega)]
      rfl
    · by_cases c2 : q = m
      · have l2 := p2lt (show m < m + 1 by omega)
        have l3 := p2lt (show m < m + (u + 1) by omega)
        rw [c2, if_pos (decide_eq_true rfl), if_neg (fun z => by have := of_decide_eq_true z; omega), if_pos (decide_eq_true ⟨Int.le_refl _, l3⟩)]
        rfl
      · have l1 := p2lt (show m < q by omega)
        have l2 := p2le (m + 1) q (by omega)
        rw [if_neg (fun z => by have := of_decide_eq_true z; omega)]
        by_cases c3 : (2 : Int) ^ q < 2 ^ (m + (u + 1))
        · rw [if_pos (decide_eq_true ⟨l2, c3⟩), if_pos (decide_eq_true ⟨by omega, c3⟩)]
          rfl
        · rw [if_neg (fun z => c3 (of_decide_eq_true z).2), if_neg (fun z => c3 (of_decide_eq_true z).2)]
          rfl
/-- when the meet is over, all bouts of the table are decided -/
theorem allD (hi : IV g) (h4 : 0 < g 4) (h0 : g 0 = 3) : ga g (g 5 + (g 4 - 2)) 4 = 2 ∧ ∀ (k : Nat) (t : Int), 0 ≤ t → t < g 4 - 1 → (g 4 - 1 - t).toNat ≤ k → tD g t := by
  have z := tz hi h4
  obtain ⟨t1, t2, t3⟩ := hi.2.2.2.2 h4
  have hfin : ga g (g 5 + (g 4 - 2)) 4 = 2 := by
    have := t2.mp h0
    rw [show g 3 - 1 = g 5 + (g 4 - 2) by omega] at this
    exact this
  refine ⟨hfin, ?_⟩
  intro k
  induction k with
  | zero => intro t a0 a1 hk; omega
  | succ k ih =>
    intro t a0 a1 hk
    by_cases q : t = g 4 - 2
    · rw [q]; exact Or.inl hfin
    · have zz := z.1
      have dT := ih ((t + g 4) / 2) (by omega) (by omega) (by omega)
      have w := tD_w hi h4 (t := (t + g 4) / 2) (by omega) (by omega) dT
      have d2 : ga g (g 5 + (t + g 4) / 2) 4 = 2 := by
        rcases dT with d | d
        · exact d
        · have := t3 ((t + g 4) / 2) (by omega) (by omega) d
          omega
      have s0 := w.2.2 d2
      have hs : (t + g 4) % 2 = 0 ∨ (t + g 4) % 2 = 1 := by omega
      have e := t1 ((t + g 4) / 2) ((t + g 4) % 2) (by omega) (by omega) hs
      rw [show 2 * ((t + g 4) / 2) - g 4 + (t + g 4) % 2 = t by omega] at e
      unfold tD
      by_cases d : ga g (g 5 + t) 4 = 2 ∨ ga g (g 5 + t) 4 = 4
      · exact d
      · rw [if_neg d] at e
        exfalso
        unfold tS2 at s0
        rcases hs with q2 | q2
        · rw [q2] at e; omega
        · rw [q2] at e; omega
theorem finW (hi : IV g) (hx : IX g) (h4 : 0 < g 4) (h0 : g 0 = 3) : 0 ≤ tS2 g (g 4 - 2) (tW g (g 4 - 2)) ∧ (∃ i, (0 ≤ i ∧ i < g 8) ∧ g (222 + i) = tS2 g (g 4 - 2) (tW g (g 4 - 2))) ∧ (∀ b, ¬ lstB g (tS2 g (g 4 - 2) (tW g (g 4 - 2))) b) ∧ (∀ f i, 0 ≤ f → 0 ≤ i → i < g 8 → g (222 + i) = f → (∀ b, ¬ lstB g f b) → f = tS2 g (g 4 - 2) (tW g (g 4 - 2))) := by
  have z := tz hi h4
  obtain ⟨hf, hD⟩ := allD hi h4 h0
  have w := tD_w hi h4 (t := g 4 - 2) (by omega) (by omega) (Or.inl hf)
  have s0 := w.2.2 hf
  have W0 : 0 ≤ tS2 g (g 4 - 2) (tW g (g 4 - 2)) := by
    rcases w.1 with q | q
    · rw [q]; exact s0.1
    · rw [q]; exact s0.2
  refine ⟨W0, tSeed hi hx h4 ((g 4 - 2).toNat + 1) (g 4 - 2) _ (by omega) (by omega) (by omega) w.1 W0, fun b hb => ?_, fun f i f0 i0 i1 e hl => ?_⟩
  · obtain ⟨a1, a2, a3, a4⟩ := lst_t hi h4 hb
    by_cases q : b - g 5 = g 4 - 2
    · rw [q] at a3 a4
      have := tSame hi hx h4 (t := g 4 - 2) (s := 1 - tW g (g 4 - 2)) (s' := tW g (g 4 - 2)) (by omega) (by omega) (by omega) w.1 (by rw [a3]; exact W0) a3
      omega
    · have := (tBef hi hx h4 (t := b - g 5) (t' := g 4 - 2) (s := 1 - tW g (b - g 5)) (s' := tW g (g 4 - 2)) a1.1 (by omega) (by omega) (by omega) w.1 (by rw [a3]; exact W0) a3).2.1
      omega
  · obtain ⟨t, s, t01, hs, hts, hv, hc⟩ := tLast hi hx h4 f0 i0 i1 e
    rcases hc with ⟨d, w2, te⟩ | ⟨d, w2⟩ | d
    · rw [te] at hts w2
      rw [w2]; exact hts.symm
    · exfalso
      refine hl (g 5 + t) ⟨by omega, by omega, d, ?_⟩
      unfold tW at w2
      unfold tS2 at hts
      rw [w2, show 1 - (1 - s) = s by omega]
      exact hts
    · exact absurd (hD (g 4 - 1 - t).toNat t t01.1 t01.2 (Nat.le_refl _)) d
/-- the round that a fencer lost in, as the class keeps it -/
theorem lost_r (h : J N σ σ) (h4 : 0 < σ 13 186 4) (hf : 0 ≤ f ∧ f < 24) : (cv σ 0 26 f = 1 ↔ ∀ b, ¬ lstB (σ 13 186) f b) ∧ (∀ m : Nat, 1 ≤ m → (cv σ 0 26 f = 2 ^ m ↔ ∃ b, lstB (σ 13 186) f b ∧ ga (σ 13 186) b 7 - 100 = 2 ^ m)) ∧ (∃ q : Nat, q ≤ lg2 (σ 13 186 4) ∧ cv σ 0 26 f = 2 ^ q) := by
  have hi := h.1.1
  have hx := h.1.2.2
  have z := tz hi h4
  have hr : ∀ b, lstB (σ 13 186) f b → ∃ q : Nat, 1 ≤ q ∧ q ≤ lg2 (σ 13 186 4) ∧ ga (σ 13 186) b 7 - 100 = 2 ^ q := fun b hb => by
    have e := rd_of hi h4 ⟨hb.1, hb.2.1⟩
    have hb1 := hb.1
    have zz := z.1
    have hle : rnd (σ 13 186 4 - (b - σ 13 186 5)) ≤ σ 13 186 4 := by
      unfold rnd
      repeat' split
      all_goals omega
    have hp := rnd_p (σ 13 186 4 - (b - σ 13 186 5))
    have key : ∀ q : Nat, 1 ≤ q → q < 6 → rnd (σ 13 186 4 - (b - σ 13 186 5)) = 2 ^ q → ∃ q : Nat, 1 ≤ q ∧ q ≤ lg2 (σ 13 186 4) ∧ ga (σ 13 186) b 7 - 100 = 2 ^ q := fun q q1 q2 e2 => by
      refine ⟨q, q1, ?_, by omega⟩
      by_cases c : q ≤ lg2 (σ 13 186 4)
      · exact c
      · exfalso
        have := p2lt (show lg2 (σ 13 186 4) < q by omega)
        rw [← z.2.2.2.1] at this
        omega
    rcases hp with q | q | q | q | q
    · exact key 1 (by decide) (by decide) q
    · exact key 2 (by decide) (by decide) q
    · exact key 3 (by decide) (by decide) q
    · exact key 4 (by decide) (by decide) q
    · exact key 5 (by decide) (by decide) q
  rcases h.1.2.1.2.2.2.2.1.2 h4 f hf.1 hf.2 with ⟨r1, r2⟩ | ⟨b, hb, r1⟩
  · refine ⟨⟨fun _ => r2, fun _ => r1⟩, fun m m1 => ⟨fun e => ?_, fun ⟨b, hb, _⟩ => absurd hb (r2 b)⟩, ⟨0, by omega, r1⟩⟩
    have := p2lt (show 0 < m by omega)
    rw [show (2 : Int) ^ 0 = 1 from rfl] at this
    omega
  · obtain ⟨q, q1, q2, e⟩ := hr b hb
    have l1 := p2lt (show 0 < q by omega)
    rw [show (2 : Int) ^ 0 = 1 from rfl] at l1
    refine ⟨⟨fun e2 => by omega, fun e2 => absurd hb (e2 b)⟩, fun m m1 => ⟨fun e2 => ⟨b, hb, by omega⟩, fun ⟨b2, hb2, e2⟩ => ?_⟩, ⟨q, q2, by omega⟩⟩
    have eb := lst_1 hi hx h4 hf.1 hb hb2
    rw [← eb] at e2
    omega
theorem ca_finalist (h : J N σ σ) : Cal N 222 [aR 11 0, aI y] (zo_xfinalist (lg2 (σ 13 186 4)) y σ) σ (fun E => if E = 1 then 1 else 2) := by
  have rg := J_rg h
  have r1 := J_R1 h
  have hi := h.1.1
  have hx := h.1.2.2
  have p0 : σ 2 0 0 = σ 13 186 0 := r1.1
  have k90 : σ 9 0 0 = σ 13 186 4 := r1.2.2.2.2.2.2.2.1
  have k91 : σ 9 0 1 = σ 13 186 8 := r1.2.2.2.2.2.2.2.2
  by_cases h3 : σ 13 186 0 = 3
  · have h4 : 0 < σ 13 186 4 := by have i1 := J_I1 h; unfold I1 at i1; omega
    have z := tz hi h4
    obtain ⟨W0, ⟨iW, iW0, eW⟩, WL, WU⟩ := finW hi hx h4 h3
    have sb : ∀ i, 0 ≤ i → i < σ 13 186 8 → 0 ≤ σ 13 186 (222 + i) ∧ σ 13 186 (222 + i) < 24 := fun i i0 i1 => by
      have := hx.1 i i0 i1
      omega
    have eS : ∀ i, 0 ≤ i → i < σ 13 186 8 → fwS σ i = σ 13 186 (222 + i) := fun i i0 i1 => by
      unfold fwS zo_fencerWith
      rw [if_neg (by omega), if_neg (by omega), z0, wr_eq (by omega) (by omega), rg_15 (by omega), show i + 1 - 1 = i by omega]
      exact h.1.2.1.2.2.2.2.1.1 i i0 i1
    have eP : ∀ r i, 0 ≤ i → i < σ 13 186 8 → plP σ r i = decide (cv σ 0 26 (σ 13 186 (222 + i)) = r) := fun r i i0 i1 => by
      have e1 := eS i i0 i1
      unfold fwS at e1
      unfold plP
      rw [e1, rg_16 (sb i i0 i1)]
    have eF : faR (plP σ) (fwS σ) (σ 9 0 1) y (lg2 (σ 13 186 4) + 1) 0 0 = faR (fun r i => decide (cv σ 0 26 (σ 13 186 (222 + i)) = r)) (fun i => σ 13 186 (222 + i)) (σ 13 186 8) y (lg2 (σ 13 186 4) + 1) 0 0 := by
      rw [k91]
      exact faR_congr _ _ _ (fun q _ _ i i0 i1 => eP _ i i0 i1) eS (by omega)
    have hv : ∀ i, 0 ≤ i → i < σ 13 186 8 → ∃ q : Nat, cv σ 0 26 (σ 13 186 (222 + i)) = 2 ^ q := fun i i0 i1 => by
      obtain ⟨q, -, e⟩ := (lost_r h h4 (sb i i0 i1)).2.2
      exact ⟨q, e⟩
    have hT : totP (fun r i => decide (cv σ 0 26 (σ 13 186 (222 + i)) = r)) (σ 13 186 8) (lg2 (σ 13 186 4) + 1) 0 = σ 13 186 8 := by
      rw [totP_eq hv]
      refine (sumTo_congr fun i i0 i1 => ?_).trans (sumTo_one (by omega))
      obtain ⟨q, q1, e⟩ := (lost_r h h4 (sb i i0 i1)).2.2
      have l1 := p2p q
      have l2 := p2lt (show q < 0 + (lg2 (σ 13 186 4) + 1) by omega)
      rw [if_pos (decide_eq_true (by rw [e, show (2 : Int) ^ 0 = 1 from rfl]; exact ⟨l1, l2⟩))]
    have h1c : cntP (fun i => decide (cv σ 0 26 (σ 13 186 (222 + i)) = (2 : Int) ^ 0)) (σ 13 186 8) = 1 := by
      rw [show (2 : Int) ^ 0 = 1 from rfl]
      have key : ∀ i, 0 ≤ i → i < σ 13 186 8 → (decide (cv σ 0 26 (σ 13 186 (222 + i)) = 1) = true ↔ i = iW) := fun i i0 i1 => by
        rw [decide_eq_true_iff, (lost_r h h4 (sb i i0 i1)).1]
        constructor
        · intro q
          have e := WU _ i (sb i i0 i1).1 i0 i1 rfl q
          have := seed_inj hi hx h4 (a := i + 1) (b := iW + 1) (by omega) (by omega) (by omega) (by omega) (by rw [show 221 + (i + 1) = 222 + i by omega, show 221 + (iW + 1) = 222 + iW by omega, e, eW])
          omega
        · intro q
          rw [q, eW]
          exact WL
      have e1 : cntP (fun i => decide (cv σ 0 26 (σ 13 186 (222 + i)) = 1)) (σ 13 186 8) = sumTo (fun i => if i = iW then 1 else 0) (σ 13 186 8) := sumTo_congr fun i i0 i1 => by
        by_cases q : i = iW
        · rw [if_pos q, if_pos ((key i i0 i1).mpr q)]
        · rw [if_neg q, if_neg (fun z => q ((key i i0 i1).mp z))]
      rw [e1]
      have e2 := sumTo_stop (p := fun i => if i = iW then (1 : Int) else 0) (a := iW + 1) (by omega) (σ 13 186 8 - (iW + 1)).toNat (fun v v0 v1 => if_neg (by omega))
      rw [show iW + 1 + ((σ 13 186 8 - (iW + 1)).toNat : Int) = σ 13 186 8 by omega, sumTo_s _ iW0.1, if_pos rfl, sumTo_00 iW0.1 (fun v v0 v1 => if_neg (by omega))] at e2
      exact e2
    have hS0 : ∀ i, 0 ≤ i → i < σ 13 186 8 → 0 ≤ (fun i => σ 13 186 (222 + i)) i := fun i i0 i1 => (sb i i0 i1).1
    have hif := faR_iff (P := fun r i => decide (cv σ 0 26 (σ 13 186 (222 + i)) = r)) (S := fun i => σ 13 186 (222 + i)) (n := σ 13 186 8) (y := y) (by omega) hS0 (lg2 (σ 13 186 4) + 1) 0 0
    rw [hT] at hif
    by_cases hy : 1 ≤ y ∧ y ≤ σ 13 186 8
    · have hne := hif.mpr (by omega)
      have eo : zo_xfinalist (lg2 (σ 13 186 4)) y σ = .inl (some (aI (faR (fun r i => decide (cv σ 0 26 (σ 13 186 (222 + i)) = r)) (fun i => σ 13 186 (222 + i)) (σ 13 186 8) y (lg2 (σ 13 186 4) + 1) 0 0))) := by
        unfold zo_xfinalist
        rw [eF]
        repeat' split
        all_goals first | rfl | (exfalso; omega)
      rw [eo]
      have row : (up σ 11 0 6 0) 13 186 = σ 13 186 := rfl
      have hl7 : ∀ m : Nat, 1 ≤ m → m ≤ lg2 (σ 13 186 4) → ((2 : Int) ^ m = 2 ∨ (2 : Int) ^ m = 4 ∨ (2 : Int) ^ m = 8 ∨ (2 : Int) ^ m = 16 ∨ (2 : Int) ^ m = 32) ∧ (2 : Int) ^ m ≤ σ 13 186 4 := fun m m1 m2 => ⟨p2r m m1 (by omega), by rw [z.2.2.2.1]; exact p2le m _ m2⟩
      have e0 : faR (fun r i => decide (cv σ 0 26 (σ 13 186 (222 + i)) = r)) (fun i => σ 13 186 (222 + i)) (σ 13 186 8) y (lg2 (σ 13 186 4) + 1) 0 0 = if kth (fun i => decide (cv σ 0 26 (σ 13 186 (222 + i)) = (2 : Int) ^ 0)) (y - 1 - 0) (σ 13 186 8) = -1 then faR (fun r i => decide (cv σ 0 26 (σ 13 186 (222 + i)) = r)) (fun i => σ 13 186 (222 + i)) (σ 13 186 8) y (lg2 (σ 13 186 4)) (0 + 1) (0 + cntP (fun i => decide (cv σ 0 26 (σ 13 186 (222 + i)) = (2 : Int) ^ 0)) (σ 13 186 8)) else σ 13 186 (222 + kth (fun i => decide (cv σ 0 26 (σ 13 186 (222 + i)) = (2 : Int) ^ 0)) (y - 1 - 0) (σ 13 186 8)) := rfl
      have kf := kth_f (P := fun i => decide (cv σ 0 26 (σ 13 186 (222 + i)) = (2 : Int) ^ 0)) (j := y - 1 - 0) (n := σ 13 186 8) (by omega)
      rw [h1c] at kf e0
      by_cases y1 : y = 1
      · rcases kf with ⟨k1, k2⟩ | ⟨k1, k2, -⟩
        · omega
        · have k3 := (lost_r h h4 (sb _ k1.1 k1.2)).1.mp (of_decide_eq_true k2)
          have k4 := WU _ _ (sb _ k1.1 k1.2).1 k1.1 k1.2 rfl k3
          rw [if_neg (by omega), k4] at e0
          rw [e0]
          have g3 : σ 13 186 3 = σ 13 186 5 + σ 13 186 4 - 1 := z.2.1.2
          have eb : σ 13 186 3 - 1 = σ 13 186 5 + (σ 13 186 4 - 2) := by omega
          have w := (tD_w hi h4 (t := σ 13 186 4 - 2) (by omega) (by omega) (Or.inl (allD hi h4 h3).1)).1
          unfold tW at w
          have hev : Ev true 222 [aR 11 0, aI y] σ (.inl (some (aI (mat (up σ 11 0 6 0) ((up σ 11 0 6 0) 13 186 3 - 1) (mat (up σ 11 0 6 0) ((up σ 11 0 6 0) 13 186 3 - 1) 5))))) (up σ 11 0 6 0) := by
            show wp true 222 0 [some (aR 11 (0)), some (aI (y)), none, none, none, none, none] [] σ 0 0 _
            refine fm_0 y σ h3 hy _ ?_
            refine fm_1 y1 (by rw [row]; omega) ?_
            simp only [mat_row2, row]
            rw [eb]
            omega
          refine ⟨_, _, hev, J_thr h, Or.inl ⟨_, rfl, up_s _ _ _ _ _, ?_⟩⟩
          simp only [mat_row2, row]
          rw [eb]
          rfl
      · rcases kf with ⟨k1, k2⟩ | ⟨k1, k2, k3, k4, k5⟩
        · rw [if_pos k1, show (0 : Int) + 1 = 1 from rfl, show 0 + 1 = 1 from rfl] at e0
          rw [e0] at hne ⊢
          have eM : faR (plM (up σ 11 0 6 0)) (sdM (up σ 11 0 6 0)) (σ 13 186 8) y (lg2 (σ 13 186 4)) 1 1 = faR (fun r i => decide (cv σ 0 26 (σ 13 186 (222 + i)) = r)) (fun i => σ 13 186 (222 + i)) (σ 13 186 8) y (lg2 (σ 13 186 4)) 1 1 := faR_congr _ _ _ (fun q q0 q1 i i0 i1 => by
            have m := (ml_r (M := up σ 11 0 6 0) (g := σ 13 186) row hi h4 (sb i i0 i1).1 (hl7 q q0 (by omega)).1 (hl7 q q0 (by omega)).2).1
            have l := (lost_r h h4 (sb i i0 i1)).2.1 q q0
            unfold plM
            exact decide_eq_decide.mpr (m.trans l.symm)) (fun i i0 i1 => rfl) (by omega)
          have hev : Ev true 222 [aR 11 0, aI y] σ (.inl (some (aI (faR (plM (up σ 11 0 6 0)) (sdM (up σ 11 0 6 0)) (σ 13 186 8) y (lg2 (σ 13 186 4)) 1 1)))) (up σ 11 0 6 0) := by
            show wp true 222 0 [some (aR 11 (0)), some (aI (y)), none, none, none, none, none] [] σ 0 0 _
            refine fm_0 y σ h3 hy _ ?_
            refine fm_2 y1 _ ?_
            have h9 := fm_out (M := up σ 11 0 6 0) (n := σ 13 186 8) (y := y) (congrFun row 8) (by omega) z.2.2.2.2.1 ((congrFun row 4).trans z.2.2.2.1) (fun m m1 m2 i i0 i1 => (ml_r (M := up σ 11 0 6 0) (g := σ 13 186) row hi h4 (sb i i0 i1).1 (hl7 m m1 m2).1 (hl7 m m1 m2).2).2) (lg2 (σ 13 186 4)) 1 1 (-1) (by decide) (by omega) (by omega) (by omega) (by rw [eM]; exact hne)
            exact h9
          rw [eM] at hev
          exact ⟨_, _, hev, J_thr h, Or.inl ⟨_, rfl, up_s _ _ _ _ _, rfl⟩⟩
        · omega
    · have hne : faR (fun r i => decide (cv σ 0 26 (σ 13 186 (222 + i)) = r)) (fun i => σ 13 186 (222 + i)) (σ 13 186 8) y (lg2 (σ 13 186 4) + 1) 0 0 = -1 := by
        by_cases q : faR (fun r i => decide (cv σ 0 26 (σ 13 186 (222 + i)) = r)) (fun i => σ 13 186 (222 + i)) (σ 13 186 8) y (lg2 (σ 13 186 4) + 1) 0 0 = -1
        · exact q
        · have := hif.mp q
          omega
      have eo : zo_xfinalist (lg2 (σ 13 186 4)) y σ = .inr 3 := by
        unfold zo_xfinalist
        rw [eF, hne]
        repeat' split
        all_goals first | rfl | (exfalso; omega)
      rw [eo]
      refine ⟨_, _, fm_n y σ (fun q => hy q.2), J_thr h, Or.inr ⟨_, rfl, ?_, by decide⟩⟩
      rw [up_s, if_pos h3]
      rfl
  · have eo : zo_xfinalist (lg2 (σ 13 186 4)) y σ = .inr 1 := by
      unfold zo_xfinalist
      repeat' split
      all_goals first | rfl | (exfalso; omega)
    rw [eo]
    refine ⟨_, _, fm_n y σ (fun q => h3 q.1), J_thr h, Or.inr ⟨_, rfl, ?_, by decide⟩⟩
    rw [up_s, if_neg h3]
    rfl
end FinB
