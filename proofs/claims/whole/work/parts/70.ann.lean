/-! A fencer's own cells change; a fencer's bouts are annulled. -/
section Ann
variable {N M b s f : Int} {σ K X : Mem} {c c' : Cs} {g g' : Gs}
theorem KP_fc (hk : KP N c g) (h60 : 0 ≤ g 6) (f0 : 0 ≤ f ∧ f < g 1) (eg : ∀ k, ¬ (30 + 8 * f + 2 ≤ k ∧ k ≤ 30 + 8 * f + 5) → g' k = g k) (h2 : gf g' f 2 = 0 ∨ gf g' f 2 = 1) (ec : ∀ C k, ¬ (C = 15 ∧ k = f) → ¬ (C = 16 ∧ 3 * f ≤ k ∧ k ≤ 3 * f + 2) → c' C k = c C k) (h15 : c' 15 f = gf g' f 2) (ha : c' 16 (3 * f) = gf g' f 3) (hb : c' 16 (3 * f + 1) = gf g' f 4) (hc : c' 16 (3 * f + 2) = gf g' f 5) : KP N c' g' := by
  obtain ⟨hi, hr, hX⟩ := hk
  have i1 := hi.1
  have hph0 : ¬ g 0 = 0 := by unfold I1 at i1; omega
  have b1 : (0 ≤ g 1 ∧ g 1 ≤ 24) ∧ (0 ≤ g 8 ∧ g 8 ≤ 24) ∧ (0 < g 4 → 0 ≤ g 5) := by unfold I1 at i1; omega
  have ek : ∀ k, k < 30 ∨ 222 ≤ k → g' k = g k := fun k q => eg k (by omega)
  have ea : ∀ b w, 0 ≤ b → 0 ≤ w → ga g' b w = ga g b w := fun b w q0 q1 => ek _ (by omega)
  have ef : ∀ f' w, ¬ (f' = f ∧ 2 ≤ w ∧ w ≤ 5) → 0 ≤ w → w < 8 → gf g' f' w = gf g f' w := fun f' w q q0 q1 => eg _ (by omega)
  have e3 := ek 3 (by decide)
  have e4 := ek 4 (by decide)
  have e5 := ek 5 (by decide)
  have ep : pB g' = pB g := by unfold pB; rw [e3, e4, e5]
  have et : ∀ b, tgB g' b = tgB g b := fun b => by unfold tgB; rw [ep]
  obtain ⟨-, iB, iF, iR, iT⟩ := hi
  obtain ⟨r1, r2, r3, r4, r5, r6, r7⟩ := hr
  have hIV : IV g' := by
    refine ⟨?_, fun b q0 q1 => ?_, fun f' q0 q1 => ?_, IRl_cg iR (fun k k0 k1 => ek k (by omega)), fun h4 => ?_⟩
    · unfold I1 at i1 ⊢
      rw [ek 0 (by decide), ek 1 (by decide), ek 2 (by decide), e3, e4, e5, ek 6 (by decide), ek 7 (by decide), ek 8 (by decide)]
      exact i1
    · rw [e3] at q1
      have hb' := iB b q0 q1
      unfold IB at hb' ⊢
      rw [ea b 0 q0 (by decide), ea b 1 q0 (by decide), ea b 2 q0 (by decide), ea b 3 q0 (by decide), ea b 4 q0 (by decide), ea b 5 q0 (by decide), ea b 6 q0 (by decide), ea b 7 q0 (by decide), ea b 8 q0 (by decide), ea b 9 q0 (by decide), ek 1 (by decide), ek 2 (by decide), e4, e5, ek 6 (by decide), ep, et]
      exact hb'
    · rw [ek 1 (by decide)] at q1
      have hf := iF f' q0 q1
      unfold IF at hf ⊢
      rw [ef f' 0 (by omega) (by decide) (by decide), ef f' 1 (by omega) (by decide) (by decide), ef f' 6 (by omega) (by decide) (by decide), ef f' 7 (by omega) (by decide) (by decide), ek 0 (by decide), ek 2 (by decide)]
      refine ⟨hf.1, hf.2.1, ?_, fun q => absurd q hph0, hf.2.2.2.2⟩
      by_cases hff : f' = f
      · rw [hff]; exact h2
      · rw [ef f' 2 (by omega) (by decide) (by decide)]; exact hf.2.2.1
    · rw [e4] at h4
      obtain ⟨t1, t2, t3⟩ := iT h4
      have h5 := b1.2.2 h4
      have hg3 : g 3 = g 5 + g 4 - 1 ∧ 2 ≤ g 4 := by unfold I1 at i1; omega
      rw [ek 0 (by decide), e3, e4, e5]
      refine ⟨fun t s q1 q2 q3 => ?_, ?_, fun t q1 q2 q3 => ?_⟩
      · have q4 : 0 ≤ g 5 + (2 * t - g 4 + s) ∧ g 5 + (2 * t - g 4 + s) < g 3 := by omega
        rw [ea (g 5 + t) s (by omega) (by omega), t1 t s q1 q2 q3, ea _ 4 q4.1 (by decide), ea _ 5 q4.1 (by decide)]
        by_cases h24 : ga g (g 5 + (2 * t - g 4 + s)) 4 = 2 ∨ ga g (g 5 + (2 * t - g 4 + s)) 4 = 4
        · rw [if_pos h24, if_pos h24]
          have hb' := iB _ q4.1 q4.2
          have : 0 ≤ ga g (g 5 + (2 * t - g 4 + s)) 5 := by unfold IB at hb'; omega
          rw [ea _ _ q4.1 this]
        · rw [if_neg h24, if_neg h24]
      · rw [ea (g 3 - 1) 4 (by omega) (by decide)]; exact t2
      · rw [ea _ 4 (by omega) (by decide)] at q3
        exact t3 t q1 q2 q3
  refine ⟨hIV, ?_, ?_⟩
  · refine ⟨?_, fun f' q0 q1 => ?_, fun b q0 q1 => ?_, ⟨fun p p0 p1 => ?_, fun p i p0 p1 i0 i1' => ?_, fun q f' q0 q1 => ?_⟩, ?_, fun q => ?_, R7_cg r7 (fun k k0 k1 => ek k (by omega)) (fun C k q => ec C k (by omega) (by omega))⟩
    · unfold R1 at r1 ⊢
      rw [ec 2 0 (by omega) (by omega), ec 2 1 (by omega) (by omega), ec 2 2 (by omega) (by omega), ec 6 0 (by omega) (by omega), ec 3 0 (by omega) (by omega), ec 0 0 (by omega) (by omega), ec 0 1 (by omega) (by omega), ec 9 0 (by omega) (by omega), ec 9 1 (by omega) (by omega), ek 0 (by decide), ek 7 (by decide), ek 6 (by decide), ek 1 (by decide), ek 2 (by decide), e3, ep, e4, ek 8 (by decide)]
      exact r1
    · rw [ek 1 (by decide)] at q1
      have hf := r2 f' q0 q1
      rw [ef f' 0 (by omega) (by decide) (by decide), ef f' 1 (by omega) (by decide) (by decide), ef f' 6 (by omega) (by decide) (by decide), ef f' 7 (by omega) (by decide) (by decide), ec 11 _ (by omega) (by omega), ec 12 _ (by omega) (by omega), ec 13 _ (by omega) (by omega), ec 14 _ (by omega) (by omega)]
      refine ⟨hf.1, hf.2.1, hf.2.2.1, hf.2.2.2.1, ?_⟩
      by_cases hff : f' = f
      · rw [hff]; exact ⟨h15, ha, hb, hc⟩
      · rw [ef f' 2 (by omega) (by decide) (by decide), ef f' 3 (by omega) (by decide) (by decide), ef f' 4 (by omega) (by decide) (by decide), ef f' 5 (by omega) (by decide) (by decide), ec 15 _ (by omega) (by omega), ec 16 _ (by omega) (by omega), ec 16 _ (by omega) (by omega), ec 16 _ (by omega) (by omega)]
        exact hf.2.2.2.2
    · rw [e3] at q1
      have h3 := r3 b q0 q1
      have hb' := iB b q0 q1
      unfold R3b at h3 ⊢
      rw [ec 19 _ (by omega) (by omega), ec 19 _ (by omega) (by omega), ec 20 _ (by omega) (by omega), ec 20 _ (by omega) (by omega), ec 21 _ (by omega) (by omega), ec 22 _ (by omega) (by omega), ec 23 _ (by omega) (by omega), ec 24 _ (by omega) (by omega), ea b 0 q0 (by decide), ea b 1 q0 (by decide), ea b 2 q0 (by decide), ea b 3 q0 (by decide), ea b 4 q0 (by decide), ea b 5 q0 (by decide), ea b 6 q0 (by decide), ea b 7 q0 (by decide)]
      by_cases h5 : ga g b 5 < 0
      · rw [if_pos h5] at h3 ⊢; exact h3
      · rw [if_neg h5] at h3 ⊢
        rw [ea b _ q0 (by omega)]; exact h3
    · rw [ek 2 (by decide)] at p1
      rw [ec 17 _ (by omega) (by omega), ek 1 (by decide), r4.1 p p0 p1]
      exact sumTo_congr fun f' q0 q1 => by rw [ef f' 6 (by omega) (by decide) (by decide)]
    · rw [ek 2 (by decide)] at p1
      rw [ec 17 _ (by omega) (by omega)] at i1'
      rw [ec 18 _ (by omega) (by omega), ek 1 (by decide), ef _ 6 (by omega) (by decide) (by decide), ef _ 7 (by omega) (by decide) (by decide)]
      exact r4.2.1 p i p0 p1 i0 i1'
    · rw [ek 0 (by decide)] at q
      rw [ek 1 (by decide)] at q1
      rw [ef _ 6 (by omega) (by decide) (by decide), ef _ 7 (by omega) (by decide) (by decide), ec 17 _ (by omega) (by omega), ec 18 _ (by omega) (by omega)]
      exact r4.2.2 q f' q0 q1
    · have hl : 0 < g' 4 → ∀ f b, lstB g' f b ↔ lstB g f b := fun q f b => by
        rw [e4] at q
        have h5 := b1.2.2 q
        unfold lstB
        rw [e3, e5]
        by_cases hq : g 5 ≤ b ∧ b < g 3
        · have hb' := iB b (by omega) hq.2
          rw [ea b 4 (by omega) (by decide)]
          by_cases h2' : ga g b 4 = 2
          · have : ga g b 5 = 0 ∨ ga g b 5 = 1 := by unfold IB at hb'; omega
            rw [ea b 5 (by omega) (by decide), ea b _ (by omega) (by omega)]
          · constructor
            · intro q; exact absurd q.2.2.1 h2'
            · intro q; exact absurd q.2.2.1 h2'
        · constructor
          · intro q; exact absurd ⟨q.1, q.2.1⟩ hq
          · intro q; exact absurd ⟨q.1, q.2.1⟩ hq
      exact R5_cg r5 (ek 8 (by decide)) b1.2.1.2 (by rw [e4]; exact id) (fun k k0 k1 => ek k (by omega)) (fun C k q0 q1 => ec C k (by omega) (by omega)) hl (fun q f b hl' => ea b 7 (by rw [e4] at q; have := b1.2.2 q; have := hl'.1; omega) (by decide))
    · rw [ek 6 (by decide)] at q ⊢
      rw [ea _ 8 q (by decide), ea _ 9 q (by decide), ec 10 0 (by omega) (by omega), ec 10 1 (by omega) (by omega)]
      exact r6 q
  · exact IX_fr ⟨i1, iB, iF, iR, iT⟩ hX (ek 1 (by decide)) e4 (fun _ => e5) (ek 8 (by decide)) ep (fun k k0 k1 => ek k (by omega)) (fun f' w q0 q1 q2 => ef f' w (by omega) (by omega) (by omega)) (fun b s q0 q1 q2 => ea b s q0 (by omega)) (fun q p p0 p1 => ea _ _ (by have := b1.2.2 q; omega) (by omega))
/-- the fencer's bouts of pools before n -/
def hitb (g : Gs) (f n b : Int) : Bool := decide ((0 ≤ b ∧ b < n) ∧ b < pB g ∧ (ga g b 0 = f ∨ ga g b 1 = f))
abbrev hit (g : Gs) (f n b : Int) : Prop := hitb g f n b = true
theorem hit_iff {n : Int} : hit g f n b ↔ ((0 ≤ b ∧ b < n) ∧ b < pB g ∧ (ga g b 0 = f ∨ ga g b 1 = f)) := by
  unfold hit hitb
  exact decide_eq_true_iff
def gAn (g : Gs) (f n : Int) : Gs := fun k => if 250 ≤ k ∧ hit g f n ((k - 250) / 10) then (if (k - 250) % 10 = 4 then 3 else if (k - 250) % 10 = 2 ∨ (k - 250) % 10 = 3 then 0 else if (k - 250) % 10 = 5 ∨ (k - 250) % 10 = 6 then -1 else g k) else g k
def cAn (c : Cs) (g : Gs) (f n : Int) : Cs := fun C k => if C = 20 ∧ hit g f n (k / 2) then 0 else if C = 21 ∧ hit g f n k then 3 else if (C = 22 ∨ C = 24) ∧ hit g f n k then -1 else c C k
theorem gAn_a {n w : Int} (hw : 0 ≤ w ∧ w < 10) (hb : 0 ≤ b) : ga (gAn g f n) b w = (if hit g f n b then (if w = 4 then 3 else if w = 2 ∨ w = 3 then 0 else if w = 5 ∨ w = 6 then -1 else ga g b w) else ga g b w) := by
  unfold ga gAn
  rw [show (250 + 10 * b + w - 250) / 10 = b by omega, show (250 + 10 * b + w - 250) % 10 = w by omega]
  by_cases h : hit g f n b
  · rw [if_pos ⟨by omega, h⟩, if_pos h]
  · rw [if_neg (fun q => h q.2), if_neg h]
theorem gAn_k {n k : Int} (h : k < 250) : gAn g f n k = g k := by unfold gAn; rw [if_neg (by omega)]
theorem gAn_0 : gAn g f 0 = g := by
  funext k
  unfold gAn
  rw [if_neg]
  rintro ⟨-, h⟩
  have := hit_iff.mp h
  omega
theorem cAn_20 {n k : Int} : cAn c g f n 20 k = if hit g f n (k / 2) then 0 else c 20 k := by
  unfold cAn
  by_cases h : hit g f n (k / 2)
  · rw [if_pos h]
    simp [h]
  · rw [if_neg h]
    simp [h]
theorem cAn_21 {n k : Int} : cAn c g f n 21 k = if hit g f n k then 3 else c 21 k := by
  unfold cAn
  by_cases h : hit g f n k
  · rw [if_pos h]
    simp [h]
  · rw [if_neg h]
    simp [h]
theorem cAn_22 {n k : Int} : cAn c g f n 22 k = if hit g f n k then -1 else c 22 k := by
  unfold cAn
  by_cases h : hit g f n k
  · rw [if_pos h]
    simp [h]
  · rw [if_neg h]
    simp [h]
theorem cAn_24 {n k : Int} : cAn c g f n 24 k = if hit g f n k then -1 else c 24 k := by
  unfold cAn
  by_cases h : hit g f n k
  · rw [if_pos h]
    simp [h]
  · rw [if_neg h]
    simp [h]
theorem cAn_0 : cAn c g f 0 = c := by
  funext C k
  unfold cAn
  have h : ∀ k, ¬ hit g f 0 k := fun k q => by have := hit_iff.mp q; omega
  rw [if_neg (fun q => h _ q.2), if_neg (fun q => h _ q.2), if_neg (fun q => h _ q.2)]
theorem KP_ann (hk : KP N c g) (h6 : 0 ≤ g 6) (hp : g 6 < pB g) (hf : ga g (g 6) 0 = f ∨ ga g (g 6) 1 = f) : KP N (cset (cAn c g f (pB g)) 2 2 (-1)) (gs (gAn g f (g 3)) 6 (-1)) := by
  obtain ⟨hi, hr, hX⟩ := hk
  have hpB := pB_le hi
  have hiv := hi
  have i1 := hi.1
  have b1 : (0 ≤ g 1 ∧ g 1 ≤ 24) ∧ (0 ≤ g 8 ∧ g 8 ≤ 24) ∧ (0 < g 4 → 0 ≤ g 5 ∧ pB g = g 5 ∧ g 3 = g 5 + g 4 - 1 ∧ 2 ≤ g 4) ∧ g 6 < g 3 := by
    refine ⟨by unfold I1 at i1; omega, by unfold I1 at i1; omega, fun q => ?_, by unfold I1 at i1; omega⟩
    unfold pB
    rw [if_neg (by omega)]
    unfold I1 at i1
    omega
  obtain ⟨-, iB, iF, iR, iT⟩ := hi
  obtain ⟨r1, r2, r3, r4, r5, r6, r7⟩ := hr
  generalize hG : gs (gAn g f (g 3)) 6 (-1) = g'
  have ek : ∀ k, k < 250 → k ≠ 6 → g' k = g k := fun k q q6 => by rw [← hG, gs_o q6, gAn_k q]
  have e6 : g' 6 = -1 := by rw [← hG]; exact gs_s rfl
  have ea : ∀ b w, 0 ≤ b → 0 ≤ w → w < 10 → ga g' b w = ga (gAn g f (g 3)) b w := fun b w q0 q1 q2 => by rw [← hG]; exact gs_o (by omega)
  have en : ∀ b w, 0 ≤ b → 0 ≤ w → w < 10 → ¬ hit g f (g 3) b → ga g' b w = ga g b w := fun b w q0 q1 q2 q3 => by rw [ea b w q0 q1 q2, gAn_a ⟨q1, q2⟩ q0, if_neg q3]
  have eh : ∀ b w, 0 ≤ b → 0 ≤ w → w < 10 → hit g f (g 3) b → ga g' b w = if w = 4 then 3 else if w = 2 ∨ w = 3 then 0 else if w = 5 ∨ w = 6 then -1 else ga g b w := fun b w q0 q1 q2 q3 => by rw [ea b w q0 q1 q2, gAn_a ⟨q1, q2⟩ q0, if_pos q3]
  have eo : ∀ b w, 0 ≤ b → (w = 0 ∨ w = 1 ∨ w = 7 ∨ w = 8 ∨ w = 9) → ga g' b w = ga g b w := fun b w q0 q1 => by
    by_cases q : hit g f (g 3) b
    · rw [eh b w q0 (by omega) (by omega) q, if_neg (by omega), if_neg (by omega), if_neg (by omega)]
    · exact en b w q0 (by omega) (by omega) q
  have k2 : ∀ b, 0 ≤ b → hit g f (g 3) b → ga g' b 2 = 0 := fun b q0 q => (eh b 2 q0 (by decide) (by decide) q).trans ((if_neg (by decide)).trans (if_pos (by decide)))
  have k3 : ∀ b, 0 ≤ b → hit g f (g 3) b → ga g' b 3 = 0 := fun b q0 q => (eh b 3 q0 (by decide) (by decide) q).trans ((if_neg (by decide)).trans (if_pos (by decide)))
  have k4 : ∀ b, 0 ≤ b → hit g f (g 3) b → ga g' b 4 = 3 := fun b q0 q => (eh b 4 q0 (by decide) (by decide) q).trans (if_pos (by decide))
  have k5 : ∀ b, 0 ≤ b → hit g f (g 3) b → ga g' b 5 = -1 := fun b q0 q => (eh b 5 q0 (by decide) (by decide) q).trans ((if_neg (by decide)).trans ((if_neg (by decide)).trans (if_pos (by decide))))
  have k6 : ∀ b, 0 ≤ b → hit g f (g 3) b → ga g' b 6 = -1 := fun b q0 q => (eh b 6 q0 (by decide) (by decide) q).trans ((if_neg (by decide)).trans ((if_neg (by decide)).trans (if_pos (by decide))))
  have ht : ∀ b w, pB g ≤ b → 0 ≤ w → w < 10 → ga g' b w = ga g b w := fun b w q0 q1 q2 => en b w (by omega) q1 q2 (fun q => by have := (hit_iff.mp q).2.1; omega)
  have e3 := ek 3 (by decide) (by decide)
  have e4 := ek 4 (by decide) (by decide)
  have e5 := ek 5 (by decide) (by decide)
  have ep : pB g' = pB g := by unfold pB; rw [e3, e4, e5]
  have et : ∀ b, tgB g' b = tgB g b := fun b => by unfold tgB; rw [ep]
  have h6h : hit g f (g 3) (g 6) := hit_iff.mpr ⟨⟨h6, b1.2.2.2⟩, hp, hf⟩
  have hIV : IV g' := by
    refine ⟨?_, fun b q0 q1 => ?_, ?_, IRl_cg iR (fun k k0 k1 => ek k (by omega) (by omega)), fun h4 => ?_⟩
    · unfold I1 at i1 ⊢
      rw [ek 0 (by decide) (by decide), ek 1 (by decide) (by decide), ek 2 (by decide) (by decide), e3, e4, e5, e6, ek 7 (by decide) (by decide), ek 8 (by decide) (by decide)]
      omega
    · rw [e3] at q1
      have hb' := iB b q0 q1
      by_cases q : hit g f (g 3) b
      · have hbp : b < pB g := (hit_iff.mp q).2.1
        unfold IB at hb' ⊢
        rw [eo b 0 q0 (by decide), eo b 1 q0 (by decide), eo b 7 q0 (by decide), eo b 8 q0 (by decide), eo b 9 q0 (by decide), k2 b q0 q, k3 b q0 q, k4 b q0 q, k5 b q0 q, k6 b q0 q, ek 1 (by decide) (by decide), ek 2 (by decide) (by decide), e6, ep]
        obtain ⟨b1', b2, b3, b4, b5, b6, b7, b8, b9, ba, bb, bc, bd, be, bf, bg⟩ := hb'
        refine ⟨by decide, b2, b3, by decide, by decide, by decide, by decide, fun x => absurd x (by decide), fun x => absurd x (by omega), fun x => absurd x (by decide), fun _ => rfl, fun x => absurd x (by decide), fun x => absurd x (by decide), be, fun x => absurd x (by omega), fun _ => hbp⟩
      · have hne : ¬ b = g 6 := fun x => q (by rw [x]; exact h6h)
        unfold IB at hb' ⊢
        rw [en b 0 q0 (by decide) (by decide) q, en b 1 q0 (by decide) (by decide) q, en b 7 q0 (by decide) (by decide) q, en b 8 q0 (by decide) (by decide) q, en b 9 q0 (by decide) (by decide) q, en b 2 q0 (by decide) (by decide) q, en b 3 q0 (by decide) (by decide) q, en b 4 q0 (by decide) (by decide) q, en b 5 q0 (by decide) (by decide) q, en b 6 q0 (by decide) (by decide) q, ek 1 (by decide) (by decide), ek 2 (by decide) (by decide), e4, e5, e6, ep, et]
        obtain ⟨b1', b2, b3, b4, b5, b6, b7, b8, b9, ba, bb, bc, bd, be, bf, bg⟩ := hb'
        exact ⟨b1', b2, b3, b4, b5, b6, b7, fun x => absurd (b8 x).1.symm hne, fun x => absurd x (by omega), ba, bb, bc, bd, be, bf, bg⟩
    · have e0 := ek 0 (by decide) (by decide)
      exact IF_cg iF (ek 1 (by decide) (by decide)) b1.1.2 (ek 2 (by decide) (by decide)) (by rw [e0]; exact ⟨id, id⟩) (fun k k0 k1 => ek k (by omega) (by omega))
    · rw [e4] at h4
      obtain ⟨t1, t2, t3⟩ := iT h4
      obtain ⟨h5, hp5, hg3, hg4⟩ := b1.2.2.1 h4
      rw [ek 0 (by decide) (by decide), e3, e4, e5]
      refine ⟨fun t s q1 q2 q3 => ?_, ?_, fun t q1 q2 q3 => ?_⟩
      · have q4 : g 5 ≤ g 5 + (2 * t - g 4 + s) ∧ g 5 + (2 * t - g 4 + s) < g 3 := by omega
        rw [ht (g 5 + t) s (by omega) (by omega) (by omega), t1 t s q1 q2 q3, ht _ 4 (by omega) (by decide) (by decide), ht _ 5 (by omega) (by decide) (by decide)]
        by_cases h24 : ga g (g 5 + (2 * t - g 4 + s)) 4 = 2 ∨ ga g (g 5 + (2 * t - g 4 + s)) 4 = 4
        · rw [if_pos h24, if_pos h24]
          have hb' := iB _ (by omega) q4.2
          have : 0 ≤ ga g (g 5 + (2 * t - g 4 + s)) 5 ∧ ga g (g 5 + (2 * t - g 4 + s)) 5 ≤ 1 := by unfold IB at hb'; omega
          rw [ht _ _ (by omega) this.1 (by omega)]
        · rw [if_neg h24, if_neg h24]
      · rw [ht (g 3 - 1) 4 (by omega) (by decide) (by decide)]; exact t2
      · rw [ht _ 4 (by omega) (by decide) (by decide)] at q3
        exact t3 t q1 q2 q3
  have ec : ∀ C k, ¬ (C = 2 ∧ k = 2) → ¬ (C = 20 ∨ C = 21 ∨ C = 22 ∨ C = 24) → cset (cAn c g f (pB g)) 2 2 (-1) C k = c C k := fun C k q1 q2 => by
    rw [cset_o (by omega)]
    unfold cAn
    rw [if_neg (by omega), if_neg (by omega), if_neg (by omega)]
  have hpg : ∀ b, hit g f (pB g) b ↔ hit g f (g 3) b := fun b => by
    rw [hit_iff, hit_iff]
    constructor
    · rintro ⟨q0, q1, q2⟩; exact ⟨⟨q0.1, by omega⟩, q1, q2⟩
    · rintro ⟨q0, q1, q2⟩; exact ⟨⟨q0.1, by omega⟩, q1, q2⟩
  refine ⟨hIV, ?_, ?_⟩
  · refine ⟨?_, R2_cg r2 (ek 1 (by decide) (by decide)) b1.1.2 (fun k k0 k1 => ek k (by omega) (by omega)) (fun C k q0 q1 => ec C k (by omega) (by omega)), fun b q0 q1 => ?_, ?_, ?_, fun q => ?_, R7_cg r7 (fun k k0 k1 => ek k (by omega) (by omega)) (fun C k q => ec C k (by omega) (by omega))⟩
    · unfold R1 at r1 ⊢
      rw [ec 2 0 (by omega) (by omega), ec 2 1 (by omega) (by omega), cset_s ⟨rfl, rfl⟩, ec 6 0 (by omega) (by omega), ec 3 0 (by omega) (by omega), ec 0 0 (by omega) (by omega), ec 0 1 (by omega) (by omega), ec 9 0 (by omega) (by omega), ec 9 1 (by omega) (by omega), ek 0 (by decide) (by decide), ek 7 (by decide) (by decide), e6, ek 1 (by decide) (by decide), ek 2 (by decide) (by decide), e3, ep, e4, ek 8 (by decide) (by decide)]
      exact ⟨r1.1, r1.2.1, rfl, r1.2.2.2⟩
    · rw [e3] at q1
      have h3 := r3 b q0 q1
      have hb' := iB b q0 q1
      unfold R3b at h3 ⊢
      rw [ec 19 _ (by omega) (by omega), ec 19 _ (by omega) (by omega), ec 23 _ (by omega) (by omega), eo b 0 q0 (by decide), eo b 1 q0 (by decide), eo b 7 q0 (by decide), cset_o (by omega), cset_o (by omega), cset_o (by omega), cset_o (by omega), cset_o (by omega)]
      rw [cAn_20, cAn_20, cAn_21, cAn_22, cAn_24, show (2 * b) / 2 = b by omega, show (2 * b + 1) / 2 = b by omega]
      by_cases q : hit g f (g 3) b
      · have q' : hit g f (pB g) b := (hpg b).mpr q
        rw [k2 b q0 q, k3 b q0 q, k4 b q0 q, k5 b q0 q, k6 b q0 q, if_pos q', if_pos q', if_pos q', if_pos q', if_pos q', if_pos (by decide)]
        exact ⟨h3.1, h3.2.1, rfl, rfl, rfl, rfl, h3.2.2.2.2.2.2.1, rfl⟩
      · simp only [en b 2 q0 (by decide) (by decide) q, en b 3 q0 (by decide) (by decide) q, en b 4 q0 (by decide) (by decide) q, en b 5 q0 (by decide) (by decide) q, en b 6 q0 (by decide) (by decide) q]
        have q' : ¬ hit g f (pB g) b := fun x => q ((hpg b).mp x)
        rw [if_neg q', if_neg q', if_neg q', if_neg q', if_neg q']
        by_cases h5 : ga g b 5 < 0
        · rw [if_pos h5] at h3 ⊢; exact h3
        · rw [if_neg h5] at h3 ⊢
          have : ga g b 5 ≤ 1 := by unfold IB at hb'; omega
          rw [en b _ q0 (by omega) (by omega) q]; exact h3
    · exact R4_cg r4 (by rw [ek 0 (by decide) (by decide)]; exact id) (ek 1 (by decide) (by decide)) (ek 2 (by decide) (by decide)) b1.1.2 (fun q f f0 f1 => (iF f f0 f1).2.2.2.2 q) (fun k k0 k1 => ek k (by omega) (by omega)) (fun C k q0 q1 => ec C k (by omega) (by omega))
    · refine R5_cg r5 (ek 8 (by decide) (by decide)) b1.2.1.2 (by rw [e4]; exact id) (fun k k0 k1 => ek k (by omega) (by omega)) (fun C k q0 q1 => ec C k (by omega) (by omega)) (fun q f' b => ?_) (fun q f' b hl' => ht b 7 (by rw [e4] at q; have := b1.2.2.1 q; have := hl'.1; omega) (by decide) (by decide))
      rw [e4] at q
      obtain ⟨h5, hp5, hg3, hg4⟩ := b1.2.2.1 q
      unfold lstB
      rw [e3, e5]
      by_cases hq : g 5 ≤ b ∧ b < g 3
      · have hb' := iB b (by omega) hq.2
        rw [ht b 4 (by omega) (by decide) (by decide)]
        by_cases h2' : ga g b 4 = 2
        · have : ga g b 5 = 0 ∨ ga g b 5 = 1 := by unfold IB at hb'; omega
          rw [ht b 5 (by omega) (by decide) (by decide), ht b _ (by omega) (by omega) (by omega)]
        · constructor
          · intro q; exact absurd q.2.2.1 h2'
          · intro q; exact absurd q.2.2.1 h2'
      · constructor
        · intro q; exact absurd ⟨q.1, q.2.1⟩ hq
        · intro q; exact absurd ⟨q.1, q.2.1⟩ hq
    · rw [e6] at q; omega
  · exact IX_fr hiv hX (ek 1 (by decide) (by decide)) e4 (fun _ => e5) (ek 8 (by decide) (by decide)) ep (fun k k0 k1 => ek k (by omega) (by omega)) (fun f' w q0 q1 q2 => ek _ (by omega) (by omega)) (fun b s q0 q1 q2 => eo b s q0 (by omega)) (fun q p p0 p1 => eo _ _ (by have := b1.2.2.1 q; omega) (by omega))
end Ann
