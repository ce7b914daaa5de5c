/-! The two sides together: J N a b: the class's cells of a and the model's of b belong together. -/
/-- the seed at a place of the table of 2 ^ n -/
def sdN : Nat → Int → Int
  | 0, _ => 1
  | n + 1, p => if p % 2 = 0 then sdN n (p / 2) else 2 ^ (n + 1) + 1 - sdN n (p / 2)
def lg2 (u : Int) : Nat := if u ≤ 2 then 1 else if u ≤ 4 then 2 else if u ≤ 8 then 3 else if u ≤ 16 then 4 else 5
/-- what was drawn, and stays: the seeds, the first round, the bouts of the pools -/
def IX (g : Gs) : Prop := (∀ i, 0 ≤ i → i < g 8 → 0 ≤ g (222 + i) ∧ g (222 + i) < g 1) ∧ (∀ i j, 0 ≤ i → i < j → j < g 8 → g (222 + i) ≠ g (222 + j)) ∧
  (0 < g 4 → ∀ p, 0 ≤ p → p < g 4 → ga g (g 5 + p / 2) (p % 2) = if sdN (lg2 (g 4)) p ≤ g 8 then g (221 + sdN (lg2 (g 4)) p) else -1) ∧
  (∀ x y, 0 ≤ x → x < g 1 → 0 ≤ y → y < g 1 → x ≠ y → 0 ≤ gf g x 6 → gf g x 6 = gf g y 6 → ∃ b, 0 ≤ b ∧ b < pB g ∧ ((ga g b 0 = x ∧ ga g b 1 = y) ∨ (ga g b 0 = y ∧ ga g b 1 = x))) ∧
  sumTo (fun b => if gf g (ga g b 0) 0 = gf g (ga g b 1) 0 then 1 else 0) (pB g) = sumTo (fun x => sumTo (fun y => if 0 ≤ gf g x 6 ∧ gf g x 6 = gf g y 6 ∧ gf g x 0 = gf g y 0 then 1 else 0) x) (g 1) ∧
  (∀ b, 0 ≤ b → b < pB g → gf g (ga g b 0) 6 = gf g (ga g b 1) 6)
theorem IX_fr {g g' : Gs} (hi : IV g) (h : IX g) (h1 : g' 1 = g 1) (h4 : g' 4 = g 4) (h5 : 0 < g 4 → g' 5 = g 5) (h8 : g' 8 = g 8) (hp : pB g' = pB g) (es : ∀ k, 222 ≤ k → k < 250 → g' k = g k) (ef : ∀ f w, 0 ≤ f → f < g 1 → (w = 0 ∨ w = 6 ∨ w = 7) → gf g' f w = gf g f w) (eb : ∀ b s, 0 ≤ b → b < pB g → (s = 0 ∨ s = 1) → ga g' b s = ga g b s) (et : 0 < g 4 → ∀ p, 0 ≤ p → p < g 4 → ga g' (g 5 + p / 2) (p % 2) = ga g (g 5 + p / 2) (p % 2)) : IX g' := by
  obtain ⟨x1, x2, x3, x4, x5, x6⟩ := h
  obtain ⟨i1, iB, iF, iR, iT⟩ := hi
  have b8 : 0 ≤ g 8 ∧ g 8 ≤ 24 := by unfold I1 at i1; omega
  have b1 : 0 ≤ g 1 ∧ g 1 ≤ 24 := by unfold I1 at i1; omega
  have bP : 0 ≤ pB g ∧ pB g ≤ g 3 := by unfold I1 at i1; unfold pB; split <;> omega
  have bL : ∀ b, 0 ≤ b → b < pB g → (0 ≤ ga g b 0 ∧ ga g b 0 < g 1) ∧ (0 ≤ ga g b 1 ∧ ga g b 1 < g 1) := fun b q0 q1 => by
    have hb := iB b q0 (by omega)
    unfold IB at hb
    omega
  clear i1 iB iR iT iF
  refine ⟨fun i i0 i1 => ?_, fun i j i0 ij j1 => ?_, fun q p p0 p1 => ?_, fun x y q0 q1 q2 q3 q4 q5 q6 => ?_, ?_, fun b q0 q1 => ?_⟩
  · rw [h8] at i1
    rw [es _ (by omega) (by omega), h1]
    exact x1 i i0 i1
  · rw [h8] at j1
    rw [es _ (by omega) (by omega), es _ (by omega) (by omega)]
    exact x2 i j i0 ij j1
  · rw [h4] at q p1
    rw [h5 q, h4, h8, et q p p0 p1, x3 q p p0 p1]
    by_cases hs : sdN (lg2 (g 4)) p ≤ g 8
    · rw [if_pos hs, if_pos hs]
      by_cases hk : 222 ≤ 221 + sdN (lg2 (g 4)) p
      · rw [es _ hk (by omega)]
      · exfalso
        have : 1 ≤ sdN (lg2 (g 4)) p := by
          have key : ∀ (n : Nat) (p : Int), 1 ≤ sdN n p ∧ sdN n p ≤ 2 ^ n := by
            intro n
            induction n with
            | zero => intro p; exact ⟨Int.le_refl 1, Int.le_refl 1⟩
            | succ n ih =>
              intro p
              have h := ih (p / 2)
              have h2 : (2 : Int) ^ (n + 1) = 2 ^ n * 2 := Int.pow_succ 2 n
              unfold sdN
              split
              · omega
              · omega
          exact (key _ _).1
        omega
    · rw [if_neg hs, if_neg hs]
  · rw [h1] at q1 q3
    rw [ef x 6 q0 q1 (by decide)] at q5 q6
    rw [ef y 6 q2 q3 (by decide)] at q6
    obtain ⟨b, b0, b1', hb⟩ := x4 x y q0 q1 q2 q3 q4 q5 q6
    refine ⟨b, b0, by rw [hp]; exact b1', ?_⟩
    rw [eb b 0 b0 b1' (by decide), eb b 1 b0 b1' (by decide)]
    exact hb
  · rw [hp, h1]
    refine (sumTo_congr fun b q0 q1 => ?_).trans (x5.trans (sumTo_congr fun x q0 q1 => sumTo_congr fun y q2 q3 => ?_))
    · obtain ⟨l1, l2⟩ := bL b q0 q1
      rw [eb b 0 q0 q1 (by decide), eb b 1 q0 q1 (by decide), ef _ 0 l1.1 l1.2 (by decide), ef _ 0 l2.1 l2.2 (by decide)]
    · rw [ef x 6 q0 q1 (by decide), ef y 6 q2 (by omega) (by decide), ef x 0 q0 q1 (by decide), ef y 0 q2 (by omega) (by decide)]
  · rw [hp] at q1
    obtain ⟨l1, l2⟩ := bL b q0 q1
    rw [eb b 0 q0 q1 (by decide), eb b 1 q0 q1 (by decide), ef _ 6 l1.1 l1.2 (by decide), ef _ 6 l2.1 l2.2 (by decide)]
    exact x6 b q0 q1
theorem IX_ag {g g' : Gs} (hi : IV g) (h : IX g) (e : ∀ k, 0 ≤ k → k < 3330 → g' k = g k) : IX g' := by
  have i1 := hi.1
  have b3 : (0 ≤ g 1 ∧ g 1 ≤ 24) ∧ (0 ≤ g 3 ∧ g 3 ≤ 307) ∧ (0 < g 4 → 0 ≤ g 5 ∧ g 3 = g 5 + g 4 - 1 ∧ 2 ≤ g 4) ∧ 0 ≤ g 4 := by unfold I1 at i1; omega
  have bP : pB g ≤ g 3 := by unfold pB; split <;> omega
  have ep : pB g' = pB g := by unfold pB; rw [e 3 (by decide) (by decide), e 4 (by decide) (by decide), e 5 (by decide) (by decide)]
  clear i1
  refine IX_fr hi h (e 1 (by decide) (by decide)) (e 4 (by decide) (by decide)) (fun _ => e 5 (by decide) (by decide)) (e 8 (by decide) (by decide)) ep (fun k k0 k1 => e k (by omega) (by omega)) (fun f w f0 f1 hw => e _ (by omega) (by omega)) (fun b s b0 b1 hs => e _ (by omega) (by omega)) (fun q p p0 p1 => e _ (by have := b3.2.2.1 q; omega) (by have := b3.2.2.1 q; omega))
def KP (N : Int) (c : Cs) (g : Gs) : Prop := IV g ∧ RV N c g ∧ IX g
def JH (N : Int) (a b : Mem) : Prop := (0 ≤ a 1 0 1 ∧ a 1 0 1 < 8) ∧ (0 ≤ a 1 0 2 ∧ a 1 0 2 ≤ 8) ∧ b 11 0 4 = a 1 0 2 ∧ ∀ i, 0 ≤ i → i < a 1 0 2 → KP N (cv a ((a 1 0 1 + i) % 8 + 2)) (fun k => b 13 188 (3330 * i + k))
def JS (N : Int) (a b : Mem) : Prop := a 10 0 2 = b 11 0 2 ∧ (b 11 0 2 = 0 ∨ b 11 0 2 = 1) ∧ (b 11 0 2 = 1 → KP N (cv a 1) (b 13 187))
def JT (a b : Mem) : Prop := a 10 0 6 = b 11 0 5 ∧ a 5 0 1 = b 11 0 10 ∧ (0 ≤ a 5 0 1 ∧ a 5 0 1 ≤ 60) ∧ (∀ i, 0 ≤ i → i < a 5 0 1 → a 12 0 i = b 13 191 i) ∧ a 5 0 2 = b 11 0 13
def JL (a : Mem) : Prop := ∀ j : Int, 0 ≤ j → j < 9 → a 18 0 j = (if j = 0 then 3 else if j = 1 then 1 else if j = 2 then 2 else if j = 3 then 1 else if j = 4 then 3 else if j = 5 then 2 else if j = 6 then 1 else if j = 7 then 2 else 3) ∧ a 18 1 j = (if j = 0 then 6 else if j = 1 then 5 else if j = 2 then 4 else if j = 3 then 6 else if j = 4 then 4 else if j = 5 then 5 else if j = 6 then 4 else if j = 7 then 6 else 5)
def J (N : Int) (a b : Mem) : Prop := KP N (cv a 0) (b 13 186) ∧ JH N a b ∧ JS N a b ∧ JT a b ∧ JL a
def clsP (C : Nat) (r k : Int) : Prop := (C = 0 ∨ C = 1 ∨ C = 2 ∨ C = 3 ∨ C = 4 ∨ C = 6 ∨ C = 9 ∨ C = 10 ∨ C = 12 ∨ C = 18) ∨ (C = 5 ∧ k ≤ 2) ∨ (C = 13 ∧ r < 180)
def modP (C : Nat) (r k : Int) : Prop := (C = 11 ∧ (k = 2 ∨ k = 4 ∨ k = 5 ∨ k = 10 ∨ k = 13)) ∨ (C = 13 ∧ (r = 186 ∨ r = 187 ∨ r = 188 ∨ r = 191))
section Inv
variable {N M : Int} {a a' b b' : Mem} {c c' : Cs} {g g' : Gs}
/-- the meet's own cells -/
def ownK (C : Nat) : Prop := C = 0 ∨ C = 2 ∨ C = 3 ∨ C = 4 ∨ C = 6 ∨ C = 9 ∨ (10 ≤ C ∧ C < 28)
theorem used_own {C : Nat} {k : Int} (h : usedP g C k) : ownK C := by unfold usedP at h; unfold ownK; omega
theorem KP_c (h : KP N c g) (e : ∀ C k, ownK C → c' C k = c C k) : KP N c' g := ⟨h.1, RV_use h.1 h.2.1 (fun C k hu => e C k (used_own hu)), h.2.2⟩
theorem KP_g (h : KP N c g) (e : ∀ k, 0 ≤ k → k < 3330 → g' k = g k) : KP N c g' := ⟨IV_ag h.1 e, RV_ag h.1 h.2.1 e, IX_ag h.1 h.2.2 e⟩
theorem KP_N (h : KP N c g) (hN : N ≤ M) : KP M c g := ⟨h.1, RV_N h.2.1 hN, h.2.2⟩
theorem cv_e {m : Int} (hm : 0 ≤ m ∧ m < 10) (e : ∀ C r k, clsP C r k → a' C r k = a C r k) (C : Nat) (k : Int) (h : ownK C) : cv a' m C k = cv a m C k := by
  unfold cv
  unfold ownK at h
  by_cases h1 : C < 10
  · rw [if_pos h1, if_pos h1]; exact e _ _ _ (by unfold clsP; omega)
  · rw [if_neg h1, if_neg h1]; exact e _ _ _ (by unfold clsP; omega)
theorem J_cls (h : J N a b) (e : ∀ C r k, clsP C r k → a' C r k = a C r k) : J N a' b := by
  obtain ⟨j0, ⟨h1, h2, h3, h4⟩, ⟨s1, s2, s3⟩, ⟨t1, t2, t3, t4, t5⟩, jl⟩ := h
  have e1 : ∀ k, a' 1 0 k = a 1 0 k := fun k => e _ _ _ (by unfold clsP; omega)
  have e10 : ∀ k, a' 10 0 k = a 10 0 k := fun k => e _ _ _ (by unfold clsP; omega)
  have e51 : a' 5 0 1 = a 5 0 1 := e _ _ _ (by unfold clsP; omega)
  have e52 : a' 5 0 2 = a 5 0 2 := e _ _ _ (by unfold clsP; omega)
  refine ⟨KP_c j0 (cv_e (by decide) e), ⟨?_, ?_, ?_, fun i i0 i1 => ?_⟩, ⟨?_, s2, fun q => KP_c (s3 q) (cv_e (by decide) e)⟩, ⟨?_, ?_, ?_, fun i i0 i1 => ?_, ?_⟩, fun j j0 j1 => ?_⟩
  · rw [e1]; exact h1
  · rw [e1]; exact h2
  · rw [e1]; exact h3
  · rw [e1] at i1
    rw [e1]
    exact KP_c (h4 i i0 i1) (cv_e (by omega) e)
  · rw [e10]; exact s1
  · rw [e10]; exact t1
  · rw [e51]; exact t2
  · rw [e51]; exact t3
  · rw [e51] at i1
    rw [e 12 0 i (by unfold clsP; omega)]
    exact t4 i i0 i1
  · rw [e52]; exact t5
  · rw [e 18 0 j (by unfold clsP; omega), e 18 1 j (by unfold clsP; omega)]
    exact jl j j0 j1
theorem J_mod (h : J N a b) (e : ∀ C r k, modP C r k → b' C r k = b C r k) : J N a b' := by
  obtain ⟨j0, ⟨h1, h2, h3, h4⟩, ⟨s1, s2, s3⟩, ⟨t1, t2, t3, t4, t5⟩, jl⟩ := h
  have f : ∀ k, (k = 2 ∨ k = 4 ∨ k = 5 ∨ k = 10 ∨ k = 13) → b' 11 0 k = b 11 0 k := fun k hk => e _ _ _ (by unfold modP; omega)
  have r6 : b' 13 186 = b 13 186 := funext fun k => e _ _ _ (by unfold modP; omega)
  have r7 : b' 13 187 = b 13 187 := funext fun k => e _ _ _ (by unfold modP; omega)
  have r8 : b' 13 188 = b 13 188 := funext fun k => e _ _ _ (by unfold modP; omega)
  have r9 : b' 13 191 = b 13 191 := funext fun k => e _ _ _ (by unfold modP; omega)
  refine ⟨by rw [r6]; exact j0, ⟨h1, h2, by rw [f 4 (by decide)]; exact h3, fun i i0 i1 => by rw [r8]; exact h4 i i0 i1⟩, ⟨by rw [f 2 (by decide)]; exact s1, by rw [f 2 (by decide)]; exact s2, fun q => by rw [r7]; exact s3 (by rw [← f 2 (by decide)]; exact q)⟩, ⟨by rw [f 5 (by decide)]; exact t1, by rw [f 10 (by decide)]; exact t2, t3, fun i i0 i1 => by rw [r9]; exact t4 i i0 i1, by rw [f 13 (by decide)]; exact t5⟩, jl⟩
theorem J_N (h : J N a b) (hN : N ≤ M) : J M a b := by
  obtain ⟨j0, ⟨h1, h2, h3, h4⟩, ⟨s1, s2, s3⟩, jt⟩ := h
  exact ⟨KP_N j0 hN, ⟨h1, h2, h3, fun i i0 i1 => KP_N (h4 i i0 i1) hN⟩, ⟨s1, s2, fun q => KP_N (s3 q) hN⟩, jt⟩
theorem CpP_of {m : Int} (h : KP N (cv a m) g) (hm : (0 : Int) ≤ m) : CpP a m ∧ a 6 m 0 = g 1 ∧ a 3 m 0 = g 2 ∧ a 0 m 0 = g 3 ∧ a 9 m 1 = g 8 := by
  obtain ⟨⟨i1, -⟩, ⟨r1, -⟩, -⟩ := h
  unfold R1 at r1
  unfold I1 at i1
  have e : ∀ (C : Nat) k, C < 10 → cv a m C k = a C m k := fun C k h => by unfold cv; rw [if_pos h]
  rw [e 6 0 (by decide), e 3 0 (by decide), e 0 0 (by decide), e 9 1 (by decide)] at r1
  unfold CpP
  omega
/-- the copied meet belongs to the same numbers -/
theorem KP_copy {m q : Int} (hm : m ≠ q) (m0 : 0 ≤ m ∧ m < 10) (q0 : 0 ≤ q ∧ q < 10) (h : KP N (cv a q) g) : KP N (cv (zm_mcopy m q a) m) g := by
  obtain ⟨h1, g1, g2, g3, g8⟩ := CpP_of h q0.1
  exact ⟨h.1, RV_use h.1 h.2.1 (fun C k hu => mcopy_u hm m0 q0 h1 g1 g2 g3 g8 hu), h.2.2⟩
theorem cv_copy_o {m q p : Int} (hm : m ≠ q) (h : CpP a q) (hp : p ≠ m) (C : Nat) (k : Int) (hk : ownK C) : cv (zm_mcopy m q a) p C k = cv a p C k := by
  unfold ownK at hk
  unfold cv
  by_cases h1 : C < 10
  · rw [if_pos h1, if_pos h1]; exact mcopy_o hm h (by omega) (by omega)
  · rw [if_neg h1, if_neg h1]; exact mcopy_o hm h (by omega) (by omega)
theorem cv_up1 {σ : Mem} {k0 v m : Int} {C : Nat} {k : Int} (h : ownK C) : cv (up σ 1 0 k0 v) m C k = cv σ m C k := by
  unfold ownK at h
  unfold cv
  by_cases h1 : C < 10
  · rw [if_pos h1, if_pos h1]; exact up_o (by omega)
  · rw [if_neg h1, if_neg h1]; exact up_o (by omega)
/-- keeping the meet: what the ring is then -/
theorem keep_eq (h : JH N a b) (h0 : KP N (cv a 0) g) : zm_keep 0 a = (if a 1 0 2 < 8 then up (zm_mcopy ((a 1 0 1 + a 1 0 2) % 8 + 2) 0 a) 1 0 2 (a 1 0 2 + 1) else up (zm_mcopy (a 1 0 1 + 2) 0 (up (up a 1 0 1 ((a 1 0 1 + 1) % 8)) 1 0 2 7)) 1 0 2 8) := by
  obtain ⟨h1, h2, h3, h4⟩ := h
  obtain ⟨hc, -⟩ := CpP_of h0 (by decide)
  unfold zm_keep
  by_cases hn : a 1 0 2 < 8
  · rw [if_pos hn, if_pos hn]
    have e1 : slotI (a 1 0 2) a = (a 1 0 1 + a 1 0 2) % 8 := by
      unfold slotI
      rw [wr_eq (by omega) (by omega), Int.tmod_eq_emod_of_nonneg (by omega)]
    rw [e1, if_pos (by omega), mcopy_o (by omega) hc (by omega) (by omega), wr_eq (by omega) (by omega)]
  · rw [if_neg hn, if_neg hn]
    have e8 : a 1 0 2 = 8 := by omega
    have eo : (wr (a 1 0 1 + 1) : Int).tmod 8 = (a 1 0 1 + 1) % 8 := by rw [wr_eq (by omega) (by omega), Int.tmod_eq_emod_of_nonneg (by omega)]
    have e7 : wr ((up a 1 0 1 ((a 1 0 1 + 1) % 8)) 1 0 2 - 1) = 7 := by rw [up_o (by omega), e8]; rfl
    rw [eo, e7]
    have e1 : slotI ((up (up a 1 0 1 ((a 1 0 1 + 1) % 8)) 1 0 2 7) 1 0 2) (up (up a 1 0 1 ((a 1 0 1 + 1) % 8)) 1 0 2 7) = a 1 0 1 := by
      unfold slotI
      rw [up_s, up_o (by omega), up_s, wr_eq (by omega) (by omega), Int.tmod_eq_emod_of_nonneg (by omega)]
      omega
    have hc2 : CpP (up (up a 1 0 1 ((a 1 0 1 + 1) % 8)) 1 0 2 7) 0 := hc
    rw [e1, if_pos (by omega), mcopy_o (by omega) hc2 (by omega) (by omega), up_s]
    rfl
theorem mch_eq (h : 0 ≤ b 11 0 4 ∧ b 11 0 4 ≤ 8) : zm_mchanges b = (if b 11 0 4 < 8 then up (cpM b 186 188 0 (3330 * b 11 0 4) 3330) 11 0 4 (b 11 0 4 + 1) else up (cpM (up (shM b 23310) 11 0 4 7) 186 188 0 23310 3330) 11 0 4 8) := by
  unfold zm_mchanges
  by_cases hn : b 11 0 4 < 8
  · rw [if_pos (by omega), if_pos hn]
    rw [show (cpM b 186 188 0 (3330 * b 11 0 4) 3330) 11 0 4 = b 11 0 4 from if_neg (fun q => absurd q.1 (by decide)), wr_eq (by omega) (by omega)]
  · rw [if_neg (by omega), if_neg hn]
    have e8 : b 11 0 4 = 8 := by omega
    have e1 : (shM b 23310) 11 0 4 = 8 := by rw [show (shM b 23310) 11 0 4 = b 11 0 4 from if_neg (fun q => absurd q.1 (by decide))]; exact e8
    rw [e1, show wr (8 - 1) = 7 from rfl, up_s, show (3330 * 7 : Int) = 23310 from rfl]
    rw [show (cpM (up (shM b 23310) 11 0 4 7) 186 188 0 23310 3330) 11 0 4 = (up (shM b 23310) 11 0 4 7) 11 0 4 from if_neg (fun q => absurd q.1 (by decide)), up_s]
    rfl
end Inv
