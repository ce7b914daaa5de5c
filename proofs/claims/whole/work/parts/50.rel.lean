/-! The two pictures of a meet as functions, and what they have to do with each other. -/
abbrev Gs : Type := Int → Int
abbrev Cs : Type := Nat → Int → Int
def gs (g : Gs) (k v : Int) : Gs := fun i => if i = k then v else g i
def wg (σ : Mem) (g : Gs) : Mem := fun C r k => if C = 13 ∧ r = 186 then g k else σ C r k
def ga (g : Gs) (b w : Int) : Int := g (250 + 10 * b + w)
def gf (g : Gs) (f w : Int) : Int := g (30 + 8 * f + w)
theorem gs_s {g : Gs} {k v i : Int} (h : i = k) : gs g k v i = v := if_pos h
theorem gs_o {g : Gs} {k v i : Int} (h : ¬ i = k) : gs g k v i = g i := if_neg h
theorem wg_id (σ : Mem) : wg σ (σ 13 186) = σ := by
  funext C r k
  unfold wg
  by_cases h : C = 13 ∧ r = 186
  · rw [if_pos h, h.1, h.2]
  · rw [if_neg h]
theorem wg_r {σ : Mem} {g : Gs} {k : Int} : wg σ g 13 186 k = g k := if_pos ⟨rfl, rfl⟩
theorem wg_f {σ : Mem} {g : Gs} : wg σ g 13 186 = g := funext fun _ => wg_r
theorem wg_o {σ : Mem} {g : Gs} {C : Nat} {r k : Int} (h : ¬ (C = 13 ∧ r = 186)) : wg σ g C r k = σ C r k := if_neg h
theorem wg_wg {σ : Mem} {g h : Gs} : wg (wg σ g) h = wg σ h := by
  funext C r k
  unfold wg
  by_cases h : C = 13 ∧ r = 186
  · rw [if_pos h, if_pos h]
  · rw [if_neg h, if_neg h, if_neg h]
theorem up_wg {σ : Mem} {g : Gs} {k v : Int} : up (wg σ g) 13 186 k v = wg σ (gs g k v) := by
  funext C r i
  unfold up wg gs
  by_cases h : C = 13 ∧ r = 186
  · by_cases e : i = k
    · rw [if_pos ⟨h.1, h.2, e⟩, if_pos h, if_pos e]
    · rw [if_neg (fun q => e q.2.2), if_pos h, if_pos h, if_neg e]
  · rw [if_neg (fun q => h ⟨q.1, q.2.1⟩), if_neg h, if_neg h]
theorem mput_wg {σ : Mem} {g : Gs} {b w v : Int} : mput (wg σ g) b w v = wg σ (gs g (250 + 10 * b + w) v) := up_wg
theorem mat_wg {σ : Mem} {g : Gs} {b w : Int} : mat (wg σ g) b w = ga g b w := wg_r
theorem mof_wg {σ : Mem} {g : Gs} {f w : Int} : mof (wg σ g) f w = gf g f w := wg_r
def gF (g : Gs) (r : Int) : Int := fiN r 6 (g 5) (g 4)
theorem fo_wg {σ : Mem} {g : Gs} {r : Int} : zo_mfirstOf r (wg σ g) = gF g r := by unfold zo_mfirstOf gF; rw [wg_r, wg_r]
/-- the class's meet 0 as a function: kinds below 10 by field, 10 + j the row j -/
def cset (c : Cs) (C : Nat) (k v : Int) : Cs := fun C' k' => if C' = C ∧ k' = k then v else c C' k'
def cv (σ : Mem) (m : Int) : Cs := fun C k => if C < 10 then σ C m k else σ 13 (18 * m + ((C : Int) - 10)) k
theorem cset_s {c : Cs} {C C' : Nat} {k v i : Int} (h : C' = C ∧ i = k) : cset c C k v C' i = v := if_pos h
theorem cset_o {c : Cs} {C C' : Nat} {k v i : Int} (h : ¬ (C' = C ∧ i = k)) : cset c C k v C' i = c C' i := if_neg h
/-- how many bouts are of pools -/
def pB (g : Gs) : Int := if g 4 = 0 then g 3 else g 5
/-- the round in which the bout stands that has so many bouts of the table from itself on (and one more) -/
def rnd (u : Int) : Int := if u ≤ 2 then 2 else if u ≤ 4 then 4 else if u ≤ 8 then 8 else if u ≤ 16 then 16 else 32
def tgB (g : Gs) (b : Int) : Int := if b < pB g then 5 else 15
/-- what is so of a bout -/
def IB (g : Gs) (b : Int) : Prop :=
  (0 ≤ ga g b 4 ∧ ga g b 4 ≤ 4) ∧ (-1 ≤ ga g b 0 ∧ ga g b 0 < g 1) ∧ (-1 ≤ ga g b 1 ∧ ga g b 1 < g 1) ∧ (-1 ≤ ga g b 5 ∧ ga g b 5 ≤ 1) ∧ (-1 ≤ ga g b 6 ∧ ga g b 6 ≤ 1) ∧ (0 ≤ ga g b 2 ∧ ga g b 2 ≤ 15) ∧ (0 ≤ ga g b 3 ∧ ga g b 3 ≤ 15) ∧
  (ga g b 4 = 1 → g 6 = b ∧ 0 ≤ ga g b 0 ∧ 0 ≤ ga g b 1 ∧ ga g b 2 < tgB g b ∧ ga g b 3 < tgB g b) ∧ (g 6 = b → ga g b 4 = 1) ∧
  (ga g b 4 = 0 → ga g b 2 = 0 ∧ ga g b 3 = 0 ∧ ga g b 6 = -1 ∧ ga g b 8 = 0 ∧ ga g b 9 = 0) ∧ (ga g b 4 = 0 ∨ ga g b 4 = 1 ∨ ga g b 4 = 3 → ga g b 5 = -1) ∧
  (ga g b 4 = 2 → 0 ≤ ga g b 5 ∧ 0 ≤ ga g b 0 ∧ 0 ≤ ga g b 1) ∧ (ga g b 4 = 4 → ga g b 5 = 0 ∧ 0 ≤ ga g b 0 ∧ ga g b 1 = -1 ∧ pB g ≤ b) ∧
  (b < pB g → 0 ≤ ga g b 7 ∧ ga g b 7 < g 2 ∧ 0 ≤ ga g b 0 ∧ 0 ≤ ga g b 1 ∧ ga g b 0 ≠ ga g b 1) ∧ (pB g ≤ b → ga g b 7 = 100 + rnd (g 4 - (b - g 5))) ∧ (ga g b 4 = 3 → b < pB g)
def IF (g : Gs) (f : Int) : Prop := (0 ≤ gf g f 0 ∧ gf g f 0 ≤ 7) ∧ (1 ≤ gf g f 1 ∧ gf g f 1 ≤ 999) ∧ (gf g f 2 = 0 ∨ gf g f 2 = 1) ∧ (g 0 = 0 → gf g f 6 = -1 ∧ gf g f 7 = -1 ∧ gf g f 2 = 0) ∧ (1 ≤ g 0 → 0 ≤ gf g f 6 ∧ gf g f 6 < g 2)
def I1 (g : Gs) : Prop := (0 ≤ g 0 ∧ g 0 ≤ 3) ∧ (0 ≤ g 1 ∧ g 1 ≤ 24) ∧ (0 ≤ g 2 ∧ g 2 ≤ 6) ∧ (0 ≤ g 3 ∧ g 3 ≤ 307) ∧ (-1 ≤ g 6 ∧ g 6 < g 3) ∧ (0 ≤ g 7 ∧ g 7 ≤ 2147483647) ∧ (0 ≤ g 8 ∧ g 8 ≤ 24) ∧ (g 0 = 0 → g 3 = 0 ∧ g 2 = 0) ∧
  ((g 4 = 0 ∧ g 0 ≤ 1 ∧ g 3 ≤ 276) ∨ ((g 4 = 2 ∨ g 4 = 4 ∨ g 4 = 8 ∨ g 4 = 16 ∨ g 4 = 32) ∧ 2 ≤ g 0 ∧ (0 ≤ g 5 ∧ g 5 ≤ 276) ∧ g 3 = g 5 + g 4 - 1 ∧ 2 ≤ g 8 ∧ g 8 ≤ g 4 ∧ (g 4 = 2 ∨ g 4 < 2 * g 8)))
def IRl (g : Gs) : Prop := (g 9 = 0 ∨ g 9 = 1) ∧ (0 ≤ g 18 ∧ g 18 ≤ 9) ∧ (0 ≤ g 19 ∧ g 19 ≤ 5 * g 18) ∧ (0 ≤ g 20 ∧ g 20 ≤ 5 * g 18) ∧ (g 22 = 0 ∨ g 22 = 1)
/-- the table: who stands in a later round has won before -/
def IT (g : Gs) : Prop := 0 < g 4 → (∀ t s, g 4 ≤ 2 * t → t < g 4 - 1 → (s = 0 ∨ s = 1) → ga g (g 5 + t) s = if ga g (g 5 + (2 * t - g 4 + s)) 4 = 2 ∨ ga g (g 5 + (2 * t - g 4 + s)) 4 = 4 then ga g (g 5 + (2 * t - g 4 + s)) (ga g (g 5 + (2 * t - g 4 + s)) 5) else -1) ∧ (g 0 = 3 ↔ ga g (g 3 - 1) 4 = 2) ∧ (∀ t, 0 ≤ t → t < g 4 - 1 → ga g (g 5 + t) 4 = 4 → 2 * t < g 4)
def IV (g : Gs) : Prop := I1 g ∧ (∀ b, 0 ≤ b → b < g 3 → IB g b) ∧ (∀ f, 0 ≤ f → f < g 1 → IF g f) ∧ IRl g ∧ IT g
/-- the numbers that stand in fields -/
def R1 (c : Cs) (g : Gs) : Prop := c 2 0 = g 0 ∧ c 2 1 = g 7 ∧ c 2 2 = g 6 ∧ c 6 0 = g 1 ∧ c 3 0 = g 2 ∧ c 0 0 = g 3 ∧ c 0 1 = pB g ∧ c 9 0 = g 4 ∧ c 9 1 = g 8
def R2 (c : Cs) (g : Gs) : Prop := ∀ f, 0 ≤ f → f < g 1 → c 11 f = gf g f 0 ∧ c 12 f = gf g f 1 ∧ c 13 f = gf g f 6 ∧ c 14 f = gf g f 7 ∧ c 15 f = gf g f 2 ∧ c 16 (3 * f) = gf g f 3 ∧ c 16 (3 * f + 1) = gf g f 4 ∧ c 16 (3 * f + 2) = gf g f 5
def R3b (c : Cs) (g : Gs) (b : Int) : Prop := c 19 (2 * b) = ga g b 0 ∧ c 19 (2 * b + 1) = ga g b 1 ∧ c 20 (2 * b) = ga g b 2 ∧ c 20 (2 * b + 1) = ga g b 3 ∧ c 21 b = ga g b 4 ∧ c 22 b = (if ga g b 5 < 0 then -1 else ga g b (ga g b 5)) ∧ c 23 b = ga g b 7 ∧ c 24 b = ga g b 6
def R3 (c : Cs) (g : Gs) : Prop := ∀ b, 0 ≤ b → b < g 3 → R3b c g b
/-- the pools: their sizes are counted, their members are those of the fencers -/
def R4 (c : Cs) (g : Gs) : Prop := (∀ p, 0 ≤ p → p < g 2 → c 17 p = sumTo (fun f => if gf g f 6 = p then 1 else 0) (g 1)) ∧ (∀ p i, 0 ≤ p → p < g 2 → 0 ≤ i → i < c 17 p → (0 ≤ c 18 (24 * p + i) ∧ c 18 (24 * p + i) < g 1) ∧ gf g (c 18 (24 * p + i)) 6 = p ∧ gf g (c 18 (24 * p + i)) 7 = i) ∧ (1 ≤ g 0 → ∀ f, 0 ≤ f → f < g 1 → (0 ≤ gf g f 7 ∧ gf g f 7 < c 17 (gf g f 6)) ∧ c 18 (24 * gf g f 6 + gf g f 7) = f)
/-- the fencer lost in a bout of the table -/
def lstB (g : Gs) (f b : Int) : Prop := g 5 ≤ b ∧ b < g 3 ∧ ga g b 4 = 2 ∧ ga g b (1 - ga g b 5) = f
def R5 (c : Cs) (g : Gs) : Prop := (∀ i, 0 ≤ i → i < g 8 → c 25 i = g (222 + i)) ∧ (0 < g 4 → ∀ f, 0 ≤ f → f < 24 → (c 26 f = 1 ∧ ∀ b, ¬ lstB g f b) ∨ ∃ b, lstB g f b ∧ c 26 f = ga g b 7 - 100)
def R6 (N : Int) (c : Cs) (g : Gs) : Prop := 0 ≤ g 6 → (0 ≤ c 10 0 ∧ c 10 0 ≤ N) ∧ (0 ≤ c 10 1 ∧ c 10 1 ≤ N) ∧ (0 < c 10 0 ↔ 0 < ga g (g 6) 8) ∧ (0 < c 10 1 ↔ 0 < ga g (g 6) 9)
def R7 (c : Cs) (g : Gs) : Prop := c 4 0 = g 9 ∧ c 4 3 = g 18 ∧ c 4 4 = g 19 ∧ c 4 5 = g 20 ∧ c 4 7 = g 22 ∧ (g 9 = 1 → c 4 1 = g 10 ∧ c 4 2 = g 11 ∧ c 4 6 = g 21 ∧ ∀ i, 0 ≤ i → i < 6 → c 27 i = g (12 + i))
def RV (N : Int) (c : Cs) (g : Gs) : Prop := R1 c g ∧ R2 c g ∧ R3 c g ∧ R4 c g ∧ R5 c g ∧ R6 N c g ∧ R7 c g
/-- beginning a bout -/
def gBeg (g : Gs) (b : Int) : Gs := gs (gs g 6 b) (250 + 10 * b + 4) 1
def cBeg (c : Cs) (b : Int) : Cs := cset (fun C k => if C = 10 ∧ 0 ≤ k ∧ k < 2 then 0 else cset c 2 2 b C k) 21 b 1
theorem IV_beg {g : Gs} {b : Int} (h : IV g) (h0 : 0 ≤ b) (hb : b < g 3) (h6 : g 6 < 0) (hs : ga g b 4 = 0) (hL : 0 ≤ ga g b 0) (hR : 0 ≤ ga g b 1) : IV (gBeg g b) := by
  obtain ⟨i1, iB, iF, iR, iT⟩ := h
  have e : ∀ k, k < 250 → k ≠ 6 → gBeg g b k = g k := fun k hk h6 => by
    unfold gBeg; rw [gs_o (by omega), gs_o (by omega)]
  have e6 : gBeg g b 6 = b := by unfold gBeg; rw [gs_o (by omega), gs_s rfl]
  have ep : pB (gBeg g b) = pB g := by unfold pB; rw [e 4 (by omega) (by omega), e 3 (by omega) (by omega), e 5 (by omega) (by omega)]
  have ea : ∀ b' w, 0 ≤ b' → 0 ≤ w → w < 10 → ¬ (b' = b ∧ w = 4) → ga (gBeg g b) b' w = ga g b' w := fun b' w q0 q1 q2 q3 => by
    unfold ga gBeg; rw [gs_o (by omega), gs_o (by omega)]
  have e4 : ga (gBeg g b) b 4 = 1 := by unfold ga gBeg; rw [gs_s rfl]
  have et : ∀ b', tgB (gBeg g b) b' = tgB g b' := fun b' => by unfold tgB; rw [ep]
  refine ⟨?_, fun b' q0 q1 => ?_, fun f q0 q1 => ?_, ?_, ?_⟩
  · unfold I1 at i1 ⊢
    rw [e6]
    simp (disch := omega) only [e]
    omega
  · rw [e 3 (by omega) (by omega)] at q1
    have hb' := iB b' q0 q1
    by_cases hbb : b' = b
    · subst hbb
      unfold IB at hb' ⊢
      rw [e4, e6, ep, et]
      simp (disch := omega) only [ea, e]
      have ht : 0 < tgB g b' := by unfold tgB; split <;> omega
      simp only [true_implies, true_and, implies_true]
      omega
    · unfold IB at hb' ⊢
      rw [e6, ep, et]
      simp (disch := omega) only [ea, e]
      omega
  · rw [e 1 (by omega) (by omega)] at q1
    have hf := iF f q0 q1
    unfold I1 at i1
    unfold IF gf at hf ⊢
    simp (disch := omega) only [e]
    exact hf
  · unfold IRl at iR ⊢
    simp (disch := omega) only [e]
    exact iR
  · intro h4
    rw [e 4 (by omega) (by omega)] at h4
    obtain ⟨t1, t2, t3⟩ := iT h4
    have h4' : 0 ≤ g 5 ∧ g 3 = g 5 + g 4 - 1 ∧ g 0 ≤ 3 := by unfold I1 at i1; omega
    have hst : ∀ b', 0 ≤ b' → (ga (gBeg g b) b' 4 = 2 ↔ ga g b' 4 = 2) ∧ (ga (gBeg g b) b' 4 = 4 ↔ ga g b' 4 = 4) := fun b' q => by
      by_cases hbb : b' = b
      · rw [hbb, e4, hs]; omega
      · rw [ea b' 4 q (by omega) (by omega) (by omega)]; exact ⟨Iff.rfl, Iff.rfl⟩
    rw [e 0 (by omega) (by omega), e 3 (by omega) (by omega), e 4 (by omega) (by omega), e 5 (by omega) (by omega)]
    refine ⟨fun t s q1 q2 q3 => ?_, ?_, fun t q1 q2 q3 => ?_⟩
    · have q4 : 0 ≤ g 5 + (2 * t - g 4 + s) ∧ g 5 + (2 * t - g 4 + s) < g 3 := by omega
      rw [ea (g 5 + t) s (by omega) (by omega) (by omega) (by omega), t1 t s q1 q2 q3, ea _ 5 q4.1 (by omega) (by omega) (by omega)]
      obtain ⟨s1, s2⟩ := hst _ q4.1
      simp only [s1, s2]
      by_cases h24 : ga g (g 5 + (2 * t - g 4 + s)) 4 = 2 ∨ ga g (g 5 + (2 * t - g 4 + s)) 4 = 4
      · rw [if_pos h24, if_pos h24]
        have hb' := iB _ q4.1 q4.2
        unfold IB at hb'
        rw [ea _ _ q4.1 (by omega) (by omega) (by omega)]
      · rw [if_neg h24, if_neg h24]
    · rw [(hst (g 3 - 1) (by omega)).1]; exact t2
    · exact t3 t q1 q2 (((hst (g 5 + t) (by omega)).2).mp q3)
