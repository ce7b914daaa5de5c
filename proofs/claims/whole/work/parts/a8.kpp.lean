/-! The pools are drawn: what is then. -/
section PBk
variable {N n P t : Int} {o L R H : Int → Int} {c c1 : Cs} {g g1 : Gs}
theorem sumTo_tm {f : Int → Int} {i : Int} (i0 : 0 ≤ i) (i1 : i < n) (h : ∀ x, 0 ≤ x → x < n → 0 ≤ f x) : f i ≤ sumTo f n := by
  have a := sumTo_mo (f := f) (i := i + 1) (j := n) (by omega) (by omega) h
  have b := sumTo_mo (f := f) (i := 0) (j := i) (Int.le_refl 0) i0 (fun x x0 x1 => h x x0 (by omega))
  rw [sumTo_s _ i0] at a
  rw [sumTo_0] at b
  omega
/-- the class's cells once the pools are open -/
def cOp (c : Cs) (P : Int) : Cs := fun C k => if C = 3 ∧ k = 0 then P else if C = 17 ∧ 0 ≤ k ∧ k < 6 then 0 else c C k
def cPo (c1 : Cs) (t : Int) (L R H : Int → Int) : Cs := cset (cAdds (cset c1 0 1 t) 0 t L R H) 2 0 1
def gPo (g1 : Gs) (P t : Int) (L R H : Int → Int) : Gs := gs (gs (gAdds g1 0 t L R H) 2 P) 0 1
theorem KP_pool (hk : KP N c g) (h0 : g 0 = 0) (hn : g 1 = n) (hP : 1 ≤ P ∧ P ≤ 6) (hR : PRl n P n o c1 g1) (hsur : ∀ f, 0 ≤ f → f < n → ∃ i, (0 ≤ i ∧ i < n) ∧ o i = f) (h13 : ∀ x, 0 ≤ x → x < n → c1 13 x = gf g1 x 6 ∧ c1 14 x = gf g1 x 7) (fC : FC (cOp c P) c1) (fG : FG g g1) (t0 : 0 ≤ t) (B : BF n P (fun f => gf g1 f 6) t L R H) (S : SB t L R (fun h => sumTo (poolS h (fun p => c1 17 p) (fun k => c1 18 k)) P)) : KP N (cPo c1 t L R H) (gPo g1 P t L R H) := by
  obtain ⟨⟨i1, iB, iF, iR, iT⟩, ⟨r1, r2, r3, r4, r5, r6, r7⟩, ⟨x1, x2, x3, x4, x5, x6⟩⟩ := hk
  have b1 : (0 ≤ n ∧ n ≤ 24) ∧ g 3 = 0 ∧ g 4 = 0 ∧ g 6 = -1 ∧ (0 ≤ g 7 ∧ g 7 ≤ 2147483647) ∧ (0 ≤ g 8 ∧ g 8 ≤ 24) := by unfold I1 at i1; omega
  obtain ⟨hn24, z3, z4, z6, z7, z8⟩ := b1
  clear i1 iB iT r3 r4 r6 x3 x4 x5 x6
  have ht : t ≤ 276 := by
    have e1 : t = sumTo (poolS one2 (fun p => c1 17 p) (fun k => c1 18 k)) P := SB_1 S t0
    have := tot_b hn24 hP hR hsur
    omega
  have hin := fun f (f0 : 0 ≤ f) (f1 : f < n) => PRl_in hR hsur f0 f1
  have hsum : ∀ h : Int → Int → Int, (∀ x y, h x y = h y x) → sumTo (fun b => h (L b) (R b)) t = sumTo (fun x => sumTo (fun y => if gf g1 x 6 = gf g1 y 6 then h x y else 0) x) n := fun h hs => by
    have e2 : sumTo (fun b => h (L b) (R b)) t = sumTo (poolS h (fun p => c1 17 p) (fun k => c1 18 k)) P := S h
    rw [e2]
    exact pool_sum (n := n) (P := P) (s6 := fun f => gf g1 f 6) (sz := fun p => c1 17 p) (sl := fun k => c1 18 k) (h := h) hn24.1 (by omega) (fun p p0 p1 => (PRl_z hn24 hP hR p0 p1).1) (fun p p0 p1 => (hR.1 p p0 p1).2.1) (fun f f0 f1 => (hin f f0 f1).1) hs
  -- the model's cells
  have e0 : gPo g1 P t L R H 0 = 1 := gs_s rfl
  have e2 : gPo g1 P t L R H 2 = P := by unfold gPo; rw [gs_o (by decide), gs_s rfl]
  have e3 : gPo g1 P t L R H 3 = t := by unfold gPo; rw [gs_o (by decide), gs_o (by decide), gAdds_n (by decide)]; omega
  have el : ∀ k, k < 250 → k ≠ 0 → k ≠ 2 → k ≠ 3 → gPo g1 P t L R H k = g1 k := fun k q q0 q2 q3 => by
    unfold gPo
    rw [gs_o q0, gs_o q2, gAdds_lo (by omega) q3]
  have ek : ∀ k, k < 250 → k ≠ 0 → k ≠ 2 → k ≠ 3 → ¬ (30 ≤ k ∧ k < 222 ∧ ((k - 30) % 8 = 6 ∨ (k - 30) % 8 = 7)) → gPo g1 P t L R H k = g k := fun k q q0 q2 q3 q4 => (el k q q0 q2 q3).trans (fG k q4)
  have eb : ∀ b w, 0 ≤ b → b < t → 0 ≤ w → w < 10 → ga (gPo g1 P t L R H) b w = if w = 0 then L b else if w = 1 then R b else if w = 5 ∨ w = 6 then -1 else if w = 7 then H b else 0 := fun b w b0 b1 w0 w1 => by
    have e := gAdds_at (g := g1) (B := 0) (t := t) (i := b) (w := w) (L := L) (R := R) (H := H) b0 b1 ⟨w0, w1⟩
    rw [show 0 + b = b by omega] at e
    rw [← e]
    unfold gPo ga
    rw [gs_o (by omega), gs_o (by omega)]
  -- the class's cells
  have d20 : cPo c1 t L R H 2 0 = 1 := cset_s ⟨rfl, rfl⟩
  have d00 : cPo c1 t L R H 0 0 = t := by unfold cPo; rw [cset_o (by omega), cAdds_n]; omega
  have d01 : cPo c1 t L R H 0 1 = t := by
    unfold cPo
    rw [cset_o (by omega)]
    unfold cAdds
    rw [if_neg (by omega), if_neg (by omega), if_neg (by omega), if_neg (by omega), if_neg (by omega), if_neg (by omega), cset_s ⟨rfl, rfl⟩]
  have dl : ∀ C k, ¬ (C = 2 ∧ k = 0) → ¬ (C = 0 ∧ (k = 0 ∨ k = 1)) → (C < 19 ∨ 24 < C) → cPo c1 t L R H C k = c1 C k := fun C k q1 q2 q3 => by
    unfold cPo
    rw [cset_o q1, cAdds_row (by omega) q3, cset_o (by omega)]
  have dk : ∀ C k, ¬ (C = 2 ∧ k = 0) → ¬ (C = 0 ∧ (k = 0 ∨ k = 1)) → ¬ (C = 3 ∧ k = 0) → (C < 13 ∨ C = 15 ∨ C = 16 ∨ 24 < C) → cPo c1 t L R H C k = c C k := fun C k q1 q2 q3 q4 => by
    rw [dl C k q1 q2 (by omega), fC C k (by omega) (by omega) (by omega) (by omega)]
    unfold cOp
    rw [if_neg q3, if_neg (by omega)]
  have d30 : cPo c1 t L R H 3 0 = P := by
    rw [dl 3 0 (by omega) (by omega) (by omega), fC 3 0 (by decide) (by decide) (by decide) (by decide)]
    unfold cOp
    rw [if_pos ⟨rfl, rfl⟩]
  have da : ∀ b, 0 ≤ b → b < t → cPo c1 t L R H 19 (2 * b) = L b ∧ cPo c1 t L R H 19 (2 * b + 1) = R b ∧ cPo c1 t L R H 20 (2 * b) = 0 ∧ cPo c1 t L R H 20 (2 * b + 1) = 0 ∧ cPo c1 t L R H 21 b = 0 ∧ cPo c1 t L R H 22 b = -1 ∧ cPo c1 t L R H 23 b = H b ∧ cPo c1 t L R H 24 b = -1 := fun b b0 b1 => by
    have e := cAdds_at (c := cset c1 0 1 t) (B := 0) (t := t) (i := b) (L := L) (R := R) (H := H) (by decide) b0 b1
    rw [show 0 + b = b by omega] at e
    unfold cPo
    rw [cset_o (by omega), cset_o (by omega), cset_o (by omega), cset_o (by omega), cset_o (by omega), cset_o (by omega), cset_o (by omega), cset_o (by omega)]
    exact e
  generalize gPo g1 P t L R H = G at *
  generalize cPo c1 t L R H = D at *
  have g4 : G 4 = 0 := by rw [ek 4 (by decide) (by decide) (by decide) (by decide) (by omega)]; exact z4
  have gn : G 1 = n := by rw [ek 1 (by decide) (by decide) (by decide) (by decide) (by omega)]; exact hn
  have g6 : G 6 = -1 := by rw [ek 6 (by decide) (by decide) (by decide) (by decide) (by omega)]; exact z6
  have g8 : G 8 = g 8 := ek 8 (by decide) (by decide) (by decide) (by decide) (by omega)
  have gp : pB G = t := by unfold pB; rw [if_pos g4, e3]
  have gfk : ∀ f w, 0 ≤ f → f < n → 0 ≤ w → w < 6 → gf G f w = gf g f w := fun f w f0 f1 w0 w1 => ek _ (by omega) (by omega) (by omega) (by omega) (by omega)
  have gf1 : ∀ f w, 0 ≤ f → f < n → 0 ≤ w → w < 8 → gf G f w = gf g1 f w := fun f w f0 f1 w0 w1 => el _ (by omega) (by omega) (by omega) (by omega)
  refine ⟨⟨?_, fun b b0 b1 => ?_, fun f f0 f1 => ?_, ?_, fun z => absurd z (by omega)⟩, ⟨?_, fun f f0 f1 => ?_, fun b b0 b1 => ?_, ⟨fun p p0 p1 => ?_, fun p i p0 p1 i0 i1 => ?_, fun _ f f0 f1 => ?_⟩, ⟨fun i i0 i1 => ?_, fun z => absurd z (by omega)⟩, fun z => absurd z (by omega), ?_⟩, ⟨fun i i0 i1 => ?_, fun i j i0 ij j1 => ?_, fun z => absurd z (by omega), fun x y x0 x1' y0 y1 xy p0 p1 => ?_, ?_, fun b b0 b1 => ?_⟩⟩
  · have e7 : G 7 = g 7 := ek 7 (by decide) (by decide) (by decide) (by decide) (by omega)
    unfold I1
    rw [e0, gn, e2, e3, g6, e7, g8, g4]
    omega
  · rw [e3] at b1
    obtain ⟨q1, q2, q3, q4, q5, q6, q7⟩ := B b b0 b1
    have tg : tgB G b = 5 := by unfold tgB; rw [if_pos (by omega)]
    have v0 : ga G b 0 = L b := (eb b 0 b0 b1 (by decide) (by decide)).trans rfl
    have v1 : ga G b 1 = R b := (eb b 1 b0 b1 (by decide) (by decide)).trans rfl
    have v2 : ga G b 2 = 0 := (eb b 2 b0 b1 (by decide) (by decide)).trans rfl
    have v3 : ga G b 3 = 0 := (eb b 3 b0 b1 (by decide) (by decide)).trans rfl
    have v4 : ga G b 4 = 0 := (eb b 4 b0 b1 (by decide) (by decide)).trans rfl
    have v5 : ga G b 5 = -1 := (eb b 5 b0 b1 (by decide) (by decide)).trans rfl
    have v6 : ga G b 6 = -1 := (eb b 6 b0 b1 (by decide) (by decide)).trans rfl
    have v7 : ga G b 7 = H b := (eb b 7 b0 b1 (by decide) (by decide)).trans rfl
    have v8 : ga G b 8 = 0 := (eb b 8 b0 b1 (by decide) (by decide)).trans rfl
    have v9 : ga G b 9 = 0 := (eb b 9 b0 b1 (by decide) (by decide)).trans rfl
    unfold IB
    rw [v0, v1, v2, v3, v4, v5, v6, v7, v8, v9, gn, gp, e2, g6, tg]
    omega
  · rw [gn] at f1
    have hf := iF f f0 (by omega)
    have h6 := (hin f f0 f1).1
    unfold IF at hf ⊢
    rw [gfk f 0 f0 f1 (by decide) (by decide), gfk f 1 f0 f1 (by decide) (by decide), gfk f 2 f0 f1 (by decide) (by decide), gf1 f 6 f0 f1 (by decide) (by decide), gf1 f 7 f0 f1 (by decide) (by decide), e0, e2]
    exact ⟨hf.1, hf.2.1, hf.2.2.1, fun z => absurd z (by decide), fun _ => h6⟩
  · unfold IRl at iR ⊢
    rw [ek 9 (by decide) (by decide) (by decide) (by decide) (by omega), ek 18 (by decide) (by decide) (by decide) (by decide) (by omega), ek 19 (by decide) (by decide) (by decide) (by decide) (by omega), ek 20 (by decide) (by decide) (by decide) (by decide) (by omega), ek 22 (by decide) (by decide) (by decide) (by decide) (by omega)]
    exact iR
  · unfold R1 at r1 ⊢
    rw [d20, d00, d01, d30, e0, e2, e3, gp, g4, gn, g6, g8, ek 7 (by decide) (by decide) (by decide) (by decide) (by omega), dk 2 1 (by omega) (by omega) (by omega) (by omega), dk 2 2 (by omega) (by omega) (by omega) (by omega), dk 6 0 (by omega) (by omega) (by omega) (by omega), dk 9 0 (by omega) (by omega) (by omega) (by omega), dk 9 1 (by omega) (by omega) (by omega) (by omega)]
    rw [z4, z6, hn] at r1
    exact ⟨rfl, r1.2.1, r1.2.2.1, r1.2.2.2.1, rfl, rfl, rfl, r1.2.2.2.2.2.2.2.1, r1.2.2.2.2.2.2.2.2⟩
  · rw [gn] at f1
    have hf := r2 f f0 (by omega)
    have h1 := h13 f f0 f1
    rw [gfk f 0 f0 f1 (by decide) (by decide), gfk f 1 f0 f1 (by decide) (by decide), gfk f 2 f0 f1 (by decide) (by decide), gfk f 3 f0 f1 (by decide) (by decide), gfk f 4 f0 f1 (by decide) (by decide), gfk f 5 f0 f1 (by decide) (by decide), gf1 f 6 f0 f1 (by decide) (by decide), gf1 f 7 f0 f1 (by decide) (by decide), dk 11 f (by omega) (by omega) (by omega) (by omega), dk 12 f (by omega) (by omega) (by omega) (by omega), dl 13 f (by omega) (by omega) (by omega), dl 14 f (by omega) (by omega) (by omega), dk 15 f (by omega) (by omega) (by omega) (by omega), dk 16 _ (by omega) (by omega) (by omega) (by omega), dk 16 _ (by omega) (by omega) (by omega) (by omega), dk 16 _ (by omega) (by omega) (by omega) (by omega)]
    exact ⟨hf.1, hf.2.1, h1.1, h1.2, hf.2.2.2.2⟩
  · rw [e3] at b1
    obtain ⟨u1, u2, u3, u4, u5, u6, u7, u8⟩ := da b b0 b1
    unfold R3b
    rw [u1, u2, u3, u4, u5, u6, u7, u8, eb b 0 b0 b1 (by decide) (by decide), eb b 1 b0 b1 (by decide) (by decide), eb b 2 b0 b1 (by decide) (by decide), eb b 3 b0 b1 (by decide) (by decide), eb b 4 b0 b1 (by decide) (by decide), eb b 5 b0 b1 (by decide) (by decide), eb b 6 b0 b1 (by decide) (by decide), eb b 7 b0 b1 (by decide) (by decide)]
    exact ⟨rfl, rfl, rfl, rfl, rfl, rfl, rfl, rfl⟩
  · rw [e2] at p1
    have hz := PRl_z hn24 hP hR p0 p1
    rw [dl 17 p (by omega) (by omega) (by omega), gn]
    refine Eq.symm (Eq.trans (sumTo_congr fun f f0 f1 => ?_) (((hR.1 p p0 p1).2.1 (fun _ => 1)).trans (sumTo_one hz.1)))
    show (if gf G f 6 = p then (1 : Int) else 0) = if gf g1 f 6 = p then 1 else 0
    rw [gf1 f 6 f0 f1 (by decide) (by decide)]
  · rw [e2] at p1
    rw [dl 17 p (by omega) (by omega) (by omega)] at i1
    have hs : (0 ≤ c1 18 (24 * p + i) ∧ c1 18 (24 * p + i) < n) ∧ gf g1 (c1 18 (24 * p + i)) 6 = p ∧ gf g1 (c1 18 (24 * p + i)) 7 = i := (hR.1 p p0 p1).2.2 i i0 i1
    rw [dl 18 _ (by omega) (by omega) (by omega), gn, gf1 _ 6 hs.1.1 hs.1.2 (by decide) (by decide), gf1 _ 7 hs.1.1 hs.1.2 (by decide) (by decide)]
    exact hs
  · rw [gn] at f1
    have hs := (hin f f0 f1).2
    rw [gf1 f 6 f0 f1 (by decide) (by decide), gf1 f 7 f0 f1 (by decide) (by decide), dl 17 _ (by omega) (by omega) (by omega), dl 18 _ (by omega) (by omega) (by omega)]
    exact hs
  · rw [g8] at i1
    rw [dk 25 i (by omega) (by omega) (by omega) (by omega), ek (222 + i) (by omega) (by omega) (by omega) (by omega) (by omega)]
    exact r5.1 i i0 i1
  · unfold R7 at r7 ⊢
    rw [ek 9 (by decide) (by decide) (by decide) (by decide) (by omega), ek 18 (by decide) (by decide) (by decide) (by decide) (by omega), ek 19 (by decide) (by decide) (by decide) (by decide) (by omega), ek 20 (by decide) (by decide) (by decide) (by decide) (by omega), ek 22 (by decide) (by decide) (by decide) (by decide) (by omega), ek 10 (by decide) (by decide) (by decide) (by decide) (by omega), ek 11 (by decide) (by decide) (by decide) (by decide) (by omega), ek 21 (by decide) (by decide) (by decide) (by decide) (by omega), dk 4 0 (by omega) (by omega) (by omega) (by omega), dk 4 1 (by omega) (by omega) (by omega) (by omega), dk 4 2 (by omega) (by omega) (by omega) (by omega), dk 4 3 (by omega) (by omega) (by omega) (by omega), dk 4 4 (by omega) (by omega) (by omega) (by omega), dk 4 5 (by omega) (by omega) (by omega) (by omega), dk 4 6 (by omega) (by omega) (by omega) (by omega), dk 4 7 (by omega) (by omega) (by omega) (by omega)]
    refine ⟨r7.1, r7.2.1, r7.2.2.1, r7.2.2.2.1, r7.2.2.2.2.1, fun z => ?_⟩
    obtain ⟨v1, v2, v3, v4⟩ := r7.2.2.2.2.2 z
    refine ⟨v1, v2, v3, fun i i0 i1 => ?_⟩
    rw [dk 27 i (by omega) (by omega) (by omega) (by omega), ek (12 + i) (by omega) (by omega) (by omega) (by omega) (by omega)]
    exact v4 i i0 i1
  · rw [g8] at i1
    rw [ek (222 + i) (by omega) (by omega) (by omega) (by omega) (by omega), gn, ← hn]
    exact x1 i i0 i1
  · rw [g8] at j1
    rw [ek (222 + i) (by omega) (by omega) (by omega) (by omega) (by omega), ek (222 + j) (by omega) (by omega) (by omega) (by omega) (by omega)]
    exact x2 i j i0 ij j1
  · rw [gn] at x1' y1
    rw [gf1 x 6 x0 x1' (by decide) (by decide)] at p0 p1
    rw [gf1 y 6 y0 y1 (by decide) (by decide)] at p1
    rw [gp]
    by_cases ex : ∃ b, 0 ≤ b ∧ b < t ∧ ((L b = x ∧ R b = y) ∨ (L b = y ∧ R b = x))
    · obtain ⟨b, b0, b1, hb⟩ := ex
      refine ⟨b, b0, b1, ?_⟩
      rw [eb b 0 b0 b1 (by decide) (by decide), eb b 1 b0 b1 (by decide) (by decide)]
      exact hb
    · exfalso
      have hs := hsum (fun a b => if (a = x ∧ b = y) ∨ (a = y ∧ b = x) then 1 else 0) (fun a b => by
        by_cases q : (a = x ∧ b = y) ∨ (a = y ∧ b = x)
        · rw [if_pos q, if_pos (by omega)]
        · rw [if_neg q, if_neg (by omega)])
      have hl : sumTo (fun b => if (L b = x ∧ R b = y) ∨ (L b = y ∧ R b = x) then (1 : Int) else 0) t = 0 := by
        have := sumTo_bd (f := fun b => if (L b = x ∧ R b = y) ∨ (L b = y ∧ R b = x) then (1 : Int) else 0) (n := t) (c := 0) (by decide) t0 (fun b b0 b1 => by rw [if_neg (fun z => ex ⟨b, b0, b1, z⟩)]; decide)
        omega
      have nn : ∀ u v, 0 ≤ (if gf g1 u 6 = gf g1 v 6 then (if (u = x ∧ v = y) ∨ (u = y ∧ v = x) then (1 : Int) else 0) else 0) := fun u v => by
        split
        · split <;> omega
        · omega
      have key : ∀ u v, 0 ≤ v → v < u → u < n → gf g1 u 6 = gf g1 v 6 → ((u = x ∧ v = y) ∨ (u = y ∧ v = x)) → 1 ≤ sumTo (fun x' => sumTo (fun y' => if gf g1 x' 6 = gf g1 y' 6 then (if (x' = x ∧ y' = y) ∨ (x' = y ∧ y' = x) then (1 : Int) else 0) else 0) x') n := fun u v v0 uv un e q => by
        have t1 := sumTo_tm (n := u) (f := fun y' => if gf g1 u 6 = gf g1 y' 6 then (if (u = x ∧ y' = y) ∨ (u = y ∧ y' = x) then (1 : Int) else 0) else 0) v0 uv (fun w _ _ => nn u w)
        have t2 := sumTo_tm (n := n) (i := u) (f := fun x' => sumTo (fun y' => if gf g1 x' 6 = gf g1 y' 6 then (if (x' = x ∧ y' = y) ∨ (x' = y ∧ y' = x) then (1 : Int) else 0) else 0) x') (by omega) un (fun w w0 _ => by
          have := sumTo_mo (f := fun y' => if gf g1 w 6 = gf g1 y' 6 then (if (w = x ∧ y' = y) ∨ (w = y ∧ y' = x) then (1 : Int) else 0) else 0) (i := 0) (j := w) (Int.le_refl 0) w0 (fun z _ _ => nn w z)
          exact this)
        have t3 : (if gf g1 u 6 = gf g1 v 6 then (if (u = x ∧ v = y) ∨ (u = y ∧ v = x) then (1 : Int) else 0) else 0) = 1 := by rw [if_pos e, if_pos q]
        have t1' : (if gf g1 u 6 = gf g1 v 6 then (if (u = x ∧ v = y) ∨ (u = y ∧ v = x) then (1 : Int) else 0) else 0) ≤ sumTo (fun y' => if gf g1 u 6 = gf g1 y' 6 then (if (u = x ∧ y' = y) ∨ (u = y ∧ y' = x) then (1 : Int) else 0) else 0) u := t1
        have t2' : sumTo (fun y' => if gf g1 u 6 = gf g1 y' 6 then (if (u = x ∧ y' = y) ∨ (u = y ∧ y' = x) then (1 : Int) else 0) else 0) u ≤ sumTo (fun x' => sumTo (fun y' => if gf g1 x' 6 = gf g1 y' 6 then (if (x' = x ∧ y' = y) ∨ (x' = y ∧ y' = x) then (1 : Int) else 0) else 0) x') n := t2
        omega
      have hs' : sumTo (fun b => if (L b = x ∧ R b = y) ∨ (L b = y ∧ R b = x) then (1 : Int) else 0) t = sumTo (fun x' => sumTo (fun y' => if gf g1 x' 6 = gf g1 y' 6 then (if (x' = x ∧ y' = y) ∨ (x' = y ∧ y' = x) then (1 : Int) else 0) else 0) x') n := hs
      rw [hl] at hs'
      by_cases q : y < x
      · have := key x y y0 q x1' p1 (Or.inl ⟨rfl, rfl⟩)
        omega
      · have := key y x x0 (by omega) y1 p1.symm (Or.inr ⟨rfl, rfl⟩)
        omega
  · have hs := hsum (fun a b => if gf g a 0 = gf g b 0 then 1 else 0) (fun a b => by
      by_cases q : gf g a 0 = gf g b 0
      · rw [if_pos q, if_pos q.symm]
      · rw [if_neg q, if_neg (fun z => q z.symm)])
    rw [gp, gn]
    refine Eq.trans (sumTo_congr fun b b0 b1 => ?_) (hs.trans (sumTo_congr fun x x0 x1' => sumTo_congr fun y y0 y1 => ?_))
    · obtain ⟨q1, q2, -⟩ := B b b0 b1
      show (if gf G (ga G b 0) 0 = gf G (ga G b 1) 0 then (1 : Int) else 0) = if gf g (L b) 0 = gf g (R b) 0 then 1 else 0
      have v0 : ga G b 0 = L b := (eb b 0 b0 b1 (by decide) (by decide)).trans (if_pos rfl)
      have v1 : ga G b 1 = R b := ((eb b 1 b0 b1 (by decide) (by decide)).trans (if_neg (by decide))).trans (if_pos rfl)
      rw [v0, v1, gfk _ 0 q1.1 q1.2 (by decide) (by decide), gfk _ 0 q2.1 q2.2 (by decide) (by decide)]
    · show (if gf g1 x 6 = gf g1 y 6 then (if gf g x 0 = gf g y 0 then (1 : Int) else 0) else 0) = if 0 ≤ gf G x 6 ∧ gf G x 6 = gf G y 6 ∧ gf G x 0 = gf G y 0 then 1 else 0
      have hx := (hin x x0 x1').1
      rw [gf1 x 6 x0 x1' (by decide) (by decide), gf1 y 6 y0 (by omega) (by decide) (by decide), gfk x 0 x0 x1' (by decide) (by decide), gfk y 0 y0 (by omega) (by decide) (by decide)]
      by_cases q : gf g1 x 6 = gf g1 y 6
      · rw [if_pos q]
        by_cases q2 : gf g x 0 = gf g y 0
        · rw [if_pos q2, if_pos ⟨hx.1, q, q2⟩]
        · rw [if_neg q2, if_neg (fun z => q2 z.2.2)]
      · rw [if_neg q, if_neg (fun z => q z.2.1)]
  · rw [gp] at b1
    obtain ⟨q1, q2, q3, q4, q5, -⟩ := B b b0 b1
    have v0 : ga G b 0 = L b := (eb b 0 b0 b1 (by decide) (by decide)).trans (if_pos rfl)
    have v1 : ga G b 1 = R b := ((eb b 1 b0 b1 (by decide) (by decide)).trans (if_neg (by decide))).trans (if_pos rfl)
    rw [v0, v1, gf1 _ 6 q1.1 q1.2 (by decide) (by decide), gf1 _ 6 q2.1 q2.2 (by decide) (by decide)]
    exact q4.trans q5.symm
end PBk
