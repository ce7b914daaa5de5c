/-! All are placed: both sides go together. -/
def PRl (n P j : Int) (o : Int → Int) (c : Cs) (g : Gs) : Prop := PS n P j o (fun f => gf g f 6) (fun f => gf g f 7) (fun p => c 17 p) (fun k => c 18 k)
def FC (c0 c : Cs) : Prop := ∀ C k, C ≠ 13 → C ≠ 14 → C ≠ 17 → C ≠ 18 → c C k = c0 C k
def FG (g0 g : Gs) : Prop := ∀ k, ¬ (30 ≤ k ∧ k < 222 ∧ ((k - 30) % 8 = 6 ∨ (k - 30) % 8 = 7)) → g k = g0 k
/-- of a club in a pool -/
def clW (c : Cs) (g : Gs) (cf p : Int) : Int := sumTo (fun i => if gf g (c 18 (24 * p + i)) 0 = cf then 1 else 0) (c 17 p)
section Fill
variable {n P j b f r q cf p : Int} {o : Int → Int} {K X : Mem} {c c0 : Cs} {g g0 : Gs}
theorem FG_f (h : FG g0 g) {x w : Int} (hw : 0 ≤ w ∧ w < 6) : gf g x w = gf g0 x w := h _ (by omega)
theorem clW_b (h : 0 ≤ c 17 p) : 0 ≤ clW c g cf p ∧ clW c g cf p ≤ c 17 p := by
  have := sumTo_bd (f := fun i => if gf g (c 18 (24 * p + i)) 0 = cf then 1 else 0) (n := c 17 p) (c := 1) (by decide) h (fun i _ _ => by split <;> omega)
  unfold clW
  omega
theorem PRl_b (hn : 0 ≤ n ∧ n ≤ 24) (hP : 1 ≤ P ∧ P ≤ 6) (hj : 0 ≤ j ∧ j < n) (h : PRl n P j o c g) (p0 : 0 ≤ p) (p1 : p < P) : 0 ≤ c 17 p ∧ c 17 p ≤ 24 := by
  have h1 : j / P ≤ c 17 p ∧ c 17 p ≤ j / P + 1 := (h.1 p p0 p1).1
  have rb := row_b hP (j := j) (by omega)
  omega
theorem cSz_w (hp : 0 ≤ p ∧ p < 6) : cSz (wcm K c) p = c 17 p := by
  unfold cSz
  rw [z0, wr_7g hp]
theorem cCc_w (hn : 0 ≤ n ∧ n ≤ 24) (hP : 1 ≤ P ∧ P ≤ 6) (hj : 0 ≤ j ∧ j < n) (h : PRl n P j o c g) (hcl : ∀ x, 0 ≤ x → x < n → c 11 x = gf g x 0) (p0 : 0 ≤ p) (p1 : p < P) : cCc (wcm K c) cf p = clW c g cf p := by
  have hb := PRl_b hn hP hj h p0 p1
  have hw := clW_b (g := g) (cf := cf) hb.1
  have hs := (h.1 p p0 p1).2.2
  unfold cCc
  rw [z0, wr_7g (by omega)]
  have e : sumTo (fo_countOfClub 0 p cf 0 (wcm K c)) (c 17 p) = clW c g cf p := sumTo_congr fun i i0 i1 => by
    have hi : 0 ≤ c 18 (24 * p + i) ∧ c 18 (24 * p + i) < n := (hs i i0 i1).1
    unfold fo_countOfClub zo_pfencerAt
    rw [z0, z0, wr_eq (z := 24 * p) (by omega) (by omega), wr_eq (z := 24 * p + i) (by omega) (by omega), wr_8g (by omega), wr_1g (by omega), hcl _ hi.1 hi.2]
    by_cases z : gf g (c 18 (24 * p + i)) 0 = cf
    · rw [if_neg (fun w => w z), if_pos z]
    · rw [if_pos z, if_neg z]
  rw [e, wr_eq (by omega) (by omega)]
theorem mSz_w (hn : 0 ≤ n ∧ n ≤ 24) (hP : 1 ≤ P ∧ P ≤ 6) (hj : 0 ≤ j ∧ j < n) (h : PRl n P j o c g) (h1 : g 1 = n) (p0 : 0 ≤ p) (p1 : p < P) : mSz (wg X g) p = c 17 p := by
  have hb := PRl_b hn hP hj h p0 p1
  have e := (h.1 p p0 p1).2.1 (fun _ => 1)
  have e2 : sumTo (fo_mmembersOf p (wg X g)) n = c 17 p := by
    refine Eq.trans (sumTo_congr fun x _ _ => ?_) (e.trans (sumTo_one hb.1))
    show fo_mmembersOf p (wg X g) x = if gf g x 6 = p then 1 else 0
    unfold fo_mmembersOf
    rw [show mof (wg X g) x 6 = gf g x 6 from wg_r]
    by_cases z : gf g x 6 = p
    · rw [if_neg (fun w => w z), if_pos z]
    · rw [if_pos z, if_neg z]
  unfold mSz
  rw [wg_r, h1, e2, wr_eq (by omega) (by omega)]
theorem mCc_w (hn : 0 ≤ n ∧ n ≤ 24) (hP : 1 ≤ P ∧ P ≤ 6) (hj : 0 ≤ j ∧ j < n) (h : PRl n P j o c g) (h1 : g 1 = n) (p0 : 0 ≤ p) (p1 : p < P) : mCc (wg X g) cf p = clW c g cf p := by
  have hb := PRl_b hn hP hj h p0 p1
  have hw := clW_b (g := g) (cf := cf) hb.1
  have e := (h.1 p p0 p1).2.1 (fun x => if gf g x 0 = cf then 1 else 0)
  have e2 : sumTo (fo_mclubmates p cf (wg X g)) n = clW c g cf p := by
    refine Eq.trans (sumTo_congr fun x _ _ => ?_) e
    show fo_mclubmates p cf (wg X g) x = if gf g x 6 = p then (if gf g x 0 = cf then 1 else 0) else 0
    unfold fo_mclubmates
    rw [show mof (wg X g) x 6 = gf g x 6 from wg_r, show mof (wg X g) x 0 = gf g x 0 from wg_r]
    by_cases z : gf g x 6 = p
    · rw [if_neg (fun w => w z), if_pos z]
      by_cases z2 : gf g x 0 = cf
      · exact (if_neg (fun w => w z2)).trans (if_pos z2).symm
      · exact (if_pos z2).trans (if_neg z2).symm
    · rw [if_pos z, if_neg z]
  unfold mCc
  rw [wg_r, h1, e2, wr_eq (by omega) (by omega)]
theorem pick_ok (hn : 0 ≤ n ∧ n ≤ 24) (hP : 1 ≤ P ∧ P ≤ 6) (hj : 0 ≤ j ∧ j < n) (h : PRl n P j o c g) {cc : Int → Int} : (0 ≤ chB (fun p => c 17 p) cc (j / P) P P.toNat ∧ chB (fun p => c 17 p) cc (j / P) P P.toNat < P) ∧ c 17 (chB (fun p => c 17 p) cc (j / P) P P.toNat) = j / P := by
  rcases chB_f (sz := fun p => c 17 p) (cc := cc) (r := j / P) (P := P) P.toNat (by omega) with ⟨-, z⟩ | z
  · exfalso
    obtain ⟨p, pb, pz⟩ := PS_room hP (by omega) h
    by_cases hr : (j / P : Int).tmod 2 = 0
    · refine z p.toNat (by omega) ?_
      rw [show pkP (j / P) P ((p.toNat : Nat) : Int) = ((p.toNat : Nat) : Int) from if_pos hr, show ((p.toNat : Nat) : Int) = p by omega]
      exact pz
    · refine z (P - 1 - p).toNat (by omega) ?_
      rw [show pkP (j / P) P (((P - 1 - p).toNat : Nat) : Int) = P - 1 - (((P - 1 - p).toNat : Nat) : Int) from if_neg hr, show P - 1 - (((P - 1 - p).toNat : Nat) : Int) = p by omega]
      exact pz
  · exact z
theorem put_w (hb : 0 ≤ b ∧ b < 6) (hf : 0 ≤ f ∧ f < 24) (h : c 17 b = r) (hr : 0 ≤ r ∧ r ≤ 23) : zm_put 0 b f 0 (wcm K c) = wcm K (cset (cset (cset (cset c 18 (24 * b + r) f) 17 b (r + 1)) 13 f b) 14 f r) := by
  unfold zm_put
  rw [z0, z0, z0, z0, wr_7g hb, h, wr_eq (z := 24 * b) (by omega) (by omega), wr_eq (z := 24 * b + r) (by omega) (by omega), wr_eq (z := r + 1) (by omega) (by omega), ws_8 (by omega), ws_7 hb, ws_3 hf, ws_4 hf]
theorem fill_all (hn : 0 ≤ n ∧ n ≤ 24) (hP : 1 ≤ P ∧ P ≤ 6) (h3 : c0 3 0 = P) (h6 : c0 6 0 = n) (h1 : g0 1 = n) (hcl : ∀ x, 0 ≤ x → x < n → c0 11 x = gf g0 x 0) (hK : ∀ i, 0 ≤ i → i < n → K 13 184 i = o i) (ho : ∀ i, 0 ≤ i → i < n → 0 ≤ o i ∧ o i < n) (hi : ∀ i j, 0 ≤ i → i < n → 0 ≤ j → j < n → i ≠ j → o i ≠ o j) (hR : PRl n P 0 o c0 g0) (h13 : ∀ x, 0 ≤ x → x < n → c0 13 x = gf g0 x 6 ∧ c0 14 x = gf g0 x 7) (hst : ∀ (g : Gs) (X : Mem) j, FG g0 g → 0 ≤ j → j < n → Ev true 167 [aR 11 0, aI j] (wg X g) (.inl (some (aI (o j)))) (wg X g)) : ∀ u : Nat, (u : Int) ≤ n → ∃ c g, PRl n P u o c g ∧ (∀ x, 0 ≤ x → x < n → c 13 x = gf g x 6 ∧ c 14 x = gf g x 7) ∧ FC c0 c ∧ FG g0 g ∧ (∀ Q, wp true 25 6 [some (aR 2 (0)), some (aI (P)), some (aR 7 (184)), some (aI (u)), none, none] [] (wcm K c) 0 0 Q → wp true 25 6 [some (aR 2 (0)), some (aI (P)), some (aR 7 (184)), some (aI (0)), none, none] [] (wcm K c0) 0 0 Q) ∧ (∀ X Q, wp true 174 34 [some (aR 11 (0)), some (aI (P)), some (aI (u)), none, none, none] [] (wg X g) 0 0 Q → wp true 174 34 [some (aR 11 (0)), some (aI (P)), some (aI (0)), none, none, none] [] (wg X g0) 0 0 Q) := by
  intro u
  induction u with
  | zero =>
    intro _
    exact ⟨c0, g0, hR, h13, fun C k _ _ _ _ => rfl, fun k _ => rfl, fun Q h => h, fun X Q h => h⟩
  | succ u ih =>
    intro hu
    obtain ⟨c, g, pR, p13, pc, pg, wc, wm⟩ := ih (by omega)
    have hj : 0 ≤ (u : Int) ∧ (u : Int) < n := by omega
    have rb := row_b hP (j := u) (by omega)
    have hf := ho u hj.1 hj.2
    have k1 : g 1 = n := (pg 1 (by omega)).trans h1
    have kcl : ∀ x, 0 ≤ x → x < n → c 11 x = gf g x 0 := fun x x0 x1 => by
      rw [pc 11 x (by decide) (by decide) (by decide) (by decide), hcl x x0 x1, FG_f pg (by decide)]
    have k6 : c 6 0 = n := (pc 6 0 (by decide) (by decide) (by decide) (by decide)).trans h6
    have k3 : c 3 0 = P := (pc 3 0 (by decide) (by decide) (by decide) (by decide)).trans h3
    have er : wr ((u : Int).tdiv P) = (u : Int) / P := by rw [Int.tdiv_eq_ediv_of_nonneg (by omega), wr_eq (by omega) (by omega)]
    have eo : rget (wcm K c) 184 u = o u := by
      unfold rget
      rw [if_pos (show 0 ≤ (u : Int) ∧ (u : Int) < rowLen 184 from ⟨by omega, by have e : rowLen 184 = 24 := rfl; omega⟩), wcm_o (by omega) (by omega)]
      exact hK u hj.1 hj.2
    obtain ⟨hb, hz⟩ := pick_ok hn hP hj pR (cc := clW c g (gf g (o u) 0))
    have hC : chB (cSz (wcm K c)) (cCc (wcm K c) (gf g (o u) 0)) ((u : Int) / P) P P.toNat = chB (fun p => c 17 p) (clW c g (gf g (o u) 0)) ((u : Int) / P) P P.toNat := chB_congr (fun p p0 p1 => cSz_w (by omega)) (fun p p0 p1 => cCc_w hn hP hj pR kcl p0 p1) _ (by omega)
    have hM : ∀ X : Mem, chB (mSz (wg X g)) (mCc (wg X g) (gf g (o u) 0)) ((u : Int) / P) P P.toNat = chB (fun p => c 17 p) (clW c g (gf g (o u) 0)) ((u : Int) / P) P P.toNat := fun X => chB_congr (fun p p0 p1 => mSz_w hn hP hj pR k1 p0 p1) (fun p p0 p1 => mCc_w hn hP hj pR k1 p0 p1) _ (by omega)
    have hchoose : Ev true 48 [aR 3 0, aI ((u : Int) / P), aI (gf g (o u) 0), aR 6 0] (wcm K c) (.inl (some (aI (chB (cSz (wcm K c)) (cCc (wcm K c) (gf g (o u) 0)) ((u : Int) / P) P P.toNat)))) (wcm K c) := ev_choose (by omega) (by rw [wk_3]; exact k3) (fun p p0 p1 hs => by
      have hp := PRl_b hn hP hj pR p0 p1
      have hw := clW_b (g := g) (cf := gf g (o u) 0) hp.1
      rw [cSz_w (by omega)] at hs
      rw [cCc_w hn hP hj pR kcl p0 p1]
      omega)
    rw [hC] at hchoose
    generalize chB (fun p => c 17 p) (clW c g (gf g (o u) 0)) ((u : Int) / P) P P.toNat = b at hb hz hM hchoose
    generalize hq : (u : Int) / P = q at *
    have g6 : ∀ x, gf (gs (gs g (30 + 8 * o u + 7) q) (30 + 8 * o u + 6) b) x 6 = if x = o u then b else gf g x 6 := fun x => by
      unfold gf gs
      by_cases z : x = o u
      · rw [if_pos z, if_pos (by rw [z])]
      · rw [if_neg z, if_neg (by omega), if_neg (by omega)]
    have g7 : ∀ x, gf (gs (gs g (30 + 8 * o u + 7) q) (30 + 8 * o u + 6) b) x 7 = if x = o u then q else gf g x 7 := fun x => by
      unfold gf gs
      by_cases z : x = o u
      · rw [if_pos z, if_neg (by omega), if_pos (by rw [z])]
      · rw [if_neg z, if_neg (by omega), if_neg (by omega)]
    refine ⟨cset (cset (cset (cset c 18 (24 * b + q) (o u)) 17 b (q + 1)) 13 (o u) b) 14 (o u) q, gs (gs g (30 + 8 * o u + 7) q) (30 + 8 * o u + 6) b, ?_, fun x x0 x1 => ?_, fun C k q1 q2 q3 q4 => ?_, fun k hk => ?_, fun Q hQ => ?_, fun X Q hQ => ?_⟩
    · have := PS_s (b := b) hn hP hj ho (fun i i0 i1 z => hi i u i0 i1 hj.1 hj.2 z) pR hb (by rw [hq]; exact hz) (s6' := fun f => gf (gs (gs g (30 + 8 * o u + 7) q) (30 + 8 * o u + 6) b) f 6) (s7' := fun f => gf (gs (gs g (30 + 8 * o u + 7) q) (30 + 8 * o u + 6) b) f 7) (sz' := fun p => cset (cset (cset (cset c 18 (24 * b + q) (o u)) 17 b (q + 1)) 13 (o u) b) 14 (o u) q 17 p) (sl' := fun k => cset (cset (cset (cset c 18 (24 * b + q) (o u)) 17 b (q + 1)) 13 (o u) b) 14 (o u) q 18 k) g6 (by rw [hq]; exact g7) (fun p => by
        rw [hq, cset_o (by omega), cset_o (by omega)]
        by_cases z : p = b
        · rw [cset_s ⟨rfl, z⟩, if_pos z]
        · rw [cset_o (by omega), cset_o (by omega), if_neg z]) (fun k => by
        rw [hq, cset_o (by omega), cset_o (by omega), cset_o (by omega)]
        by_cases z : k = 24 * b + q
        · rw [cset_s ⟨rfl, z⟩, if_pos z]
        · rw [cset_o (by omega), if_neg z])
      rw [show ((u + 1 : Nat) : Int) = (u : Int) + 1 by omega]
      exact this
    · rw [g6, g7]
      by_cases z : x = o u
      · rw [if_pos z, if_pos z, cset_o (by omega), cset_s ⟨rfl, z⟩, cset_s ⟨rfl, z⟩]
        exact ⟨rfl, rfl⟩
      · rw [if_neg z, if_neg z, cset_o (by omega), cset_o (by omega), cset_o (by omega), cset_o (by omega), cset_o (by omega), cset_o (by omega), cset_o (by omega), cset_o (by omega)]
        exact p13 x x0 x1
    · rw [cset_o (by omega), cset_o (by omega), cset_o (by omega), cset_o (by omega)]
      exact pc C k q1 q2 q3 q4
    · rw [gs_o (by omega), gs_o (by omega)]
      exact pg k hk
    · have ef : rget (wcm K c) (18 * 0 + 1) (o u) = gf g (o u) 0 := by rw [z0, wr_1g (by omega)]; exact kcl _ hf.1 hf.2
      refine wc Q (fp_step (b := b) (by omega) (by rw [wk_6]; omega) (by omega) ?_ Q ?_)
      · have e1 : rget (wcm K c) 1 (o u) = gf g (o u) 0 := by rw [wr_1g (by omega)]; exact kcl _ hf.1 hf.2
        rw [eo, er, e1]
        exact hchoose
      · rw [eo, put_w (by omega) (by omega) hz (by omega), show (u : Int) + 1 = ((u + 1 : Nat) : Int) by omega]
        exact hQ
    · refine wm X Q (mp_step (f := o u) (by omega) (by rw [wg_r]; omega) (by omega) (hst g X u pg hj.1 hj.2) (M' := wg X (gs (gs g (30 + 8 * o u + 7) q) (30 + 8 * o u + 6) b)) ?_ Q ?_)
      · have e := ev_mgoes (f := o u) (r := q) (P := P) (M := wg X g) (by omega) (by rw [wg_r, k1]; exact hn) (by omega)
        rw [show mof (wg X g) (o u) 0 = gf g (o u) 0 from wg_r, hM X, up_wg, up_wg] at e
        rw [er]
        exact e
      · rw [show (u : Int) + 1 = ((u + 1 : Nat) : Int) by omega]
        exact hQ
end Fill
