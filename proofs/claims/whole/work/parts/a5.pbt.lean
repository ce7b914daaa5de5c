/-! The bouts of the pools come: both sides go together. -/
section PBt
variable {n P p x y t t' l r h i : Int} {s6 s7 sz sl L R H L' R' H' : Int → Int} {K X : Mem} {c : Cs} {g : Gs}
theorem sumTo_mo {f : Int → Int} {i j : Int} (i0 : 0 ≤ i) (ij : i ≤ j) (h : ∀ x, 0 ≤ x → x < j → 0 ≤ f x) : sumTo f i ≤ sumTo f j := by
  have key : ∀ u : Nat, i + u ≤ j → sumTo f i ≤ sumTo f (i + u) := by
    intro u
    induction u with
    | zero => intro _; rw [show i + ((0 : Nat) : Int) = i by omega]; exact Int.le_refl _
    | succ u ih =>
      intro hu
      have := ih (by omega)
      have := h (i + u) (by omega) (by omega)
      rw [show i + ((u + 1 : Nat) : Int) = i + u + 1 by omega, sumTo_s _ (by omega)]
      omega
  have := key (j - i).toNat (by omega)
  rw [show i + ((j - i).toNat : Int) = j by omega] at this
  exact this
theorem sumTo_lep {f h : Int → Int} : ∀ (m : Nat), (∀ x : Int, 0 ≤ x → x < (m : Int) → f x ≤ h x) → sumTo f m ≤ sumTo h m := by
  intro m
  induction m with
  | zero => intro _; exact Int.le_refl 0
  | succ m ih =>
    intro hh
    have h1 := ih (fun x x0 x1 => hh x x0 (by omega))
    have h2 := hh m (by omega) (by omega)
    rw [show ((m + 1 : Nat) : Int) = (m : Int) + 1 by omega, sumTo_s f (by omega), sumTo_s h (by omega)]
    omega
theorem cAdds_cg {B : Int} (hL : ∀ i, 0 ≤ i → i < t → L i = L' i) (hR : ∀ i, 0 ≤ i → i < t → R i = R' i) (hH : ∀ i, 0 ≤ i → i < t → H i = H' i) : cAdds c B t L R H = cAdds c B t L' R' H' := by
  funext C k
  unfold cAdds
  by_cases q1 : C = 19 ∧ 2 * B ≤ k ∧ k < 2 * (B + t)
  · rw [if_pos q1, if_pos q1]
    split
    · exact hL _ (by omega) (by omega)
    · exact hR _ (by omega) (by omega)
  · rw [if_neg q1, if_neg q1]
    by_cases q2 : C = 20 ∧ 2 * B ≤ k ∧ k < 2 * (B + t)
    · rw [if_pos q2, if_pos q2]
    · rw [if_neg q2, if_neg q2]
      by_cases q3 : C = 21 ∧ B ≤ k ∧ k < B + t
      · rw [if_pos q3, if_pos q3]
      · rw [if_neg q3, if_neg q3]
        by_cases q4 : (C = 22 ∨ C = 24) ∧ B ≤ k ∧ k < B + t
        · rw [if_pos q4, if_pos q4]
        · rw [if_neg q4, if_neg q4]
          by_cases q5 : C = 23 ∧ B ≤ k ∧ k < B + t
          · rw [if_pos q5, if_pos q5]
            exact hH _ (by omega) (by omega)
          · rw [if_neg q5, if_neg q5]
theorem gAdds_cg {B : Int} (hL : ∀ i, 0 ≤ i → i < t → L i = L' i) (hR : ∀ i, 0 ≤ i → i < t → R i = R' i) (hH : ∀ i, 0 ≤ i → i < t → H i = H' i) : gAdds g B t L R H = gAdds g B t L' R' H' := by
  funext k
  unfold gAdds
  by_cases q1 : 250 + 10 * B ≤ k ∧ k < 250 + 10 * (B + t)
  · rw [if_pos q1, if_pos q1, hL _ (by omega) (by omega), hR _ (by omega) (by omega), hH _ (by omega) (by omega)]
  · rw [if_neg q1, if_neg q1]
/-- the bouts so far -/
def BF (n P : Int) (s6 : Int → Int) (t : Int) (L R H : Int → Int) : Prop := ∀ b, 0 ≤ b → b < t → (0 ≤ L b ∧ L b < n) ∧ (0 ≤ R b ∧ R b < n) ∧ L b ≠ R b ∧ s6 (L b) = H b ∧ s6 (R b) = H b ∧ 0 ≤ H b ∧ H b < P
def parS (h : Int → Int → Int) (sl : Int → Int) (p x y : Int) : Int := sumTo (fun y => if x < y then h (sl (24 * p + x)) (sl (24 * p + y)) else 0) y
theorem row_par {h : Int → Int → Int} : rowS h sz sl p x = parS h sl p x (sz p) := rfl
theorem par_0 {h : Int → Int → Int} (x0 : 0 ≤ x) : parS h sl p x (x + 1) = 0 := by
  have := sumTo_bd (f := fun y => if x < y then h (sl (24 * p + x)) (sl (24 * p + y)) else 0) (n := x + 1) (c := 0) (by decide) (by omega) (fun y y0 y1 => by rw [if_neg (by omega)]; decide)
  unfold parS
  omega
theorem add_cg (l r h : Int) (B : BF n P s6 t L R H) (t0 : 0 ≤ t) (ht : t < 307) (hl : 0 ≤ l ∧ l < n) (hr : 0 ≤ r ∧ r < n) (hlr : l ≠ r) (h6 : s6 l = h ∧ s6 r = h) (hh : 0 ≤ h ∧ h < P) : ∃ L' R' H', BF n P s6 (t + 1) L' R' H' ∧ (∀ F : Int → Int → Int, sumTo (fun b => F (L' b) (R' b)) (t + 1) = sumTo (fun b => F (L b) (R b)) t + F l r) ∧ (∀ K c, zm_badd 0 h l r (wcm K (cAdds c 0 t L R H)) = wcm K (cAdds c 0 (t + 1) L' R' H')) ∧ (∀ X g, zm_mboutComes l r h (wg X (gAdds g 0 t L R H)) = wg X (gAdds g 0 (t + 1) L' R' H')) := by
  have hL1 : (fun i => if i = t then l else L i) t = l := if_pos rfl
  have hR1 : (fun i => if i = t then r else R i) t = r := if_pos rfl
  have hH1 : (fun i => if i = t then h else H i) t = h := if_pos rfl
  have hL2 : ∀ i, 0 ≤ i → i < t → L i = (fun i => if i = t then l else L i) i := fun i _ _ => (if_neg (by omega)).symm
  have hR2 : ∀ i, 0 ≤ i → i < t → R i = (fun i => if i = t then r else R i) i := fun i _ _ => (if_neg (by omega)).symm
  have hH2 : ∀ i, 0 ≤ i → i < t → H i = (fun i => if i = t then h else H i) i := fun i _ _ => (if_neg (by omega)).symm
  generalize (fun i => if i = t then l else L i) = L' at hL1 hL2
  generalize (fun i => if i = t then r else R i) = R' at hR1 hR2
  generalize (fun i => if i = t then h else H i) = H' at hH1 hH2
  refine ⟨L', R', H', fun b b0 b1 => ?_, fun F => ?_, fun K c => ?_, fun X g => ?_⟩
  · by_cases q : b = t
    · rw [q, hL1, hR1, hH1]
      exact ⟨hl, hr, hlr, h6.1, h6.2, hh.1, hh.2⟩
    · rw [← hL2 b b0 (by omega), ← hR2 b b0 (by omega), ← hH2 b b0 (by omega)]
      exact B b b0 (by omega)
  · rw [sumTo_s _ t0]
    show _ + F (L' t) (R' t) = _
    rw [hL1, hR1]
    have : sumTo (fun b => F (L' b) (R' b)) t = sumTo (fun b => F (L b) (R b)) t := sumTo_congr fun b b0 b1 => by
      show F (L' b) (R' b) = F (L b) (R b)
      rw [hL2 b b0 b1, hR2 b b0 b1]
    rw [this]
  · rw [cAdds_cg hL2 hR2 hH2]
    have e := badd_w (K := K) (c := c) (B := 0) (t := t) (L := L') (R := R') (H := H') (by decide) t0 (by omega)
    rw [hL1, hR1, hH1] at e
    exact e
  · rw [gAdds_cg hL2 hR2 hH2]
    have e := bout_w (X := X) (g := g) (B := 0) (t := t) (L := L') (R := R') (H := H') (by decide) t0 (by omega)
    rw [hL1, hR1, hH1] at e
    exact e
theorem cM_sz {v : Int} (hp : 0 ≤ p ∧ p < 6) : rget (wcm K (cAdds (cset c 0 1 v) 0 t L R H)) (18 * 0 + 7) p = c 17 p := by
  rw [z0, wr_7g hp, cAdds_row (by omega) (by omega), cset_o (by omega)]
theorem cM_at {v : Int} (hp : 0 ≤ p ∧ p < 6) (hi : 0 ≤ i ∧ i < 24) : zo_pfencerAt 0 p i (wcm K (cAdds (cset c 0 1 v) 0 t L R H)) = c 18 (24 * p + i) := by
  unfold zo_pfencerAt
  rw [z0, wr_eq (z := 24 * p) (by omega) (by omega), wr_eq (z := 24 * p + i) (by omega) (by omega), wr_8g (by omega), cAdds_row (by omega) (by omega), cset_o (by omega)]
theorem gM_lo {k : Int} (h : k < 250) (h3 : ¬ k = 3) : (wg X (gAdds g 0 t L R H)) 13 186 k = g k := by
  rw [wg_r, gAdds_lo (by omega) h3]
theorem gM_f {w : Int} (hx : 0 ≤ x ∧ x < 24) (hw : 0 ≤ w ∧ w < 8) : mof (wg X (gAdds g 0 t L R H)) x w = gf g x w := gM_lo (by omega) (by omega)
theorem gM_mo (hn : 0 ≤ n ∧ n ≤ 24) (h1 : g 1 = n) (hz : 0 ≤ c 17 p ∧ c 17 p ≤ 24) (him : ∀ h : Int → Int, sumTo (fun f => if gf g f 6 = p then h f else 0) n = sumTo (fun i => h (c 18 (24 * p + i))) (c 17 p)) : Ev true 169 [aR 11 0, aI p] (wg X (gAdds g 0 t L R H)) (.inl (some (aI (c 17 p)))) (wg X (gAdds g 0 t L R H)) := by
  have e := ev_mmembersOf p (wg X (gAdds g 0 t L R H)) (by rw [gM_lo (by decide) (by decide), h1]; exact hn)
  have e2 : sumTo (fo_mmembersOf p (wg X (gAdds g 0 t L R H))) n = c 17 p := by
    refine Eq.trans (sumTo_congr fun x x0 x1 => ?_) ((him (fun _ => 1)).trans (sumTo_one hz.1))
    show fo_mmembersOf p (wg X (gAdds g 0 t L R H)) x = if gf g x 6 = p then 1 else 0
    unfold fo_mmembersOf
    rw [gM_f (by omega) (by decide)]
    by_cases z : gf g x 6 = p
    · rw [if_neg (fun w => w z), if_pos z]
    · rw [if_pos z, if_neg z]
  rw [gM_lo (by decide) (by decide), h1, e2, wr_eq (by omega) (by omega)] at e
  exact e
theorem gM_at (hn : 0 ≤ n ∧ n ≤ 24) (h1 : g 1 = n) (hs : (0 ≤ c 18 (24 * p + i) ∧ c 18 (24 * p + i) < n) ∧ gf g (c 18 (24 * p + i)) 6 = p ∧ gf g (c 18 (24 * p + i)) 7 = i) (hu : ∀ f, 0 ≤ f → f < n → gf g f 6 = p → gf g f 7 = i → f = c 18 (24 * p + i)) : Ev true 172 [aR 11 0, aI p, aI i] (wg X (gAdds g 0 t L R H)) (.inl (some (aI (c 18 (24 * p + i))))) (wg X (gAdds g 0 t L R H)) := by
  have e := ev_mmemberAt p i (wg X (gAdds g 0 t L R H)) (by rw [gM_lo (by decide) (by decide), h1]; exact hn)
  have e2 : fnd (fp_mmemberAt p i (wg X (gAdds g 0 t L R H))) 0 n = c 18 (24 * p + i) := by
    refine fnd_is hs.1.2 ?_ _ 0 rfl hs.1.1 (fun k k0 k1 z => ?_)
    · unfold fp_mmemberAt
      rw [gM_f (by omega) (by decide), gM_f (by omega) (by decide), hs.2.1, hs.2.2, if_neg (fun w => w rfl), if_neg (fun w => w rfl)]
    · unfold fp_mmemberAt at z
      rw [gM_f (by omega) (by decide), gM_f (by omega) (by decide)] at z
      by_cases z6 : gf g k 6 = p
      · rw [if_neg (fun w => w z6)] at z
        by_cases z7 : gf g k 7 = i
        · have := hu k k0 (by omega) z6 z7
          omega
        · rw [if_pos z7] at z
          cases z
      · rw [if_pos z6] at z
        cases z
  rw [gM_lo (by decide) (by decide), h1, e2] at e
  exact e
end PBt
