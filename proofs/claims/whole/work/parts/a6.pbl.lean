/-! The bouts of the pools come: the loops. -/
section PBl
variable {n P p x y t : Int} {o L R H : Int → Int} {c : Cs} {g : Gs}
abbrev one2 : Int → Int → Int := fun _ _ => 1
theorem PRl_z (hn : 0 ≤ n ∧ n ≤ 24) (hP : 1 ≤ P ∧ P ≤ 6) (h : PRl n P n o c g) (p0 : 0 ≤ p) (p1 : p < P) : 0 ≤ c 17 p ∧ c 17 p ≤ 24 := by
  have h1 : n / P ≤ c 17 p ∧ c 17 p ≤ n / P + 1 := (h.1 p p0 p1).1
  have h0 : 0 ≤ n / P := Int.ediv_nonneg hn.1 (by omega)
  have e : sumTo (fun f => if gf g f 6 = p then 1 else 0) n = c 17 p := ((h.1 p p0 p1).2.1 (fun _ => 1)).trans (sumTo_one (by show 0 ≤ c 17 p; omega))
  have b := sumTo_bd (f := fun f => if gf g f 6 = p then 1 else 0) (n := n) (c := 1) (by decide) hn.1 (fun f _ _ => by split <;> omega)
  omega
theorem PRl_in (h : PRl n P n o c g) (hsur : ∀ f, 0 ≤ f → f < n → ∃ i, (0 ≤ i ∧ i < n) ∧ o i = f) {f : Int} (f0 : 0 ≤ f) (f1 : f < n) : (0 ≤ gf g f 6 ∧ gf g f 6 < P) ∧ (0 ≤ gf g f 7 ∧ gf g f 7 < c 17 (gf g f 6)) ∧ c 18 (24 * gf g f 6 + gf g f 7) = f := by
  obtain ⟨-, hB, ⟨-, hC⟩, -⟩ := h
  rcases hB f f0 f1 with e | e
  · obtain ⟨i, ib, ie⟩ := hsur f f0 f1
    have := hC i ib.1 ib.2
    rw [ie] at this
    have e : gf g f 6 = -1 := e
    have this : 0 ≤ gf g f 6 := this
    omega
  · exact e
theorem par1_b (hy : 0 ≤ y) : 0 ≤ parS one2 (fun k => c 18 k) p x y := by
  have := sumTo_bd (f := fun y => if x < y then (1 : Int) else 0) (n := y) (c := 1) (by decide) hy (fun y _ _ => by split <;> omega)
  exact this.1
theorem row1_b (hz : 0 ≤ c 17 p) : 0 ≤ rowS one2 (fun p => c 17 p) (fun k => c 18 k) p x := par1_b hz
theorem pool1_b (hz : 0 ≤ c 17 p) : 0 ≤ poolS one2 (fun p => c 17 p) (fun k => c 18 k) p := by
  have := sumTo_mo (f := rowS one2 (fun p => c 17 p) (fun k => c 18 k) p) (i := 0) (j := c 17 p) (Int.le_refl 0) hz (fun x _ _ => row1_b hz)
  exact this
theorem tot_b (hn : 0 ≤ n ∧ n ≤ 24) (hP : 1 ≤ P ∧ P ≤ 6) (h : PRl n P n o c g) (hsur : ∀ f, 0 ≤ f → f < n → ∃ i, (0 ≤ i ∧ i < n) ∧ o i = f) : sumTo (poolS one2 (fun p => c 17 p) (fun k => c 18 k)) P ≤ 276 := by
  have e := pool_sum (n := n) (P := P) (s6 := fun f => gf g f 6) (sz := fun p => c 17 p) (sl := fun k => c 18 k) (h := one2) hn.1 (by omega) (fun p p0 p1 => (PRl_z hn hP h p0 p1).1) (fun p p0 p1 => (h.1 p p0 p1).2.1) (fun f f0 f1 => (PRl_in h hsur f0 f1).1) (fun _ _ => rfl)
  rw [e]
  have b1 := sumTo_lep (f := fun x => sumTo (fun y => if gf g x 6 = gf g y 6 then (1 : Int) else 0) x) (h := fun x => x) n.toNat (fun x x0 x1 => by
    have := sumTo_bd (f := fun y => if gf g x 6 = gf g y 6 then (1 : Int) else 0) (n := x) (c := 1) (by decide) x0 (fun y _ _ => by split <;> omega)
    show sumTo (fun y => if gf g x 6 = gf g y 6 then (1 : Int) else 0) x ≤ x
    omega)
  rw [show (n.toNat : Int) = n by omega] at b1
  have b2 := sumTo_mo (f := fun x => x) (i := n) (j := 24) hn.1 hn.2 (fun x x0 _ => x0)
  have b3 : sumTo (fun x => x) 24 = 276 := by decide
  show sumTo (fun x => sumTo (fun y => if gf g x 6 = gf g y 6 then (1 : Int) else 0) x) n ≤ 276
  omega
theorem t_b (hn : 0 ≤ n ∧ n ≤ 24) (hP : 1 ≤ P ∧ P ≤ 6) (h : PRl n P n o c g) (p0 : 0 ≤ p) (p1 : p < P) (x0 : 0 ≤ x) (xy : x < y) (y1 : y < c 17 p) : sumTo (poolS one2 (fun p => c 17 p) (fun k => c 18 k)) p + (sumTo (rowS one2 (fun p => c 17 p) (fun k => c 18 k) p) x + parS one2 (fun k => c 18 k) p x y) + 1 ≤ sumTo (poolS one2 (fun p => c 17 p) (fun k => c 18 k)) P := by
  have a1 : parS one2 (fun k => c 18 k) p x (y + 1) = parS one2 (fun k => c 18 k) p x y + 1 := by
    unfold parS
    rw [sumTo_s _ (by omega)]
    show _ + (if x < y then (1 : Int) else 0) = _
    rw [if_pos xy]
  have a2 : parS one2 (fun k => c 18 k) p x (y + 1) ≤ rowS one2 (fun p => c 17 p) (fun k => c 18 k) p x := by
    rw [row_par]
    exact sumTo_mo (f := fun y => if x < y then (1 : Int) else 0) (by omega) (by show y + 1 ≤ c 17 p; omega) (fun y _ _ => by split <;> omega)
  have a3 : sumTo (rowS one2 (fun p => c 17 p) (fun k => c 18 k) p) (x + 1) = sumTo (rowS one2 (fun p => c 17 p) (fun k => c 18 k) p) x + rowS one2 (fun p => c 17 p) (fun k => c 18 k) p x := sumTo_s _ x0
  have a4 : sumTo (rowS one2 (fun p => c 17 p) (fun k => c 18 k) p) (x + 1) ≤ poolS one2 (fun p => c 17 p) (fun k => c 18 k) p := sumTo_mo (by omega) (by show x + 1 ≤ c 17 p; omega) (fun x _ _ => row1_b (by omega))
  have a5 : sumTo (poolS one2 (fun p => c 17 p) (fun k => c 18 k)) (p + 1) = sumTo (poolS one2 (fun p => c 17 p) (fun k => c 18 k)) p + poolS one2 (fun p => c 17 p) (fun k => c 18 k) p := sumTo_s _ p0
  have a6 : sumTo (poolS one2 (fun p => c 17 p) (fun k => c 18 k)) (p + 1) ≤ sumTo (poolS one2 (fun p => c 17 p) (fun k => c 18 k)) P := sumTo_mo (by omega) (by omega) (fun q q0 q1 => pool1_b (PRl_z hn hP h q0 q1).1)
  omega
/-- the sum over the bouts so far -/
def SB (t : Int) (L R : Int → Int) (V : (Int → Int → Int) → Int) : Prop := ∀ h, sumTo (fun b => h (L b) (R b)) t = V h
theorem SB_1 {V : (Int → Int → Int) → Int} (h : SB t L R V) (t0 : 0 ≤ t) : t = V one2 := by
  have := h one2
  rw [← this]
  exact (sumTo_one t0).symm
theorem y_loop (hn : 0 ≤ n ∧ n ≤ 24) (hP : 1 ≤ P ∧ P ≤ 6) (h1 : g 1 = n) (h : PRl n P n o c g) (hsur : ∀ f, 0 ≤ f → f < n → ∃ i, (0 ≤ i ∧ i < n) ∧ o i = f) (p0 : 0 ≤ p) (p1 : p < P) (x0 : 0 ≤ x) (x1 : x < c 17 p) (t0 : 0 ≤ t) (B : BF n P (fun f => gf g f 6) t L R H) (S : SB t L R (fun h => sumTo (poolS h (fun p => c 17 p) (fun k => c 18 k)) p + sumTo (rowS h (fun p => c 17 p) (fun k => c 18 k) p) x)) : ∀ u : Nat, x + 1 + u ≤ c 17 p → ∃ t' L' R' H', 0 ≤ t' ∧ BF n P (fun f => gf g f 6) t' L' R' H' ∧ SB t' L' R' (fun h => sumTo (poolS h (fun p => c 17 p) (fun k => c 18 k)) p + (sumTo (rowS h (fun p => c 17 p) (fun k => c 18 k) p) x + parS h (fun k => c 18 k) p x (x + 1 + u))) ∧ (∀ K v Q, wp true 26 15 [some (aR 2 (0)), some (aI (p)), some (aI (c 17 p)), some (aI (x)), some (aI (x + 1 + u))] [] (wcm K (cAdds (cset c 0 1 v) 0 t' L' R' H')) 0 0 Q → wp true 26 15 [some (aR 2 (0)), some (aI (p)), some (aI (c 17 p)), some (aI (x)), some (aI (x + 1))] [] (wcm K (cAdds (cset c 0 1 v) 0 t L R H)) 0 0 Q) ∧ (∀ X Q, wp true 174 69 [some (aR 11 (0)), some (aI (P)), some (aI (p)), some (aI (c 17 p)), some (aI (x)), some (aI (x + 1 + u))] [] (wg X (gAdds g 0 t' L' R' H')) 0 0 Q → wp true 174 69 [some (aR 11 (0)), some (aI (P)), some (aI (p)), some (aI (c 17 p)), some (aI (x)), some (aI (x + 1))] [] (wg X (gAdds g 0 t L R H)) 0 0 Q) := by
  have hz := PRl_z hn hP h p0 p1
  have hsl : ∀ i, 0 ≤ i → i < c 17 p → (0 ≤ c 18 (24 * p + i) ∧ c 18 (24 * p + i) < n) ∧ gf g (c 18 (24 * p + i)) 6 = p ∧ gf g (c 18 (24 * p + i)) 7 = i := fun i i0 i1 => (h.1 p p0 p1).2.2 i i0 i1
  have huq : ∀ i f, 0 ≤ f → f < n → gf g f 6 = p → gf g f 7 = i → f = c 18 (24 * p + i) := fun i f f0 f1 e6 e7 => by
    have := (PRl_in h hsur f0 f1).2.2
    rw [e6, e7] at this
    exact this.symm
  have htot := tot_b hn hP h hsur
  intro u
  induction u with
  | zero =>
    intro _
    refine ⟨t, L, R, H, t0, B, fun hh => ?_, fun K v Q hq => ?_, fun X Q hq => ?_⟩
    · refine (S hh).trans ?_
      show sumTo (poolS hh (fun p => c 17 p) (fun k => c 18 k)) p + sumTo (rowS hh (fun p => c 17 p) (fun k => c 18 k) p) x = sumTo (poolS hh (fun p => c 17 p) (fun k => c 18 k)) p + (sumTo (rowS hh (fun p => c 17 p) (fun k => c 18 k) p) x + parS hh (fun k => c 18 k) p x (x + 1 + ((0 : Nat) : Int)))
      rw [show x + 1 + ((0 : Nat) : Int) = x + 1 by omega, par_0 x0]
      omega
    · rw [show x + 1 + ((0 : Nat) : Int) = x + 1 by omega] at hq
      exact hq
    · rw [show x + 1 + ((0 : Nat) : Int) = x + 1 by omega] at hq
      exact hq
  | succ u ih =>
    intro hu
    obtain ⟨t', L', R', H', t0', B', S', wc, wm⟩ := ih (by omega)
    have e1 := SB_1 S' t0'
    have tb := t_b hn hP h p0 p1 x0 (y := x + 1 + u) (by omega) (by omega)
    have hx := hsl x x0 x1
    have hy := hsl (x + 1 + u) (by omega) (by omega)
    have hne : c 18 (24 * p + x) ≠ c 18 (24 * p + (x + 1 + u)) := fun z => by
      have e2 := hx.2.2
      rw [z, hy.2.2] at e2
      omega
    have t276 : t' < 307 := by
      have e2 : t' = sumTo (poolS one2 (fun p => c 17 p) (fun k => c 18 k)) p + (sumTo (rowS one2 (fun p => c 17 p) (fun k => c 18 k) p) x + parS one2 (fun k => c 18 k) p x (x + 1 + u)) := e1
      omega
    obtain ⟨L2, R2, H2, B2, S2, C2, M2⟩ := add_cg (c 18 (24 * p + x)) (c 18 (24 * p + (x + 1 + u))) p B' t0' t276 hx.1 hy.1 hne ⟨hx.2.1, hy.2.1⟩ ⟨p0, p1⟩
    refine ⟨t' + 1, L2, R2, H2, by omega, B2, fun hh => ?_, fun K v Q hq => ?_, fun X Q hq => ?_⟩
    · have e5 : sumTo (fun b => hh (L' b) (R' b)) t' = sumTo (poolS hh (fun p => c 17 p) (fun k => c 18 k)) p + (sumTo (rowS hh (fun p => c 17 p) (fun k => c 18 k) p) x + parS hh (fun k => c 18 k) p x (x + 1 + u)) := S' hh
      rw [S2 hh, e5]
      have e3 : parS hh (fun k => c 18 k) p x (x + 1 + ((u + 1 : Nat) : Int)) = parS hh (fun k => c 18 k) p x (x + 1 + u) + hh (c 18 (24 * p + x)) (c 18 (24 * p + (x + 1 + u))) := by
        unfold parS
        rw [show x + 1 + ((u + 1 : Nat) : Int) = x + 1 + (u : Int) + 1 by omega, sumTo_s _ (by omega)]
        show _ + (if x < x + 1 + (u : Int) then hh (c 18 (24 * p + x)) (c 18 (24 * p + (x + 1 + u))) else 0) = _
        rw [if_pos (by omega)]
      show _ + _ = sumTo (poolS hh (fun p => c 17 p) (fun k => c 18 k)) p + (sumTo (rowS hh (fun p => c 17 p) (fun k => c 18 k) p) x + parS hh (fun k => c 18 k) p x (x + 1 + ((u + 1 : Nat) : Int)))
      rw [e3]
      omega
    · refine wc K v Q (ab_y (by omega) hz.2 Q ?_)
      rw [cM_at (by omega) (by omega), cM_at (by omega) (by omega), C2, show x + 1 + (u : Int) + 1 = x + 1 + ((u + 1 : Nat) : Int) by omega]
      exact hq
    · refine wm X Q (mq_y (l := c 18 (24 * p + x)) (r := c 18 (24 * p + (x + 1 + u))) (by omega) hz.2 (by rw [wg_r, gAdds_n (by decide)]; omega) (gM_at hn h1 hx (huq x)) (gM_at hn h1 hy (huq _)) Q ?_)
      rw [M2, show x + 1 + (u : Int) + 1 = x + 1 + ((u + 1 : Nat) : Int) by omega]
      exact hq
end PBl
