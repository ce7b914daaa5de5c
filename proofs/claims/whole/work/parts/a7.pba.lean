/-! The bouts of the pools come: a pool, and all. -/
section PBa
variable {n P p x y t : Int} {o L R H : Int → Int} {c : Cs} {g : Gs}
theorem x_loop (hn : 0 ≤ n ∧ n ≤ 24) (hP : 1 ≤ P ∧ P ≤ 6) (h1 : g 1 = n) (h : PRl n P n o c g) (hsur : ∀ f, 0 ≤ f → f < n → ∃ i, (0 ≤ i ∧ i < n) ∧ o i = f) (p0 : 0 ≤ p) (p1 : p < P) (t0 : 0 ≤ t) (B : BF n P (fun f => gf g f 6) t L R H) (S : SB t L R (fun h => sumTo (poolS h (fun p => c 17 p) (fun k => c 18 k)) p)) : ∀ x : Nat, (x : Int) ≤ c 17 p → ∃ t' L' R' H', 0 ≤ t' ∧ BF n P (fun f => gf g f 6) t' L' R' H' ∧ SB t' L' R' (fun h => sumTo (poolS h (fun p => c 17 p) (fun k => c 18 k)) p + sumTo (rowS h (fun p => c 17 p) (fun k => c 18 k) p) x) ∧ (∀ K v Q, wp true 26 8 [some (aR 2 (0)), some (aI (p)), some (aI (c 17 p)), some (aI (x)), none] [] (wcm K (cAdds (cset c 0 1 v) 0 t' L' R' H')) 0 0 Q → wp true 26 8 [some (aR 2 (0)), some (aI (p)), some (aI (c 17 p)), some (aI (0)), none] [] (wcm K (cAdds (cset c 0 1 v) 0 t L R H)) 0 0 Q) ∧ (∀ X Q, wp true 174 62 [some (aR 11 (0)), some (aI (P)), some (aI (p)), some (aI (c 17 p)), some (aI (x)), none] [] (wg X (gAdds g 0 t' L' R' H')) 0 0 Q → wp true 174 62 [some (aR 11 (0)), some (aI (P)), some (aI (p)), some (aI (c 17 p)), some (aI (0)), none] [] (wg X (gAdds g 0 t L R H)) 0 0 Q) := by
  have hz := PRl_z hn hP h p0 p1
  intro x
  induction x with
  | zero =>
    intro _
    refine ⟨t, L, R, H, t0, B, fun hh => (S hh).trans ?_, fun K v Q hq => hq, fun X Q hq => hq⟩
    show sumTo (poolS hh (fun p => c 17 p) (fun k => c 18 k)) p = sumTo (poolS hh (fun p => c 17 p) (fun k => c 18 k)) p + sumTo (rowS hh (fun p => c 17 p) (fun k => c 18 k) p) 0
    rw [sumTo_0]
    omega
  | succ x ih =>
    intro hx
    obtain ⟨t', L', R', H', t0', B', S', wc, wm⟩ := ih (by omega)
    obtain ⟨t2, L2, R2, H2, t02, B2, S2, wc2, wm2⟩ := y_loop hn hP h1 h hsur p0 p1 (x := x) (by omega) (by omega) t0' B' S' (c 17 p - (x + 1)).toNat (by omega)
    have ey : (x : Int) + 1 + (((c 17 p - (x + 1)).toNat : Nat) : Int) = c 17 p := by omega
    rw [ey] at S2 wc2 wm2
    refine ⟨t2, L2, R2, H2, t02, B2, fun hh => (S2 hh).trans ?_, fun K v Q hq => ?_, fun X Q hq => ?_⟩
    · show sumTo (poolS hh (fun p => c 17 p) (fun k => c 18 k)) p + (sumTo (rowS hh (fun p => c 17 p) (fun k => c 18 k) p) x + parS hh (fun k => c 18 k) p x (c 17 p)) = sumTo (poolS hh (fun p => c 17 p) (fun k => c 18 k)) p + sumTo (rowS hh (fun p => c 17 p) (fun k => c 18 k) p) ((x + 1 : Nat) : Int)
      rw [show ((x + 1 : Nat) : Int) = (x : Int) + 1 by omega, sumTo_s _ (by omega)]
      rfl
    · refine wc K v Q (ab_x (by omega) hz.2 Q (wc2 K v Q (ab_r (by omega) (Int.le_refl _) Q ?_)))
      rw [show (x : Int) + 1 = ((x + 1 : Nat) : Int) by omega]
      exact hq
    · refine wm X Q (mq_x (by omega) hz.2 Q (wm2 X Q (mq_r (by omega) (Int.le_refl _) Q ?_)))
      rw [show (x : Int) + 1 = ((x + 1 : Nat) : Int) by omega]
      exact hq
theorem cA_01 {v w : Int} {B : Int} : cset (cAdds (cset c 0 1 v) B t L R H) 0 1 w = cAdds (cset c 0 1 w) B t L R H := by
  funext C k
  by_cases q : C = 0 ∧ k = 1
  · obtain ⟨rfl, rfl⟩ := q
    rw [cset_s ⟨rfl, rfl⟩]
    unfold cAdds
    rw [if_neg (by omega), if_neg (by omega), if_neg (by omega), if_neg (by omega), if_neg (by omega), if_neg (by omega), cset_s ⟨rfl, rfl⟩]
  · rw [cset_o q]
    unfold cAdds
    rw [cset_o q, cset_o q]
theorem pool_one (hn : 0 ≤ n ∧ n ≤ 24) (hP : 1 ≤ P ∧ P ≤ 6) (h1 : g 1 = n) (h : PRl n P n o c g) (hsur : ∀ f, 0 ≤ f → f < n → ∃ i, (0 ≤ i ∧ i < n) ∧ o i = f) (p0 : 0 ≤ p) (p1 : p < P) (t0 : 0 ≤ t) (B : BF n P (fun f => gf g f 6) t L R H) (S : SB t L R (fun h => sumTo (poolS h (fun p => c 17 p) (fun k => c 18 k)) p)) : ∃ t' L' R' H', 0 ≤ t' ∧ BF n P (fun f => gf g f 6) t' L' R' H' ∧ SB t' L' R' (fun h => sumTo (poolS h (fun p => c 17 p) (fun k => c 18 k)) (p + 1)) ∧ (∀ K v, Ev true 26 [aR 2 0, aI p] (wcm K (cAdds (cset c 0 1 v) 0 t L R H)) (.inl none) (wcm K (cAdds (cset c 0 1 t') 0 t' L' R' H'))) ∧ (∀ X Q, wp true 174 53 [some (aR 11 (0)), some (aI (P)), some (aI (p + 1)), none, none, none] [] (wg X (gAdds g 0 t' L' R' H')) 0 0 Q → wp true 174 53 [some (aR 11 (0)), some (aI (P)), some (aI (p)), none, none, none] [] (wg X (gAdds g 0 t L R H)) 0 0 Q) := by
  have hz := PRl_z hn hP h p0 p1
  obtain ⟨t', L', R', H', t0', B', S', wc, wm⟩ := x_loop hn hP h1 h hsur p0 p1 t0 B S (c 17 p).toNat (by omega)
  have ex : (((c 17 p).toNat : Nat) : Int) = c 17 p := by omega
  rw [ex] at S' wc wm
  refine ⟨t', L', R', H', t0', B', fun hh => (S' hh).trans ?_, fun K v => ?_, fun X Q hq => ?_⟩
  · show sumTo (poolS hh (fun p => c 17 p) (fun k => c 18 k)) p + sumTo (rowS hh (fun p => c 17 p) (fun k => c 18 k) p) (c 17 p) = sumTo (poolS hh (fun p => c 17 p) (fun k => c 18 k)) (p + 1)
    rw [sumTo_s _ p0]
    rfl
  · refine ab_0 _ ?_
    rw [cM_sz (by omega)]
    refine wc K v _ ?_
    have e := ab_e (p := p) (x := c 17 p) (s := c 17 p) (M := wcm K (cAdds (cset c 0 1 v) 0 t' L' R' H')) (Int.le_refl _)
    rw [wk_0, cAdds_n, wu_0, cA_01, show (0 : Int) + t' = t' by omega] at e
    exact e
  · exact mq_p (by omega) (gM_mo hn h1 hz (h.1 p p0 p1).2.1) Q (wm X Q (mq_n (by omega) (Int.le_refl _) Q hq))
theorem pools_all (hn : 0 ≤ n ∧ n ≤ 24) (hP : 1 ≤ P ∧ P ≤ 6) (h1 : g 1 = n) (h : PRl n P n o c g) (hsur : ∀ f, 0 ≤ f → f < n → ∃ i, (0 ≤ i ∧ i < n) ∧ o i = f) (h00 : c 0 0 = 0) (h01 : c 0 1 = 0) (h3 : g 3 = 0) : ∀ p : Nat, (p : Int) ≤ P → ∃ t L R H, 0 ≤ t ∧ BF n P (fun f => gf g f 6) t L R H ∧ SB t L R (fun h => sumTo (poolS h (fun p => c 17 p) (fun k => c 18 k)) p) ∧ (∀ K Q, wp true 25 42 [some (aR 2 (0)), some (aI (P)), some (aR 7 (184)), some (aI (p)), none, none] [] (wcm K (cAdds (cset c 0 1 t) 0 t L R H)) 0 0 Q → wp true 25 42 [some (aR 2 (0)), some (aI (P)), some (aR 7 (184)), some (aI (0)), none, none] [] (wcm K c) 0 0 Q) ∧ (∀ X Q, wp true 174 53 [some (aR 11 (0)), some (aI (P)), some (aI (p)), none, none, none] [] (wg X (gAdds g 0 t L R H)) 0 0 Q → wp true 174 53 [some (aR 11 (0)), some (aI (P)), some (aI (0)), none, none, none] [] (wg X g) 0 0 Q) := by
  intro p
  induction p with
  | zero =>
    intro _
    refine ⟨0, fun _ => 0, fun _ => 0, fun _ => 0, Int.le_refl 0, fun b b0 b1 => absurd b1 (by omega), fun hh => rfl, fun K Q hq => ?_, fun X Q hq => ?_⟩
    · have e : cAdds (cset c 0 1 0) 0 0 (fun _ => 0) (fun _ => 0) (fun _ => 0) = c := by
        rw [cAdds_0 (by rw [cset_o (by omega)]; exact h00)]
        funext C k
        by_cases q : C = 0 ∧ k = 1
        · rw [cset_s q, q.1, q.2, h01]
        · rw [cset_o q]
      rw [e] at hq
      exact hq
    · rw [gAdds_0 h3] at hq
      exact hq
  | succ p ih =>
    intro hp
    obtain ⟨t, L, R, H, t0, B, S, wc, wm⟩ := ih (by omega)
    obtain ⟨t', L', R', H', t0', B', S', ev, wm'⟩ := pool_one hn hP h1 h hsur (p := p) (by omega) (by omega) t0 B S
    rw [show (p : Int) + 1 = ((p + 1 : Nat) : Int) by omega] at S' wm'
    refine ⟨t', L', R', H', t0', B', S', fun K Q hq => ?_, fun X Q hq => wm X Q (wm' X Q hq)⟩
    refine wc K Q (pl_s (by omega) hP.2 (ev K t) Q ?_)
    rw [show (p : Int) + 1 = ((p + 1 : Nat) : Int) by omega]
    exact hq
end PBa
