/-! The text of results: is it a text; the scan's end. -/
section IsText
variable {K s0 C m m' F σ : Mem} {s v t s' v' t' o i n ch q x : Int} {A A' T : Int → Int} {f : Int → Int}

theorem it_0 (hr : Ev true 239 [aR 11 0] (mm K s v t A) (.inl (some (aI o))) (mm K s' v' t' A')) (ho : o = 0) : wp true 240 6 [some (aR 11 (0))] [] (mm K s v t A) 0 0 (fun o' s2 => o' = .inl (some (aI 0)) ∧ s2 = (mm K s' v' t' A')) := by
  refine wp_seg 1 (P := none) (ls' := [some (aR 11 (0))]) (st' := [aR 11 (0)]) (σ' := (mm K s v t A)) rq_240 rfl True.intro (i' := 7) rfl ?_
  refine wp_call (C := 11) (As := [aR 11 (0)]) (rest := []) rq_240 hr rfl rfl (show clOK 240 239 0 0 0 1 11 = true by decide +kernel) rfl (show 0 ≤ 4 by decide) (fun _ => ⟨_, rfl⟩) rfl (c' := 0) (s' := 0) rfl rfl ?_
  refine wp_if rq_240 rfl (fun (h1 : ¬ (o) = 0) => absurd h1 (show ¬ (¬ (o) = 0) from by omega)) (fun _ => ?_)
  refine wp_seg 1 (P := none) (ls' := [some (aR 11 (0))]) (st' := [aI (0)]) (σ' := (mm K s' v' t' A')) rq_240 rfl True.intro (i' := 10) rfl ?_
  refine wp_zret rq_240 rfl rt_240 ?_ ⟨?_, ?_⟩
  · first | exact Or.inl rfl | exact Or.inr rfl
  · rfl
  · rfl
theorem it_1 (hr : Ev true 239 [aR 11 0] (mm K s v t A) (.inl (some (aI o))) (mm K s' v' t' A')) (ho : o = 1) (h : K 11 0 10 ≤ s') : wp true 240 6 [some (aR 11 (0))] [] (mm K s v t A) 0 0 (fun o' s2 => o' = .inl (some (aI 1)) ∧ s2 = (mm K s' v' t' A')) := by
  refine wp_seg 1 (P := none) (ls' := [some (aR 11 (0))]) (st' := [aR 11 (0)]) (σ' := (mm K s v t A)) rq_240 rfl True.intro (i' := 7) rfl ?_
  refine wp_call (C := 11) (As := [aR 11 (0)]) (rest := []) rq_240 hr rfl rfl (show clOK 240 239 0 0 0 1 11 = true by decide +kernel) rfl (show 0 ≤ 4 by decide) (fun _ => ⟨_, rfl⟩) rfl (c' := 0) (s' := 0) rfl rfl ?_
  refine wp_if rq_240 rfl (fun _ => ?_) (fun (h1 : ¬ (¬ (o) = 0)) => absurd (show ¬ (o) = 0 from by omega) h1)
  refine wp_seg 4 (P := none) (ls' := [some (aR 11 (0))]) (st' := [aI ((mm K s' v' t' A') 11 (0) 10), aI ((mm K s' v' t' A') 11 (0) 11)]) (σ' := (mm K s' v' t' A')) rq_240 rfl True.intro (i' := 15) rfl ?_
  refine wp_icmp rq_240 rfl (fun (h2 : ((mm K s' v' t' A') 11 (0) 11) < ((mm K s' v' t' A') 11 (0) 10)) => absurd h2 (show ¬ (((mm K s' v' t' A') 11 (0) 11) < ((mm K s' v' t' A') 11 (0) 10)) from by rw [mm_11, mm_o (by decide) (by decide)]; omega)) (fun _ => ?_)
  refine wp_seg 1 (P := none) (ls' := [some (aR 11 (0))]) (st' := [aI (1)]) (σ' := (mm K s' v' t' A')) rq_240 rfl True.intro (i' := 17) rfl ?_
  refine wp_zret rq_240 rfl rt_240 ?_ ⟨?_, ?_⟩
  · first | exact Or.inl rfl | exact Or.inr rfl
  · rfl
  · rfl
theorem it_2 (hr : Ev true 239 [aR 11 0] (mm K s v t A) (.inl (some (aI o))) (mm K s' v' t' A')) (ho : o = 1) (h : s' < K 11 0 10) (Q : Out → Mem → Prop) (hq : wp true 240 6 [some (aR 11 (0))] [] (mm K s' v' t' A') 0 0 Q) : wp true 240 6 [some (aR 11 (0))] [] (mm K s v t A) 0 0 Q := by
  refine wp_seg 1 (P := none) (ls' := [some (aR 11 (0))]) (st' := [aR 11 (0)]) (σ' := (mm K s v t A)) rq_240 rfl True.intro (i' := 7) rfl ?_
  refine wp_call (C := 11) (As := [aR 11 (0)]) (rest := []) rq_240 hr rfl rfl (show clOK 240 239 0 0 0 1 11 = true by decide +kernel) rfl (show 0 ≤ 4 by decide) (fun _ => ⟨_, rfl⟩) rfl (c' := 0) (s' := 0) rfl rfl ?_
  refine wp_if rq_240 rfl (fun _ => ?_) (fun (h1 : ¬ (¬ (o) = 0)) => absurd (show ¬ (o) = 0 from by omega) h1)
  refine wp_seg 4 (P := none) (ls' := [some (aR 11 (0))]) (st' := [aI ((mm K s' v' t' A') 11 (0) 10), aI ((mm K s' v' t' A') 11 (0) 11)]) (σ' := (mm K s' v' t' A')) rq_240 rfl True.intro (i' := 15) rfl ?_
  refine wp_icmp rq_240 rfl (fun _ => ?_) (fun (h2 : ¬ (((mm K s' v' t' A') 11 (0) 11) < ((mm K s' v' t' A') 11 (0) 10))) => absurd (show ((mm K s' v' t' A') 11 (0) 11) < ((mm K s' v' t' A') 11 (0) 10) from by rw [mm_11, mm_o (by decide) (by decide)]; omega) h2)
  exact hq
theorem it_s (Q : Out → Mem → Prop) (hq : wp true 240 6 [some (aR 11 (0))] [] (mm K 0 v 0 A) 0 0 Q) : wp true 240 0 [some (aR 11 (0))] [] (mm K s v t A) 0 0 Q := by
  refine wp_seg 6 (P := none) (ls' := [some (aR 11 (0))]) (st' := []) (σ' := (up (up (mm K s v t A) 11 (0) 11 (0)) 11 (0) 15 (0))) rq_240 rfl True.intro (i' := 6) rfl ?_
  rw [um_11, um_15]
  exact hq
theorem isText_lp (hn : K 11 0 10 ≤ 60) : ∀ (u : Nat) (s v t : Int) (A : Int → Int), (K 11 0 10 - s).toNat < u → 0 ≤ s → Bd K s0 C s t A → (s = K 11 0 10 → t = 0) → ∃ o s' v' t' A', wp true 240 6 [some (aR 11 (0))] [] (mm K s v t A) 0 0 (fun o' s2 => o' = .inl (some (aI o)) ∧ s2 = mm K s' v' t' A') ∧ ((o = 0 ∧ Rej K s0 s') ∨ (o = 1 ∧ 0 < t' ∧ Bd K s0 C s' t' A' ∧ s' = K 11 0 10)) := by
  intro u
  induction u with
  | zero => intro s v t A h; omega
  | succ u ih =>
    intro s v t A h hs0 hB hst
    obtain ⟨o, s', v', t', A', hr, h1⟩ := rh_all (v := v) hn hs0 hB hst
    obtain ⟨-, -, -, -, -, t0, -⟩ := hB
    rcases h1 with ⟨ho, hj⟩ | ⟨ho, ht, hb, hss⟩
    · exact ⟨0, _, _, _, _, it_0 hr ho, Or.inl ⟨rfl, hj⟩⟩
    · have hb2 := hb
      obtain ⟨T, b1, b2, b3, b4, b5, b6⟩ := hb2
      rw [← ht] at hb
      by_cases q : s' < K 11 0 10
      · obtain ⟨o2, s2, v2, t2, A2, hw, hc⟩ := ih s' v' t' A' (by omega) (by omega) hb (fun z => absurd z (by omega))
        exact ⟨o2, s2, v2, t2, A2, it_2 hr ho q _ hw, hc⟩
      · exact ⟨1, _, _, _, _, it_1 hr ho (by omega), Or.inr ⟨rfl, by omega, hb, by omega⟩⟩
theorem ev_isText (hn : 0 ≤ K 11 0 10 ∧ K 11 0 10 ≤ 60) (hB : Bd K s0 C 0 0 A) : ∃ o s' v' t' A', Ev true 240 [aR 11 0] (mm K s v t A) (.inl (some (aI o))) (mm K s' v' t' A') ∧ ((o = 0 ∧ Rej K s0 s') ∨ (o = 1 ∧ 0 < t' ∧ Bd K s0 C s' t' A' ∧ s' = K 11 0 10)) := by
  obtain ⟨o, s', v', t', A', hw, hc⟩ := isText_lp hn.2 _ 0 v 0 A (Nat.lt_succ_self _) (Int.le_refl 0) hB (fun _ => rfl)
  exact ⟨o, s', v', t', A', it_s _ hw, hc⟩
/-! The automaton's run is one. -/
theorem Rn_nn (h : Rn f n s0 i m) : 0 ≤ i := h (fun i _ => 0 ≤ i) (Int.le_refl 0) (fun i s hp _ _ => by omega)
theorem Rn_inv (h : Rn f n s0 i m) : (i = 0 ∧ m = s0) ∨ ∃ m', Rn f n s0 (i - 1) m' ∧ i - 1 < n ∧ zo_accept (f (i - 1)) m' = 1 ∧ m = zm_accept (f (i - 1)) m' := by
  refine (h (fun i m => Rn f n s0 i m ∧ ((i = 0 ∧ m = s0) ∨ ∃ m', Rn f n s0 (i - 1) m' ∧ i - 1 < n ∧ zo_accept (f (i - 1)) m' = 1 ∧ m = zm_accept (f (i - 1)) m')) ⟨Rn_z, Or.inl ⟨rfl, rfl⟩⟩ (fun i m hp hi ha => ⟨Rn_s hp.1 hi ha, Or.inr ⟨m, ?_⟩⟩)).2
  rw [show i + 1 - 1 = i by omega]
  exact ⟨hp.1, hi, ha, rfl⟩
theorem Rn_det : ∀ (u : Nat) (i : Int) (m m' : Mem), i = u → Rn f n s0 i m → Rn f n s0 i m' → m = m' := by
  intro u
  induction u with
  | zero =>
    intro i m m' e h h'
    rcases Rn_inv h with ⟨-, e1⟩ | ⟨z, z1, -⟩
    · rcases Rn_inv h' with ⟨-, e2⟩ | ⟨z, z1, -⟩
      · rw [e1, e2]
      · exact absurd (Rn_nn z1) (by omega)
    · exact absurd (Rn_nn z1) (by omega)
  | succ u ih =>
    intro i m m' e h h'
    rcases Rn_inv h with ⟨e1, -⟩ | ⟨z, z1, z2, z3, z4⟩
    · omega
    · rcases Rn_inv h' with ⟨e1, -⟩ | ⟨y, y1, y2, y3, y4⟩
      · omega
      · rw [z4, y4, ih (i - 1) z y (by omega) z1 y1]
theorem Rn_one (h : Rn f n s0 i m) (h' : Rn f n s0 i m') : m = m' := Rn_det i.toNat i m m' (by have := Rn_nn h; omega) h h'
theorem Rn_mid (h : Rn f n s0 i m) {j : Int} (j0 : 0 ≤ j) (ji : j < i) : ∃ m', Rn f n s0 j m' ∧ j < n ∧ zo_accept (f j) m' = 1 := by
  refine h (fun i m => Rn f n s0 i m ∧ (j < i → ∃ m', Rn f n s0 j m' ∧ j < n ∧ zo_accept (f j) m' = 1)) ⟨Rn_z, fun z => absurd z (by omega)⟩ (fun i m hp hi ha => ⟨Rn_s hp.1 hi ha, fun z => ?_⟩) |>.2 ji
  by_cases q : j = i
  · rw [q]; exact ⟨m, hp.1, hi, ha⟩
  · exact hp.2 (by omega)
theorem Rej_one (h : Rej K s0 s) (h' : Rej K s0 s') : s = s' := by
  obtain ⟨m, r, c⟩ := h
  obtain ⟨m', r', c'⟩ := h'
  have p1 := Rn_nn r
  have p2 := Rn_nn r'
  by_cases q : s < s'
  · obtain ⟨m2, a1, a2, a3⟩ := Rn_mid r' p1 q
    rw [Rn_one a1 r] at a3
    rcases c with z | z
    · have := z.2.1; omega
    · omega
  · by_cases q2 : s' < s
    · obtain ⟨m2, a1, a2, a3⟩ := Rn_mid r p2 q2
      rw [Rn_one a1 r'] at a3
      rcases c' with z | z
      · have := z.2.1; omega
      · omega
    · omega
theorem Rej_Bd (h : Rej K s0 s) (h' : Bd K s0 C s' t A) (ht : 0 < t) (hs' : s' = K 11 0 10) : False := by
  obtain ⟨m, r, c⟩ := h
  obtain ⟨T, r', -⟩ := h'
  have p1 := Rn_nn r
  have p2 := Rn_nn r'
  rcases c with ⟨c1, c2, c3⟩ | ⟨c1, c2⟩
  · obtain ⟨m2, a1, a2, a3⟩ := Rn_mid r' p1 (by omega)
    rw [Rn_one a1 r] at a3
    omega
  · have e9 : s = s' := by omega
    have r2 : Rn (K 13 191) (K 11 0 10) s0 s m := r
    rw [e9] at r2
    have e8 : m = tm C 0 0 t T := Rn_one r2 r'
    rw [e8, tm_4, tm_5, tm_6] at c2
    omega
/-! What a character leaves. -/
theorem rset_fr {C' : Nat} {r k : Int} (h : ¬ (C' = 13 ∧ r = 185)) : rset σ 185 i x C' r k = σ C' r k := by
  unfold rset
  split
  · exact up_o (by omega)
  · rfl
theorem open_fr {C' : Nat} {r k : Int} (h1 : ¬ (C' = 5 ∧ 4 ≤ k)) (h2 : ¬ (C' = 13 ∧ r = 185)) : zm_openPart x σ C' r k = σ C' r k := by
  unfold zm_openPart
  rw [rset_fr h2, rset_fr h2, up_o (by omega), up_o (by omega)]
theorem dgt_fr {C' : Nat} {r k : Int} (h1 : ¬ (C' = 5 ∧ 4 ≤ k)) (h2 : ¬ (C' = 13 ∧ r = 185)) : zm_acceptDigit x σ C' r k = σ C' r k := by
  unfold zm_acceptDigit
  repeat' split
  all_goals first | rfl | (rw [up_o (by omega), rset_fr h2])
def fr185 (σ m : Mem) : Prop := ∀ (C' : Nat) (r k : Int), ¬ (C' = 5 ∧ 4 ≤ k) → ¬ (C' = 13 ∧ r = 185) → m C' r k = σ C' r k
theorem ite_f {P : Prop} [Decidable P] {a b : Mem} (h1 : P → fr185 σ a) (h2 : ¬ P → fr185 σ b) : fr185 σ (if P then a else b) := by
  by_cases q : P
  · rw [if_pos q]; exact h1 q
  · rw [if_neg q]; exact h2 q
theorem acc_f : fr185 σ (zm_accept x σ) := by
  unfold zm_accept
  repeat' (with_reducible refine ite_f (fun _ => ?_) (fun _ => ?_))
  all_goals intro C' r k h1 h2
  all_goals first | with_reducible rfl | (with_reducible exact open_fr h1 h2) | (with_reducible exact dgt_fr h1 h2) | (rw [open_fr h1 h2, up_o (by omega)]) | (rw [rset_fr h2, open_fr h1 h2])
theorem acc_fr {C' : Nat} {r k : Int} (h1 : ¬ (C' = 5 ∧ 4 ≤ k)) (h2 : ¬ (C' = 13 ∧ r = 185)) : zm_accept x σ C' r k = σ C' r k := acc_f C' r k h1 h2
theorem Rn_fr (h : Rn f n s0 i m) {C' : Nat} {r k : Int} (h1 : ¬ (C' = 5 ∧ 4 ≤ k)) (h2 : ¬ (C' = 13 ∧ r = 185)) : m C' r k = s0 C' r k := h (fun i m => m C' r k = s0 C' r k) rfl (fun i m hp _ _ => by rw [acc_fr h1 h2]; exact hp)
theorem acc_01 : zo_accept x σ = 0 ∨ zo_accept x σ = 1 := by
  unfold zo_accept
  have e := acceptDigit_01 (wr (x - 48)) σ
  have i2 : ∀ {P : Prop} [Decidable P] {a b : Int}, (P → a = 0 ∨ a = 1) → (¬ P → b = 0 ∨ b = 1) → (if P then a else b) = 0 ∨ (if P then a else b) = 1 := fun {P} _ {a b} g1 g2 => by
    by_cases q : P
    · rw [if_pos q]; exact g1 q
    · rw [if_neg q]; exact g2 q
  repeat' (with_reducible refine i2 (fun _ => ?_) (fun _ => ?_))
  all_goals first | exact Or.inl rfl | exact Or.inr rfl | exact e
theorem scS_eq (σ : Mem) : scS σ = tm (up σ 5 0 2 (-1)) 0 0 0 (tu (tu (σ 13 185) 0 0) 3 (-1)) := by
  unfold scS
  have e : up (up σ 5 0 4 0) 5 0 2 (-1) = tm (up σ 5 0 2 (-1)) (σ 5 0 5) (σ 5 0 6) 0 (σ 13 185) := by
    conv => lhs; rw [tm_id σ]
    rw [tu_4, tu_2 (by decide)]
  rw [e, open_tm (by decide) (by decide)]
  rfl
/-- the scan, where the run ends in a fault -/
theorem ev_scan_x (hn : 0 ≤ σ 5 0 1 ∧ σ 5 0 1 ≤ 60) (hK : K 11 0 10 = σ 5 0 1) (hf : ∀ j, 0 ≤ j → j < σ 5 0 1 → σ 12 0 j = K 13 191 j) (h : Rej K (scS σ) s) : ∃ a, Ev true 64 [aR 5 0] σ (.inl none) a ∧ a 5 0 2 = s ∧ a 5 0 1 = 0 ∧ ∀ C' r k, ¬ (C' = 5 ∧ r = 0 ∧ (k = 1 ∨ k = 2)) → ¬ (C' = 5 ∧ 4 ≤ k) → ¬ (C' = 13 ∧ r = 185) → a C' r k = σ C' r k := by
  have hs : ∀ (C' : Nat) (r k : Int), ¬ (C' = 5 ∧ 4 ≤ k) → ¬ (C' = 13 ∧ r = 185) → scS σ C' r k = up σ 5 0 2 (-1) C' r k := fun C' r k h1 h2 => by
    rw [scS_eq]
    exact tm_o (by omega) h2
  have inv : ∀ i m, Rn (K 13 191) (K 11 0 10) (scS σ) i m → 0 ≤ i ∧ m 5 0 1 = K 11 0 10 ∧ m 5 0 2 = -1 ∧ (∀ j, 0 ≤ j → j < K 11 0 10 → m 12 0 j = K 13 191 j) := fun i m hr => by
    refine ⟨Rn_nn hr, ?_, ?_, fun j j0 j1 => ?_⟩
    · rw [Rn_fr hr (by omega) (by omega), hs _ _ _ (by omega) (by omega), up_o (by omega), hK]
    · rw [Rn_fr hr (by omega) (by omega), hs _ _ _ (by omega) (by omega), up_s]
    · rw [Rn_fr hr (by omega) (by omega), hs _ _ _ (by omega) (by omega), up_o (by omega)]
      exact hf j j0 (by omega)
  obtain ⟨m, hr, hc⟩ := h
  obtain ⟨i0, i1, i2, i3⟩ := inv s m hr
  refine ⟨up (up m 5 0 2 s) 5 0 1 0, scan_0 _ (scan_go inv (by omega) _ hr ?_), ?_, up_s _ _ _ _ _, fun C' r k hk hq hq2 => ?_⟩
  · rcases hc with ⟨c1, c2, c3⟩ | ⟨c1, c2⟩
    · exact scan_n i0 (by omega) (by omega) i2 (by rw [i3 s i0 c1]; exact c2) (by rw [i3 s i0 c1]; exact c3) _ (fun w => scan_f1 w (by rw [up_s]; omega))
    · refine scan_e (by omega) _ ?_
      have e := scan_f3 s i2 c2
      rw [i1, ← c1] at e
      exact e
  · rw [up_o (by omega), up_s]
  · rw [up_o (by omega), up_o (by omega), Rn_fr hr (by omega) (by omega), hs _ _ _ (by omega) (by omega), up_o (by omega)]
/-- the scan of a whole text -/
theorem ev_scan_n (hn : 0 ≤ σ 5 0 1 ∧ σ 5 0 1 ≤ 60) (hK : K 11 0 10 = σ 5 0 1) (hf : ∀ j, 0 ≤ j → j < σ 5 0 1 → σ 12 0 j = K 13 191 j) (ht : 0 < t) (h : Rn (K 13 191) (K 11 0 10) (scS σ) (K 11 0 10) (tm C 0 0 t T)) : ∃ a, Ev true 64 [aR 5 0] σ (.inl none) a ∧ a 5 0 2 = -1 ∧ a 5 0 1 = 0 ∧ a 5 0 4 = t ∧ a 13 185 = T ∧ ∀ C' r k, ¬ (C' = 5 ∧ r = 0 ∧ (k = 1 ∨ k = 2)) → ¬ (C' = 5 ∧ 4 ≤ k) → ¬ (C' = 13 ∧ r = 185) → a C' r k = σ C' r k := by
  have hs : ∀ (C' : Nat) (r k : Int), ¬ (C' = 5 ∧ 4 ≤ k) → ¬ (C' = 13 ∧ r = 185) → scS σ C' r k = up σ 5 0 2 (-1) C' r k := fun C' r k h1 h2 => by
    rw [scS_eq]
    exact tm_o (by omega) h2
  have inv : ∀ i m, Rn (K 13 191) (K 11 0 10) (scS σ) i m → 0 ≤ i ∧ m 5 0 1 = K 11 0 10 ∧ m 5 0 2 = -1 ∧ (∀ j, 0 ≤ j → j < K 11 0 10 → m 12 0 j = K 13 191 j) := fun i m hr => by
    refine ⟨Rn_nn hr, ?_, ?_, fun j j0 j1 => ?_⟩
    · rw [Rn_fr hr (by omega) (by omega), hs _ _ _ (by omega) (by omega), up_o (by omega), hK]
    · rw [Rn_fr hr (by omega) (by omega), hs _ _ _ (by omega) (by omega), up_s]
    · rw [Rn_fr hr (by omega) (by omega), hs _ _ _ (by omega) (by omega), up_o (by omega)]
      exact hf j j0 (by omega)
  obtain ⟨i0, i1, i2, i3⟩ := inv _ _ h
  refine ⟨up (tm C 0 0 t T) 5 0 1 0, scan_0 _ (scan_go inv (by omega) _ h (scan_e (by omega) _ (scan_f2 _ i2 (by rw [tm_4]; exact ht) tm_5 tm_6))), ?_, up_s _ _ _ _ _, ?_, ?_, fun C' r k hk hq hq2 => ?_⟩
  · rw [up_o (by omega)]; exact i2
  · rw [up_o (by omega)]; exact tm_4
  · exact (funext fun k => up_o (by omega)).trans tm_r
  · rw [up_o (by omega), Rn_fr h (by omega) (by omega), hs _ _ _ (by omega) (by omega), up_o (by omega)]
theorem Bd_0 (hK : 0 ≤ K 11 0 10) : Bd K (scS σ) (up σ 5 0 2 (-1)) 0 0 A := by
  have e := scS_eq σ
  have h := Rn_z (f := K 13 191) (n := K 11 0 10) (s0 := scS σ)
  refine ⟨tu (tu (σ 13 185) 0 0) 3 (-1), ?_, ?_, fun j j0 j1 => absurd j1 (by omega), by omega, by omega, hK⟩
  · rw [← e]; exact h
  · rw [show (4 * 0 : Int) = 0 from rfl, tu_o (by decide), tu_s]
end IsText

