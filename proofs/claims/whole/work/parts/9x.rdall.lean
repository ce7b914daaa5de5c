/-! readResults, on both sides. -/
section RdAll
variable {N : Int} {σ a b a' b' aa bb : Mem} {q cnt x : Int} {T : Int → Int}
theorem J_txt (h : J N a b) (e1 : ∀ C r k, clsP C r k → ¬ (C = 5 ∧ r = 0 ∧ (k = 1 ∨ k = 2)) → a' C r k = a C r k) (a1 : a' 5 0 1 = 0) (a2 : a' 5 0 2 = q) (e2 : ∀ C r k, modP C r k → ¬ (C = 11 ∧ r = 0 ∧ (k = 10 ∨ k = 13)) → b' C r k = b C r k) (b1 : b' 11 0 10 = 0) (b2 : b' 11 0 13 = q) : J N a' b' := by
  obtain ⟨j0, ⟨h1, h2, h3, h4⟩, ⟨s1, s2, s3⟩, ⟨t1, t2, t3, t4, t5⟩, jl⟩ := h
  have ecm : ∀ m, 0 ≤ m → m < 10 → ∀ C k, ownK C → cv a' m C k = cv a m C k := fun m m0 m1 C k q => by
    unfold ownK at q
    unfold cv
    by_cases hC : C < 10
    · rw [if_pos hC, if_pos hC]; exact e1 _ _ _ (by unfold clsP; omega) (by omega)
    · rw [if_neg hC, if_neg hC]; exact e1 _ _ _ (by unfold clsP; omega) (by omega)
  have er : ∀ r, (r = 186 ∨ r = 187 ∨ r = 188 ∨ r = 191) → b' 13 r = b 13 r := fun r q => funext fun k => e2 _ _ _ (by unfold modP; omega) (by omega)
  have e11 : ∀ k, (k = 2 ∨ k = 4 ∨ k = 5) → b' 11 0 k = b 11 0 k := fun k q => e2 _ _ _ (by unfold modP; omega) (by omega)
  have ea1 : ∀ k, a' 1 0 k = a 1 0 k := fun k => e1 _ _ _ (by unfold clsP; omega) (by omega)
  have ea10 : ∀ k, a' 10 0 k = a 10 0 k := fun k => e1 _ _ _ (by unfold clsP; omega) (by omega)
  refine ⟨?_, ⟨?_, ?_, ?_, fun i i0 i1 => ?_⟩, ⟨?_, ?_, fun q => ?_⟩, ⟨?_, ?_, ?_, fun i i0 i1 => ?_, ?_⟩, fun j q0 q1 => ?_⟩
  · rw [er 186 (by decide)]; exact KP_c j0 (ecm 0 (by decide) (by decide))
  · rw [ea1]; exact h1
  · rw [ea1]; exact h2
  · rw [ea1, e11 4 (by decide)]; exact h3
  · rw [ea1] at i1
    rw [ea1, er 188 (by decide)]
    exact KP_c (h4 i i0 i1) (ecm _ (by omega) (by omega))
  · rw [ea10, e11 2 (by decide)]; exact s1
  · rw [e11 2 (by decide)]; exact s2
  · rw [e11 2 (by decide)] at q
    rw [er 187 (by decide)]
    exact KP_c (s3 q) (ecm 1 (by decide) (by decide))
  · rw [ea10, e11 5 (by decide)]; exact t1
  · rw [a1, b1]
  · rw [a1]; omega
  · rw [a1] at i1; omega
  · rw [a2, b2]
  · rw [e1 18 0 j (by unfold clsP; omega) (by omega), e1 18 1 j (by unfold clsP; omega) (by omega)]; exact jl j q0 q1
theorem J_rg2 (h : J N aa bb) : (0 ≤ bb 13 186 3 ∧ bb 13 186 3 ≤ 307) ∧ (0 ≤ bb 11 0 4 ∧ bb 11 0 4 ≤ 8) ∧ aa 0 0 0 = bb 13 186 3 := by
  have h1 := h.1.1.1
  have h2 := h.2.1.2.1
  have h3 := h.2.1.2.2.1
  have h4 : cv aa 0 0 0 = bb 13 186 3 := h.1.2.1.1.2.2.2.2.2.1
  have h5 : cv aa 0 0 0 = aa 0 0 0 := by unfold cv; rw [if_pos (by decide)]
  unfold I1 at h1
  omega
theorem rd_loop (hc : 0 ≤ cnt ∧ cnt ≤ 10) : ∀ (u : Nat) (i : Int) (aa bb : Mem), i + u = cnt → 0 ≤ i → J N aa bb → aa 5 0 4 = cnt → aa 13 185 = T → ∃ r a', wp true 137 15 [some (aR 10 (0)), some (aI (i))] [] aa 0 0 (fun o' s' => o' = .inl (some (aI (r))) ∧ s' = a') ∧ (∀ C r k, modP C r k → a' C r k = aa C r k) ∧ ∀ Y, (∀ C r k, modP C r k → Y C r k = bb C r k) → (∀ j, 0 ≤ j → j < 4 * cnt → Y 13 192 j = T j) → Y 11 0 15 = cnt → ∃ Y', wp true 241 28 [some (aR 11 (0)), some (aI (x)), some (aI (i))] [] Y 0 0 (fun o' s' => o' = .inl (some (aI (r))) ∧ s' = Y') ∧ J N a' Y' ∧ Y' 11 0 6 = Y 11 0 6 ∧ ∀ C r k, clsP C r k → Y' C r k = Y C r k := by
  intro u
  induction u with
  | zero =>
    intro i aa bb hi h0 h h4 hT
    refine ⟨i, aa, rr_e (by omega), fun C r k _ => rfl, fun Y hY hA hC => ⟨Y, rm_e (by omega), J_mod h hY, rfl, fun C r k _ => rfl⟩⟩
  | succ u ih =>
    intro i aa bb hi h0 h h4 hT
    obtain ⟨g3, g4, g0⟩ := J_rg2 h
    have tp : ∀ w, 0 ≤ w → w ≤ 3 → zo_tpart i w aa = T (4 * i + w) := fun w w0 w3 => by
      unfold zo_tpart rget
      rw [wr_eq (z := 4 * i) (by omega) (by omega), wr_eq (z := 4 * i + w) (by omega) (by omega), if_pos (show 0 ≤ 4 * i + w ∧ 4 * i + w < rowLen 185 from ⟨by omega, by have e : rowLen 185 = 44 := rfl; omega⟩), hT]
    have w0 : wr (4 * i) = 4 * i := wr_eq (by omega) (by omega)
    have w1 : wr (4 * i + 1) = 4 * i + 1 := wr_eq (by omega) (by omega)
    have w2 : wr (4 * i + 2) = 4 * i + 2 := wr_eq (by omega) (by omega)
    have w3 : wr (4 * i + 3) = 4 * i + 3 := wr_eq (by omega) (by omega)
    have p0 := tp 0 (by decide) (by decide)
    have p1 := tp 1 (by decide) (by decide)
    have p2 := tp 2 (by decide) (by decide)
    have p3 := tp 3 (by decide) (by decide)
    rw [show 4 * i + 0 = 4 * i by omega] at p0
    clear tp
    have tY : ∀ Y : Mem, (∀ j, 0 ≤ j → j < 4 * cnt → Y 13 192 j = T j) → Y 13 192 (wr (4 * i)) = T (4 * i) ∧ Y 13 192 (wr (wr (4 * i) + 1)) = T (4 * i + 1) ∧ Y 13 192 (wr (wr (4 * i) + 2)) = T (4 * i + 2) ∧ Y 13 192 (wr (wr (4 * i) + 3)) = T (4 * i + 3) := fun Y hA => by
      rw [w0, w1, w2, w3]
      exact ⟨hA _ (by omega) (by omega), hA _ (by omega) (by omega), hA _ (by omega) (by omega), hA _ (by omega) (by omega)⟩
    have hrow : ∀ Y : Mem, (∀ C r k, modP C r k → Y C r k = bb C r k) → Y 13 186 = bb 13 186 := fun Y hY => funext fun k => hY _ _ _ (by unfold modP; omega)
    generalize hb : T (4 * i) = b at *
    generalize hx : T (4 * i + 1) = x1 at *
    generalize hy : T (4 * i + 2) = y1 at *
    generalize hw : T (4 * i + 3) = z1 at *
    by_cases hB : 0 ≤ b ∧ b < bb 13 186 3
    · have hz0 : ¬ zo_has 0 (zo_tpart i 0 aa) aa = 0 := by rw [p0, x_has, g0]; exact fun z => z hB
      obtain ⟨e1, e2⟩ := enter_J (x := x1) (y := y1) (w := z1) h hB.1 hB.2
      have hWin : ∀ F : Mem, F 13 186 = bb 13 186 → WinOK b F := fun F hF => by
        have hh := fin_hyp (b := b) h.1.1 hB.1 hB.2
        unfold WinOK
        simp only [fo_row, mat_row]
        rw [hF]
        exact ⟨⟨hB.1, by omega⟩, hh⟩
      have hnn := reason_nn (b := b) (x := x1) (y := y1) (w := z1) (Y := bb)
      by_cases hz : zo_mreasonFor b x1 y1 z1 bb = 0
      · obtain ⟨c', g', f1, f2, f3, f4, f5⟩ := e2 hz
        have eu : zo_eur b x1 y1 z1 aa = 1 := by
          unfold zo_eur
          rw [e1, hz, if_pos rfl]
          repeat' split
          all_goals rfl
        have hJ := J_push h (Int.le_refl N) f1.1 f1.2.1 f1.2.2
        obtain ⟨k1, k2, -, -⟩ := keep_facts h.2.1 h.1
        obtain ⟨r, a', i1, i2, i3⟩ := ih (i + 1) (wcm (zm_keep 0 aa) c') (wg (zm_mchanges bb) g') (by omega) (by omega) hJ (by rw [wcm_o (by omega) (by omega), k1 _ _ _ (by omega) (by omega) (by omega)]; exact h4) (by rw [← hT]; exact funext fun k => by rw [wcm_o (by omega) (by omega), k2 _ (by decide)])
        refine ⟨r, a', rr_g (by omega) hz0 (by rw [p0, p1, p2, p3, eu]; decide) (wr_eq (by omega) (by omega)) _ (by rw [p0, p1, p2, p3, f2]; exact i1), fun C r k q => ?_, fun Y hY hA hC => ?_⟩
        · rw [i2 C r k q]
          unfold modP at q
          by_cases q1 : C = 11
          · rw [wcm_o (by omega) (by omega), k1 _ _ _ (by omega) (by omega) (by omega)]
          · obtain rfl : C = 13 := by omega
            rw [wcm_o (by omega) (by omega), k2 _ (by omega)]
        · have hr := hrow Y hY
          obtain ⟨y0, y1', y2, y3⟩ := tY Y hA
          have hp : 0 ≤ Y 11 0 4 ∧ Y 11 0 4 ≤ 8 := by rw [hY _ _ _ (by unfold modP; omega)]; exact g4
          obtain ⟨n1, n2⟩ := f3 Y hr hp
          obtain ⟨m1, -⟩ := mch_facts (b := Y) hp
          have ho : ∀ C r k, ¬ (C = 11 ∧ k = 4) → ¬ (C = 13 ∧ (r = 186 ∨ r = 188)) → wg (zm_mchanges Y) g' C r k = Y C r k := fun C r k q1 q2 => by
            rw [wg_o (by omega), m1 _ _ _ q1 (by omega)]
          obtain ⟨Y', j1, j2, j3, j4⟩ := i3 (wg (zm_mchanges Y) g') (fun C r k q => by
            by_cases q6 : C = 13 ∧ r = 186
            · rw [q6.1, q6.2, wg_r, wg_r]
            · rw [wg_o q6, wg_o q6]
              exact mch_cong hY g4 C r k q) (fun j j0 j1 => by rw [ho _ _ _ (by omega) (by omega)]; exact hA j j0 j1) (by rw [ho _ _ _ (by omega) (by omega)]; exact hC)
          refine ⟨Y', rm_g (q := 1) (by omega) (by omega) ?_ rfl ?_ ?_ _ ?_, j2, by rw [j3, ho _ _ _ (by omega) (by omega)], fun C r k q => by rw [j4 C r k q, ho _ _ _ (by unfold clsP at q; omega) (by unfold clsP at q; omega)]⟩
          · rw [y0]
            exact ev_misBout_y b Y (by rw [hr]; exact g3) (by rw [hr]; exact hB)
          · rw [y0, y1', y2, y3]
            exact ev_menters2 b x1 y1 z1 Y hp (hWin Y hr)
          · rw [y0, y1', y2, y3, n2]
            omega
          · rw [y0, y1', y2, y3, n1]
            exact j1
      · generalize hR : zo_mreasonFor b x1 y1 z1 bb = R at *
        have eu : zo_eur b x1 y1 z1 aa = 0 := by
          unfold zo_eur
          rw [e1, if_neg hz]
        have em : zm_eur b x1 y1 z1 aa = up aa 10 0 6 R := by
          unfold zm_eur
          rw [e1, if_neg hz]
        refine ⟨i, up aa 10 0 6 R, ?_, fun C r k q => up_o (by unfold modP at q; omega), fun Y hY hA hC => ?_⟩
        · have e := rr_r (i := i) (s := aa) (by omega) hz0 (by rw [p0, p1, p2, p3, eu])
          rw [p0, p1, p2, p3, em] at e
          exact e
        · have hr := hrow Y hY
          obtain ⟨y0, y1', y2, y3⟩ := tY Y hA
          have hp : 0 ≤ Y 11 0 4 ∧ Y 11 0 4 ≤ 8 := by rw [hY _ _ _ (by unfold modP; omega)]; exact g4
          have hRY : zo_mreasonFor b x1 y1 z1 Y = R := by
            have e5 := reason_eq (K := aa) (x := x1) (y := y1) (w := z1) (Y := Y) h.1 hr hB.1 hB.2
            rw [wcm_id] at e5
            omega
          have en : zm_menters b x1 y1 z1 Y = up Y 11 0 5 R := by
            unfold zm_menters
            rw [hRY, if_neg (by omega)]
          have eo : zo_menters b x1 y1 z1 Y = -1 := by
            unfold zo_menters
            rw [hRY, if_neg (by omega)]
          refine ⟨up Y 11 0 5 R, ?_, J_mod (J_ref (r := R) h) (fun C r k q => ?_), up_o (by omega), fun C r k q => up_o (by unfold clsP at q; omega)⟩
          · have e := rm_r (x := x) (i := i) (M := Y) (q := 1) (by omega) (by omega) (by rw [y0]; exact ev_misBout_y b Y (by rw [hr]; exact g3) (by rw [hr]; exact hB)) rfl (by rw [y0, y1', y2, y3]; exact ev_menters2 b x1 y1 z1 Y hp (hWin Y hr)) (by rw [y0, y1', y2, y3, eo]; decide)
            rw [y0, y1', y2, y3, en] at e
            exact e
          · unfold up
            by_cases q1 : C = 11 ∧ r = 0 ∧ k = 5
            · rw [if_pos q1, if_pos q1]
            · rw [if_neg q1, if_neg q1]
              exact hY C r k q
    · refine ⟨i, aa, rr_h (by omega) (by rw [p0, x_has, g0]; exact hB), fun C r k _ => rfl, fun Y hY hA hC => ⟨Y, ?_, J_mod h hY, rfl, fun C r k _ => rfl⟩⟩
      have hr := hrow Y hY
      obtain ⟨y0, -⟩ := tY Y hA
      exact rm_h (q := 0) (by omega) (by omega) (by rw [y0]; exact ev_misBout_n b Y (by rw [hr]; exact g3) (by rw [hr]; exact hB)) rfl
theorem ca_readResults (h : J N σ σ) : ∃ o a, Ev true 137 [aR 10 0] σ o a ∧ Cal N 241 [aR 11 0] o a (fun E => if E = 0 then 1 else 0) := by
  have t2 := h.2.2.2.1.2.1
  have t3 := h.2.2.2.1.2.2.1
  have t4 := h.2.2.2.1.2.2.2.1
  have it : ∀ K : Mem, K 11 0 10 = σ 11 0 10 → ∃ o s' v' t' A', Ev true 240 [aR 11 0] K (.inl (some (aI o))) (mm K s' v' t' A') ∧ ((o = 0 ∧ Rej K (scS σ) s') ∨ (o = 1 ∧ 0 < t' ∧ Bd K (scS σ) (up σ 5 0 2 (-1)) s' t' A' ∧ s' = K 11 0 10)) := fun K e => by
    have z := ev_isText (K := K) (s := K 11 0 11) (v := K 11 0 12) (t := K 11 0 15) (A := K 13 192) (by omega) (Bd_0 (σ := σ) (by omega))
    rw [← mm_id] at z
    exact z
  have hRj : ∀ (K : Mem) s, K 11 0 10 = σ 11 0 10 → K 13 191 = σ 13 191 → Rej K (scS σ) s → Rej σ (scS σ) s := fun K s e1 e2 z => by
    unfold Rej at z ⊢
    rw [e1, e2] at z
    exact z
  have hBd : ∀ (K : Mem) s t A, K 11 0 10 = σ 11 0 10 → K 13 191 = σ 13 191 → Bd K (scS σ) (up σ 5 0 2 (-1)) s t A → Bd σ (scS σ) (up σ 5 0 2 (-1)) s t A := fun K s t A e1 e2 z => by
    unfold Bd at z ⊢
    rw [e1, e2] at z
    exact z
  obtain ⟨o1, s1, v1, t1, A1, -, hc⟩ := it σ rfl
  rcases hc with ⟨-, hrj⟩ | ⟨-, ht0, hbd, hsn⟩
  · obtain ⟨a1, hsc, f2, f1, hfr⟩ := ev_scan_x (σ := σ) (K := σ) (by omega) t2.symm t4 hrj
    have p1 : 0 ≤ s1 := by obtain ⟨m, r, -⟩ := hrj; exact Rn_nn r
    have eK : a1 11 0 10 = σ 11 0 10 := hfr _ _ _ (by omega) (by omega) (by omega)
    have eF : a1 13 191 = σ 13 191 := funext fun k => hfr _ _ _ (by omega) (by omega) (by omega)
    obtain ⟨o2, s2, v2, t2', A2, hit, hc2⟩ := it a1 eK
    rcases hc2 with ⟨ho, hrj2⟩ | ⟨-, ht2, hbd2, hsn2⟩
    · have es : s1 = s2 := Rej_one hrj (hRj a1 s2 eK eF hrj2)
      have hm := rm_x hit ho
      have e11 : (up (mm a1 s2 v2 t2' A2) 11 0 10 0) 11 0 11 = s2 := by rw [up_o (by omega), mm_11]
      rw [e11] at hm
      refine ⟨_, _, rr_x hsc (by omega), _, _, hm, ?_, Or.inr ⟨_, rfl, up_s _ _ _ _ _, by decide⟩⟩
      refine J_txt (q := s2) h (fun C r k q q2 => ?_) ?_ ?_ (fun C r k q q2 => ?_) ?_ ?_
      · unfold clsP at q
        rw [up_o (by omega), up_o (by omega), up_o (by omega), mm_o (by omega) (by omega)]
        exact hfr _ _ _ q2 (by omega) (by omega)
      · rw [up_o (by omega), up_o (by omega), up_o (by omega), mm_o (by omega) (by omega)]
        exact f1
      · rw [up_o (by omega), up_o (by omega), up_o (by omega), mm_o (by omega) (by omega), f2]
        exact es
      · unfold modP at q
        rw [up_o (by omega), up_o (by omega), up_o (by omega), mm_o (by omega) (by omega)]
        exact hfr _ _ _ (by omega) (by omega) (by omega)
      · rw [up_o (by omega), up_o (by omega), up_s]
      · rw [up_o (by omega), up_s]
    · exact absurd (Rej_Bd hrj (hBd a1 _ _ _ eK eF hbd2) ht2 (by omega)) (fun z => z)
  · have hbd0 := hbd
    obtain ⟨T, hR, hT, hA, h6, -, hle⟩ := hbd
    rw [hsn] at hR
    obtain ⟨a1, hsc, f2, f1, f4, fT, hfr⟩ := ev_scan_n (σ := σ) (K := σ) (by omega) t2.symm t4 ht0 hR
    have hJ : J N a1 (up (up σ 11 0 10 0) 11 0 13 (-1)) := by
      refine J_txt (q := -1) h (fun C r k q q2 => ?_) f1 f2 (fun C r k q q2 => ?_) ?_ (up_s _ _ _ _ _)
      · unfold clsP at q
        exact hfr _ _ _ q2 (by omega) (by omega)
      · unfold modP at q
        rw [up_o (by omega), up_o (by omega)]
      · rw [up_o (by omega), up_s]
    obtain ⟨r, a', c1, c2, c3⟩ := rd_loop (cnt := t1) (T := T) (x := 1) (by omega) t1.toNat 0 a1 _ (by omega) (Int.le_refl 0) hJ f4 fT
    have hm' : ∀ C r k, modP C r k → a' C r k = σ C r k := fun C r k q => by
      rw [c2 C r k q]
      unfold modP at q
      exact hfr _ _ _ (by omega) (by omega) (by omega)
    have eK : a' 11 0 10 = σ 11 0 10 := hm' _ _ _ (by unfold modP; omega)
    have eF : a' 13 191 = σ 13 191 := funext fun k => hm' _ _ _ (by unfold modP; omega)
    obtain ⟨o2, s2, v2, t2', A2, hit, hc2⟩ := it a' eK
    rcases hc2 with ⟨-, hrj2⟩ | ⟨ho, ht2, hbd2, hsn2⟩
    · exact absurd (Rej_Bd (hRj a' s2 eK eF hrj2) hbd0 ht0 hsn) (fun z => z)
    · have hbd3 := hBd a' _ _ _ eK eF hbd2
      obtain ⟨T2, hR2, -, hA2, -, -, -⟩ := hbd3
      have es : s2 = σ 11 0 10 := by omega
      rw [es] at hR2
      have em : tm (up σ 5 0 2 (-1)) 0 0 t1 T = tm (up σ 5 0 2 (-1)) 0 0 t2' T2 := Rn_one hR hR2
      have et : t1 = t2' := by
        have z := congrArg (fun m : Mem => m 5 0 4) em
        simp only [tm_4] at z
        exact z
      have eT : T = T2 := by
        have z := congrArg (fun m : Mem => m 13 185) em
        simp only [tm_r] at z
        exact z
      rw [ho] at hit
      have q1 : ∀ C r k, modP C r k → (up (up (up (mm a' s2 v2 t2' A2) 11 0 10 0) 11 0 13 (-1)) 11 0 6 0) C r k = (up (up σ 11 0 10 0) 11 0 13 (-1)) C r k := fun C r k q => by
        have e := hm' C r k q
        unfold modP at q
        rw [up_o (by omega)]
        unfold up
        by_cases q1 : C = 11 ∧ r = 0 ∧ k = 13
        · rw [if_pos q1, if_pos q1]
        · rw [if_neg q1, if_neg q1]
          by_cases q2 : C = 11 ∧ r = 0 ∧ k = 10
          · rw [if_pos q2, if_pos q2]
          · rw [if_neg q2, if_neg q2, mm_o (by omega) (by omega)]
            exact e
      have q2 : ∀ j, 0 ≤ j → j < 4 * t1 → (up (up (up (mm a' s2 v2 t2' A2) 11 0 10 0) 11 0 13 (-1)) 11 0 6 0) 13 192 j = T j := fun j j0 j1 => by
        rw [up_o (by omega), up_o (by omega), up_o (by omega), mm_r, hA2 j j0 (by omega), eT]
      have q3 : (up (up (up (mm a' s2 v2 t2' A2) 11 0 10 0) 11 0 13 (-1)) 11 0 6 0) 11 0 15 = t1 := by
        rw [up_o (by omega), up_o (by omega), up_o (by omega), mm_15, et]
      obtain ⟨Y', j1, j2, j3, j4⟩ := c3 _ q1 q2 q3
      refine ⟨_, _, rr_s hsc f2 _ c1, _, _, rm_s hit rfl _ j1, J_cls j2 (fun C r k q => ?_), Or.inl ⟨_, rfl, by rw [j3, up_s], rfl⟩⟩
      rw [j4 C r k q]
      unfold clsP at q
      rw [up_o (by omega), up_o (by omega), up_o (by omega), mm_o (by omega) (by omega)]
end RdAll
