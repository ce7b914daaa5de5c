/-! The table is filled: the class. -/
def fE (p : Int) : Int × Int × Int → Int × Int × Int ⊕ Int := fun ⟨e, a, u⟩ => if u < 1 then .inr e else if iandI p u = 0 then .inl (e, wr (a * 2), wr (u.tdiv 2)) else .inl (wr (wr (a + 1) - e), wr (a * 2), wr (u.tdiv 2))
def faC (m p : Nat) : Bool := decide (rs (fE (p : Int)) 7 (1, 2, wr (((2 : Int) ^ m).tdiv 2)) = some (sdN m (p : Int)))
theorem faC_all : ((List.range 6).all fun m => (List.range (2 ^ m)).all (faC m)) = true := by decide +kernel
theorem faC_of {m p : Nat} (hm : m < 6) (hp : p < 2 ^ m) : rs (fE (p : Int)) 7 (1, 2, wr (((2 : Int) ^ m).tdiv 2)) = some (sdN m (p : Int)) := by
  have e := List.all_eq_true.mp faC_all m (List.mem_range.mpr hm)
  have e2 := List.all_eq_true.mp e p (List.mem_range.mpr hp)
  exact of_decide_eq_true e2
def seat (o : Int → Int) (n x : Int) : Int := if x < 1 then -1 else if n < x then -1 else o (x - 1)
def szO (n : Int) : Int := if n ≤ 2 then 2 else if n ≤ 4 then 4 else if n ≤ 8 then 8 else if n ≤ 16 then 16 else 32
def lgO (n : Int) : Nat := if n ≤ 2 then 1 else if n ≤ 4 then 2 else if n ≤ 8 then 3 else if n ≤ 16 then 4 else 5
def cTf (c : Cs) (n : Int) (o : Int → Int) : Cs := fun C k => if C = 26 ∧ 0 ≤ k ∧ k < 24 then 1 else if C = 25 ∧ 0 ≤ k ∧ k < n then o k else if C = 9 ∧ k = 0 then szO n else if C = 9 ∧ k = 1 then n else c C k
def cBye (c : Cs) (B z j : Int) (L R : Int → Int) : Cs := fun C k => if C = 21 ∧ B ≤ k ∧ k < B + j ∧ R (k - B) = -1 then 4 else if C = 22 ∧ B ≤ k ∧ k < B + j ∧ R (k - B) = -1 then L (k - B) else if C = 19 ∧ 2 * B + z ≤ k ∧ k < 2 * B + z + j ∧ R (k - (2 * B + z)) = -1 then L (k - (2 * B + z)) else c C k
section FillT
variable {n p B z t j i r : Int} {L R H FA : Int → Int} {K X S : Mem} {c : Cs} {o : Int → Int} {m : Nat}
theorem szO_f (h : 2 ≤ n ∧ n ≤ 24) : szO n = 2 ^ lgO n ∧ (szO n = 2 ∨ szO n = 4 ∨ szO n = 8 ∨ szO n = 16 ∨ szO n = 32) ∧ (1 ≤ lgO n ∧ lgO n < 6) ∧ n ≤ szO n ∧ (szO n = 2 ∨ szO n < 2 * n) := by
  unfold szO lgO
  repeat' split
  all_goals refine ⟨by decide, by omega, by omega, by omega, by omega⟩
theorem rs_fE {σ : Mem} : ∀ (fu : Nat) (s : Int × Int × Int) (v : Int), rs (fE p) fu s = some v → rs (fr_fencerAt 0 p σ) fu s = some (.inl (some (aI (zo_fencerWith 0 v σ)))) := by
  intro fu
  induction fu with
  | zero => intro s v h; cases h
  | succ fu ih =>
    intro s v h
    obtain ⟨e, a, u⟩ := s
    rw [rs_s] at h ⊢
    by_cases q : u < 1
    · have e1 : fE p (e, a, u) = .inr e := by simp only [fE]; rw [if_pos q]
      have e2 : fr_fencerAt 0 p σ (e, a, u) = .inr (.inl (some (aI (zo_fencerWith 0 e σ)))) := by simp only [fr_fencerAt]; rw [if_pos q]
      rw [e1] at h
      rw [e2]
      cases h
      rfl
    · by_cases q2 : iandI p u = 0
      · have e1 : fE p (e, a, u) = .inl (e, wr (a * 2), wr (u.tdiv 2)) := by simp only [fE]; rw [if_neg q, if_pos q2]
        have e2 : fr_fencerAt 0 p σ (e, a, u) = .inl (e, wr (a * 2), wr (u.tdiv 2)) := by simp only [fr_fencerAt]; rw [if_neg q, if_pos q2]
        rw [e1] at h
        rw [e2]
        exact ih _ _ h
      · have e1 : fE p (e, a, u) = .inl (wr (wr (a + 1) - e), wr (a * 2), wr (u.tdiv 2)) := by simp only [fE]; rw [if_neg q, if_neg q2]
        have e2 : fr_fencerAt 0 p σ (e, a, u) = .inl (wr (wr (a + 1) - e), wr (a * 2), wr (u.tdiv 2)) := by simp only [fr_fencerAt]; rw [if_neg q, if_neg q2]
        rw [e1] at h
        rw [e2]
        exact ih _ _ h
theorem ev_fencerAt (p : Int) (m : Nat) (σ : Mem) (hm : m < 6) (hz : σ 9 0 0 = 2 ^ m) (hp : 0 ≤ p ∧ p < 2 ^ m) : Ev true 99 [aR 9 (0), aI (p)] σ (.inl (some (aI (zo_fencerWith 0 (sdN m p) σ)))) σ := by
  have h := faC_of (m := m) (p := p.toNat) hm (by
    have e : ((2 ^ m : Nat) : Int) = (2 : Int) ^ m := by rw [Int.natCast_pow]; rfl
    omega)
  rw [show ((p.toNat : Nat) : Int) = p by omega] at h
  have h2 := rs_fE (σ := σ) 7 _ _ h
  show wp true 99 0 [some (aR 9 (0)), some (aI (p)), none, none, none] [] σ 0 0 _
  refine wp_seg 9 (P := some ((2 : Int) ≠ 0)) (ls' := [some (aR 9 (0)), some (aI (p)), some (aI (1)), some (aI (2)), some (aI (wr ((σ 9 (0) 0).tdiv (2))))]) (st' := []) (σ' := σ) rq_99 rfl ?_ (i' := 9) rfl ?_
  · show (2 : Int) ≠ 0
    decide
  rw [hz]
  exact lr_fencerAt 0 p σ _ 7 1 2 _ h2
theorem fw_w (h1 : c 9 1 = n) (hn : n ≤ 24) (ho : ∀ k, 0 ≤ k → k < n → c 25 k = o k) {x : Int} : zo_fencerWith 0 x (wcm K c) = seat o n x := by
  unfold zo_fencerWith seat
  by_cases q : x < 1
  · rw [if_pos q, if_pos q]
  · rw [if_neg q, if_neg q, wk_9, h1]
    by_cases q2 : n < x
    · rw [if_pos q2, if_pos q2]
    · rw [if_neg q2, if_neg q2, z0, wr_eq (by omega) (by omega), wr_15g (by omega)]
      exact ho _ (by omega) (by omega)
theorem tfill_w (hn : 2 ≤ n ∧ n ≤ 24) : zm_tfill 0 184 n (wcm K c) = wcm K (cTf c n (K 13 184)) := by
  have ez : zo_leastSizeFor n (up (wcm K c) 9 0 1 n) = szO n := by
    unfold zo_leastSizeFor szO
    repeat' split
    all_goals omega
  unfold zm_tfill
  rw [ez, wu_9, wu_9, z0, z0]
  have e1 : rcpy (wcm K (cset (cset c 9 1 n) 9 0 (szO n))) 15 184 n = wcm K (fun C k => if C = 25 ∧ 0 ≤ k ∧ k < n then K 13 184 k else (cset (cset c 9 1 n) 9 0 (szO n)) C k) := by
    have er : rcl 15 184 n = n := by
      unfold rcl rmin
      rw [show rowLen 15 = 24 from rfl, show rowLen 184 = 24 from rfl]
      repeat' split
      all_goals omega
    unfold rcpy
    rw [er, if_pos (by omega)]
    funext C r k
    unfold cpM
    by_cases q : C = 13 ∧ r = 15 ∧ 0 ≤ k ∧ k < 0 + n
    · rw [if_pos q, q.1, q.2.1, wcm_o (by omega) (by omega), wcm_row (by decide)]
      show _ = if 25 = 25 ∧ 0 ≤ k ∧ k < n then _ else _
      rw [if_pos (by omega)]
      exact congrArg (K 13 184) (by omega)
    · rw [if_neg q]
      by_cases qw : (C = 0 ∨ C = 2 ∨ C = 3 ∨ C = 4 ∨ C = 6 ∨ C = 9) ∧ r = 0
      · unfold wcm
        rw [if_pos qw, if_pos qw]
        exact (if_neg (by omega)).symm
      · by_cases qr : C = 13 ∧ 0 ≤ r ∧ r < 18
        · unfold wcm
          rw [if_neg qw, if_neg qw, if_pos qr, if_pos qr]
          exact (if_neg (by omega)).symm
        · rw [wcm_o qw qr, wcm_o qw qr]
  rw [e1]
  funext C r k
  unfold rfill rfillTo
  rw [show rowLen 16 = 24 from rfl]
  by_cases q : C = 13 ∧ r = 16 ∧ 0 ≤ k ∧ k < 24
  · rw [if_pos q, q.1, q.2.1, wcm_row (by decide)]
    show _ = cTf c n (K 13 184) 26 k
    unfold cTf
    rw [if_pos (by omega)]
  · rw [if_neg q]
    have key : ∀ C k, ¬ (C = 26 ∧ 0 ≤ k ∧ k < 24) → (if C = 25 ∧ 0 ≤ k ∧ k < n then K 13 184 k else (cset (cset c 9 1 n) 9 0 (szO n)) C k) = cTf c n (K 13 184) C k := fun C k q2 => by
      unfold cTf cset
      rw [if_neg q2]
    by_cases qw : (C = 0 ∨ C = 2 ∨ C = 3 ∨ C = 4 ∨ C = 6 ∨ C = 9) ∧ r = 0
    · unfold wcm
      rw [if_pos qw, if_pos qw]
      exact key C k (by omega)
    · by_cases qr : C = 13 ∧ 0 ≤ r ∧ r < 18
      · unfold wcm
        rw [if_neg qw, if_neg qw, if_pos qr, if_pos qr]
        exact key _ k (by omega)
      · rw [wcm_o qw qr, wcm_o qw qr]
theorem bye_w (hz : z = 2 ∨ z = 4 ∨ z = 8 ∨ z = 16 ∨ z = 32) (hB : 0 ≤ B ∧ B ≤ 276) (h01 : c 0 1 = B) (h90 : c 9 0 = z) (hR : ∀ i, 0 ≤ i → i < z / 2 → c 19 (2 * (B + i) + 1) = R i ∧ c 19 (2 * (B + i)) = L i ∧ c 23 (B + i) = 100 + z) (h2 : ∀ i, 0 ≤ i → i < z / 2 → R i = -1 → z ≠ 2) (j0 : 0 ≤ j) (j1 : j < z / 2) : zm_passBye 0 (B + j) (wcm K (cBye c B z j L R)) = wcm K (cBye c B z (j + 1) L R) := by
  obtain ⟨hr1, hr2, hr3⟩ := hR j j0 j1
  have b3 : 0 ≤ B + j ∧ B + j < 307 := by omega
  have k19 : ∀ k, k < 2 * B + z → cBye c B z j L R 19 k = c 19 k := fun k hk => by
    unfold cBye
    rw [if_neg (by omega), if_neg (by omega), if_neg (by omega)]
  have ko : ∀ C k, C ≠ 21 → C ≠ 22 → C ≠ 19 → cBye c B z j L R C k = c C k := fun C k q1 q2 q3 => by
    unfold cBye
    rw [if_neg (by omega), if_neg (by omega), if_neg (by omega)]
  unfold zm_passBye
  rw [cz_fe b3 (by decide), k19 _ (by omega), hr1]
  by_cases q : R j = -1
  · have z2 := h2 j j0 j1 q
    rw [if_neg (by omega), cz_cl b3 (by decide), k19 _ (by omega), show 2 * (B + j) + 0 = 2 * (B + j) by omega, hr2]
    generalize hC : cset (cset (cBye c B z j L R) 21 (B + j) 4) 22 (B + j) (L j) = c4
    have k23 : c4 23 (B + j) = 100 + z := by rw [← hC, cset_o (by omega), cset_o (by omega), ko _ _ (by decide) (by decide) (by decide)]; exact hr3
    have k01 : c4 0 1 = B := by rw [← hC, cset_o (by omega), cset_o (by omega), ko _ _ (by decide) (by decide) (by decide)]; exact h01
    have k90 : c4 9 0 = z := by rw [← hC, cset_o (by omega), cset_o (by omega), ko _ _ (by decide) (by decide) (by decide)]; exact h90
    have k22 : c4 22 (B + j) = L j := by rw [← hC, cset_s ⟨rfl, rfl⟩]
    have hbr : ∀ r i, (-100 ≤ r ∧ r ≤ 100) → (-100 ≤ i ∧ i ≤ 1000) → zo_boutOfRound 0 r i (wcm K c4) = B + z - r + i := fun r i q1 q2 => by
      rw [cz_br (by omega) (by omega) q1 q2, k01, k90]
    unfold zm_advance
    rw [cz_rd b3 (by omega), k23, if_pos (by omega)]
    rw [hbr (100 + z - 100) 0 (by omega) (by omega), wr_eq (z := B + j - _) (by omega) (by omega), td2 (x := 100 + z - 100) (by omega), td2 (x := B + j - _) (by omega), tm2 (by omega), wr_eq (z := (100 + z - 100) / 2) (by omega) (by omega), wr_eq (z := (B + j - _) / 2) (by omega) (by omega), hbr ((100 + z - 100) / 2) _ (by omega) (by omega)]
    have e1 : 2 * (B + z - (100 + z - 100) / 2 + (B + j - (B + z - (100 + z - 100) + 0)) / 2) + (B + j - (B + z - (100 + z - 100) + 0)) % 2 = 2 * B + z + j := by omega
    rw [wr_eq (z := 2 * _) (by omega) (by omega), wr_eq (by omega) (by omega), z0, z0, wr_12g b3, k22, ws_9 (by omega), e1, ← hC]
    congr 1
    funext C k
    by_cases q1 : C = 19 ∧ k = 2 * B + z + j
    · rw [cset_s q1, q1.1, q1.2]
      unfold cBye
      rw [if_neg (by omega), if_neg (by omega), if_pos (show 19 = 19 ∧ 2 * B + z ≤ 2 * B + z + j ∧ 2 * B + z + j < 2 * B + z + (j + 1) ∧ R (2 * B + z + j - (2 * B + z)) = -1 from ⟨rfl, by omega, by omega, by rw [show 2 * B + z + j - (2 * B + z) = j by omega]; exact q⟩), show 2 * B + z + j - (2 * B + z) = j by omega]
    · rw [cset_o q1]
      by_cases q2 : C = 22 ∧ k = B + j
      · rw [cset_s q2, q2.1, q2.2]
        unfold cBye
        rw [if_neg (by omega), if_pos (show 22 = 22 ∧ B ≤ B + j ∧ B + j < B + (j + 1) ∧ R (B + j - B) = -1 from ⟨rfl, by omega, by omega, by rw [show B + j - B = j by omega]; exact q⟩), show B + j - B = j by omega]
      · rw [cset_o q2]
        by_cases q3 : C = 21 ∧ k = B + j
        · rw [cset_s q3, q3.1, q3.2]
          unfold cBye
          rw [if_pos (show 21 = 21 ∧ B ≤ B + j ∧ B + j < B + (j + 1) ∧ R (B + j - B) = -1 from ⟨rfl, by omega, by omega, by rw [show B + j - B = j by omega]; exact q⟩)]
        · rw [cset_o q3]
          unfold cBye
          by_cases u1 : C = 21 ∧ B ≤ k ∧ k < B + j ∧ R (k - B) = -1
          · rw [if_pos u1, if_pos (show C = 21 ∧ B ≤ k ∧ k < B + (j + 1) ∧ R (k - B) = -1 from ⟨u1.1, u1.2.1, by omega, u1.2.2.2⟩)]
          · rw [if_neg u1, if_neg (show ¬ (C = 21 ∧ B ≤ k ∧ k < B + (j + 1) ∧ R (k - B) = -1) from fun w => u1 ⟨w.1, w.2.1, by omega, w.2.2.2⟩)]
            by_cases u2 : C = 22 ∧ B ≤ k ∧ k < B + j ∧ R (k - B) = -1
            · rw [if_pos u2, if_pos (show C = 22 ∧ B ≤ k ∧ k < B + (j + 1) ∧ R (k - B) = -1 from ⟨u2.1, u2.2.1, by omega, u2.2.2.2⟩)]
            · rw [if_neg u2, if_neg (show ¬ (C = 22 ∧ B ≤ k ∧ k < B + (j + 1) ∧ R (k - B) = -1) from fun w => u2 ⟨w.1, w.2.1, by omega, w.2.2.2⟩)]
              by_cases u3 : C = 19 ∧ 2 * B + z ≤ k ∧ k < 2 * B + z + j ∧ R (k - (2 * B + z)) = -1
              · rw [if_pos u3, if_pos (show C = 19 ∧ 2 * B + z ≤ k ∧ k < 2 * B + z + (j + 1) ∧ R (k - (2 * B + z)) = -1 from ⟨u3.1, u3.2.1, by omega, u3.2.2.2⟩)]
              · rw [if_neg u3, if_neg (show ¬ (C = 19 ∧ 2 * B + z ≤ k ∧ k < 2 * B + z + (j + 1) ∧ R (k - (2 * B + z)) = -1) from fun w => u3 ⟨w.1, w.2.1, by omega, w.2.2.2⟩)]
  · rw [if_pos q]
    congr 1
    funext C k
    unfold cBye
    by_cases u1 : C = 21 ∧ B ≤ k ∧ k < B + j ∧ R (k - B) = -1
    · rw [if_pos u1, if_pos (show C = 21 ∧ B ≤ k ∧ k < B + (j + 1) ∧ R (k - B) = -1 from ⟨u1.1, u1.2.1, by omega, u1.2.2.2⟩)]
    · rw [if_neg u1, if_neg (show ¬ (C = 21 ∧ B ≤ k ∧ k < B + (j + 1) ∧ R (k - B) = -1) from fun w => by
        by_cases e : k = B + j
        · apply q; have := w.2.2.2; rw [e, show B + j - B = j by omega] at this; exact this
        · exact u1 ⟨w.1, w.2.1, by omega, w.2.2.2⟩)]
      by_cases u2 : C = 22 ∧ B ≤ k ∧ k < B + j ∧ R (k - B) = -1
      · rw [if_pos u2, if_pos (show C = 22 ∧ B ≤ k ∧ k < B + (j + 1) ∧ R (k - B) = -1 from ⟨u2.1, u2.2.1, by omega, u2.2.2.2⟩)]
      · rw [if_neg u2, if_neg (show ¬ (C = 22 ∧ B ≤ k ∧ k < B + (j + 1) ∧ R (k - B) = -1) from fun w => by
          by_cases e : k = B + j
          · apply q; have := w.2.2.2; rw [e, show B + j - B = j by omega] at this; exact this
          · exact u2 ⟨w.1, w.2.1, by omega, w.2.2.2⟩)]
        by_cases u3 : C = 19 ∧ 2 * B + z ≤ k ∧ k < 2 * B + z + j ∧ R (k - (2 * B + z)) = -1
        · rw [if_pos u3, if_pos (show C = 19 ∧ 2 * B + z ≤ k ∧ k < 2 * B + z + (j + 1) ∧ R (k - (2 * B + z)) = -1 from ⟨u3.1, u3.2.1, by omega, u3.2.2.2⟩)]
        · rw [if_neg u3, if_neg (show ¬ (C = 19 ∧ 2 * B + z ≤ k ∧ k < 2 * B + z + (j + 1) ∧ R (k - (2 * B + z)) = -1) from fun w => by
            by_cases e : k = 2 * B + z + j
            · apply q; have := w.2.2.2; rw [e, show 2 * B + z + j - (2 * B + z) = j by omega] at this; exact this
            · exact u3 ⟨w.1, w.2.1, by omega, w.2.2.2⟩)]
end FillT
