/-! The class's meet 0 and the model's numbers, written as functions. -/
def wcm (σ : Mem) (c : Cs) : Mem := fun C r k => if (C = 0 ∨ C = 2 ∨ C = 3 ∨ C = 4 ∨ C = 6 ∨ C = 9) ∧ r = 0 then c C k else if C = 13 ∧ 0 ≤ r ∧ r < 18 then c (10 + r.toNat) k else σ C r k
theorem wcm_id (σ : Mem) : wcm σ (cv σ 0) = σ := by
  funext C r k
  unfold wcm cv
  by_cases h : (C = 0 ∨ C = 2 ∨ C = 3 ∨ C = 4 ∨ C = 6 ∨ C = 9) ∧ r = 0
  · rw [if_pos h, if_pos (by omega), h.2]
  · rw [if_neg h]
    by_cases h2 : C = 13 ∧ 0 ≤ r ∧ r < 18
    · rw [if_pos h2, if_neg (by omega), h2.1, show (18 * 0 + (((10 + r.toNat : Nat) : Int) - 10)) = r by omega]
    · rw [if_neg h2]
theorem wcm_o {σ : Mem} {c : Cs} {C : Nat} {r k : Int} (h : ¬ ((C = 0 ∨ C = 2 ∨ C = 3 ∨ C = 4 ∨ C = 6 ∨ C = 9) ∧ r = 0)) (h2 : ¬ (C = 13 ∧ 0 ≤ r ∧ r < 18)) : wcm σ c C r k = σ C r k := by
  unfold wcm
  rw [if_neg h, if_neg h2]
theorem wcm_row {σ : Mem} {c : Cs} {r k : Int} (h : 0 ≤ r ∧ r < 18) : wcm σ c 13 r k = c (10 + r.toNat) k := by
  unfold wcm
  rw [if_neg (by omega), if_pos ⟨rfl, h.1, h.2⟩]
theorem up_wcm_k {σ : Mem} {c : Cs} {C : Nat} {k v : Int} (h : C = 0 ∨ C = 2 ∨ C = 3 ∨ C = 4 ∨ C = 6 ∨ C = 9) : up (wcm σ c) C 0 k v = wcm σ (cset c C k v) := by
  funext C' r i
  unfold up wcm cset
  by_cases e : (C' = 0 ∨ C' = 2 ∨ C' = 3 ∨ C' = 4 ∨ C' = 6 ∨ C' = 9) ∧ r = 0
  · rw [if_pos e, if_pos e]
    by_cases e2 : C' = C ∧ i = k
    · rw [if_pos ⟨e2.1, e.2, e2.2⟩, if_pos e2]
    · rw [if_neg (fun q => e2 ⟨q.1, q.2.2⟩), if_neg e2]
  · rw [if_neg e, if_neg e]
    have h3 : ¬ (C' = C ∧ r = 0 ∧ i = k) := fun q => e ⟨by rw [q.1]; exact h, q.2.1⟩
    rw [if_neg h3]
    by_cases h2 : C' = 13 ∧ 0 ≤ r ∧ r < 18
    · rw [if_pos h2, if_pos h2, if_neg (by omega)]
    · rw [if_neg h2, if_neg h2]
theorem up_wcm_r {σ : Mem} {c : Cs} {r k v : Int} (h : 0 ≤ r ∧ r < 18) : up (wcm σ c) 13 r k v = wcm σ (cset c (10 + r.toNat) k v) := by
  funext C' r' i
  unfold up wcm cset
  by_cases e : (C' = 0 ∨ C' = 2 ∨ C' = 3 ∨ C' = 4 ∨ C' = 6 ∨ C' = 9) ∧ r' = 0
  · rw [if_pos e, if_pos e, if_neg (by omega), if_neg (by omega)]
  · rw [if_neg e, if_neg e]
    by_cases h2 : C' = 13 ∧ 0 ≤ r' ∧ r' < 18
    · rw [if_pos h2, if_pos h2]
      by_cases h3 : r' = r ∧ i = k
      · rw [if_pos ⟨h2.1, h3.1, h3.2⟩, if_pos ⟨by rw [h3.1], h3.2⟩]
      · rw [if_neg (fun q => h3 q.2), if_neg (fun q => h3 ⟨by omega, q.2⟩)]
    · rw [if_neg h2, if_neg h2, if_neg (fun q => h2 ⟨q.1, by omega, by omega⟩)]
theorem ws_0 {σ : Mem} {c : Cs} {i v : Int} (h : 0 ≤ i ∧ i < 2) : rset (wcm σ c) 0 i v = wcm σ (cset c 10 i v) := by
  unfold rset
  rw [if_pos (show 0 ≤ i ∧ i < rowLen 0 from h)]
  exact up_wcm_r (by decide)
theorem wr_0g {σ : Mem} {c : Cs} {i : Int} (h : 0 ≤ i ∧ i < 2) : rget (wcm σ c) 0 i = c 10 i := by
  unfold rget
  rw [if_pos (show 0 ≤ i ∧ i < rowLen 0 from h)]
  exact wcm_row (by decide)
theorem ws_1 {σ : Mem} {c : Cs} {i v : Int} (h : 0 ≤ i ∧ i < 24) : rset (wcm σ c) 1 i v = wcm σ (cset c 11 i v) := by
  unfold rset
  rw [if_pos (show 0 ≤ i ∧ i < rowLen 1 from h)]
  exact up_wcm_r (by decide)
theorem wr_1g {σ : Mem} {c : Cs} {i : Int} (h : 0 ≤ i ∧ i < 24) : rget (wcm σ c) 1 i = c 11 i := by
  unfold rget
  rw [if_pos (show 0 ≤ i ∧ i < rowLen 1 from h)]
  exact wcm_row (by decide)
theorem ws_2 {σ : Mem} {c : Cs} {i v : Int} (h : 0 ≤ i ∧ i < 24) : rset (wcm σ c) 2 i v = wcm σ (cset c 12 i v) := by
  unfold rset
  rw [if_pos (show 0 ≤ i ∧ i < rowLen 2 from h)]
  exact up_wcm_r (by decide)
theorem wr_2g {σ : Mem} {c : Cs} {i : Int} (h : 0 ≤ i ∧ i < 24) : rget (wcm σ c) 2 i = c 12 i := by
  unfold rget
  rw [if_pos (show 0 ≤ i ∧ i < rowLen 2 from h)]
  exact wcm_row (by decide)
theorem ws_3 {σ : Mem} {c : Cs} {i v : Int} (h : 0 ≤ i ∧ i < 24) : rset (wcm σ c) 3 i v = wcm σ (cset c 13 i v) := by
  unfold rset
  rw [if_pos (show 0 ≤ i ∧ i < rowLen 3 from h)]
  exact up_wcm_r (by decide)
theorem wr_3g {σ : Mem} {c : Cs} {i : Int} (h : 0 ≤ i ∧ i < 24) : rget (wcm σ c) 3 i = c 13 i := by
  unfold rget
  rw [if_pos (show 0 ≤ i ∧ i < rowLen 3 from h)]
  exact wcm_row (by decide)
theorem ws_4 {σ : Mem} {c : Cs} {i v : Int} (h : 0 ≤ i ∧ i < 24) : rset (wcm σ c) 4 i v = wcm σ (cset c 14 i v) := by
  unfold rset
  rw [if_pos (show 0 ≤ i ∧ i < rowLen 4 from h)]
  exact up_wcm_r (by decide)
theorem wr_4g {σ : Mem} {c : Cs} {i : Int} (h : 0 ≤ i ∧ i < 24) : rget (wcm σ c) 4 i = c 14 i := by
  unfold rget
  rw [if_pos (show 0 ≤ i ∧ i < rowLen 4 from h)]
  exact wcm_row (by decide)
theorem ws_5 {σ : Mem} {c : Cs} {i v : Int} (h : 0 ≤ i ∧ i < 24) : rset (wcm σ c) 5 i v = wcm σ (cset c 15 i v) := by
  unfold rset
  rw [if_pos (show 0 ≤ i ∧ i < rowLen 5 from h)]
  exact up_wcm_r (by decide)
theorem wr_5g {σ : Mem} {c : Cs} {i : Int} (h : 0 ≤ i ∧ i < 24) : rget (wcm σ c) 5 i = c 15 i := by
  unfold rget
  rw [if_pos (show 0 ≤ i ∧ i < rowLen 5 from h)]
  exact wcm_row (by decide)
theorem ws_6 {σ : Mem} {c : Cs} {i v : Int} (h : 0 ≤ i ∧ i < 72) : rset (wcm σ c) 6 i v = wcm σ (cset c 16 i v) := by
  unfold rset
  rw [if_pos (show 0 ≤ i ∧ i < rowLen 6 from h)]
  exact up_wcm_r (by decide)
theorem wr_6g {σ : Mem} {c : Cs} {i : Int} (h : 0 ≤ i ∧ i < 72) : rget (wcm σ c) 6 i = c 16 i := by
  unfold rget
  rw [if_pos (show 0 ≤ i ∧ i < rowLen 6 from h)]
  exact wcm_row (by decide)
theorem ws_7 {σ : Mem} {c : Cs} {i v : Int} (h : 0 ≤ i ∧ i < 6) : rset (wcm σ c) 7 i v = wcm σ (cset c 17 i v) := by
  unfold rset
  rw [if_pos (show 0 ≤ i ∧ i < rowLen 7 from h)]
  exact up_wcm_r (by decide)
theorem wr_7g {σ : Mem} {c : Cs} {i : Int} (h : 0 ≤ i ∧ i < 6) : rget (wcm σ c) 7 i = c 17 i := by
  unfold rget
  rw [if_pos (show 0 ≤ i ∧ i < rowLen 7 from h)]
  exact wcm_row (by decide)
theorem ws_8 {σ : Mem} {c : Cs} {i v : Int} (h : 0 ≤ i ∧ i < 144) : rset (wcm σ c) 8 i v = wcm σ (cset c 18 i v) := by
  unfold rset
  rw [if_pos (show 0 ≤ i ∧ i < rowLen 8 from h)]
  exact up_wcm_r (by decide)
theorem wr_8g {σ : Mem} {c : Cs} {i : Int} (h : 0 ≤ i ∧ i < 144) : rget (wcm σ c) 8 i = c 18 i := by
  unfold rget
  rw [if_pos (show 0 ≤ i ∧ i < rowLen 8 from h)]
  exact wcm_row (by decide)
theorem ws_9 {σ : Mem} {c : Cs} {i v : Int} (h : 0 ≤ i ∧ i < 614) : rset (wcm σ c) 9 i v = wcm σ (cset c 19 i v) := by
  unfold rset
  rw [if_pos (show 0 ≤ i ∧ i < rowLen 9 from h)]
  exact up_wcm_r (by decide)
theorem wr_9g {σ : Mem} {c : Cs} {i : Int} (h : 0 ≤ i ∧ i < 614) : rget (wcm σ c) 9 i = c 19 i := by
  unfold rget
  rw [if_pos (show 0 ≤ i ∧ i < rowLen 9 from h)]
  exact wcm_row (by decide)
theorem ws_10 {σ : Mem} {c : Cs} {i v : Int} (h : 0 ≤ i ∧ i < 614) : rset (wcm σ c) 10 i v = wcm σ (cset c 20 i v) := by
  unfold rset
  rw [if_pos (show 0 ≤ i ∧ i < rowLen 10 from h)]
  exact up_wcm_r (by decide)
theorem wr_10g {σ : Mem} {c : Cs} {i : Int} (h : 0 ≤ i ∧ i < 614) : rget (wcm σ c) 10 i = c 20 i := by
  unfold rget
  rw [if_pos (show 0 ≤ i ∧ i < rowLen 10 from h)]
  exact wcm_row (by decide)
theorem ws_11 {σ : Mem} {c : Cs} {i v : Int} (h : 0 ≤ i ∧ i < 307) : rset (wcm σ c) 11 i v = wcm σ (cset c 21 i v) := by
  unfold rset
  rw [if_pos (show 0 ≤ i ∧ i < rowLen 11 from h)]
  exact up_wcm_r (by decide)
theorem wr_11g {σ : Mem} {c : Cs} {i : Int} (h : 0 ≤ i ∧ i < 307) : rget (wcm σ c) 11 i = c 21 i := by
  unfold rget
  rw [if_pos (show 0 ≤ i ∧ i < rowLen 11 from h)]
  exact wcm_row (by decide)
theorem ws_12 {σ : Mem} {c : Cs} {i v : Int} (h : 0 ≤ i ∧ i < 307) : rset (wcm σ c) 12 i v = wcm σ (cset c 22 i v) := by
  unfold rset
  rw [if_pos (show 0 ≤ i ∧ i < rowLen 12 from h)]
  exact up_wcm_r (by decide)
theorem wr_12g {σ : Mem} {c : Cs} {i : Int} (h : 0 ≤ i ∧ i < 307) : rget (wcm σ c) 12 i = c 22 i := by
  unfold rget
  rw [if_pos (show 0 ≤ i ∧ i < rowLen 12 from h)]
  exact wcm_row (by decide)
theorem ws_13 {σ : Mem} {c : Cs} {i v : Int} (h : 0 ≤ i ∧ i < 307) : rset (wcm σ c) 13 i v = wcm σ (cset c 23 i v) := by
  unfold rset
  rw [if_pos (show 0 ≤ i ∧ i < rowLen 13 from h)]
  exact up_wcm_r (by decide)
theorem wr_13g {σ : Mem} {c : Cs} {i : Int} (h : 0 ≤ i ∧ i < 307) : rget (wcm σ c) 13 i = c 23 i := by
  unfold rget
  rw [if_pos (show 0 ≤ i ∧ i < rowLen 13 from h)]
  exact wcm_row (by decide)
theorem ws_14 {σ : Mem} {c : Cs} {i v : Int} (h : 0 ≤ i ∧ i < 307) : rset (wcm σ c) 14 i v = wcm σ (cset c 24 i v) := by
  unfold rset
  rw [if_pos (show 0 ≤ i ∧ i < rowLen 14 from h)]
  exact up_wcm_r (by decide)
theorem wr_14g {σ : Mem} {c : Cs} {i : Int} (h : 0 ≤ i ∧ i < 307) : rget (wcm σ c) 14 i = c 24 i := by
  unfold rget
  rw [if_pos (show 0 ≤ i ∧ i < rowLen 14 from h)]
  exact wcm_row (by decide)
theorem ws_15 {σ : Mem} {c : Cs} {i v : Int} (h : 0 ≤ i ∧ i < 24) : rset (wcm σ c) 15 i v = wcm σ (cset c 25 i v) := by
  unfold rset
  rw [if_pos (show 0 ≤ i ∧ i < rowLen 15 from h)]
  exact up_wcm_r (by decide)
theorem wr_15g {σ : Mem} {c : Cs} {i : Int} (h : 0 ≤ i ∧ i < 24) : rget (wcm σ c) 15 i = c 25 i := by
  unfold rget
  rw [if_pos (show 0 ≤ i ∧ i < rowLen 15 from h)]
  exact wcm_row (by decide)
theorem ws_16 {σ : Mem} {c : Cs} {i v : Int} (h : 0 ≤ i ∧ i < 24) : rset (wcm σ c) 16 i v = wcm σ (cset c 26 i v) := by
  unfold rset
  rw [if_pos (show 0 ≤ i ∧ i < rowLen 16 from h)]
  exact up_wcm_r (by decide)
theorem wr_16g {σ : Mem} {c : Cs} {i : Int} (h : 0 ≤ i ∧ i < 24) : rget (wcm σ c) 16 i = c 26 i := by
  unfold rget
  rw [if_pos (show 0 ≤ i ∧ i < rowLen 16 from h)]
  exact wcm_row (by decide)
theorem ws_17 {σ : Mem} {c : Cs} {i v : Int} (h : 0 ≤ i ∧ i < 6) : rset (wcm σ c) 17 i v = wcm σ (cset c 27 i v) := by
  unfold rset
  rw [if_pos (show 0 ≤ i ∧ i < rowLen 17 from h)]
  exact up_wcm_r (by decide)
theorem wr_17g {σ : Mem} {c : Cs} {i : Int} (h : 0 ≤ i ∧ i < 6) : rget (wcm σ c) 17 i = c 27 i := by
  unfold rget
  rw [if_pos (show 0 ≤ i ∧ i < rowLen 17 from h)]
  exact wcm_row (by decide)
theorem wu_0 {σ : Mem} {c : Cs} {k v : Int} : up (wcm σ c) 0 0 k v = wcm σ (cset c 0 k v) := up_wcm_k (by decide)
theorem wk_0 {σ : Mem} {c : Cs} {k : Int} : wcm σ c 0 0 k = c 0 k := if_pos ⟨by decide, rfl⟩
theorem wu_2 {σ : Mem} {c : Cs} {k v : Int} : up (wcm σ c) 2 0 k v = wcm σ (cset c 2 k v) := up_wcm_k (by decide)
theorem wk_2 {σ : Mem} {c : Cs} {k : Int} : wcm σ c 2 0 k = c 2 k := if_pos ⟨by decide, rfl⟩
theorem wu_3 {σ : Mem} {c : Cs} {k v : Int} : up (wcm σ c) 3 0 k v = wcm σ (cset c 3 k v) := up_wcm_k (by decide)
theorem wk_3 {σ : Mem} {c : Cs} {k : Int} : wcm σ c 3 0 k = c 3 k := if_pos ⟨by decide, rfl⟩
theorem wu_4 {σ : Mem} {c : Cs} {k v : Int} : up (wcm σ c) 4 0 k v = wcm σ (cset c 4 k v) := up_wcm_k (by decide)
theorem wk_4 {σ : Mem} {c : Cs} {k : Int} : wcm σ c 4 0 k = c 4 k := if_pos ⟨by decide, rfl⟩
theorem wu_6 {σ : Mem} {c : Cs} {k v : Int} : up (wcm σ c) 6 0 k v = wcm σ (cset c 6 k v) := up_wcm_k (by decide)
theorem wk_6 {σ : Mem} {c : Cs} {k : Int} : wcm σ c 6 0 k = c 6 k := if_pos ⟨by decide, rfl⟩
theorem wu_9 {σ : Mem} {c : Cs} {k v : Int} : up (wcm σ c) 9 0 k v = wcm σ (cset c 9 k v) := up_wcm_k (by decide)
theorem wk_9 {σ : Mem} {c : Cs} {k : Int} : wcm σ c 9 0 k = c 9 k := if_pos ⟨by decide, rfl⟩
theorem cv_wcm (σ : Mem) (c : Cs) (h : ∀ C k, C = 1 ∨ C = 5 ∨ C = 7 ∨ C = 8 ∨ 28 ≤ C → c C k = cv σ 0 C k) : cv (wcm σ c) 0 = c := by
  funext C k
  unfold cv
  by_cases h1 : C < 10
  · rw [if_pos h1]
    by_cases h2 : C = 0 ∨ C = 2 ∨ C = 3 ∨ C = 4 ∨ C = 6 ∨ C = 9
    · exact if_pos ⟨h2, rfl⟩
    · rw [wcm_o (fun q => h2 q.1) (by omega), h C k (by omega)]
      unfold cv
      rw [if_pos h1]
  · rw [if_neg h1]
    by_cases h3 : C < 28
    · rw [wcm_row (by omega)]
      congr 1
      omega
    · rw [wcm_o (by omega) (by omega), h C k (by omega)]
      unfold cv
      rw [if_neg h1]
section Rd
variable {σ : Mem} {c : Cs} {b s f : Int}
theorem z0 {j : Int} : 18 * (0 : Int) + j = j := by omega
theorem z00 : 18 * (0 : Int) = 0 := rfl
theorem cz_fe (hb : 0 ≤ b ∧ b < 307) (hs : 0 ≤ s ∧ s < 2) : zo_fencerOn 0 b s (wcm σ c) = c 19 (2 * b + s) := by
  unfold zo_fencerOn
  simp (disch := omega) only [z0, wr_eq, wr_9g]
theorem cz_to (hb : 0 ≤ b ∧ b < 307) (hs : 0 ≤ s ∧ s < 2) : zo_touchesOn 0 b s (wcm σ c) = c 20 (2 * b + s) := by
  unfold zo_touchesOn
  simp (disch := omega) only [z0, wr_eq, wr_10g]
theorem cz_op : zo_isOfPool 0 b (wcm σ c) = if c 0 1 ≤ b then 0 else 1 := by
  unfold zo_isOfPool
  rw [wk_0]
theorem cz_rd (hb : 0 ≤ b ∧ b < 307) (h : 0 ≤ c 23 b ∧ c 23 b < 1000) : zo_round 0 b (wcm σ c) = c 23 b - 100 := by
  unfold zo_round
  rw [z0, wr_13g (by omega), wr_eq (by omega) (by omega)]
theorem cz_br {r i : Int} (h0 : 0 ≤ c 0 1 ∧ c 0 1 ≤ 1000) (h1 : 0 ≤ c 9 0 ∧ c 9 0 ≤ 32) (h2 : -100 ≤ r ∧ r ≤ 100) (h3 : -100 ≤ i ∧ i ≤ 1000) : zo_boutOfRound 0 r i (wcm σ c) = c 0 1 + c 9 0 - r + i := by
  unfold zo_boutOfRound
  simp (disch := omega) only [wk_0, wk_9, wr_eq]
theorem cz_tg : zo_target 0 b (wcm σ c) = if c 0 1 ≤ b then 15 else 5 := by
  unfold zo_target
  rw [cz_op]
  by_cases h : c 0 1 ≤ b
  · rw [if_pos h, if_pos h, if_pos rfl]
  · rw [if_neg h, if_neg h, if_neg (by decide)]
theorem cz_cl {st : Int} (hb : 0 ≤ b ∧ b < 307) (hs : 0 ≤ s ∧ s < 2) : zm_close 0 b s st (wcm σ c) = wcm σ (cset (cset c 21 b st) 22 b (c 19 (2 * b + s))) := by
  unfold zm_close
  rw [z0, z0, ws_11 hb, cz_fe hb hs, ws_12 hb, cset_o (by omega)]
end Rd

