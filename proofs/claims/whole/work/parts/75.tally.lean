/-! The class's tally is what the model counts. -/
section Tally
variable {N b s f : Int} {σ K Y : Mem} {c : Cs} {g : Gs}
/-- the four rows of the standing, written as a function -/
def wst (K : Mem) (h : Int → Int → Int) : Mem := fun C r k => if C = 13 ∧ 180 ≤ r ∧ r < 184 ∧ 0 ≤ k ∧ k < 24 then h (r - 180) k else K C r k
def hs (h : Int → Int → Int) (w i v : Int) : Int → Int → Int := fun w' i' => if w' = w ∧ i' = i then v else h w' i'
theorem hs_s {h : Int → Int → Int} {w i v w' i' : Int} (e : w' = w ∧ i' = i) : hs h w i v w' i' = v := if_pos e
theorem hs_o {h : Int → Int → Int} {w i v w' i' : Int} (e : ¬ (w' = w ∧ i' = i)) : hs h w i v w' i' = h w' i' := if_neg e
theorem rl_st {r : Int} (hr : 180 ≤ r ∧ r < 184) : rowLen r = 24 := by
  unfold rowLen
  rw [if_neg (by omega), if_pos (by omega)]
theorem wst_set {h : Int → Int → Int} {r i v : Int} (hr : 180 ≤ r ∧ r < 184) (hi : 0 ≤ i ∧ i < 24) : rset (wst K h) r i v = wst K (hs h (r - 180) i v) := by
  unfold rset
  rw [if_pos (by rw [rl_st hr]; exact hi)]
  funext C r' k
  unfold up wst hs
  by_cases h1 : C = 13 ∧ r' = r ∧ k = i
  · rw [if_pos h1, if_pos (by omega), if_pos (by omega)]
  · rw [if_neg h1]
    by_cases h2 : C = 13 ∧ 180 ≤ r' ∧ r' < 184 ∧ 0 ≤ k ∧ k < 24
    · rw [if_pos h2, if_pos h2, if_neg (by omega)]
    · rw [if_neg h2, if_neg h2]
theorem wst_get {h : Int → Int → Int} {r i : Int} (hr : 180 ≤ r ∧ r < 184) (hi : 0 ≤ i ∧ i < 24) : rget (wst K h) r i = h (r - 180) i := by
  rw [rget_e (by rw [rl_st hr]; exact hi)]
  unfold wst
  rw [if_pos (by omega)]
theorem wst_o {h : Int → Int → Int} {C : Nat} {r k : Int} (hr : ¬ (C = 13 ∧ 180 ≤ r ∧ r < 184)) : wst K h C r k = K C r k := by
  unfold wst
  rw [if_neg (by omega)]
theorem wst_row {h : Int → Int → Int} {r i : Int} (hr : ¬ (180 ≤ r ∧ r < 184)) : rget (wst K h) r i = rget K r i := by
  unfold rget
  rw [wst_o (by omega)]
theorem wst_fe {h : Int → Int → Int} : zo_fencerOn 0 b s (wst K h) = zo_fencerOn 0 b s K := by
  unfold zo_fencerOn
  rw [z0, wst_row (by omega)]
theorem wst_to {h : Int → Int → Int} : zo_touchesOn 0 b s (wst K h) = zo_touchesOn 0 b s K := by
  unfold zo_touchesOn
  rw [z0, wst_row (by omega)]
theorem wst_congr {h h' : Int → Int → Int} (e : ∀ w k, 0 ≤ w → w < 4 → 0 ≤ k → k < 24 → h w k = h' w k) : wst K h = wst K h' := by
  funext C r k
  unfold wst
  by_cases q : C = 13 ∧ 180 ≤ r ∧ r < 184 ∧ 0 ≤ k ∧ k < 24
  · rw [if_pos q, if_pos q]; exact e _ _ (by omega) (by omega) q.2.2.2.1 q.2.2.2.2
  · rw [if_neg q, if_neg q]
theorem cside {h : Int → Int → Int} (hf : 0 ≤ zo_fencerOn 0 b s K ∧ zo_fencerOn 0 b s K < 24) : zm_countSide 0 b s (wst K h) = wst K (if ¬ rget K 12 b = zo_fencerOn 0 b s K then hs (hs (hs h 1 (zo_fencerOn 0 b s K) (wr (h 1 (zo_fencerOn 0 b s K) + 1))) 2 (zo_fencerOn 0 b s K) (wr (h 2 (zo_fencerOn 0 b s K) + zo_touchesOn 0 b s K))) 3 (zo_fencerOn 0 b s K) (wr (h 3 (zo_fencerOn 0 b s K) + zo_touchesOn 0 b (wr (1 - s)) K)) else hs (hs (hs (hs h 1 (zo_fencerOn 0 b s K) (wr (h 1 (zo_fencerOn 0 b s K) + 1))) 2 (zo_fencerOn 0 b s K) (wr (h 2 (zo_fencerOn 0 b s K) + zo_touchesOn 0 b s K))) 3 (zo_fencerOn 0 b s K) (wr (h 3 (zo_fencerOn 0 b s K) + zo_touchesOn 0 b (wr (1 - s)) K))) 0 (zo_fencerOn 0 b s K) (wr (h 0 (zo_fencerOn 0 b s K) + 1))) := by
  unfold zm_countSide
  generalize hF : zo_fencerOn 0 b s K = F at hf
  simp only [wst_fe, hF]
  rw [wst_get (r := 181) (by decide) hf, wst_set (r := 181) (by decide) hf]
  simp only [wst_to]
  rw [wst_get (r := 182) (by decide) hf, wst_set (r := 182) (by decide) hf]
  simp only [wst_to]
  rw [wst_get (r := 183) (by decide) hf, wst_set (r := 183) (by decide) hf]
  rw [z0, wst_row (by omega), wst_get (r := 180) (by decide) hf, wst_set (r := 180) (by decide) hf]
  rw [hs_o (w' := 182 - 180) (by omega), hs_o (w' := 183 - 180) (by omega), hs_o (w' := 183 - 180) (by omega), hs_o (w' := 180 - 180) (by omega), hs_o (w' := 180 - 180) (by omega), hs_o (w' := 180 - 180) (by omega)]
  by_cases q : ¬ rget K 12 b = F
  · rw [if_pos q, if_pos q]; rfl
  · rw [if_neg q, if_neg q]; rfl
end Tally
