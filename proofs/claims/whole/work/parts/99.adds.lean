/-! Bouts come, one after the other: both sides in closed form. -/
section Adds
variable {B t i w : Int} {L R H : Int → Int} {K X : Mem} {c : Cs} {g : Gs}
def cAdds (c : Cs) (B t : Int) (L R H : Int → Int) : Cs := fun C k => if C = 19 ∧ 2 * B ≤ k ∧ k < 2 * (B + t) then (if k % 2 = 0 then L (k / 2 - B) else R (k / 2 - B)) else if C = 20 ∧ 2 * B ≤ k ∧ k < 2 * (B + t) then 0 else if C = 21 ∧ B ≤ k ∧ k < B + t then 0 else if (C = 22 ∨ C = 24) ∧ B ≤ k ∧ k < B + t then -1 else if C = 23 ∧ B ≤ k ∧ k < B + t then H (k - B) else if C = 0 ∧ k = 0 then B + t else c C k
def gAdds (g : Gs) (B t : Int) (L R H : Int → Int) : Gs := fun k => if 250 + 10 * B ≤ k ∧ k < 250 + 10 * (B + t) then (if (k - 250) % 10 = 0 then L ((k - 250) / 10 - B) else if (k - 250) % 10 = 1 then R ((k - 250) / 10 - B) else if (k - 250) % 10 = 5 ∨ (k - 250) % 10 = 6 then -1 else if (k - 250) % 10 = 7 then H ((k - 250) / 10 - B) else 0) else if k = 3 then B + t else g k
theorem cAdds_s (ht : 0 ≤ t) : cset (cset (cset (cset (cset (cset (cset (cset (cset (cAdds c B t L R H) 19 (2 * (B + t)) (L t)) 19 (2 * (B + t) + 1) (R t)) 23 (B + t) (H t)) 0 0 (B + t + 1)) 20 (2 * (B + t)) 0) 20 (2 * (B + t) + 1) 0) 22 (B + t) (-1)) 24 (B + t) (-1)) 21 (B + t) 0 = cAdds c B (t + 1) L R H := by
  funext C k
  by_cases h19 : C = 19
  · subst h19
    unfold cset cAdds
    rw [if_neg (by omega), if_neg (by omega), if_neg (by omega), if_neg (by omega), if_neg (by omega), if_neg (by omega), if_neg (by omega)]
    by_cases q1 : k = 2 * (B + t) + 1
    · rw [if_pos ⟨rfl, q1⟩, if_pos (by omega), if_neg (by omega)]
      exact congrArg R (by omega)
    · rw [if_neg (fun z => q1 z.2)]
      by_cases q0 : k = 2 * (B + t)
      · rw [if_pos ⟨rfl, q0⟩, if_pos (by omega), if_pos (by omega)]
        exact congrArg L (by omega)
      · rw [if_neg (fun z => q0 z.2)]
        by_cases q : 2 * B ≤ k ∧ k < 2 * (B + t)
        · rw [if_pos ⟨rfl, q⟩, if_pos (show (19 : Nat) = 19 ∧ 2 * B ≤ k ∧ k < 2 * (B + (t + 1)) by omega)]
        · rw [if_neg (fun z => q z.2), if_neg (by omega), if_neg (by omega), if_neg (by omega), if_neg (by omega), if_neg (by omega), if_neg (by omega), if_neg (by omega), if_neg (by omega), if_neg (by omega), if_neg (by omega), if_neg (by omega)]
  · by_cases h20 : C = 20
    · subst h20
      unfold cset cAdds
      rw [if_neg (by omega), if_neg (by omega), if_neg (by omega)]
      by_cases q : 2 * B ≤ k ∧ k < 2 * (B + (t + 1))
      · by_cases q1 : k = 2 * (B + t) + 1
        · rw [if_pos ⟨rfl, q1⟩, if_neg (by omega), if_pos ⟨rfl, q⟩]
        · rw [if_neg (fun z => q1 z.2)]
          by_cases q0 : k = 2 * (B + t)
          · rw [if_pos ⟨rfl, q0⟩, if_neg (by omega), if_pos ⟨rfl, q⟩]
          · rw [if_neg (fun z => q0 z.2), if_neg (by omega), if_neg (by omega), if_neg (by omega), if_neg (by omega), if_neg (by omega), if_pos (by omega), if_neg (by omega), if_pos ⟨rfl, q⟩]
      · rw [if_neg (by omega), if_neg (by omega), if_neg (by omega), if_neg (by omega), if_neg (by omega), if_neg (by omega), if_neg (by omega), if_neg (by omega), if_neg (by omega), if_neg (by omega), if_neg (by omega), if_neg (by omega), if_neg (by omega), if_neg (by omega), if_neg (by omega), if_neg (by omega), if_neg (by omega), if_neg (by omega)]
    · by_cases h0 : C = 0
      · subst h0
        unfold cset cAdds
        by_cases q : k = 0
        · subst q
          rw [if_neg (by omega), if_neg (by omega), if_neg (by omega), if_neg (by omega), if_neg (by omega), if_pos ⟨rfl, rfl⟩, if_neg (by omega), if_neg (by omega), if_neg (by omega), if_neg (by omega), if_neg (by omega), if_pos ⟨rfl, rfl⟩]
          omega
        · rw [if_neg (by omega), if_neg (by omega), if_neg (by omega), if_neg (by omega), if_neg (by omega), if_neg (by omega), if_neg (by omega), if_neg (by omega), if_neg (by omega), if_neg (by omega), if_neg (by omega), if_neg (by omega), if_neg (by omega), if_neg (by omega), if_neg (by omega), if_neg (by omega), if_neg (by omega), if_neg (by omega), if_neg (by omega), if_neg (by omega), if_neg (by omega)]
      · by_cases q : (C = 21 ∨ C = 22 ∨ C = 23 ∨ C = 24) ∧ k = B + t
        · obtain ⟨q1, q2⟩ := q
          subst q2
          unfold cset cAdds
          rcases q1 with rfl | rfl | rfl | rfl
          · rw [if_pos ⟨rfl, rfl⟩, if_neg (by omega), if_neg (by omega), if_pos (by omega)]
          · rw [if_neg (by omega), if_neg (by omega), if_pos ⟨rfl, rfl⟩, if_neg (by omega), if_neg (by omega), if_neg (by omega), if_pos (by omega)]
          · rw [if_neg (by omega), if_neg (by omega), if_neg (by omega), if_neg (by omega), if_neg (by omega), if_neg (by omega), if_pos ⟨rfl, rfl⟩, if_neg (by omega), if_neg (by omega), if_neg (by omega), if_neg (by omega), if_pos (by omega), show B + t - B = t by omega]
          · rw [if_neg (by omega), if_pos ⟨rfl, rfl⟩, if_neg (by omega), if_neg (by omega), if_neg (by omega), if_pos (by omega)]
        · unfold cset
          rw [if_neg (by omega), if_neg (by omega), if_neg (by omega), if_neg (by omega), if_neg (by omega), if_neg (by omega), if_neg (by omega), if_neg (by omega), if_neg (by omega)]
          unfold cAdds
          rw [if_neg (by omega), if_neg (show ¬ (C = 20 ∧ 2 * B ≤ k ∧ k < 2 * (B + t)) by omega)]
          rw [if_neg (show ¬ (C = 19 ∧ 2 * B ≤ k ∧ k < 2 * (B + (t + 1))) by omega), if_neg (show ¬ (C = 20 ∧ 2 * B ≤ k ∧ k < 2 * (B + (t + 1))) by omega)]
          by_cases q1 : C = 21 ∧ B ≤ k ∧ k < B + t
          · rw [if_pos q1, if_pos (by omega)]
          · rw [if_neg q1, if_neg (show ¬ (C = 21 ∧ B ≤ k ∧ k < B + (t + 1)) by omega)]
            by_cases q2 : (C = 22 ∨ C = 24) ∧ B ≤ k ∧ k < B + t
            · rw [if_pos q2, if_pos (by omega)]
            · rw [if_neg q2, if_neg (show ¬ ((C = 22 ∨ C = 24) ∧ B ≤ k ∧ k < B + (t + 1)) by omega)]
              by_cases q3 : C = 23 ∧ B ≤ k ∧ k < B + t
              · rw [if_pos q3, if_pos (by omega)]
              · rw [if_neg q3, if_neg (show ¬ (C = 23 ∧ B ≤ k ∧ k < B + (t + 1)) by omega), if_neg (by omega), if_neg (by omega)]
theorem cAdds_n : cAdds c B t L R H 0 0 = B + t := by
  unfold cAdds
  rw [if_neg (by omega), if_neg (by omega), if_neg (by omega), if_neg (by omega), if_neg (by omega), if_pos ⟨rfl, rfl⟩]
theorem badd_w (hb : 0 ≤ B) (ht : 0 ≤ t) (h : B + t < 307) : zm_badd 0 (H t) (L t) (R t) (wcm K (cAdds c B t L R H)) = wcm K (cAdds c B (t + 1) L R H) := by
  unfold zm_badd zm_wipe
  rw [wk_0, cAdds_n, wr_eq (z := 2 * (B + t)) (by omega) (by omega), wr_eq (z := 2 * (B + t) + 0) (by omega) (by omega), wr_eq (z := 2 * (B + t) + 1) (by omega) (by omega), z0, z0, z0, z0, z0, z0, ws_9 (by omega), ws_9 (by omega), ws_13 (by omega), wk_0]
  have e : cset (cset (cset (cAdds c B t L R H) 19 (2 * (B + t) + 0) (L t)) 19 (2 * (B + t) + 1) (R t)) 23 (B + t) (H t) 0 0 = B + t := by
    rw [cset_o (by omega), cset_o (by omega), cset_o (by omega), cAdds_n]
  rw [e, wr_eq (z := B + t + 1) (by omega) (by omega), wu_0, ws_10 (by omega), ws_10 (by omega), ws_12 (by omega), ws_14 (by omega), ws_11 (by omega), show 2 * (B + t) + 0 = 2 * (B + t) by omega, cAdds_s ht]
/-- a bout's ten cells -/
def gBl (g : Gs) (b : Int) (f : Int → Int) : Gs := fun k => if 250 + 10 * b ≤ k ∧ k < 250 + 10 * b + 10 then f (k - 250 - 10 * b) else g k
theorem gBl_id {b : Int} : gBl g b (ga g b) = g := by
  funext k
  unfold gBl ga
  by_cases q : 250 + 10 * b ≤ k ∧ k < 250 + 10 * b + 10
  · rw [if_pos q]
    exact congrArg g (by omega)
  · rw [if_neg q]
theorem gBl_s {b v : Int} {f : Int → Int} (hw : 0 ≤ w ∧ w < 10) : gs (gBl g b f) (250 + 10 * b + w) v = gBl g b (fun j => if j = w then v else f j) := by
  funext k
  unfold gs gBl
  by_cases e : k = 250 + 10 * b + w
  · rw [if_pos e, if_pos (by omega)]; exact (if_pos (by omega)).symm
  · rw [if_neg e]
    by_cases q : 250 + 10 * b ≤ k ∧ k < 250 + 10 * b + 10
    · rw [if_pos q, if_pos q]; exact (if_neg (by omega)).symm
    · rw [if_neg q, if_neg q]
theorem gAdds_b (ht : 0 ≤ t) (hb : 0 ≤ B) {F : Int → Int} (h0 : F 0 = L t) (h1 : F 1 = R t) (h2 : F 2 = 0) (h3 : F 3 = 0) (h4 : F 4 = 0) (h5 : F 5 = -1) (h6 : F 6 = -1) (h7 : F 7 = H t) (h8 : F 8 = 0) (h9 : F 9 = 0) : gs (gBl (gAdds g B t L R H) (B + t) F) 3 (B + t + 1) = gAdds g B (t + 1) L R H := by
  funext k
  by_cases k3 : k = 3
  · rw [gs_s k3, k3]
    unfold gAdds
    rw [if_neg (by omega), if_pos rfl]
    omega
  · rw [gs_o k3]
    unfold gBl
    by_cases q : 250 + 10 * (B + t) ≤ k ∧ k < 250 + 10 * (B + t) + 10
    · rw [if_pos q]
      generalize hj : k - 250 - 10 * (B + t) = j
      have hk : k = 250 + 10 * (B + t) + j := by omega
      have e1 : (k - 250) % 10 = j := by omega
      have e2 : (k - 250) / 10 - B = t := by omega
      have eR : gAdds g B (t + 1) L R H k = if j = 0 then L t else if j = 1 then R t else if j = 5 ∨ j = 6 then -1 else if j = 7 then H t else 0 := by
        unfold gAdds
        rw [if_pos (by omega), e1, e2]
      rw [eR]
      have j10 : j = 0 ∨ j = 1 ∨ j = 2 ∨ j = 3 ∨ j = 4 ∨ j = 5 ∨ j = 6 ∨ j = 7 ∨ j = 8 ∨ j = 9 := by omega
      clear eR e1 e2 q hk hj
      rcases j10 with rfl | rfl | rfl | rfl | rfl | rfl | rfl | rfl | rfl | rfl
      · exact h0
      · exact h1
      · exact h2
      · exact h3
      · exact h4
      · exact h5
      · exact h6
      · exact h7
      · exact h8
      · exact h9
    · rw [if_neg q]
      unfold gAdds
      by_cases q2 : 250 + 10 * B ≤ k ∧ k < 250 + 10 * (B + t)
      · rw [if_pos q2, if_pos (show 250 + 10 * B ≤ k ∧ k < 250 + 10 * (B + (t + 1)) by omega)]
      · rw [if_neg q2, if_neg k3, if_neg (show ¬ (250 + 10 * B ≤ k ∧ k < 250 + 10 * (B + (t + 1))) by omega), if_neg k3]
theorem gAdds_n (hb : 0 ≤ B) : gAdds g B t L R H 3 = B + t := by
  unfold gAdds
  rw [if_neg (by omega), if_pos rfl]
theorem gAdds_lo {k : Int} (h : k < 250 + 10 * B) (h3 : ¬ k = 3) : gAdds g B t L R H k = g k := by
  unfold gAdds
  rw [if_neg (by omega), if_neg h3]
theorem gAdds_hi {k : Int} (hb : 0 ≤ B) (ht : 0 ≤ t) (h : 250 + 10 * (B + t) ≤ k) : gAdds g B t L R H k = g k := by
  unfold gAdds
  rw [if_neg (by omega), if_neg (by omega)]
theorem gAdds_at (i0 : 0 ≤ i) (i1 : i < t) (hw : 0 ≤ w ∧ w < 10) : ga (gAdds g B t L R H) (B + i) w = if w = 0 then L i else if w = 1 then R i else if w = 5 ∨ w = 6 then -1 else if w = 7 then H i else 0 := by
  unfold ga gAdds
  rw [if_pos (by omega), show (250 + 10 * (B + i) + w - 250) % 10 = w by omega, show (250 + 10 * (B + i) + w - 250) / 10 - B = i by omega]
theorem bout_w (hb : 0 ≤ B) (ht : 0 ≤ t) (h : B + t < 307) : zm_mboutComes (L t) (R t) (H t) (wg X (gAdds g B t L R H)) = wg X (gAdds g B (t + 1) L R H) := by
  unfold zm_mboutComes
  simp only [wg_r, gAdds_n hb, mput_wg]
  rw [show gAdds g B t L R H = gBl (gAdds g B t L R H) (B + t) (ga (gAdds g B t L R H) (B + t)) from gBl_id.symm]
  rw [gBl_s (by decide), gBl_s (by decide), gBl_s (by decide), gBl_s (by decide), gBl_s (by decide), gBl_s (by decide), gBl_s (by decide), gBl_s (by decide), gBl_s (by decide), gBl_s (by decide), gBl_s (by decide), gBl_s (by decide), gBl_s (by decide), gBl_s (by decide), gBl_s (by decide)]
  have e3 : ∀ f, gBl (gAdds g B t L R H) (B + t) f 3 = B + t := fun f => by
    unfold gBl
    rw [if_neg (by omega), gAdds_n hb]
  rw [e3, wr_eq (by omega) (by omega), up_wg, gAdds_b ht hb rfl rfl rfl rfl rfl rfl rfl rfl rfl rfl]
theorem cAdds_0 (h : c 0 0 = B) : cAdds c B 0 L R H = c := by
  funext C k
  unfold cAdds
  rw [if_neg (by omega), if_neg (by omega), if_neg (by omega), if_neg (by omega), if_neg (by omega)]
  by_cases q : C = 0 ∧ k = 0
  · rw [if_pos q, q.1, q.2, h]; omega
  · rw [if_neg q]
theorem gAdds_0 (h : g 3 = B) : gAdds g B 0 L R H = g := by
  funext k
  unfold gAdds
  rw [if_neg (by omega)]
  by_cases q : k = 3
  · rw [if_pos q, q, h]; omega
  · rw [if_neg q]
theorem cAdds_row {C : Nat} {k : Int} (h0 : ¬ (C = 0 ∧ k = 0)) (h : C < 19 ∨ 24 < C) : cAdds c B t L R H C k = c C k := by
  unfold cAdds
  rw [if_neg (by omega), if_neg (by omega), if_neg (by omega), if_neg (by omega), if_neg (by omega), if_neg (by omega)]
theorem cAdds_lo {C : Nat} {k : Int} (h0 : ¬ (C = 0 ∧ k = 0)) (h : k < B ∨ ((C = 19 ∨ C = 20) ∧ k < 2 * B)) (hb : 0 ≤ B) : cAdds c B t L R H C k = c C k := by
  unfold cAdds
  rw [if_neg (by omega), if_neg (by omega), if_neg (by omega), if_neg (by omega), if_neg (by omega), if_neg (by omega)]
theorem cAdds_at (hb : 0 ≤ B) (i0 : 0 ≤ i) (i1 : i < t) : cAdds c B t L R H 19 (2 * (B + i)) = L i ∧ cAdds c B t L R H 19 (2 * (B + i) + 1) = R i ∧ cAdds c B t L R H 20 (2 * (B + i)) = 0 ∧ cAdds c B t L R H 20 (2 * (B + i) + 1) = 0 ∧ cAdds c B t L R H 21 (B + i) = 0 ∧ cAdds c B t L R H 22 (B + i) = -1 ∧ cAdds c B t L R H 23 (B + i) = H i ∧ cAdds c B t L R H 24 (B + i) = -1 := by
  unfold cAdds
  refine ⟨?_, ?_, ?_, ?_, ?_, ?_, ?_, ?_⟩
  · rw [if_pos (by omega), if_pos (by omega)]; exact congrArg L (by omega)
  · rw [if_pos (by omega), if_neg (by omega)]; exact congrArg R (by omega)
  · rw [if_neg (by omega), if_pos (by omega)]
  · rw [if_neg (by omega), if_pos (by omega)]
  · rw [if_neg (by omega), if_neg (by omega), if_pos (by omega)]
  · rw [if_neg (by omega), if_neg (by omega), if_neg (by omega), if_pos (by omega)]
  · rw [if_neg (by omega), if_neg (by omega), if_neg (by omega), if_neg (by omega), if_pos (by omega), show B + i - B = i by omega]
  · rw [if_neg (by omega), if_neg (by omega), if_neg (by omega), if_pos (by omega)]
end Adds
