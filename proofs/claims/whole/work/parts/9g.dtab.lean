/-! The table is drawn: both sides belong together. -/
section DTab
variable {N n B t j i w b f k : Int} {C : Nat} {K X S M σ : Mem} {c : Cs} {g : Gs} {o : Int → Int} {m : Nat}
/-- a bout of the new table -/
def nbt (o : Int → Int) (n i w : Int) : Int := if i < szO n / 2 ∧ w = 4 ∧ tR o n i = -1 then 4 else if i < szO n / 2 ∧ w = 5 ∧ tR o n i = -1 then 0 else if szO n / 2 ≤ i ∧ w < 2 ∧ 2 * (i - szO n / 2) + w < szO n / 2 ∧ tR o n (2 * (i - szO n / 2) + w) = -1 then tL o n (2 * (i - szO n / 2) + w) else if w = 0 then tL o n i else if w = 1 then tR o n i else if w = 5 ∨ w = 6 then -1 else if w = 7 then tH n i else 0
theorem gTab_at (hn : 2 ≤ n ∧ n ≤ 24) (hB : 0 ≤ B) (i0 : 0 ≤ i) (i1 : i < szO n - 1) (w0 : 0 ≤ w) (w1 : w < 10) : ga (gTab g B n o) (B + i) w = nbt o n i w := by
  obtain ⟨f1, f2, f3, f4, f5⟩ := szO_f hn
  unfold gTab nbt
  rw [gBye_at f2 (by omega) i0 ⟨w0, w1⟩, gAdds_at i0 i1 ⟨w0, w1⟩]
theorem gTab_lo (hn : 2 ≤ n ∧ n ≤ 24) (h : k < 250 + 10 * B) (h3 : ¬ k = 3) : gTab g B n o k = gTf g B n o k := by
  obtain ⟨f1, f2, f3, f4, f5⟩ := szO_f hn
  unfold gTab
  rw [gBye_lo h (by omega), gAdds_lo h h3]
theorem gTab_3 (hn : 2 ≤ n ∧ n ≤ 24) (hB : 0 ≤ B) : gTab g B n o 3 = B + szO n - 1 := by
  obtain ⟨f1, f2, f3, f4, f5⟩ := szO_f hn
  unfold gTab
  rw [gBye_lo (by omega) (by omega), gAdds_n hB]
  omega
theorem cTab_at (hn : 2 ≤ n ∧ n ≤ 24) (hB : 0 ≤ B) (i0 : 0 ≤ i) (i1 : i < szO n - 1) : cTab c B n o 19 (2 * (B + i)) = nbt o n i 0 ∧ cTab c B n o 19 (2 * (B + i) + 1) = nbt o n i 1 ∧ cTab c B n o 20 (2 * (B + i)) = 0 ∧ cTab c B n o 20 (2 * (B + i) + 1) = 0 ∧ cTab c B n o 21 (B + i) = nbt o n i 4 ∧ cTab c B n o 22 (B + i) = (if nbt o n i 5 < 0 then -1 else tL o n i) ∧ cTab c B n o 23 (B + i) = tH n i ∧ cTab c B n o 24 (B + i) = -1 := by
  obtain ⟨f1, f2, f3, f4, f5⟩ := szO_f hn
  obtain ⟨u1, u2, u3, u4, u5, u6, u7, u8⟩ := cAdds_at (c := cTf c n o) (B := B) (t := szO n - 1) (L := tL o n) (R := tR o n) (H := tH n) hB i0 i1
  generalize hz : szO n = z at f2 f4 f5 i1 u1 u2 u3 u4 u5 u6 u7 u8
  unfold cTab cBye nbt
  rw [hz]
  refine ⟨?_, ?_, ?_, ?_, ?_, ?_, ?_, ?_⟩
  · rw [cset_o (by omega), if_neg (by omega), if_neg (by omega), u1]
    by_cases q : z / 2 ≤ i
    · rw [show 2 * (B + i) - (2 * B + z) = 2 * (i - z / 2) + 0 by omega]
      by_cases q2 : 2 * (i - z / 2) + 0 < z / 2 ∧ tR o n (2 * (i - z / 2) + 0) = -1
      · rw [if_pos ⟨rfl, by omega, by omega, q2.2⟩, if_neg (by omega), if_neg (by omega), if_pos ⟨q, by decide, q2.1, q2.2⟩]
      · rw [if_neg (fun x => q2 ⟨by omega, x.2.2.2⟩), if_neg (by omega), if_neg (by omega), if_neg (fun x => q2 ⟨x.2.2.1, x.2.2.2⟩), if_pos rfl]
    · rw [if_neg (by omega), if_neg (by omega), if_neg (by omega), if_neg (by omega), if_pos rfl]
  · rw [cset_o (by omega), if_neg (by omega), if_neg (by omega), u2]
    by_cases q : z / 2 ≤ i
    · rw [show 2 * (B + i) + 1 - (2 * B + z) = 2 * (i - z / 2) + 1 by omega]
      by_cases q2 : 2 * (i - z / 2) + 1 < z / 2 ∧ tR o n (2 * (i - z / 2) + 1) = -1
      · rw [if_pos ⟨rfl, by omega, by omega, q2.2⟩, if_neg (by omega), if_neg (by omega), if_pos ⟨q, by decide, q2.1, q2.2⟩]
      · rw [if_neg (fun x => q2 ⟨by omega, x.2.2.2⟩), if_neg (by omega), if_neg (by omega), if_neg (fun x => q2 ⟨x.2.2.1, x.2.2.2⟩), if_neg (by decide), if_pos rfl]
    · rw [if_neg (by omega), if_neg (by omega), if_neg (by omega), if_neg (by omega), if_neg (by decide), if_pos rfl]
  · rw [cset_o (by omega), if_neg (by omega), if_neg (by omega), if_neg (by omega), u3]
  · rw [cset_o (by omega), if_neg (by omega), if_neg (by omega), if_neg (by omega), u4]
  · rw [cset_o (by omega), show B + i - B = i by omega, u5]
    by_cases q : i < z / 2 ∧ tR o n i = -1
    · rw [if_pos ⟨rfl, by omega, by omega, q.2⟩, if_pos ⟨q.1, rfl, q.2⟩]
    · rw [if_neg (fun x => q ⟨by omega, x.2.2.2⟩), if_neg (by omega), if_neg (by omega), if_neg (fun x => q ⟨x.1, x.2.2⟩), if_neg (by omega), if_neg (by omega), if_neg (by decide), if_neg (by decide), if_neg (by decide), if_neg (by decide)]
  · rw [cset_o (by omega), show B + i - B = i by omega, u6, if_neg (by omega)]
    by_cases q : i < z / 2 ∧ tR o n i = -1
    · rw [if_pos ⟨rfl, by omega, by omega, q.2⟩, if_neg (show ¬ (i < z / 2 ∧ (5 : Int) = 4 ∧ tR o n i = -1) by omega), if_pos (show i < z / 2 ∧ (5 : Int) = 5 ∧ tR o n i = -1 from ⟨q.1, rfl, q.2⟩), if_neg (by decide)]
    · rw [if_neg (fun x => q ⟨by omega, x.2.2.2⟩), if_neg (by omega), if_neg (show ¬ (i < z / 2 ∧ (5 : Int) = 4 ∧ tR o n i = -1) by omega), if_neg (show ¬ (i < z / 2 ∧ (5 : Int) = 5 ∧ tR o n i = -1) from fun x => q ⟨x.1, x.2.2⟩), if_neg (show ¬ (z / 2 ≤ i ∧ (5 : Int) < 2 ∧ 2 * (i - z / 2) + 5 < z / 2 ∧ tR o n (2 * (i - z / 2) + 5) = -1) by omega), if_neg (show ¬ (5 : Int) = 0 by decide), if_neg (show ¬ (5 : Int) = 1 by decide), if_pos (show (5 : Int) = 5 ∨ (5 : Int) = 6 by decide), if_pos (show (-1 : Int) < 0 by decide)]
  · rw [cset_o (by omega), if_neg (by omega), if_neg (by omega), if_neg (by omega), u7]
  · rw [cset_o (by omega), if_neg (by omega), if_neg (by omega), if_neg (by omega), u8]
theorem cTab_lo (hn : 2 ≤ n ∧ n ≤ 24) (hB : 0 ≤ B) (h2 : ¬ (C = 2 ∧ k = 0)) (h0 : ¬ (C = 0 ∧ k = 0)) (h9 : C ≠ 9) (h25 : C ≠ 25) (h26 : C ≠ 26) (h : (C < 19 ∨ 24 < C) ∨ k < B ∨ ((C = 19 ∨ C = 20) ∧ k < 2 * B)) : cTab c B n o C k = c C k := by
  obtain ⟨f1, f2, f3, f4, f5⟩ := szO_f hn
  have e : cTf c n o C k = c C k := by
    unfold cTf
    rw [if_neg (by omega), if_neg (by omega), if_neg (by omega), if_neg (by omega)]
  rw [← e]
  unfold cTab
  rw [cset_o h2]
  have e2 : cBye (cAdds (cTf c n o) B (szO n - 1) (tL o n) (tR o n) (tH n)) B (szO n) (szO n / 2) (tL o n) (tR o n) C k = cAdds (cTf c n o) B (szO n - 1) (tL o n) (tR o n) (tH n) C k := by
    unfold cBye
    rw [if_neg (by omega), if_neg (by omega), if_neg (by omega)]
  rw [e2]
  rcases h with h | h
  · exact cAdds_row h0 h
  · exact cAdds_lo h0 h hB
theorem cTab_f (hn : 2 ≤ n ∧ n ≤ 24) (hB : 0 ≤ B) : cTab c B n o 2 0 = 2 ∧ cTab c B n o 0 0 = B + szO n - 1 ∧ cTab c B n o 9 0 = szO n ∧ cTab c B n o 9 1 = n ∧ (∀ k, 0 ≤ k → k < n → cTab c B n o 25 k = o k) ∧ (∀ k, 0 ≤ k → k < 24 → cTab c B n o 26 k = 1) := by
  obtain ⟨f1, f2, f3, f4, f5⟩ := szO_f hn
  have e : ∀ C k, ¬ (C = 2 ∧ k = 0) → ¬ (C = 0 ∧ k = 0) → (C < 19 ∨ 24 < C) → cTab c B n o C k = cTf c n o C k := fun C k q1 q2 q3 => by
    unfold cTab
    rw [cset_o q1]
    unfold cBye
    rw [if_neg (by omega), if_neg (by omega), if_neg (by omega)]
    exact cAdds_row q2 q3
  refine ⟨?_, ?_, ?_, ?_, fun k k0 k1 => ?_, fun k k0 k1 => ?_⟩
  · unfold cTab
    exact cset_s ⟨rfl, rfl⟩
  · unfold cTab
    rw [cset_o (by omega)]
    unfold cBye
    rw [if_neg (by omega), if_neg (by omega), if_neg (by omega), cAdds_n]
    omega
  · rw [e 9 0 (by omega) (by omega) (by omega)]
    unfold cTf
    rw [if_neg (by omega), if_neg (by omega), if_pos ⟨rfl, rfl⟩]
  · rw [e 9 1 (by omega) (by omega) (by omega)]
    unfold cTf
    rw [if_neg (by omega), if_neg (by omega), if_neg (by omega), if_pos ⟨rfl, rfl⟩]
  · rw [e 25 k (by omega) (by omega) (by omega)]
    unfold cTf
    rw [if_neg (by omega), if_pos ⟨rfl, k0, k1⟩]
  · rw [e 26 k (by omega) (by omega) (by omega)]
    unfold cTf
    rw [if_pos ⟨rfl, k0, k1⟩]
theorem seat_b (ho : ∀ i, 0 ≤ i → i < n → 0 ≤ o i ∧ o i < b) (hb : 0 < b) (x : Int) : -1 ≤ seat o n x ∧ seat o n x < b := by
  unfold seat
  by_cases q : x < 1
  · rw [if_pos q]; omega
  · rw [if_neg q]
    by_cases q2 : n < x
    · rw [if_pos q2]; omega
    · rw [if_neg q2]
      have := ho (x - 1) (by omega) (by omega)
      omega
/-- what stands in a bout of the new table -/
theorem nbt_f (hn : 2 ≤ n ∧ n ≤ 24) (ho : ∀ i, 0 ≤ i → i < n → 0 ≤ o i ∧ o i < b) (i0 : 0 ≤ i) (i1 : i < szO n - 1) : (-1 ≤ nbt o n i 0 ∧ nbt o n i 0 < b) ∧ (-1 ≤ nbt o n i 1 ∧ nbt o n i 1 < b) ∧ nbt o n i 2 = 0 ∧ nbt o n i 3 = 0 ∧ nbt o n i 6 = -1 ∧ nbt o n i 7 = 100 + rnd (szO n - i) ∧ nbt o n i 8 = 0 ∧ nbt o n i 9 = 0 ∧ ((nbt o n i 4 = 0 ∧ nbt o n i 5 = -1) ∨ (nbt o n i 4 = 4 ∧ nbt o n i 5 = 0 ∧ i < szO n / 2 ∧ nbt o n i 1 = -1 ∧ tR o n i = -1)) ∧ (i < szO n / 2 → nbt o n i 0 = tL o n i ∧ nbt o n i 1 = tR o n i ∧ 0 ≤ nbt o n i 0) := by
  obtain ⟨f1, f2, f3, f4, f5⟩ := szO_f hn
  have b0 : 0 < b := by have := ho 0 (by decide) (by omega); omega
  have hL : ∀ i, -1 ≤ tL o n i ∧ tL o n i < b := fun i => by
    unfold tL
    split
    · exact seat_b ho b0 _
    · omega
  have hR : ∀ i, -1 ≤ tR o n i ∧ tR o n i < b := fun i => by
    unfold tR
    split
    · exact seat_b ho b0 _
    · omega
  have hL0 : i < szO n / 2 → 0 ≤ tL o n i := fun q => by
    have s := sdN_l hn i
    rw [tL_at hn q]
    exact (ho _ (by omega) (by omega)).1
  generalize hz : szO n = z at f2 f4 f5 i1 hL0
  have l1 := hL i
  have r1 := hR i
  have l2 := hL (2 * (i - z / 2) + 0)
  have l3 := hL (2 * (i - z / 2) + 1)
  have hR2 : z / 2 ≤ i → tR o n i = -1 := fun q => by unfold tR; rw [hz, if_neg (by omega)]
  unfold nbt tH
  rw [hz]
  refine ⟨?_, ?_, ?_, ?_, ?_, ?_, ?_, ?_, ?_, fun q => ?_⟩
  · rw [if_neg (by omega), if_neg (by omega)]
    by_cases q : z / 2 ≤ i ∧ (0 : Int) < 2 ∧ 2 * (i - z / 2) + 0 < z / 2 ∧ tR o n (2 * (i - z / 2) + 0) = -1
    · rw [if_pos q]; exact l2
    · rw [if_neg q, if_pos rfl]; exact l1
  · rw [if_neg (by omega), if_neg (by omega)]
    by_cases q : z / 2 ≤ i ∧ (1 : Int) < 2 ∧ 2 * (i - z / 2) + 1 < z / 2 ∧ tR o n (2 * (i - z / 2) + 1) = -1
    · rw [if_pos q]; exact l3
    · rw [if_neg q, if_neg (by decide), if_pos rfl]; exact r1
  · rw [if_neg (by omega), if_neg (by omega), if_neg (by omega), if_neg (by decide), if_neg (by decide), if_neg (by decide), if_neg (by decide)]
  · rw [if_neg (by omega), if_neg (by omega), if_neg (by omega), if_neg (by decide), if_neg (by decide), if_neg (by decide), if_neg (by decide)]
  · rw [if_neg (by omega), if_neg (by omega), if_neg (by omega), if_neg (by decide), if_neg (by decide), if_pos (by decide)]
  · rw [if_neg (by omega), if_neg (by omega), if_neg (by omega), if_neg (by decide), if_neg (by decide), if_neg (by decide), if_pos rfl]
  · rw [if_neg (by omega), if_neg (by omega), if_neg (by omega), if_neg (by decide), if_neg (by decide), if_neg (by decide), if_neg (by decide)]
  · rw [if_neg (by omega), if_neg (by omega), if_neg (by omega), if_neg (by decide), if_neg (by decide), if_neg (by decide), if_neg (by decide)]
  · by_cases q : i < z / 2 ∧ tR o n i = -1
    · right
      rw [if_pos (show i < z / 2 ∧ (4 : Int) = 4 ∧ tR o n i = -1 from ⟨q.1, rfl, q.2⟩), if_neg (show ¬ (i < z / 2 ∧ (5 : Int) = 4 ∧ tR o n i = -1) by omega), if_pos (show i < z / 2 ∧ (5 : Int) = 5 ∧ tR o n i = -1 from ⟨q.1, rfl, q.2⟩)]
      refine ⟨rfl, rfl, q.1, ?_, q.2⟩
      rw [if_neg (by omega), if_neg (by omega), if_neg (by omega), if_neg (by decide), if_pos rfl]
      exact q.2
    · left
      rw [if_neg (show ¬ (i < z / 2 ∧ (4 : Int) = 4 ∧ tR o n i = -1) from fun x => q ⟨x.1, x.2.2⟩), if_neg (show ¬ (i < z / 2 ∧ (4 : Int) = 5 ∧ tR o n i = -1) by omega), if_neg (show ¬ (z / 2 ≤ i ∧ (4 : Int) < 2 ∧ 2 * (i - z / 2) + 4 < z / 2 ∧ tR o n (2 * (i - z / 2) + 4) = -1) by omega), if_neg (show ¬ (i < z / 2 ∧ (5 : Int) = 4 ∧ tR o n i = -1) by omega), if_neg (show ¬ (i < z / 2 ∧ (5 : Int) = 5 ∧ tR o n i = -1) from fun x => q ⟨x.1, x.2.2⟩), if_neg (show ¬ (z / 2 ≤ i ∧ (5 : Int) < 2 ∧ 2 * (i - z / 2) + 5 < z / 2 ∧ tR o n (2 * (i - z / 2) + 5) = -1) by omega)]
      exact ⟨rfl, rfl⟩
  · rw [if_neg (by omega), if_neg (by omega), if_neg (by omega), if_pos rfl, if_neg (by omega), if_neg (by omega), if_neg (by omega), if_neg (by decide), if_pos rfl]
    exact ⟨rfl, rfl, hL0 q⟩
end DTab
