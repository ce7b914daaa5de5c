/-! The text of results: the automaton, a character at a time. -/
def tu (T : Int → Int) (i v : Int) : Int → Int := fun k => if k = i then v else T k
/-- memory K with the automaton's part p, digits d, count c and row T -/
def tm (K : Mem) (p d c : Int) (T : Int → Int) : Mem := fun C r k => if C = 5 ∧ r = 0 ∧ k = 4 then c else if C = 5 ∧ r = 0 ∧ k = 5 then p else if C = 5 ∧ r = 0 ∧ k = 6 then d else if C = 13 ∧ r = 185 then T k else K C r k
theorem ite_x {α : Type} {P : Prop} [Decidable P] {a b x : α} (h1 : P → a = x) (h2 : ¬ P → b = x) : (if P then a else b) = x := by
  by_cases q : P
  · rw [if_pos q]; exact h1 q
  · rw [if_neg q]; exact h2 q
section Text
variable {K : Mem} {p d c v i ch n : Int} {T : Int → Int}
theorem tu_s : tu T i v i = v := if_pos rfl
theorem tu_o {j : Int} (h : j ≠ i) : tu T i v j = T j := if_neg h
theorem tm_4 : tm K p d c T 5 0 4 = c := if_pos ⟨rfl, rfl, rfl⟩
theorem tm_5 : tm K p d c T 5 0 5 = p := by
  unfold tm
  rw [if_neg (fun z => absurd z.2.2 (by decide)), if_pos ⟨rfl, rfl, rfl⟩]
theorem tm_6 : tm K p d c T 5 0 6 = d := by
  unfold tm
  rw [if_neg (fun z => absurd z.2.2 (by decide)), if_neg (fun z => absurd z.2.2 (by decide)), if_pos ⟨rfl, rfl, rfl⟩]
theorem tm_r : tm K p d c T 13 185 = T := funext fun k => by
  unfold tm
  rw [if_neg (fun z => absurd z.1 (by decide)), if_neg (fun z => absurd z.1 (by decide)), if_neg (fun z => absurd z.1 (by decide)), if_pos ⟨rfl, rfl⟩]
theorem tm_o {C : Nat} {r k : Int} (h : ¬ (C = 5 ∧ 4 ≤ k ∧ k ≤ 6)) (h2 : ¬ (C = 13 ∧ r = 185)) : tm K p d c T C r k = K C r k := by
  unfold tm
  rw [if_neg (by omega), if_neg (by omega), if_neg (by omega), if_neg h2]
theorem tu_4 : up (tm K p d c T) 5 0 4 v = tm K p d v T := funext fun C => funext fun r => funext fun k => by
  unfold up tm
  by_cases q : C = 5 ∧ r = 0 ∧ k = 4
  · rw [if_pos q, if_pos q]
  · rw [if_neg q, if_neg q, if_neg q]
theorem tu_5 : up (tm K p d c T) 5 0 5 v = tm K v d c T := funext fun C => funext fun r => funext fun k => by
  unfold up tm
  by_cases q : C = 5 ∧ r = 0 ∧ k = 5
  · rw [if_pos q, if_neg (by omega), if_pos q]
  · rw [if_neg q, if_neg q, if_neg q]
theorem tu_6 : up (tm K p d c T) 5 0 6 v = tm K p v c T := funext fun C => funext fun r => funext fun k => by
  unfold up tm
  by_cases q : C = 5 ∧ r = 0 ∧ k = 6
  · rw [if_pos q, if_neg (by omega), if_neg (by omega), if_pos q]
  · rw [if_neg q, if_neg q, if_neg q]
theorem tu_2 (hi : i < 4) : up (tm K p d c T) 5 0 i v = tm (up K 5 0 i v) p d c T := funext fun C => funext fun r => funext fun k => by
  unfold up tm
  by_cases q : C = 5 ∧ r = 0 ∧ k = i
  · rw [if_pos q, if_neg (by omega), if_neg (by omega), if_neg (by omega), if_neg (by omega)]
    exact (if_pos q).symm
  · rw [if_neg q]
    by_cases q1 : C = 5 ∧ r = 0 ∧ k = 4
    · rw [if_pos q1, if_pos q1]
    · rw [if_neg q1, if_neg q1]
      by_cases q2 : C = 5 ∧ r = 0 ∧ k = 5
      · rw [if_pos q2, if_pos q2]
      · rw [if_neg q2, if_neg q2]
        by_cases q3 : C = 5 ∧ r = 0 ∧ k = 6
        · rw [if_pos q3, if_pos q3]
        · rw [if_neg q3, if_neg q3]
          by_cases q4 : C = 13 ∧ r = 185
          · rw [if_pos q4, if_pos q4]
          · rw [if_neg q4, if_neg q4]
            exact (if_neg q).symm
theorem tm_id (F : Mem) : F = tm F (F 5 0 5) (F 5 0 6) (F 5 0 4) (F 13 185) := funext fun C => funext fun r => funext fun k => by
  unfold tm
  by_cases q : C = 5 ∧ r = 0 ∧ k = 4
  · rw [if_pos q, q.1, q.2.1, q.2.2]
  · rw [if_neg q]
    by_cases q : C = 5 ∧ r = 0 ∧ k = 5
    · rw [if_pos q, q.1, q.2.1, q.2.2]
    · rw [if_neg q]
      by_cases q : C = 5 ∧ r = 0 ∧ k = 6
      · rw [if_pos q, q.1, q.2.1, q.2.2]
      · rw [if_neg q]
        by_cases q : C = 13 ∧ r = 185
        · rw [if_pos q, q.1, q.2]
        · rw [if_neg q]
theorem ts_r (h0 : 0 ≤ i) (h1 : i < 44) : rset (tm K p d c T) 185 i v = tm K p d c (tu T i v) := by
  unfold rset
  rw [if_pos (show 0 ≤ i ∧ i < rowLen 185 from ⟨h0, h1⟩)]
  exact funext fun C => funext fun r => funext fun k => by
    unfold up tm tu
    by_cases q : C = 13 ∧ r = 185 ∧ k = i
    · rw [if_pos q, if_neg (by omega), if_neg (by omega), if_neg (by omega), if_pos (by omega), if_pos q.2.2]
    · rw [if_neg q]
      by_cases q2 : C = 13 ∧ r = 185
      · rw [if_neg (by omega), if_neg (by omega), if_neg (by omega), if_pos q2, if_neg (by omega), if_neg (by omega), if_neg (by omega), if_pos q2]
        exact (if_neg (by omega)).symm
      · rw [if_neg q2, if_neg q2]
theorem tg_r (h0 : 0 ≤ i) (h1 : i < 44) : rget (tm K p d c T) 185 i = T i := by
  unfold rget
  rw [if_pos (show 0 ≤ i ∧ i < rowLen 185 from ⟨h0, h1⟩), tm_r]
theorem open_tm (hc : 0 ≤ c ∧ c ≤ 10) (hn : 0 ≤ n ∧ n ≤ 3) : zm_openPart n (tm K p d c T) = tm K n 0 c (tu (tu T (4 * c + n) 0) (4 * c + 3) (-1)) := by
  unfold zm_openPart
  simp only [tu_5, tu_6, tm_4, tm_5]
  rw [wr_eq (z := 4 * c) (by omega) (by omega), wr_eq (z := 4 * c + n) (by omega) (by omega), ts_r (by omega) (by omega), tm_4, wr_eq (z := 4 * c) (by omega) (by omega), wr_eq (z := 4 * c + 3) (by omega) (by omega), ts_r (by omega) (by omega)]
theorem dig_tm (hc : 0 ≤ c ∧ c ≤ 10) (hp : 0 ≤ p ∧ p ≤ 2) (h0 : 0 ≤ d) (hd : d < (if p = 0 then 3 else 2)) (hn : 0 ≤ n ∧ n ≤ 9) (hT : 0 ≤ T (4 * c + p) ∧ T (4 * c + p) ≤ 1000) : zo_acceptDigit n (tm K p d c T) = 1 ∧ zm_acceptDigit n (tm K p d c T) = tm K p (d + 1) c (tu T (4 * c + p) (10 * T (4 * c + p) + n)) := by
  have e : up (rset (tm K p d c T) 185 (wr (wr (4 * tm K p d c T 5 0 4) + tm K p d c T 5 0 5)) (wr (wr (10 * zo_tpart (tm K p d c T 5 0 4) (tm K p d c T 5 0 5) (tm K p d c T)) + n))) 5 0 6 (wr (rset (tm K p d c T) 185 (wr (wr (4 * tm K p d c T 5 0 4) + tm K p d c T 5 0 5)) (wr (wr (10 * zo_tpart (tm K p d c T 5 0 4) (tm K p d c T 5 0 5) (tm K p d c T)) + n)) 5 0 6 + 1)) = tm K p (d + 1) c (tu T (4 * c + p) (10 * T (4 * c + p) + n)) := by
    unfold zo_tpart
    rw [tm_4, tm_5, wr_eq (z := 4 * c) (by omega) (by omega), wr_eq (z := 4 * c + p) (by omega) (by omega), tg_r (by omega) (by omega), wr_eq (z := 10 * T (4 * c + p)) (by omega) (by omega), wr_eq (z := 10 * T (4 * c + p) + n) (by omega) (by omega), ts_r (by omega) (by omega), tm_6, wr_eq (z := d + 1) (by split at hd <;> omega) (by split at hd <;> omega), tu_6]
  unfold zo_acceptDigit zm_acceptDigit
  rw [e, tm_5, tm_6]
  by_cases q : p = 0
  · rw [if_pos q] at hd
    refine ⟨?_, ?_⟩
    · rw [if_neg (fun z => z q), if_neg (by omega), if_pos hd]
    · rw [if_neg (fun z => z q), if_neg (by omega), if_pos hd]
  · rw [if_neg q] at hd
    refine ⟨?_, ?_⟩
    · rw [if_pos q, if_neg (by omega), if_pos hd]
    · rw [if_pos q, if_neg (by omega), if_pos hd]
theorem acc_dig (hc : 0 ≤ c ∧ c ≤ 10) (hp : 0 ≤ p ∧ p ≤ 2) (h0 : 0 ≤ d) (hd : d < (if p = 0 then 3 else 2)) (hn : 48 ≤ ch ∧ ch ≤ 57) (hT : 0 ≤ T (4 * c + p) ∧ T (4 * c + p) ≤ 1000) : zo_accept ch (tm K p d c T) = 1 ∧ zm_accept ch (tm K p d c T) = tm K p (d + 1) c (tu T (4 * c + p) (10 * T (4 * c + p) + (ch - 48))) := by
  have e := dig_tm (K := K) (n := ch - 48) hc hp h0 hd (by omega) hT
  unfold zo_accept zm_accept
  rw [if_neg (by omega), if_neg (by omega), if_neg (by omega), if_neg (by omega), wr_eq (z := ch - 48) (by omega) (by omega)]
  exact e
theorem acc_no (hA : ¬ (48 ≤ ch ∧ ch ≤ 57) ∨ p = 3 ∨ (p = 0 ∧ 3 ≤ d) ∨ (p ≠ 0 ∧ 2 ≤ d)) (hB : ¬ (ch = 61 ∧ p = 0 ∧ 0 < d)) (hC : ¬ (ch = 58 ∧ p = 1 ∧ 0 < d)) (hD : ¬ ((ch = 108 ∨ ch = 114) ∧ p = 2 ∧ 0 < d)) (hE : ¬ (ch = 59 ∧ (p = 3 ∨ (p = 2 ∧ 0 < d)))) : zo_accept ch (tm K p d c T) = 0 ∧ zm_accept ch (tm K p d c T) = tm K p d c T := by
  constructor
  · unfold zo_accept zo_acceptDigit
    simp only [tm_5, tm_6]
    repeat' refine ite_x (fun _ => ?_) (fun _ => ?_)
    all_goals first | rfl | (exfalso; omega)
  · unfold zm_accept zm_acceptDigit
    simp only [tm_5, tm_6]
    repeat' refine ite_x (fun _ => ?_) (fun _ => ?_)
    all_goals first | rfl | (exfalso; omega)
theorem acc_eq (hch : ch = 61) (hp : p = 0) (hc : 0 ≤ c ∧ c ≤ 10) (h0 : 0 < d) : zo_accept ch (tm K p d c T) = 1 ∧ zm_accept ch (tm K p d c T) = tm K 1 0 c (tu (tu T (4 * c + 1) 0) (4 * c + 3) (-1)) := by
  have e := open_tm (K := K) (p := p) (d := d) (c := c) (T := T) (n := 1) hc (by decide)
  constructor
  · unfold zo_accept
    simp only [tm_5, tm_6]
    repeat' (with_reducible refine ite_x (fun _ => ?_) (fun _ => ?_))
    all_goals first | rfl | (exfalso; omega)
  · unfold zm_accept
    simp only [tm_5, tm_6]
    repeat' (with_reducible refine ite_x (fun _ => ?_) (fun _ => ?_))
    all_goals first | (exfalso; omega) | exact e
theorem acc_col (hch : ch = 58) (hp : p = 1) (hc : 0 ≤ c ∧ c ≤ 10) (h0 : 0 < d) : zo_accept ch (tm K p d c T) = 1 ∧ zm_accept ch (tm K p d c T) = tm K 2 0 c (tu (tu T (4 * c + 2) 0) (4 * c + 3) (-1)) := by
  have e := open_tm (K := K) (p := p) (d := d) (c := c) (T := T) (n := 2) hc (by decide)
  constructor
  · unfold zo_accept
    simp only [tm_5, tm_6]
    repeat' (with_reducible refine ite_x (fun _ => ?_) (fun _ => ?_))
    all_goals first | rfl | (exfalso; omega)
  · unfold zm_accept
    simp only [tm_5, tm_6]
    repeat' (with_reducible refine ite_x (fun _ => ?_) (fun _ => ?_))
    all_goals first | (exfalso; omega) | exact e
theorem acc_l (hch : ch = 108) (hp : p = 2) (hc : 0 ≤ c ∧ c ≤ 10) (h0 : 0 < d) : zo_accept ch (tm K p d c T) = 1 ∧ zm_accept ch (tm K p d c T) = tm K 3 0 c (tu (tu (tu T (4 * c + 3) 0) (4 * c + 3) (-1)) (4 * c + 3) 0) := by
  have e := open_tm (K := K) (p := p) (d := d) (c := c) (T := T) (n := 3) hc (by decide)
  constructor
  · unfold zo_accept
    simp only [tm_5, tm_6]
    repeat' (with_reducible refine ite_x (fun _ => ?_) (fun _ => ?_))
    all_goals first | rfl | (exfalso; omega)
  · unfold zm_accept
    simp only [tm_5, tm_6]
    repeat' (with_reducible refine ite_x (fun _ => ?_) (fun _ => ?_))
    all_goals first | (exfalso; omega) | (rw [e, tm_4, wr_eq (z := 4 * c) (by omega) (by omega), wr_eq (z := 4 * c + 3) (by omega) (by omega), ts_r (by omega) (by omega)])
theorem acc_r (hch : ch = 114) (hp : p = 2) (hc : 0 ≤ c ∧ c ≤ 10) (h0 : 0 < d) : zo_accept ch (tm K p d c T) = 1 ∧ zm_accept ch (tm K p d c T) = tm K 3 0 c (tu (tu (tu T (4 * c + 3) 0) (4 * c + 3) (-1)) (4 * c + 3) 1) := by
  have e := open_tm (K := K) (p := p) (d := d) (c := c) (T := T) (n := 3) hc (by decide)
  constructor
  · unfold zo_accept
    simp only [tm_5, tm_6]
    repeat' (with_reducible refine ite_x (fun _ => ?_) (fun _ => ?_))
    all_goals first | rfl | (exfalso; omega)
  · unfold zm_accept
    simp only [tm_5, tm_6]
    repeat' (with_reducible refine ite_x (fun _ => ?_) (fun _ => ?_))
    all_goals first | (exfalso; omega) | (rw [e, tm_4, wr_eq (z := 4 * c) (by omega) (by omega), wr_eq (z := 4 * c + 3) (by omega) (by omega), ts_r (by omega) (by omega)])
theorem acc_semi (hch : ch = 59) (hp : p = 3 ∨ (p = 2 ∧ 0 < d)) (hc : 0 ≤ c ∧ c ≤ 9) : zo_accept ch (tm K p d c T) = 1 ∧ zm_accept ch (tm K p d c T) = tm K 0 0 (c + 1) (tu (tu T (4 * (c + 1) + 0) 0) (4 * (c + 1) + 3) (-1)) := by
  have e := open_tm (K := K) (p := p) (d := d) (c := c + 1) (T := T) (n := 0) (by omega) (by decide)
  constructor
  · unfold zo_accept
    simp only [tm_5, tm_6]
    repeat' (with_reducible refine ite_x (fun _ => ?_) (fun _ => ?_))
    all_goals first | rfl | (exfalso; omega)
  · unfold zm_accept
    simp only [tm_5, tm_6]
    repeat' (with_reducible refine ite_x (fun _ => ?_) (fun _ => ?_))
    all_goals first | (exfalso; omega) | (rw [tm_4, wr_eq (z := c + 1) (by omega) (by omega), tu_4]; exact e)
end Text
