/-! How many bouts are still to be won: both sides. -/
section TgB
variable {N f b n z t s u v x : Int} {σ K M X : Mem} {c : Cs} {g : Gs}
def lgr (r : Int) : Int := if r ≤ 2 then 1 else if r ≤ 4 then 2 else if r ≤ 8 then 3 else if r ≤ 16 then 4 else 5
/-- how many rounds lie before a bout -/
def lev (g : Gs) (t : Int) : Int := lgr (g 4) - lgr (rnd (g 4 - t))
theorem lev_0 (hz : g 4 = 2 ∨ g 4 = 4 ∨ g 4 = 8 ∨ g 4 = 16 ∨ g 4 = 32) (t0 : 0 ≤ t) (ht : 2 * t < g 4) : lev g t = 0 := by
  have e : rnd (g 4 - t) = g 4 := by
    unfold rnd
    repeat' split
    all_goals omega
  unfold lev
  rw [e]
  omega
theorem lev_s (hz : g 4 = 2 ∨ g 4 = 4 ∨ g 4 = 8 ∨ g 4 = 16 ∨ g 4 = 32) (t0 : 0 ≤ t) (t1 : t < g 4 - 2) : lev g ((t + g 4) / 2) = lev g t + 1 := by
  have e : 2 * rnd (g 4 - (t + g 4) / 2) = rnd (g 4 - t) := by
    unfold rnd
    repeat' split
    all_goals omega
  have h := rnd_p (g 4 - (t + g 4) / 2)
  have h2 : rnd (g 4 - t) ≤ 32 := by
    unfold rnd
    repeat' split
    all_goals omega
  unfold lev
  rw [← e] at h2 ⊢
  rcases h with q | q | q | q | q
  · rw [q]; show lgr (g 4) - 1 = lgr (g 4) - 2 + 1; omega
  · rw [q]; show lgr (g 4) - 2 = lgr (g 4) - 3 + 1; omega
  · rw [q]; show lgr (g 4) - 3 = lgr (g 4) - 4 + 1; omega
  · rw [q]; show lgr (g 4) - 4 = lgr (g 4) - 5 + 1; omega
  · rw [q] at h2; omega
def wnG (g : Gs) (f t : Int) : Bool := if 0 ≤ ga g (g 5 + t) 5 then decide (ga g (g 5 + t) (ga g (g 5 + t) 5) = f) else false
theorem wnG_iff (hi : IV g) (h4 : 0 < g 4) (t0 : 0 ≤ t) (t1 : t < g 4 - 1) : wnG g f t = true ↔ (tD g t ∧ tS2 g t (tW g t) = f) := by
  have z := tz hi h4
  have ib := hi.2.1 (g 5 + t) (by omega) (by omega)
  unfold IB at ib
  obtain ⟨u1, u2, u3, u4, u5, u6, u7, u8, u9, u10, u11, u12, u13, u14, u15, u16⟩ := ib
  unfold wnG tD tS2 tW
  by_cases q : 0 ≤ ga g (g 5 + t) 5
  · rw [if_pos q]
    have d : ga g (g 5 + t) 4 = 2 ∨ ga g (g 5 + t) 4 = 4 := by
      by_cases q3 : ga g (g 5 + t) 4 = 3
      · have := u16 q3; omega
      · by_cases q01 : ga g (g 5 + t) 4 = 0 ∨ ga g (g 5 + t) 4 = 1
        · have := u11 (by omega); omega
        · omega
    constructor
    · intro h; exact ⟨d, of_decide_eq_true h⟩
    · intro h; exact decide_eq_true h.2
  · rw [if_neg q]
    constructor
    · intro h; cases h
    · rintro ⟨d, -⟩
      exfalso
      rcases d with d | d
      · have := u12 d; omega
      · have := u13 d; omega
/-- a fencer has won as many bouts as rounds lie before -/
theorem lev_cnt (hi : IV g) (hx : IX g) (h4 : 0 < g 4) (hf : 0 ≤ f) : ∀ (k : Nat) (t s : Int), 0 ≤ t → t < g 4 - 1 → t.toNat < k → (s = 0 ∨ s = 1) → tS2 g t s = f → cntP (wnG g f) t = lev g t := by
  obtain ⟨z1, -⟩ := tz hi h4
  intro k
  induction k with
  | zero => intro t s t0 t1 hk; omega
  | succ k ih =>
    intro t s t0 t1 hk hs e
    by_cases hl : 2 * t < g 4
    · rw [lev_0 z1 t0 hl]
      refine cnt_zero t0 fun v v0 v1 hv => ?_
      obtain ⟨d, hw⟩ := (wnG_iff hi h4 v0 (by omega)).mp hv
      have w := (tD_w hi h4 v0 (by omega) d).1
      have := (tLf_inj hi hx h4 v0 (by omega) w t0 hl hs (by rw [hw]; exact hf) (by rw [hw, e])).1
      omega
    · obtain ⟨d1, c1⟩ := tCh hi h4 (by omega) t1 hs (by rw [e]; exact hf)
      generalize hu : 2 * t - g 4 + s = u at d1 c1
      have u0 : 0 ≤ u ∧ u < t := by omega
      have w1 := (tD_w hi h4 u0.1 (by omega) d1).1
      have h1 := ih u _ u0.1 (by omega) (by omega) w1 (c1.trans e)
      have hp : wnG g f u = true := (wnG_iff hi h4 u0.1 (by omega)).mpr ⟨d1, c1.trans e⟩
      have es := cntP_s (P := wnG g f) u0.1
      rw [if_pos hp] at es
      have et : (u + g 4) / 2 = t := by omega
      have el := lev_s z1 u0.1 (by omega)
      rw [et] at el
      have e3 := sumTo_stop (p := fun i => if wnG g f i = true then 1 else 0) (a := u + 1) (by omega) (t - (u + 1)).toNat (fun v v0 v1 => if_neg (fun hv => by
        obtain ⟨d, hw⟩ := (wnG_iff hi h4 (t := v) (by omega) (by omega)).mp hv
        have w := (tD_w hi h4 (t := v) (by omega) (by omega) d).1
        have := (tBef hi hx h4 u0.1 (t' := v) (by omega) (by omega) w1 w (by rw [c1, e]; exact hf) (by rw [c1, e, hw])).2.2
        omega))
      rw [show u + 1 + ((t - (u + 1)).toNat : Int) = t by omega] at e3
      have e4 : cntP (wnG g f) t = cntP (wnG g f) (u + 1) := e3
      omega
end TgB
