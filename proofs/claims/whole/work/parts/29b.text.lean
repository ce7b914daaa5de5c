theorem acceptDigit_01 (n : Int) (σ : Mem) : zo_acceptDigit n σ = 0 ∨ zo_acceptDigit n σ = 1 := by
  unfold zo_acceptDigit
  repeat' split
  all_goals simp

def zo_accept (c : Int) (σ : Mem) : Int := if (c) < 48 then (if (σ 5 (0) 6) ≤ 0 then (if ¬ (c) = 61 then (if ¬ (c) = 58 then (if (c) = 108 then (if ¬ (σ 5 (0) 5) = 2 then (if ¬ (c) = 59 then 0 else if (σ 5 (0) 5) = 3 then 1 else if ¬ (σ 5 (0) 5) = 2 then 0 else 0) else if ¬ (c) = 59 then 0 else if (σ 5 (0) 5) = 3 then 1 else if ¬ (σ 5 (0) 5) = 2 then 0 else 0) else if ¬ (c) = 114 then (if ¬ (c) = 59 then 0 else if (σ 5 (0) 5) = 3 then 1 else if ¬ (σ 5 (0) 5) = 2 then 0 else 0) else if ¬ (σ 5 (0) 5) = 2 then (if ¬ (c) = 59 then 0 else if (σ 5 (0) 5) = 3 then 1 else if ¬ (σ 5 (0) 5) = 2 then 0 else 0) else if ¬ (c) = 59 then 0 else if (σ 5 (0) 5) = 3 then 1 else if ¬ (σ 5 (0) 5) = 2 then 0 else 0) else if ¬ (σ 5 (0) 5) = 1 then (if (c) = 108 then (if ¬ (σ 5 (0) 5) = 2 then (if ¬ (c) = 59 then 0 else if (σ 5 (0) 5) = 3 then 1 else if ¬ (σ 5 (0) 5) = 2 then 0 else 0) else if ¬ (c) = 59 then 0 else if (σ 5 (0) 5) = 3 then 1 else if ¬ (σ 5 (0) 5) = 2 then 0 else 0) else if ¬ (c) = 114 then (if ¬ (c) = 59 then 0 else if (σ 5 (0) 5) = 3 then 1 else if ¬ (σ 5 (0) 5) = 2 then 0 else 0) else if ¬ (σ 5 (0) 5) = 2 then (if ¬ (c) = 59 then 0 else if (σ 5 (0) 5) = 3 then 1 else if ¬ (σ 5 (0) 5) = 2 then 0 else 0) else if ¬ (c) = 59 then 0 else if (σ 5 (0) 5) = 3 then 1 else if ¬ (σ 5 (0) 5) = 2 then 0 else 0) else if (c) = 108 then (if ¬ (σ 5 (0) 5) = 2 then (if ¬ (c) = 59 then 0 else if (σ 5 (0) 5) = 3 then 1 else if ¬ (σ 5 (0) 5) = 2 then 0 else 0) else if ¬ (c) = 59 then 0 else if (σ 5 (0) 5) = 3 then 1 else if ¬ (σ 5 (0) 5) = 2 then 0 else 0) else if ¬ (c) = 114 then (if ¬ (c) = 59 then 0 else if (σ 5 (0) 5) = 3 then 1 else if ¬ (σ 5 (0) 5) = 2 then 0 else 0) else if ¬ (σ 5 (0) 5) = 2 then (if ¬ (c) = 59 then 0 else if (σ 5 (0) 5) = 3 then 1 else if ¬ (σ 5 (0) 5) = 2 then 0 else 0) else if ¬ (c) = 59 then 0 else if (σ 5 (0) 5) = 3 then 1 else if ¬ (σ 5 (0) 5) = 2 then 0 else 0) else if ¬ (σ 5 (0) 5) = 0 then (if ¬ (c) = 58 then (if (c) = 108 then (if ¬ (σ 5 (0) 5) = 2 then (if ¬ (c) = 59 then 0 else if (σ 5 (0) 5) = 3 then 1 else if ¬ (σ 5 (0) 5) = 2 then 0 else 0) else if ¬ (c) = 59 then 0 else if (σ 5 (0) 5) = 3 then 1 else if ¬ (σ 5 (0) 5) = 2 then 0 else 0) else if ¬ (c) = 114 then (if ¬ (c) = 59 then 0 else if (σ 5 (0) 5) = 3 then 1 else if ¬ (σ 5 (0) 5) = 2 then 0 else 0) else if ¬ (σ 5 (0) 5) = 2 then (if ¬ (c) = 59 then 0 else if (σ 5 (0) 5) = 3 then 1 else if ¬ (σ 5 (0) 5) = 2 then 0 else 0) else if ¬ (c) = 59 then 0 else if (σ 5 (0) 5) = 3 then 1 else if ¬ (σ 5 (0) 5) = 2 then 0 else 0) else if ¬ (σ 5 (0) 5) = 1 then (if (c) = 108 then (if ¬ (σ 5 (0) 5) = 2 then (if ¬ (c) = 59 then 0 else if (σ 5 (0) 5) = 3 then 1 else if ¬ (σ 5 (0) 5) = 2 then 0 else 0) else if ¬ (c) = 59 then 0 else if (σ 5 (0) 5) = 3 then 1 else if ¬ (σ 5 (0) 5) = 2 then 0 else 0) else if ¬ (c) = 114 then (if ¬ (c) = 59 then 0 else if (σ 5 (0) 5) = 3 then 1 else if ¬ (σ 5 (0) 5) = 2 then 0 else 0) else if ¬ (σ 5 (0) 5) = 2 then (if ¬ (c) = 59 then 0 else if (σ 5 (0) 5) = 3 then 1 else if ¬ (σ 5 (0) 5) = 2 then 0 else 0) else if ¬ (c) = 59 then 0 else if (σ 5 (0) 5) = 3 then 1 else if ¬ (σ 5 (0) 5) = 2 then 0 else 0) else if (c) = 108 then (if ¬ (σ 5 (0) 5) = 2 then (if ¬ (c) = 59 then 0 else if (σ 5 (0) 5) = 3 then 1 else if ¬ (σ 5 (0) 5) = 2 then 0 else 0) else if ¬ (c) = 59 then 0 else if (σ 5 (0) 5) = 3 then 1 else if ¬ (σ 5 (0) 5) = 2 then 0 else 0) else if ¬ (c) = 114 then (if ¬ (c) = 59 then 0 else if (σ 5 (0) 5) = 3 then 1 else if ¬ (σ 5 (0) 5) = 2 then 0 else 0) else if ¬ (σ 5 (0) 5) = 2 then (if ¬ (c) = 59 then 0 else if (σ 5 (0) 5) = 3 then 1 else if ¬ (σ 5 (0) 5) = 2 then 0 else 0) else if ¬ (c) = 59 then 0 else if (σ 5 (0) 5) = 3 then 1 else if ¬ (σ 5 (0) 5) = 2 then 0 else 0) else if ¬ (c) = 58 then (if (c) = 108 then (if ¬ (σ 5 (0) 5) = 2 then (if ¬ (c) = 59 then 0 else if (σ 5 (0) 5) = 3 then 1 else if ¬ (σ 5 (0) 5) = 2 then 0 else 0) else if ¬ (c) = 59 then 0 else if (σ 5 (0) 5) = 3 then 1 else if ¬ (σ 5 (0) 5) = 2 then 0 else 0) else if ¬ (c) = 114 then (if ¬ (c) = 59 then 0 else if (σ 5 (0) 5) = 3 then 1 else if ¬ (σ 5 (0) 5) = 2 then 0 else 0) else if ¬ (σ 5 (0) 5) = 2 then (if ¬ (c) = 59 then 0 else if (σ 5 (0) 5) = 3 then 1 else if ¬ (σ 5 (0) 5) = 2 then 0 else 0) else if ¬ (c) = 59 then 0 else if (σ 5 (0) 5) = 3 then 1 else if ¬ (σ 5 (0) 5) = 2 then 0 else 0) else if ¬ (σ 5 (0) 5) = 1 then (if (c) = 108 then (if ¬ (σ 5 (0) 5) = 2 then (if ¬ (c) = 59 then 0 else if (σ 5 (0) 5) = 3 then 1 else if ¬ (σ 5 (0) 5) = 2 then 0 else 0) else if ¬ (c) = 59 then 0 else if (σ 5 (0) 5) = 3 then 1 else if ¬ (σ 5 (0) 5) = 2 then 0 else 0) else if ¬ (c) = 114 then (if ¬ (c) = 59 then 0 else if (σ 5 (0) 5) = 3 then 1 else if ¬ (σ 5 (0) 5) = 2 then 0 else 0) else if ¬ (σ 5 (0) 5) = 2 then (if ¬ (c) = 59 then 0 else if (σ 5 (0) 5) = 3 then 1 else if ¬ (σ 5 (0) 5) = 2 then 0 else 0) else if ¬ (c) = 59 then 0 else if (σ 5 (0) 5) = 3 then 1 else if ¬ (σ 5 (0) 5) = 2 then 0 else 0) else if (c) = 108 then (if ¬ (σ 5 (0) 5) = 2 then (if ¬ (c) = 59 then 0 else if (σ 5 (0) 5) = 3 then 1 else if ¬ (σ 5 (0) 5) = 2 then 0 else 0) else if ¬ (c) = 59 then 0 else if (σ 5 (0) 5) = 3 then 1 else if ¬ (σ 5 (0) 5) = 2 then 0 else 0) else if ¬ (c) = 114 then (if ¬ (c) = 59 then 0 else if (σ 5 (0) 5) = 3 then 1 else if ¬ (σ 5 (0) 5) = 2 then 0 else 0) else if ¬ (σ 5 (0) 5) = 2 then (if ¬ (c) = 59 then 0 else if (σ 5 (0) 5) = 3 then 1 else if ¬ (σ 5 (0) 5) = 2 then 0 else 0) else if ¬ (c) = 59 then 0 else if (σ 5 (0) 5) = 3 then 1 else if ¬ (σ 5 (0) 5) = 2 then 0 else 0) else if ¬ (c) = 61 then (if ¬ (c) = 58 then (if (c) = 108 then (if ¬ (σ 5 (0) 5) = 2 then (if ¬ (c) = 59 then 0 else if (σ 5 (0) 5) = 3 then 1 else if ¬ (σ 5 (0) 5) = 2 then 0 else 1) else if ¬ (c) = 108 then 1 else 1) else if ¬ (c) = 114 then (if ¬ (c) = 59 then 0 else if (σ 5 (0) 5) = 3 then 1 else if ¬ (σ 5 (0) 5) = 2 then 0 else 1) else if ¬ (σ 5 (0) 5) = 2 then (if ¬ (c) = 59 then 0 else if (σ 5 (0) 5) = 3 then 1 else if ¬ (σ 5 (0) 5) = 2 then 0 else 1) else if ¬ (c) = 108 then 1 else 1) else if ¬ (σ 5 (0) 5) = 1 then (if (c) = 108 then (if ¬ (σ 5 (0) 5) = 2 then (if ¬ (c) = 59 then 0 else if (σ 5 (0) 5) = 3 then 1 else if ¬ (σ 5 (0) 5) = 2 then 0 else 1) else if ¬ (c) = 108 then 1 else 1) else if ¬ (c) = 114 then (if ¬ (c) = 59 then 0 else if (σ 5 (0) 5) = 3 then 1 else if ¬ (σ 5 (0) 5) = 2 then 0 else 1) else if ¬ (σ 5 (0) 5) = 2 then (if ¬ (c) = 59 then 0 else if (σ 5 (0) 5) = 3 then 1 else if ¬ (σ 5 (0) 5) = 2 then 0 else 1) else if ¬ (c) = 108 then 1 else 1) else 1) else if ¬ (σ 5 (0) 5) = 0 then (if ¬ (c) = 58 then (if (c) = 108 then (if ¬ (σ 5 (0) 5) = 2 then (if ¬ (c) = 59 then 0 else if (σ 5 (0) 5) = 3 then 1 else if ¬ (σ 5 (0) 5) = 2 then 0 else 1) else if ¬ (c) = 108 then 1 else 1) else if ¬ (c) = 114 then (if ¬ (c) = 59 then 0 else if (σ 5 (0) 5) = 3 then 1 else if ¬ (σ 5 (0) 5) = 2 then 0 else 1) else if ¬ (σ 5 (0) 5) = 2 then (if ¬ (c) = 59 then 0 else if (σ 5 (0) 5) = 3 then 1 else if ¬ (σ 5 (0) 5) = 2 then 0 else 1) else if ¬ (c) = 108 then 1 else 1) else if ¬ (σ 5 (0) 5) = 1 then (if (c) = 108 then (if ¬ (σ 5 (0) 5) = 2 then (if ¬ (c) = 59 then 0 else if (σ 5 (0) 5) = 3 then 1 else if ¬ (σ 5 (0) 5) = 2 then 0 else 1) else if ¬ (c) = 108 then 1 else 1) else if ¬ (c) = 114 then (if ¬ (c) = 59 then 0 else if (σ 5 (0) 5) = 3 then 1 else if ¬ (σ 5 (0) 5) = 2 then 0 else 1) else if ¬ (σ 5 (0) 5) = 2 then (if ¬ (c) = 59 then 0 else if (σ 5 (0) 5) = 3 then 1 else if ¬ (σ 5 (0) 5) = 2 then 0 else 1) else if ¬ (c) = 108 then 1 else 1) else 1) else 1) else if 57 < (c) then (if (σ 5 (0) 6) ≤ 0 then (if ¬ (c) = 61 then (if ¬ (c) = 58 then (if (c) = 108 then (if ¬ (σ 5 (0) 5) = 2 then (if ¬ (c) = 59 then 0 else if (σ 5 (0) 5) = 3 then 1 else if ¬ (σ 5 (0) 5) = 2 then 0 else 0) else if ¬ (c) = 59 then 0 else if (σ 5 (0) 5) = 3 then 1 else if ¬ (σ 5 (0) 5) = 2 then 0 else 0) else if ¬ (c) = 114 then (if ¬ (c) = 59 then 0 else if (σ 5 (0) 5) = 3 then 1 else if ¬ (σ 5 (0) 5) = 2 then 0 else 0) else if ¬ (σ 5 (0) 5) = 2 then (if ¬ (c) = 59 then 0 else if (σ 5 (0) 5) = 3 then 1 else if ¬ (σ 5 (0) 5) = 2 then 0 else 0) else if ¬ (c) = 59 then 0 else if (σ 5 (0) 5) = 3 then 1 else if ¬ (σ 5 (0) 5) = 2 then 0 else 0) else if ¬ (σ 5 (0) 5) = 1 then (if (c) = 108 then (if ¬ (σ 5 (0) 5) = 2 then (if ¬ (c) = 59 then 0 else if (σ 5 (0) 5) = 3 then 1 else if ¬ (σ 5 (0) 5) = 2 then 0 else 0) else if ¬ (c) = 59 then 0 else if (σ 5 (0) 5) = 3 then 1 else if ¬ (σ 5 (0) 5) = 2 then 0 else 0) else if ¬ (c) = 114 then (if ¬ (c) = 59 then 0 else if (σ 5 (0) 5) = 3 then 1 else if ¬ (σ 5 (0) 5) = 2 then 0 else 0) else if ¬ (σ 5 (0) 5) = 2 then (if ¬ (c) = 59 then 0 else if (σ 5 (0) 5) = 3 then 1 else if ¬ (σ 5 (0) 5) = 2 then 0 else 0) else if ¬ (c) = 59 then 0 else if (σ 5 (0) 5) = 3 then 1 else if ¬ (σ 5 (0) 5) = 2 then 0 else 0) else if (c) = 108 then (if ¬ (σ 5 (0) 5) = 2 then (if ¬ (c) = 59 then 0 else if (σ 5 (0) 5) = 3 then 1 else if ¬ (σ 5 (0) 5) = 2 then 0 else 0) else if ¬ (c) = 59 then 0 else if (σ 5 (0) 5) = 3 then 1 else if ¬ (σ 5 (0) 5) = 2 then 0 else 0) else if ¬ (c) = 114 then (if ¬ (c) = 59 then 0 else if (σ 5 (0) 5) = 3 then 1 else if ¬ (σ 5 (0) 5) = 2 then 0 else 0) else if ¬ (σ 5 (0) 5) = 2 then (if ¬ (c) = 59 then 0 else if (σ 5 (0) 5) = 3 then 1 else if ¬ (σ 5 (0) 5) = 2 then 0 else 0) else if ¬ (c) = 59 then 0 else if (σ 5 (0) 5) = 3 then 1 else if ¬ (σ 5 (0) 5) = 2 then 0 else 0) else if ¬ (σ 5 (0) 5) = 0 then (if ¬ (c) = 58 then (if (c) = 108 then (if ¬ (σ 5 (0) 5) = 2 then (if ¬ (c) = 59 then 0 else if (σ 5 (0) 5) = 3 then 1 else if ¬ (σ 5 (0) 5) = 2 then 0 else 0) else if ¬ (c) = 59 then 0 else if (σ 5 (0) 5) = 3 then 1 else if ¬ (σ 5 (0) 5) = 2 then 0 else 0) else if ¬ (c) = 114 then (if ¬ (c) = 59 then 0 else if (σ 5 (0) 5) = 3 then 1 else if ¬ (σ 5 (0) 5) = 2 then 0 else 0) else if ¬ (σ 5 (0) 5) = 2 then (if ¬ (c) = 59 then 0 else if (σ 5 (0) 5) = 3 then 1 else if ¬ (σ 5 (0) 5) = 2 then 0 else 0) else if ¬ (c) = 59 then 0 else if (σ 5 (0) 5) = 3 then 1 else if ¬ (σ 5 (0) 5) = 2 then 0 else 0) else if ¬ (σ 5 (0) 5) = 1 then (if (c) = 108 then (if ¬ (σ 5 (0) 5) = 2 then (if ¬ (c) = 59 then 0 else if (σ 5 (0) 5) = 3 then 1 else if ¬ (σ 5 (0) 5) = 2 then 0 else 0) else if ¬ (c) = 59 then 0 else if (σ 5 (0) 5) = 3 then 1 else if ¬ (σ 5 (0) 5) = 2 then 0 else 0) else if ¬ (c) = 114 then (if ¬ (c) = 59 then 0 else if (σ 5 (0) 5) = 3 then 1 else if ¬ (σ 5 (0) 5) = 2 then 0 else 0) else if ¬ (σ 5 (0) 5) = 2 then (if ¬ (c) = 59 then 0 else if (σ 5 (0) 5) = 3 then 1 else if ¬ (σ 5 (0) 5) = 2 then 0 else 0) else if ¬ (c) = 59 then 0 else if (σ 5 (0) 5) = 3 then 1 else if ¬ (σ 5 (0) 5) = 2 then 0 else 0) else if (c) = 108 then (if ¬ (σ 5 (0) 5) = 2 then (if ¬ (c) = 59 then 0 else if (σ 5 (0) 5) = 3 then 1 else if ¬ (σ 5 (0) 5) = 2 then 0 else 0) else if ¬ (c) = 59 then 0 else if (σ 5 (0) 5) = 3 then 1 else if ¬ (σ 5 (0) 5) = 2 then 0 else 0) else if ¬ (c) = 114 then (if ¬ (c) = 59 then 0 else if (σ 5 (0) 5) = 3 then 1 else if ¬ (σ 5 (0) 5) = 2 then 0 else 0) else if ¬ (σ 5 (0) 5) = 2 then (if ¬ (c) = 59 then 0 else if (σ 5 (0) 5) = 3 then 1 else if ¬ (σ 5 (0) 5) = 2 then 0 else 0) else if ¬ (c) = 59 then 0 else if (σ 5 (0) 5) = 3 then 1 else if ¬ (σ 5 (0) 5) = 2 then 0 else 0) else if ¬ (c) = 58 then (if (c) = 108 then (if ¬ (σ 5 (0) 5) = 2 then (if ¬ (c) = 59 then 0 else if (σ 5 (0) 5) = 3 then 1 else if ¬ (σ 5 (0) 5) = 2 then 0 else 0) else if ¬ (c) = 59 then 0 else if (σ 5 (0) 5) = 3 then 1 else if ¬ (σ 5 (0) 5) = 2 then 0 else 0) else if ¬ (c) = 114 then (if ¬ (c) = 59 then 0 else if (σ 5 (0) 5) = 3 then 1 else if ¬ (σ 5 (0) 5) = 2 then 0 else 0) else if ¬ (σ 5 (0) 5) = 2 then (if ¬ (c) = 59 then 0 else if (σ 5 (0) 5) = 3 then 1 else if ¬ (σ 5 (0) 5) = 2 then 0 else 0) else if ¬ (c) = 59 then 0 else if (σ 5 (0) 5) = 3 then 1 else if ¬ (σ 5 (0) 5) = 2 then 0 else 0) else if ¬ (σ 5 (0) 5) = 1 then (if (c) = 108 then (if ¬ (σ 5 (0) 5) = 2 then (if ¬ (c) = 59 then 0 else if (σ 5 (0) 5) = 3 then 1 else if ¬ (σ 5 (0) 5) = 2 then 0 else 0) else if ¬ (c) = 59 then 0 else if (σ 5 (0) 5) = 3 then 1 else if ¬ (σ 5 (0) 5) = 2 then 0 else 0) else if ¬ (c) = 114 then (if ¬ (c) = 59 then 0 else if (σ 5 (0) 5) = 3 then 1 else if ¬ (σ 5 (0) 5) = 2 then 0 else 0) else if ¬ (σ 5 (0) 5) = 2 then (if ¬ (c) = 59 then 0 else if (σ 5 (0) 5) = 3 then 1 else if ¬ (σ 5 (0) 5) = 2 then 0 else 0) else if ¬ (c) = 59 then 0 else if (σ 5 (0) 5) = 3 then 1 else if ¬ (σ 5 (0) 5) = 2 then 0 else 0) else if (c) = 108 then (if ¬ (σ 5 (0) 5) = 2 then (if ¬ (c) = 59 then 0 else if (σ 5 (0) 5) = 3 then 1 else if ¬ (σ 5 (0) 5) = 2 then 0 else 0) else if ¬ (c) = 59 then 0 else if (σ 5 (0) 5) = 3 then 1 else if ¬ (σ 5 (0) 5) = 2 then 0 else 0) else if ¬ (c) = 114 then (if ¬ (c) = 59 then 0 else if (σ 5 (0) 5) = 3 then 1 else if ¬ (σ 5 (0) 5) = 2 then 0 else 0) else if ¬ (σ 5 (0) 5) = 2 then (if ¬ (c) = 59 then 0 else if (σ 5 (0) 5) = 3 then 1 else if ¬ (σ 5 (0) 5) = 2 then 0 else 0) else if ¬ (c) = 59 then 0 else if (σ 5 (0) 5) = 3 then 1 else if ¬ (σ 5 (0) 5) = 2 then 0 else 0) else if ¬ (c) = 61 then (if ¬ (c) = 58 then (if (c) = 108 then (if ¬ (σ 5 (0) 5) = 2 then (if ¬ (c) = 59 then 0 else if (σ 5 (0) 5) = 3 then 1 else if ¬ (σ 5 (0) 5) = 2 then 0 else 1) else if ¬ (c) = 108 then 1 else 1) else if ¬ (c) = 114 then (if ¬ (c) = 59 then 0 else if (σ 5 (0) 5) = 3 then 1 else if ¬ (σ 5 (0) 5) = 2 then 0 else 1) else if ¬ (σ 5 (0) 5) = 2 then (if ¬ (c) = 59 then 0 else if (σ 5 (0) 5) = 3 then 1 else if ¬ (σ 5 (0) 5) = 2 then 0 else 1) else if ¬ (c) = 108 then 1 else 1) else if ¬ (σ 5 (0) 5) = 1 then (if (c) = 108 then (if ¬ (σ 5 (0) 5) = 2 then (if ¬ (c) = 59 then 0 else if (σ 5 (0) 5) = 3 then 1 else if ¬ (σ 5 (0) 5) = 2 then 0 else 1) else if ¬ (c) = 108 then 1 else 1) else if ¬ (c) = 114 then (if ¬ (c) = 59 then 0 else if (σ 5 (0) 5) = 3 then 1 else if ¬ (σ 5 (0) 5) = 2 then 0 else 1) else if ¬ (σ 5 (0) 5) = 2 then (if ¬ (c) = 59 then 0 else if (σ 5 (0) 5) = 3 then 1 else if ¬ (σ 5 (0) 5) = 2 then 0 else 1) else if ¬ (c) = 108 then 1 else 1) else 1) else if ¬ (σ 5 (0) 5) = 0 then (if ¬ (c) = 58 then (if (c) = 108 then (if ¬ (σ 5 (0) 5) = 2 then (if ¬ (c) = 59 then 0 else if (σ 5 (0) 5) = 3 then 1 else if ¬ (σ 5 (0) 5) = 2 then 0 else 1) else if ¬ (c) = 108 then 1 else 1) else if ¬ (c) = 114 then (if ¬ (c) = 59 then 0 else if (σ 5 (0) 5) = 3 then 1 else if ¬ (σ 5 (0) 5) = 2 then 0 else 1) else if ¬ (σ 5 (0) 5) = 2 then (if ¬ (c) = 59 then 0 else if (σ 5 (0) 5) = 3 then 1 else if ¬ (σ 5 (0) 5) = 2 then 0 else 1) else if ¬ (c) = 108 then 1 else 1) else if ¬ (σ 5 (0) 5) = 1 then (if (c) = 108 then (if ¬ (σ 5 (0) 5) = 2 then (if ¬ (c) = 59 then 0 else if (σ 5 (0) 5) = 3 then 1 else if ¬ (σ 5 (0) 5) = 2 then 0 else 1) else if ¬ (c) = 108 then 1 else 1) else if ¬ (c) = 114 then (if ¬ (c) = 59 then 0 else if (σ 5 (0) 5) = 3 then 1 else if ¬ (σ 5 (0) 5) = 2 then 0 else 1) else if ¬ (σ 5 (0) 5) = 2 then (if ¬ (c) = 59 then 0 else if (σ 5 (0) 5) = 3 then 1 else if ¬ (σ 5 (0) 5) = 2 then 0 else 1) else if ¬ (c) = 108 then 1 else 1) else 1) else 1) else zo_acceptDigit (wr ((c) - (48))) σ
def zm_accept (c : Int) (σ : Mem) : Mem := if (c) < 48 then (if (σ 5 (0) 6) ≤ 0 then (if ¬ (c) = 61 then (if ¬ (c) = 58 then (if (c) = 108 then (if ¬ (σ 5 (0) 5) = 2 then (if ¬ (c) = 59 then σ else if (σ 5 (0) 5) = 3 then (zm_openPart (0) (up σ 5 (0) 4 (wr ((σ 5 (0) 4) + (1))))) else if ¬ (σ 5 (0) 5) = 2 then σ else σ) else if ¬ (c) = 59 then σ else if (σ 5 (0) 5) = 3 then (zm_openPart (0) (up σ 5 (0) 4 (wr ((σ 5 (0) 4) + (1))))) else if ¬ (σ 5 (0) 5) = 2 then σ else σ) else if ¬ (c) = 114 then (if ¬ (c) = 59 then σ else if (σ 5 (0) 5) = 3 then (zm_openPart (0) (up σ 5 (0) 4 (wr ((σ 5 (0) 4) + (1))))) else if ¬ (σ 5 (0) 5) = 2 then σ else σ) else if ¬ (σ 5 (0) 5) = 2 then (if ¬ (c) = 59 then σ else if (σ 5 (0) 5) = 3 then (zm_openPart (0) (up σ 5 (0) 4 (wr ((σ 5 (0) 4) + (1))))) else if ¬ (σ 5 (0) 5) = 2 then σ else σ) else if ¬ (c) = 59 then σ else if (σ 5 (0) 5) = 3 then (zm_openPart (0) (up σ 5 (0) 4 (wr ((σ 5 (0) 4) + (1))))) else if ¬ (σ 5 (0) 5) = 2 then σ else σ) else if ¬ (σ 5 (0) 5) = 1 then (if (c) = 108 then (if ¬ (σ 5 (0) 5) = 2 then (if ¬ (c) = 59 then σ else if (σ 5 (0) 5) = 3 then (zm_openPart (0) (up σ 5 (0) 4 (wr ((σ 5 (0) 4) + (1))))) else if ¬ (σ 5 (0) 5) = 2 then σ else σ) else if ¬ (c) = 59 then σ else if (σ 5 (0) 5) = 3 then (zm_openPart (0) (up σ 5 (0) 4 (wr ((σ 5 (0) 4) + (1))))) else if ¬ (σ 5 (0) 5) = 2 then σ else σ) else if ¬ (c) = 114 then (if ¬ (c) = 59 then σ else if (σ 5 (0) 5) = 3 then (zm_openPart (0) (up σ 5 (0) 4 (wr ((σ 5 (0) 4) + (1))))) else if ¬ (σ 5 (0) 5) = 2 then σ else σ) else if ¬ (σ 5 (0) 5) = 2 then (if ¬ (c) = 59 then σ else if (σ 5 (0) 5) = 3 then (zm_openPart (0) (up σ 5 (0) 4 (wr ((σ 5 (0) 4) + (1))))) else if ¬ (σ 5 (0) 5) = 2 then σ else σ) else if ¬ (c) = 59 then σ else if (σ 5 (0) 5) = 3 then (zm_openPart (0) (up σ 5 (0) 4 (wr ((σ 5 (0) 4) + (1))))) else if ¬ (σ 5 (0) 5) = 2 then σ else σ) else if (c) = 108 then (if ¬ (σ 5 (0) 5) = 2 then (if ¬ (c) = 59 then σ else if (σ 5 (0) 5) = 3 then (zm_openPart (0) (up σ 5 (0) 4 (wr ((σ 5 (0) 4) + (1))))) else if ¬ (σ 5 (0) 5) = 2 then σ else σ) else if ¬ (c) = 59 then σ else if (σ 5 (0) 5) = 3 then (zm_openPart (0) (up σ 5 (0) 4 (wr ((σ 5 (0) 4) + (1))))) else if ¬ (σ 5 (0) 5) = 2 then σ else σ) else if ¬ (c) = 114 then (if ¬ (c) = 59 then σ else if (σ 5 (0) 5) = 3 then (zm_openPart (0) (up σ 5 (0) 4 (wr ((σ 5 (0) 4) + (1))))) else if ¬ (σ 5 (0) 5) = 2 then σ else σ) else if ¬ (σ 5 (0) 5) = 2 then (if ¬ (c) = 59 then σ else if (σ 5 (0) 5) = 3 then (zm_openPart (0) (up σ 5 (0) 4 (wr ((σ 5 (0) 4) + (1))))) else if ¬ (σ 5 (0) 5) = 2 then σ else σ) else if ¬ (c) = 59 then σ else if (σ 5 (0) 5) = 3 then (zm_openPart (0) (up σ 5 (0) 4 (wr ((σ 5 (0) 4) + (1))))) else if ¬ (σ 5 (0) 5) = 2 then σ else σ) else if ¬ (σ 5 (0) 5) = 0 then (if ¬ (c) = 58 then (if (c) = 108 then (if ¬ (σ 5 (0) 5) = 2 then (if ¬ (c) = 59 then σ else if (σ 5 (0) 5) = 3 then (zm_openPart (0) (up σ 5 (0) 4 (wr ((σ 5 (0) 4) + (1))))) else if ¬ (σ 5 (0) 5) = 2 then σ else σ) else if ¬ (c) = 59 then σ else if (σ 5 (0) 5) = 3 then (zm_openPart (0) (up σ 5 (0) 4 (wr ((σ 5 (0) 4) + (1))))) else if ¬ (σ 5 (0) 5) = 2 then σ else σ) else if ¬ (c) = 114 then (if ¬ (c) = 59 then σ else if (σ 5 (0) 5) = 3 then (zm_openPart (0) (up σ 5 (0) 4 (wr ((σ 5 (0) 4) + (1))))) else if ¬ (σ 5 (0) 5) = 2 then σ else σ) else if ¬ (σ 5 (0) 5) = 2 then (if ¬ (c) = 59 then σ else if (σ 5 (0) 5) = 3 then (zm_openPart (0) (up σ 5 (0) 4 (wr ((σ 5 (0) 4) + (1))))) else if ¬ (σ 5 (0) 5) = 2 then σ else σ) else if ¬ (c) = 59 then σ else if (σ 5 (0) 5) = 3 then (zm_openPart (0) (up σ 5 (0) 4 (wr ((σ 5 (0) 4) + (1))))) else if ¬ (σ 5 (0) 5) = 2 then σ else σ) else if ¬ (σ 5 (0) 5) = 1 then (if (c) = 108 then (if ¬ (σ 5 (0) 5) = 2 then (if ¬ (c) = 59 then σ else if (σ 5 (0) 5) = 3 then (zm_openPart (0) (up σ 5 (0) 4 (wr ((σ 5 (0) 4) + (1))))) else if ¬ (σ 5 (0) 5) = 2 then σ else σ) else if ¬ (c) = 59 then σ else if (σ 5 (0) 5) = 3 then (zm_openPart (0) (up σ 5 (0) 4 (wr ((σ 5 (0) 4) + (1))))) else if ¬ (σ 5 (0) 5) = 2 then σ else σ) else if ¬ (c) = 114 then (if ¬ (c) = 59 then σ else if (σ 5 (0) 5) = 3 then (zm_openPart (0) (up σ 5 (0) 4 (wr ((σ 5 (0) 4) + (1))))) else if ¬ (σ 5 (0) 5) = 2 then σ else σ) else if ¬ (σ 5 (0) 5) = 2 then (if ¬ (c) = 59 then σ else if (σ 5 (0) 5) = 3 then (zm_openPart (0) (up σ 5 (0) 4 (wr ((σ 5 (0) 4) + (1))))) else if ¬ (σ 5 (0) 5) = 2 then σ else σ) else if ¬ (c) = 59 then σ else if (σ 5 (0) 5) = 3 then (zm_openPart (0) (up σ 5 (0) 4 (wr ((σ 5 (0) 4) + (1))))) else if ¬ (σ 5 (0) 5) = 2 then σ else σ) else if (c) = 108 then (if ¬ (σ 5 (0) 5) = 2 then (if ¬ (c) = 59 then σ else if (σ 5 (0) 5) = 3 then (zm_openPart (0) (up σ 5 (0) 4 (wr ((σ 5 (0) 4) + (1))))) else if ¬ (σ 5 (0) 5) = 2 then σ else σ) else if ¬ (c) = 59 then σ else if (σ 5 (0) 5) = 3 then (zm_openPart (0) (up σ 5 (0) 4 (wr ((σ 5 (0) 4) + (1))))) else if ¬ (σ 5 (0) 5) = 2 then σ else σ) else if ¬ (c) = 114 then (if ¬ (c) = 59 then σ else if (σ 5 (0) 5) = 3 then (zm_openPart (0) (up σ 5 (0) 4 (wr ((σ 5 (0) 4) + (1))))) else if ¬ (σ 5 (0) 5) = 2 then σ else σ) else if ¬ (σ 5 (0) 5) = 2 then (if ¬ (c) = 59 then σ else if (σ 5 (0) 5) = 3 then (zm_openPart (0) (up σ 5 (0) 4 (wr ((σ 5 (0) 4) + (1))))) else if ¬ (σ 5 (0) 5) = 2 then σ else σ) else if ¬ (c) = 59 then σ else if (σ 5 (0) 5) = 3 then (zm_openPart (0) (up σ 5 (0) 4 (wr ((σ 5 (0) 4) + (1))))) else if ¬ (σ 5 (0) 5) = 2 then σ else σ) else if ¬ (c) = 58 then (if (c) = 108 then (if ¬ (σ 5 (0) 5) = 2 then (if ¬ (c) = 59 then σ else if (σ 5 (0) 5) = 3 then (zm_openPart (0) (up σ 5 (0) 4 (wr ((σ 5 (0) 4) + (1))))) else if ¬ (σ 5 (0) 5) = 2 then σ else σ) else if ¬ (c) = 59 then σ else if (σ 5 (0) 5) = 3 then (zm_openPart (0) (up σ 5 (0) 4 (wr ((σ 5 (0) 4) + (1))))) else if ¬ (σ 5 (0) 5) = 2 then σ else σ) else if ¬ (c) = 114 then (if ¬ (c) = 59 then σ else if (σ 5 (0) 5) = 3 then (zm_openPart (0) (up σ 5 (0) 4 (wr ((σ 5 (0) 4) + (1))))) else if ¬ (σ 5 (0) 5) = 2 then σ else σ) else if ¬ (σ 5 (0) 5) = 2 then (if ¬ (c) = 59 then σ else if (σ 5 (0) 5) = 3 then (zm_openPart (0) (up σ 5 (0) 4 (wr ((σ 5 (0) 4) + (1))))) else if ¬ (σ 5 (0) 5) = 2 then σ else σ) else if ¬ (c) = 59 then σ else if (σ 5 (0) 5) = 3 then (zm_openPart (0) (up σ 5 (0) 4 (wr ((σ 5 (0) 4) + (1))))) else if ¬ (σ 5 (0) 5) = 2 then σ else σ) else if ¬ (σ 5 (0) 5) = 1 then (if (c) = 108 then (if ¬ (σ 5 (0) 5) = 2 then (if ¬ (c) = 59 then σ else if (σ 5 (0) 5) = 3 then (zm_openPart (0) (up σ 5 (0) 4 (wr ((σ 5 (0) 4) + (1))))) else if ¬ (σ 5 (0) 5) = 2 then σ else σ) else if ¬ (c) = 59 then σ else if (σ 5 (0) 5) = 3 then (zm_openPart (0) (up σ 5 (0) 4 (wr ((σ 5 (0) 4) + (1))))) else if ¬ (σ 5 (0) 5) = 2 then σ else σ) else if ¬ (c) = 114 then (if ¬ (c) = 59 then σ else if (σ 5 (0) 5) = 3 then (zm_openPart (0) (up σ 5 (0) 4 (wr ((σ 5 (0) 4) + (1))))) else if ¬ (σ 5 (0) 5) = 2 then σ else σ) else if ¬ (σ 5 (0) 5) = 2 then (if ¬ (c) = 59 then σ else if (σ 5 (0) 5) = 3 then (zm_openPart (0) (up σ 5 (0) 4 (wr ((σ 5 (0) 4) + (1))))) else if ¬ (σ 5 (0) 5) = 2 then σ else σ) else if ¬ (c) = 59 then σ else if (σ 5 (0) 5) = 3 then (zm_openPart (0) (up σ 5 (0) 4 (wr ((σ 5 (0) 4) + (1))))) else if ¬ (σ 5 (0) 5) = 2 then σ else σ) else if (c) = 108 then (if ¬ (σ 5 (0) 5) = 2 then (if ¬ (c) = 59 then σ else if (σ 5 (0) 5) = 3 then (zm_openPart (0) (up σ 5 (0) 4 (wr ((σ 5 (0) 4) + (1))))) else if ¬ (σ 5 (0) 5) = 2 then σ else σ) else if ¬ (c) = 59 then σ else if (σ 5 (0) 5) = 3 then (zm_openPart (0) (up σ 5 (0) 4 (wr ((σ 5 (0) 4) + (1))))) else if ¬ (σ 5 (0) 5) = 2 then σ else σ) else if ¬ (c) = 114 then (if ¬ (c) = 59 then σ else if (σ 5 (0) 5) = 3 then (zm_openPart (0) (up σ 5 (0) 4 (wr ((σ 5 (0) 4) + (1))))) else if ¬ (σ 5 (0) 5) = 2 then σ else σ) else if ¬ (σ 5 (0) 5) = 2 then (if ¬ (c) = 59 then σ else if (σ 5 (0) 5) = 3 then (zm_openPart (0) (up σ 5 (0) 4 (wr ((σ 5 (0) 4) + (1))))) else if ¬ (σ 5 (0) 5) = 2 then σ else σ) else if ¬ (c) = 59 then σ else if (σ 5 (0) 5) = 3 then (zm_openPart (0) (up σ 5 (0) 4 (wr ((σ 5 (0) 4) + (1))))) else if ¬ (σ 5 (0) 5) = 2 then σ else σ) else if ¬ (c) = 61 then (if ¬ (c) = 58 then (if (c) = 108 then (if ¬ (σ 5 (0) 5) = 2 then (if ¬ (c) = 59 then σ else if (σ 5 (0) 5) = 3 then (zm_openPart (0) (up σ 5 (0) 4 (wr ((σ 5 (0) 4) + (1))))) else if ¬ (σ 5 (0) 5) = 2 then σ else (zm_openPart (0) (up σ 5 (0) 4 (wr ((σ 5 (0) 4) + (1)))))) else if ¬ (c) = 108 then (rset (zm_openPart (3) σ) (185) (wr ((wr ((4) * ((zm_openPart (3) σ) 5 (0) 4))) + (3))) (1)) else (rset (zm_openPart (3) σ) (185) (wr ((wr ((4) * ((zm_openPart (3) σ) 5 (0) 4))) + (3))) (0))) else if ¬ (c) = 114 then (if ¬ (c) = 59 then σ else if (σ 5 (0) 5) = 3 then (zm_openPart (0) (up σ 5 (0) 4 (wr ((σ 5 (0) 4) + (1))))) else if ¬ (σ 5 (0) 5) = 2 then σ else (zm_openPart (0) (up σ 5 (0) 4 (wr ((σ 5 (0) 4) + (1)))))) else if ¬ (σ 5 (0) 5) = 2 then (if ¬ (c) = 59 then σ else if (σ 5 (0) 5) = 3 then (zm_openPart (0) (up σ 5 (0) 4 (wr ((σ 5 (0) 4) + (1))))) else if ¬ (σ 5 (0) 5) = 2 then σ else (zm_openPart (0) (up σ 5 (0) 4 (wr ((σ 5 (0) 4) + (1)))))) else if ¬ (c) = 108 then (rset (zm_openPart (3) σ) (185) (wr ((wr ((4) * ((zm_openPart (3) σ) 5 (0) 4))) + (3))) (1)) else (rset (zm_openPart (3) σ) (185) (wr ((wr ((4) * ((zm_openPart (3) σ) 5 (0) 4))) + (3))) (0))) else if ¬ (σ 5 (0) 5) = 1 then (if (c) = 108 then (if ¬ (σ 5 (0) 5) = 2 then (if ¬ (c) = 59 then σ else if (σ 5 (0) 5) = 3 then (zm_openPart (0) (up σ 5 (0) 4 (wr ((σ 5 (0) 4) + (1))))) else if ¬ (σ 5 (0) 5) = 2 then σ else (zm_openPart (0) (up σ 5 (0) 4 (wr ((σ 5 (0) 4) + (1)))))) else if ¬ (c) = 108 then (rset (zm_openPart (3) σ) (185) (wr ((wr ((4) * ((zm_openPart (3) σ) 5 (0) 4))) + (3))) (1)) else (rset (zm_openPart (3) σ) (185) (wr ((wr ((4) * ((zm_openPart (3) σ) 5 (0) 4))) + (3))) (0))) else if ¬ (c) = 114 then (if ¬ (c) = 59 then σ else if (σ 5 (0) 5) = 3 then (zm_openPart (0) (up σ 5 (0) 4 (wr ((σ 5 (0) 4) + (1))))) else if ¬ (σ 5 (0) 5) = 2 then σ else (zm_openPart (0) (up σ 5 (0) 4 (wr ((σ 5 (0) 4) + (1)))))) else if ¬ (σ 5 (0) 5) = 2 then (if ¬ (c) = 59 then σ else if (σ 5 (0) 5) = 3 then (zm_openPart (0) (up σ 5 (0) 4 (wr ((σ 5 (0) 4) + (1))))) else if ¬ (σ 5 (0) 5) = 2 then σ else (zm_openPart (0) (up σ 5 (0) 4 (wr ((σ 5 (0) 4) + (1)))))) else if ¬ (c) = 108 then (rset (zm_openPart (3) σ) (185) (wr ((wr ((4) * ((zm_openPart (3) σ) 5 (0) 4))) + (3))) (1)) else (rset (zm_openPart (3) σ) (185) (wr ((wr ((4) * ((zm_openPart (3) σ) 5 (0) 4))) + (3))) (0))) else (zm_openPart (2) σ)) else if ¬ (σ 5 (0) 5) = 0 then (if ¬ (c) = 58 then (if (c) = 108 then (if ¬ (σ 5 (0) 5) = 2 then (if ¬ (c) = 59 then σ else if (σ 5 (0) 5) = 3 then (zm_openPart (0) (up σ 5 (0) 4 (wr ((σ 5 (0) 4) + (1))))) else if ¬ (σ 5 (0) 5) = 2 then σ else (zm_openPart (0) (up σ 5 (0) 4 (wr ((σ 5 (0) 4) + (1)))))) else if ¬ (c) = 108 then (rset (zm_openPart (3) σ) (185) (wr ((wr ((4) * ((zm_openPart (3) σ) 5 (0) 4))) + (3))) (1)) else (rset (zm_openPart (3) σ) (185) (wr ((wr ((4) * ((zm_openPart (3) σ) 5 (0) 4))) + (3))) (0))) else if ¬ (c) = 114 then (if ¬ (c) = 59 then σ else if (σ 5 (0) 5) = 3 then (zm_openPart (0) (up σ 5 (0) 4 (wr ((σ 5 (0) 4) + (1))))) else if ¬ (σ 5 (0) 5) = 2 then σ else (zm_openPart (0) (up σ 5 (0) 4 (wr ((σ 5 (0) 4) + (1)))))) else if ¬ (σ 5 (0) 5) = 2 then (if ¬ (c) = 59 then σ else if (σ 5 (0) 5) = 3 then (zm_openPart (0) (up σ 5 (0) 4 (wr ((σ 5 (0) 4) + (1))))) else if ¬ (σ 5 (0) 5) = 2 then σ else (zm_openPart (0) (up σ 5 (0) 4 (wr ((σ 5 (0) 4) + (1)))))) else if ¬ (c) = 108 then (rset (zm_openPart (3) σ) (185) (wr ((wr ((4) * ((zm_openPart (3) σ) 5 (0) 4))) + (3))) (1)) else (rset (zm_openPart (3) σ) (185) (wr ((wr ((4) * ((zm_openPart (3) σ) 5 (0) 4))) + (3))) (0))) else if ¬ (σ 5 (0) 5) = 1 then (if (c) = 108 then (if ¬ (σ 5 (0) 5) = 2 then (if ¬ (c) = 59 then σ else if (σ 5 (0) 5) = 3 then (zm_openPart (0) (up σ 5 (0) 4 (wr ((σ 5 (0) 4) + (1))))) else if ¬ (σ 5 (0) 5) = 2 then σ else (zm_openPart (0) (up σ 5 (0) 4 (wr ((σ 5 (0) 4) + (1)))))) else if ¬ (c) = 108 then (rset (zm_openPart (3) σ) (185) (wr ((wr ((4) * ((zm_openPart (3) σ) 5 (0) 4))) + (3))) (1)) else (rset (zm_openPart (3) σ) (185) (wr ((wr ((4) * ((zm_openPart (3) σ) 5 (0) 4))) + (3))) (0))) else if ¬ (c) = 114 then (if ¬ (c) = 59 then σ else if (σ 5 (0) 5) = 3 then (zm_openPart (0) (up σ 5 (0) 4 (wr ((σ 5 (0) 4) + (1))))) else if ¬ (σ 5 (0) 5) = 2 then σ else (zm_openPart (0) (up σ 5 (0) 4 (wr ((σ 5 (0) 4) + (1)))))) else if ¬ (σ 5 (0) 5) = 2 then (if ¬ (c) = 59 then σ else if (σ 5 (0) 5) = 3 then (zm_openPart (0) (up σ 5 (0) 4 (wr ((σ 5 (0) 4) + (1))))) else if ¬ (σ 5 (0) 5) = 2 then σ else (zm_openPart (0) (up σ 5 (0) 4 (wr ((σ 5 (0) 4) + (1)))))) else if ¬ (c) = 108 then (rset (zm_openPart (3) σ) (185) (wr ((wr ((4) * ((zm_openPart (3) σ) 5 (0) 4))) + (3))) (1)) else (rset (zm_openPart (3) σ) (185) (wr ((wr ((4) * ((zm_openPart (3) σ) 5 (0) 4))) + (3))) (0))) else (zm_openPart (2) σ)) else (zm_openPart (1) σ)) else if 57 < (c) then (if (σ 5 (0) 6) ≤ 0 then (if ¬ (c) = 61 then (if ¬ (c) = 58 then (if (c) = 108 then (if ¬ (σ 5 (0) 5) = 2 then (if ¬ (c) = 59 then σ else if (σ 5 (0) 5) = 3 then (zm_openPart (0) (up σ 5 (0) 4 (wr ((σ 5 (0) 4) + (1))))) else if ¬ (σ 5 (0) 5) = 2 then σ else σ) else if ¬ (c) = 59 then σ else if (σ 5 (0) 5) = 3 then (zm_openPart (0) (up σ 5 (0) 4 (wr ((σ 5 (0) 4) + (1))))) else if ¬ (σ 5 (0) 5) = 2 then σ else σ) else if ¬ (c) = 114 then (if ¬ (c) = 59 then σ else if (σ 5 (0) 5) = 3 then (zm_openPart (0) (up σ 5 (0) 4 (wr ((σ 5 (0) 4) + (1))))) else if ¬ (σ 5 (0) 5) = 2 then σ else σ) else if ¬ (σ 5 (0) 5) = 2 then (if ¬ (c) = 59 then σ else if (σ 5 (0) 5) = 3 then (zm_openPart (0) (up σ 5 (0) 4 (wr ((σ 5 (0) 4) + (1))))) else if ¬ (σ 5 (0) 5) = 2 then σ else σ) else if ¬ (c) = 59 then σ else if (σ 5 (0) 5) = 3 then (zm_openPart (0) (up σ 5 (0) 4 (wr ((σ 5 (0) 4) + (1))))) else if ¬ (σ 5 (0) 5) = 2 then σ else σ) else if ¬ (σ 5 (0) 5) = 1 then (if (c) = 108 then (if ¬ (σ 5 (0) 5) = 2 then (if ¬ (c) = 59 then σ else if (σ 5 (0) 5) = 3 then (zm_openPart (0) (up σ 5 (0) 4 (wr ((σ 5 (0) 4) + (1))))) else if ¬ (σ 5 (0) 5) = 2 then σ else σ) else if ¬ (c) = 59 then σ else if (σ 5 (0) 5) = 3 then (zm_openPart (0) (up σ 5 (0) 4 (wr ((σ 5 (0) 4) + (1))))) else if ¬ (σ 5 (0) 5) = 2 then σ else σ) else if ¬ (c) = 114 then (if ¬ (c) = 59 then σ else if (σ 5 (0) 5) = 3 then (zm_openPart (0) (up σ 5 (0) 4 (wr ((σ 5 (0) 4) + (1))))) else if ¬ (σ 5 (0) 5) = 2 then σ else σ) else if ¬ (σ 5 (0) 5) = 2 then (if ¬ (c) = 59 then σ else if (σ 5 (0) 5) = 3 then (zm_openPart (0) (up σ 5 (0) 4 (wr ((σ 5 (0) 4) + (1))))) else if ¬ (σ 5 (0) 5) = 2 then σ else σ) else if ¬ (c) = 59 then σ else if (σ 5 (0) 5) = 3 then (zm_openPart (0) (up σ 5 (0) 4 (wr ((σ 5 (0) 4) + (1))))) else if ¬ (σ 5 (0) 5) = 2 then σ else σ) else if (c) = 108 then (if ¬ (σ 5 (0) 5) = 2 then (if ¬ (c) = 59 then σ else if (σ 5 (0) 5) = 3 then (zm_openPart (0) (up σ 5 (0) 4 (wr ((σ 5 (0) 4) + (1))))) else if ¬ (σ 5 (0) 5) = 2 then σ else σ) else if ¬ (c) = 59 then σ else if (σ 5 (0) 5) = 3 then (zm_openPart (0) (up σ 5 (0) 4 (wr ((σ 5 (0) 4) + (1))))) else if ¬ (σ 5 (0) 5) = 2 then σ else σ) else if ¬ (c) = 114 then (if ¬ (c) = 59 then σ else if (σ 5 (0) 5) = 3 then (zm_openPart (0) (up σ 5 (0) 4 (wr ((σ 5 (0) 4) + (1))))) else if ¬ (σ 5 (0) 5) = 2 then σ else σ) else if ¬ (σ 5 (0) 5) = 2 then (if ¬ (c) = 59 then σ else if (σ 5 (0) 5) = 3 then (zm_openPart (0) (up σ 5 (0) 4 (wr ((σ 5 (0) 4) + (1))))) else if ¬ (σ 5 (0) 5) = 2 then σ else σ) else if ¬ (c) = 59 then σ else if (σ 5 (0) 5) = 3 then (zm_openPart (0) (up σ 5 (0) 4 (wr ((σ 5 (0) 4) + (1))))) else if ¬ (σ 5 (0) 5) = 2 then σ else σ) else if ¬ (σ 5 (0) 5) = 0 then (if ¬ (c) = 58 then (if (c) = 108 then (if ¬ (σ 5 (0) 5) = 2 then (if ¬ (c) = 59 then σ else if (σ 5 (0) 5) = 3 then (zm_openPart (0) (up σ 5 (0) 4 (wr ((σ 5 (0) 4) + (1))))) else if ¬ (σ 5 (0) 5) = 2 then σ else σ) else if ¬ (c) = 59 then σ else if (σ 5 (0) 5) = 3 then (zm_openPart (0) (up σ 5 (0) 4 (wr ((σ 5 (0) 4) + (1))))) else if ¬ (σ 5 (0) 5) = 2 then σ else σ) else if ¬ (c) = 114 then (if ¬ (c) = 59 then σ else if (σ 5 (0) 5) = 3 then (zm_openPart (0) (up σ 5 (0) 4 (wr ((σ 5 (0) 4) + (1))))) else if ¬ (σ 5 (0) 5) = 2 then σ else σ) else if ¬ (σ 5 (0) 5) = 2 then (if ¬ (c) = 59 then σ else if (σ 5 (0) 5) = 3 then (zm_openPart (0) (up σ 5 (0) 4 (wr ((σ 5 (0) 4) + (1))))) else if ¬ (σ 5 (0) 5) = 2 then σ else σ) else if ¬ (c) = 59 then σ else if (σ 5 (0) 5) = 3 then (zm_openPart (0) (up σ 5 (0) 4 (wr ((σ 5 (0) 4) + (1))))) else if ¬ (σ 5 (0) 5) = 2 then σ else σ) else if ¬ (σ 5 (0) 5) = 1 then (if (c) = 108 then (if ¬ (σ 5 (0) 5) = 2 then (if ¬ (c) = 59 then σ else if (σ 5 (0) 5) = 3 then (zm_openPart (0) (up σ 5 (0) 4 (wr ((σ 5 (0) 4) + (1))))) else if ¬ (σ 5 (0) 5) = 2 then σ else σ) else if ¬ (c) = 59 then σ else if (σ 5 (0) 5) = 3 then (zm_openPart (0) (up σ 5 (0) 4 (wr ((σ 5 (0) 4) + (1))))) else if ¬ (σ 5 (0) 5) = 2 then σ else σ) else if ¬ (c) = 114 then (if ¬ (c) = 59 then σ else if (σ 5 (0) 5) = 3 then (zm_openPart (0) (up σ 5 (0) 4 (wr ((σ 5 (0) 4) + (1))))) else if ¬ (σ 5 (0) 5) = 2 then σ else σ) else if ¬ (σ 5 (0) 5) = 2 then (if ¬ (c) = 59 then σ else if (σ 5 (0) 5) = 3 then (zm_openPart (0) (up σ 5 (0) 4 (wr ((σ 5 (0) 4) + (1))))) else if ¬ (σ 5 (0) 5) = 2 then σ else σ) else if ¬ (c) = 59 then σ else if (σ 5 (0) 5) = 3 then (zm_openPart (0) (up σ 5 (0) 4 (wr ((σ 5 (0) 4) + (1))))) else if ¬ (σ 5 (0) 5) = 2 then σ else σ) else if (c) = 108 then (if ¬ (σ 5 (0) 5) = 2 then (if ¬ (c) = 59 then σ else if (σ 5 (0) 5) = 3 then (zm_openPart (0) (up σ 5 (0) 4 (wr ((σ 5 (0) 4) + (1))))) else if ¬ (σ 5 (0) 5) = 2 then σ else σ) else if ¬ (c) = 59 then σ else if (σ 5 (0) 5) = 3 then (zm_openPart (0) (up σ 5 (0) 4 (wr ((σ 5 (0) 4) + (1))))) else if ¬ (σ 5 (0) 5) = 2 then σ else σ) else if ¬ (c) = 114 then (if ¬ (c) = 59 then σ else if (σ 5 (0) 5) = 3 then (zm_openPart (0) (up σ 5 (0) 4 (wr ((σ 5 (0) 4) + (1))))) else if ¬ (σ 5 (0) 5) = 2 then σ else σ) else if ¬ (σ 5 (0) 5) = 2 then (if ¬ (c) = 59 then σ else if (σ 5 (0) 5) = 3 then (zm_openPart (0) (up σ 5 (0) 4 (wr ((σ 5 (0) 4) + (1))))) else if ¬ (σ 5 (0) 5) = 2 then σ else σ) else if ¬ (c) = 59 then σ else if (σ 5 (0) 5) = 3 then (zm_openPart (0) (up σ 5 (0) 4 (wr ((σ 5 (0) 4) + (1))))) else if ¬ (σ 5 (0) 5) = 2 then σ else σ) else if ¬ (c) = 58 then (if (c) = 108 then (if ¬ (σ 5 (0) 5) = 2 then (if ¬ (c) = 59 then σ else if (σ 5 (0) 5) = 3 then (zm_openPart (0) (up σ 5 (0) 4 (wr ((σ 5 (0) 4) + (1))))) else if ¬ (σ 5 (0) 5) = 2 then σ else σ) else if ¬ (c) = 59 then σ else if (σ 5 (0) 5) = 3 then (zm_openPart (0) (up σ 5 (0) 4 (wr ((σ 5 (0) 4) + (1))))) else if ¬ (σ 5 (0) 5) = 2 then σ else σ) else if ¬ (c) = 114 then (if ¬ (c) = 59 then σ else if (σ 5 (0) 5) = 3 then (zm_openPart (0) (up σ 5 (0) 4 (wr ((σ 5 (0) 4) + (1))))) else if ¬ (σ 5 (0) 5) = 2 then σ else σ) else if ¬ (σ 5 (0) 5) = 2 then (if ¬ (c) = 59 then σ else if (σ 5 (0) 5) = 3 then (zm_openPart (0) (up σ 5 (0) 4 (wr ((σ 5 (0) 4) + (1))))) else if ¬ (σ 5 (0) 5) = 2 then σ else σ) else if ¬ (c) = 59 then σ else if (σ 5 (0) 5) = 3 then (zm_openPart (0) (up σ 5 (0) 4 (wr ((σ 5 (0) 4) + (1))))) else if ¬ (σ 5 (0) 5) = 2 then σ else σ) else if ¬ (σ 5 (0) 5) = 1 then (if (c) = 108 then (if ¬ (σ 5 (0) 5) = 2 then (if ¬ (c) = 59 then σ else if (σ 5 (0) 5) = 3 then (zm_openPart (0) (up σ 5 (0) 4 (wr ((σ 5 (0) 4) + (1))))) else if ¬ (σ 5 (0) 5) = 2 then σ else σ) else if ¬ (c) = 59 then σ else if (σ 5 (0) 5) = 3 then (zm_openPart (0) (up σ 5 (0) 4 (wr ((σ 5 (0) 4) + (1))))) else if ¬ (σ 5 (0) 5) = 2 then σ else σ) else if ¬ (c) = 114 then (if ¬ (c) = 59 then σ else if (σ 5 (0) 5) = 3 then (zm_openPart (0) (up σ 5 (0) 4 (wr ((σ 5 (0) 4) + (1))))) else if ¬ (σ 5 (0) 5) = 2 then σ else σ) else if ¬ (σ 5 (0) 5) = 2 then (if ¬ (c) = 59 then σ else if (σ 5 (0) 5) = 3 then (zm_openPart (0) (up σ 5 (0) 4 (wr ((σ 5 (0) 4) + (1))))) else if ¬ (σ 5 (0) 5) = 2 then σ else σ) else if ¬ (c) = 59 then σ else if (σ 5 (0) 5) = 3 then (zm_openPart (0) (up σ 5 (0) 4 (wr ((σ 5 (0) 4) + (1))))) else if ¬ (σ 5 (0) 5) = 2 then σ else σ) else if (c) = 108 then (if ¬ (σ 5 (0) 5) = 2 then (if ¬ (c) = 59 then σ else if (σ 5 (0) 5) = 3 then (zm_openPart (0) (up σ 5 (0) 4 (wr ((σ 5 (0) 4) + (1))))) else if ¬ (σ 5 (0) 5) = 2 then σ else σ) else if ¬ (c) = 59 then σ else if (σ 5 (0) 5) = 3 then (zm_openPart (0) (up σ 5 (0) 4 (wr ((σ 5 (0) 4) + (1))))) else if ¬ (σ 5 (0) 5) = 2 then σ else σ) else if ¬ (c) = 114 then (if ¬ (c) = 59 then σ else if (σ 5 (0) 5) = 3 then (zm_openPart (0) (up σ 5 (0) 4 (wr ((σ 5 (0) 4) + (1))))) else if ¬ (σ 5 (0) 5) = 2 then σ else σ) else if ¬ (σ 5 (0) 5) = 2 then (if ¬ (c) = 59 then σ else if (σ 5 (0) 5) = 3 then (zm_openPart (0) (up σ 5 (0) 4 (wr ((σ 5 (0) 4) + (1))))) else if ¬ (σ 5 (0) 5) = 2 then σ else σ) else if ¬ (c) = 59 then σ else if (σ 5 (0) 5) = 3 then (zm_openPart (0) (up σ 5 (0) 4 (wr ((σ 5 (0) 4) + (1))))) else if ¬ (σ 5 (0) 5) = 2 then σ else σ) else if ¬ (c) = 61 then (if ¬ (c) = 58 then (if (c) = 108 then (if ¬ (σ 5 (0) 5) = 2 then (if ¬ (c) = 59 then σ else if (σ 5 (0) 5) = 3 then (zm_openPart (0) (up σ 5 (0) 4 (wr ((σ 5 (0) 4) + (1))))) else if ¬ (σ 5 (0) 5) = 2 then σ else (zm_openPart (0) (up σ 5 (0) 4 (wr ((σ 5 (0) 4) + (1)))))) else if ¬ (c) = 108 then (rset (zm_openPart (3) σ) (185) (wr ((wr ((4) * ((zm_openPart (3) σ) 5 (0) 4))) + (3))) (1)) else (rset (zm_openPart (3) σ) (185) (wr ((wr ((4) * ((zm_openPart (3) σ) 5 (0) 4))) + (3))) (0))) else if ¬ (c) = 114 then (if ¬ (c) = 59 then σ else if (σ 5 (0) 5) = 3 then (zm_openPart (0) (up σ 5 (0) 4 (wr ((σ 5 (0) 4) + (1))))) else if ¬ (σ 5 (0) 5) = 2 then σ else (zm_openPart (0) (up σ 5 (0) 4 (wr ((σ 5 (0) 4) + (1)))))) else if ¬ (σ 5 (0) 5) = 2 then (if ¬ (c) = 59 then σ else if (σ 5 (0) 5) = 3 then (zm_openPart (0) (up σ 5 (0) 4 (wr ((σ 5 (0) 4) + (1))))) else if ¬ (σ 5 (0) 5) = 2 then σ else (zm_openPart (0) (up σ 5 (0) 4 (wr ((σ 5 (0) 4) + (1)))))) else if ¬ (c) = 108 then (rset (zm_openPart (3) σ) (185) (wr ((wr ((4) * ((zm_openPart (3) σ) 5 (0) 4))) + (3))) (1)) else (rset (zm_openPart (3) σ) (185) (wr ((wr ((4) * ((zm_openPart (3) σ) 5 (0) 4))) + (3))) (0))) else if ¬ (σ 5 (0) 5) = 1 then (if (c) = 108 then (if ¬ (σ 5 (0) 5) = 2 then (if ¬ (c) = 59 then σ else if (σ 5 (0) 5) = 3 then (zm_openPart (0) (up σ 5 (0) 4 (wr ((σ 5 (0) 4) + (1))))) else if ¬ (σ 5 (0) 5) = 2 then σ else (zm_openPart (0) (up σ 5 (0) 4 (wr ((σ 5 (0) 4) + (1)))))) else if ¬ (c) = 108 then (rset (zm_openPart (3) σ) (185) (wr ((wr ((4) * ((zm_openPart (3) σ) 5 (0) 4))) + (3))) (1)) else (rset (zm_openPart (3) σ) (185) (wr ((wr ((4) * ((zm_openPart (3) σ) 5 (0) 4))) + (3))) (0))) else if ¬ (c) = 114 then (if ¬ (c) = 59 then σ else if (σ 5 (0) 5) = 3 then (zm_openPart (0) (up σ 5 (0) 4 (wr ((σ 5 (0) 4) + (1))))) else if ¬ (σ 5 (0) 5) = 2 then σ else (zm_openPart (0) (up σ 5 (0) 4 (wr ((σ 5 (0) 4) + (1)))))) else if ¬ (σ 5 (0) 5) = 2 then (if ¬ (c) = 59 then σ else if (σ 5 (0) 5) = 3 then (zm_openPart (0) (up σ 5 (0) 4 (wr ((σ 5 (0) 4) + (1))))) else if ¬ (σ 5 (0) 5) = 2 then σ else (zm_openPart (0) (up σ 5 (0) 4 (wr ((σ 5 (0) 4) + (1)))))) else if ¬ (c) = 108 then (rset (zm_openPart (3) σ) (185) (wr ((wr ((4) * ((zm_openPart (3) σ) 5 (0) 4))) + (3))) (1)) else (rset (zm_openPart (3) σ) (185) (wr ((wr ((4) * ((zm_openPart (3) σ) 5 (0) 4))) + (3))) (0))) else (zm_openPart (2) σ)) else if ¬ (σ 5 (0) 5) = 0 then (if ¬ (c) = 58 then (if (c) = 108 then (if ¬ (σ 5 (0) 5) = 2 then (if ¬ (c) = 59 then σ else if (σ 5 (0) 5) = 3 then (zm_openPart (0) (up σ 5 (0) 4 (wr ((σ 5 (0) 4) + (1))))) else if ¬ (σ 5 (0) 5) = 2 then σ else (zm_openPart (0) (up σ 5 (0) 4 (wr ((σ 5 (0) 4) + (1)))))) else if ¬ (c) = 108 then (rset (zm_openPart (3) σ) (185) (wr ((wr ((4) * ((zm_openPart (3) σ) 5 (0) 4))) + (3))) (1)) else (rset (zm_openPart (3) σ) (185) (wr ((wr ((4) * ((zm_openPart (3) σ) 5 (0) 4))) + (3))) (0))) else if ¬ (c) = 114 then (if ¬ (c) = 59 then σ else if (σ 5 (0) 5) = 3 then (zm_openPart (0) (up σ 5 (0) 4 (wr ((σ 5 (0) 4) + (1))))) else if ¬ (σ 5 (0) 5) = 2 then σ else (zm_openPart (0) (up σ 5 (0) 4 (wr ((σ 5 (0) 4) + (1)))))) else if ¬ (σ 5 (0) 5) = 2 then (if ¬ (c) = 59 then σ else if (σ 5 (0) 5) = 3 then (zm_openPart (0) (up σ 5 (0) 4 (wr ((σ 5 (0) 4) + (1))))) else if ¬ (σ 5 (0) 5) = 2 then σ else (zm_openPart (0) (up σ 5 (0) 4 (wr ((σ 5 (0) 4) + (1)))))) else if ¬ (c) = 108 then (rset (zm_openPart (3) σ) (185) (wr ((wr ((4) * ((zm_openPart (3) σ) 5 (0) 4))) + (3))) (1)) else (rset (zm_openPart (3) σ) (185) (wr ((wr ((4) * ((zm_openPart (3) σ) 5 (0) 4))) + (3))) (0))) else if ¬ (σ 5 (0) 5) = 1 then (if (c) = 108 then (if ¬ (σ 5 (0) 5) = 2 then (if ¬ (c) = 59 then σ else if (σ 5 (0) 5) = 3 then (zm_openPart (0) (up σ 5 (0) 4 (wr ((σ 5 (0) 4) + (1))))) else if ¬ (σ 5 (0) 5) = 2 then σ else (zm_openPart (0) (up σ 5 (0) 4 (wr ((σ 5 (0) 4) + (1)))))) else if ¬ (c) = 108 then (rset (zm_openPart (3) σ) (185) (wr ((wr ((4) * ((zm_openPart (3) σ) 5 (0) 4))) + (3))) (1)) else (rset (zm_openPart (3) σ) (185) (wr ((wr ((4) * ((zm_openPart (3) σ) 5 (0) 4))) + (3))) (0))) else if ¬ (c) = 114 then (if ¬ (c) = 59 then σ else if (σ 5 (0) 5) = 3 then (zm_openPart (0) (up σ 5 (0) 4 (wr ((σ 5 (0) 4) + (1))))) else if ¬ (σ 5 (0) 5) = 2 then σ else (zm_openPart (0) (up σ 5 (0) 4 (wr ((σ 5 (0) 4) + (1)))))) else if ¬ (σ 5 (0) 5) = 2 then (if ¬ (c) = 59 then σ else if (σ 5 (0) 5) = 3 then (zm_openPart (0) (up σ 5 (0) 4 (wr ((σ 5 (0) 4) + (1))))) else if ¬ (σ 5 (0) 5) = 2 then σ else (zm_openPart (0) (up σ 5 (0) 4 (wr ((σ 5 (0) 4) + (1)))))) else if ¬ (c) = 108 then (rset (zm_openPart (3) σ) (185) (wr ((wr ((4) * ((zm_openPart (3) σ) 5 (0) 4))) + (3))) (1)) else (rset (zm_openPart (3) σ) (185) (wr ((wr ((4) * ((zm_openPart (3) σ) 5 (0) 4))) + (3))) (0))) else (zm_openPart (2) σ)) else (zm_openPart (1) σ)) else (zm_acceptDigit (wr ((c) - (48))) σ)
theorem ev_accept (c : Int) (σ : Mem) : Ev true 65 [aR 5 (0), aI (c)] σ (.inl (some (aI (zo_accept c σ)))) (zm_accept c σ) := by
  show wp true 65 0 [some (aR 5 (0)), some (aI (c)), none] [] σ 0 0 _
  refine wp_seg 2 (P := none) (ls' := [some (aR 5 (0)), some (aI (c)), none]) (st' := [aI (48), aI (c)]) (σ' := σ) rq_65 rfl True.intro (i' := 2) rfl ?_
  refine wp_icmp rq_65 rfl (fun (h1 : (c) < 48) => ?_) (fun (h1 : ¬ ((c) < 48)) => ?_)
  · refine wp_seg 2 (P := none) (ls' := [some (aR 5 (0)), some (aI (c)), none]) (st' := [aI (σ 5 (0) 6)]) (σ' := σ) rq_65 rfl True.intro (i' := 14) rfl ?_
    refine wp_if rq_65 rfl (fun (h2 : (σ 5 (0) 6) ≤ 0) => ?_) (fun (h2 : ¬ ((σ 5 (0) 6) ≤ 0)) => ?_)
    · refine wp_seg 4 (P := none) (ls' := [some (aR 5 (0)), some (aI (c)), some (aI (0))]) (st' := [aI (61), aI (c)]) (σ' := σ) rq_65 rfl True.intro (i' := 21) rfl ?_
      refine wp_icmp rq_65 rfl (fun (h3 : ¬ (c) = 61) => ?_) (fun (h3 : ¬ (¬ (c) = 61)) => ?_)
      · refine wp_seg 2 (P := none) (ls' := [some (aR 5 (0)), some (aI (c)), some (aI (0))]) (st' := [aI (58), aI (c)]) (σ' := σ) rq_65 rfl True.intro (i' := 33) rfl ?_
        refine wp_icmp rq_65 rfl (fun (h4 : ¬ (c) = 58) => ?_) (fun (h4 : ¬ (¬ (c) = 58)) => ?_)
        · refine wp_seg 2 (P := none) (ls' := [some (aR 5 (0)), some (aI (c)), some (aI (0))]) (st' := [aI (108), aI (c)]) (σ' := σ) rq_65 rfl True.intro (i' := 46) rfl ?_
          refine wp_icmp rq_65 rfl (fun (h5 : (c) = 108) => ?_) (fun (h5 : ¬ ((c) = 108)) => ?_)
          · refine wp_seg 3 (P := none) (ls' := [some (aR 5 (0)), some (aI (c)), some (aI (0))]) (st' := [aI (2), aI (σ 5 (0) 5)]) (σ' := σ) rq_65 rfl True.intro (i' := 53) rfl ?_
            refine wp_icmp rq_65 rfl (fun (h6 : ¬ (σ 5 (0) 5) = 2) => ?_) (fun (h6 : ¬ (¬ (σ 5 (0) 5) = 2)) => ?_)
            · refine wp_seg 2 (P := none) (ls' := [some (aR 5 (0)), some (aI (c)), some (aI (0))]) (st' := [aI (59), aI (c)]) (σ' := σ) rq_65 rfl True.intro (i' := 77) rfl ?_
              refine wp_icmp rq_65 rfl (fun (h7 : ¬ (c) = 59) => ?_) (fun (h7 : ¬ (¬ (c) = 59)) => ?_)
              · refine wp_seg 1 (P := none) (ls' := [some (aR 5 (0)), some (aI (c)), some (aI (0))]) (st' := [aI (0)]) (σ' := σ) rq_65 rfl True.intro (i' := 99) rfl ?_
                refine wp_zret rq_65 rfl rt_65 ?_ ⟨?_, ?_⟩
                · first | exact Or.inl rfl | exact Or.inr rfl
                · (rw [zo_accept, if_pos h1, if_pos h2, if_pos h3, if_pos h4, if_pos h5, if_pos h6, if_pos h7]; try rfl)
                · (rw [zm_accept, if_pos h1, if_pos h2, if_pos h3, if_pos h4, if_pos h5, if_pos h6, if_pos h7]; try rfl)
              · refine wp_seg 3 (P := none) (ls' := [some (aR 5 (0)), some (aI (c)), some (aI (0))]) (st' := [aI (3), aI (σ 5 (0) 5)]) (σ' := σ) rq_65 rfl True.intro (i' := 81) rfl ?_
                refine wp_icmp rq_65 rfl (fun (h8 : (σ 5 (0) 5) = 3) => ?_) (fun (h8 : ¬ ((σ 5 (0) 5) = 3)) => ?_)
                · refine wp_seg 8 (P := none) (ls' := [some (aR 5 (0)), some (aI (c)), some (aI (0))]) (st' := [aI (0), aR 5 (0)]) (σ' := (up σ 5 (0) 4 (wr ((σ 5 (0) 4) + (1))))) rq_65 rfl True.intro (i' := 96) rfl ?_
                  refine wp_call (C := 5) (As := [aR 5 (0), aI (0)]) (rest := []) rq_65 (ev_openPart (0) (up σ 5 (0) 4 (wr ((σ 5 (0) 4) + (1)))) ) rfl rfl (show clOK 65 66 0 0 0 2 5 = true by decide +kernel) rfl (show 0 ≤ 4 by decide) (fun _ => ⟨_, rfl⟩) rfl (c' := 0) (s' := 0) rfl rfl ?_
                  refine wp_goto rq_65 rfl ?_
                  refine wp_seg 1 (P := none) (ls' := [some (aR 5 (0)), some (aI (c)), some (aI (0))]) (st' := [aI (1)]) (σ' := (zm_openPart (0) (up σ 5 (0) 4 (wr ((σ 5 (0) 4) + (1)))))) rq_65 rfl True.intro (i' := 101) rfl ?_
                  refine wp_zret rq_65 rfl rt_65 ?_ ⟨?_, ?_⟩
                  · first | exact Or.inl rfl | exact Or.inr rfl
                  · (rw [zo_accept, if_pos h1, if_pos h2, if_pos h3, if_pos h4, if_pos h5, if_pos h6, if_neg h7, if_pos h8]; try rfl)
                  · (rw [zm_accept, if_pos h1, if_pos h2, if_pos h3, if_pos h4, if_pos h5, if_pos h6, if_neg h7, if_pos h8]; try rfl)
                · refine wp_seg 3 (P := none) (ls' := [some (aR 5 (0)), some (aI (c)), some (aI (0))]) (st' := [aI (2), aI (σ 5 (0) 5)]) (σ' := σ) rq_65 rfl True.intro (i' := 85) rfl ?_
                  refine wp_icmp rq_65 rfl (fun (h9 : ¬ (σ 5 (0) 5) = 2) => ?_) (fun (h9 : ¬ (¬ (σ 5 (0) 5) = 2)) => ?_)
                  · refine wp_seg 1 (P := none) (ls' := [some (aR 5 (0)), some (aI (c)), some (aI (0))]) (st' := [aI (0)]) (σ' := σ) rq_65 rfl True.intro (i' := 99) rfl ?_
                    refine wp_zret rq_65 rfl rt_65 ?_ ⟨?_, ?_⟩
                    · first | exact Or.inl rfl | exact Or.inr rfl
                    · (rw [zo_accept, if_pos h1, if_pos h2, if_pos h3, if_pos h4, if_pos h5, if_pos h6, if_neg h7, if_neg h8, if_pos h9]; try rfl)
                    · (rw [zm_accept, if_pos h1, if_pos h2, if_pos h3, if_pos h4, if_pos h5, if_pos h6, if_neg h7, if_neg h8, if_pos h9]; try rfl)
                  · refine wp_seg 1 (P := none) (ls' := [some (aR 5 (0)), some (aI (c)), some (aI (0))]) (st' := [aI (0)]) (σ' := σ) rq_65 rfl True.intro (i' := 87) rfl ?_
                    refine wp_if rq_65 rfl (fun _ => ?_) (fun (h10 : ¬ ((0 : Int) = (0 : Int))) => absurd (show (0 : Int) = (0 : Int) from by decide) h10)
                    refine wp_seg 1 (P := none) (ls' := [some (aR 5 (0)), some (aI (c)), some (aI (0))]) (st' := [aI (0)]) (σ' := σ) rq_65 rfl True.intro (i' := 99) rfl ?_
                    refine wp_zret rq_65 rfl rt_65 ?_ ⟨?_, ?_⟩
                    · first | exact Or.inl rfl | exact Or.inr rfl
                    · (rw [zo_accept, if_pos h1, if_pos h2, if_pos h3, if_pos h4, if_pos h5, if_pos h6, if_neg h7, if_neg h8, if_neg h9]; try rfl)
                    · (rw [zm_accept, if_pos h1, if_pos h2, if_pos h3, if_pos h4, if_pos h5, if_pos h6, if_neg h7, if_neg h8, if_neg h9]; try rfl)
            · refine wp_seg 1 (P := none) (ls' := [some (aR 5 (0)), some (aI (c)), some (aI (0))]) (st' := [aI (0)]) (σ' := σ) rq_65 rfl True.intro (i' := 55) rfl ?_
              refine wp_if rq_65 rfl (fun _ => ?_) (fun (h11 : ¬ ((0 : Int) = (0 : Int))) => absurd (show (0 : Int) = (0 : Int) from by decide) h11)
              refine wp_seg 2 (P := none) (ls' := [some (aR 5 (0)), some (aI (c)), some (aI (0))]) (st' := [aI (59), aI (c)]) (σ' := σ) rq_65 rfl True.intro (i' := 77) rfl ?_
              refine wp_icmp rq_65 rfl (fun (h12 : ¬ (c) = 59) => ?_) (fun (h12 : ¬ (¬ (c) = 59)) => ?_)
              · refine wp_seg 1 (P := none) (ls' := [some (aR 5 (0)), some (aI (c)), some (aI (0))]) (st' := [aI (0)]) (σ' := σ) rq_65 rfl True.intro (i' := 99) rfl ?_
                refine wp_zret rq_65 rfl rt_65 ?_ ⟨?_, ?_⟩
                · first | exact Or.inl rfl | exact Or.inr rfl
                · (rw [zo_accept, if_pos h1, if_pos h2, if_pos h3, if_pos h4, if_pos h5, if_neg h6, if_pos h12]; try rfl)
                · (rw [zm_accept, if_pos h1, if_pos h2, if_pos h3, if_pos h4, if_pos h5, if_neg h6, if_pos h12]; try rfl)
              · refine wp_seg 3 (P := none) (ls' := [some (aR 5 (0)), some (aI (c)), some (aI (0))]) (st' := [aI (3), aI (σ 5 (0) 5)]) (σ' := σ) rq_65 rfl True.intro (i' := 81) rfl ?_
                refine wp_icmp rq_65 rfl (fun (h13 : (σ 5 (0) 5) = 3) => ?_) (fun (h13 : ¬ ((σ 5 (0) 5) = 3)) => ?_)
                · refine wp_seg 8 (P := none) (ls' := [some (aR 5 (0)), some (aI (c)), some (aI (0))]) (st' := [aI (0), aR 5 (0)]) (σ' := (up σ 5 (0) 4 (wr ((σ 5 (0) 4) + (1))))) rq_65 rfl True.intro (i' := 96) rfl ?_
                  refine wp_call (C := 5) (As := [aR 5 (0), aI (0)]) (rest := []) rq_65 (ev_openPart (0) (up σ 5 (0) 4 (wr ((σ 5 (0) 4) + (1)))) ) rfl rfl (show clOK 65 66 0 0 0 2 5 = true by decide +kernel) rfl (show 0 ≤ 4 by decide) (fun _ => ⟨_, rfl⟩) rfl (c' := 0) (s' := 0) rfl rfl ?_
                  refine wp_goto rq_65 rfl ?_
                  refine wp_seg 1 (P := none) (ls' := [some (aR 5 (0)), some (aI (c)), some (aI (0))]) (st' := [aI (1)]) (σ' := (zm_openPart (0) (up σ 5 (0) 4 (wr ((σ 5 (0) 4) + (1)))))) rq_65 rfl True.intro (i' := 101) rfl ?_
                  refine wp_zret rq_65 rfl rt_65 ?_ ⟨?_, ?_⟩
                  · first | exact Or.inl rfl | exact Or.inr rfl
                  · (rw [zo_accept, if_pos h1, if_pos h2, if_pos h3, if_pos h4, if_pos h5, if_neg h6, if_neg h12, if_pos h13]; try rfl)
                  · (rw [zm_accept, if_pos h1, if_pos h2, if_pos h3, if_pos h4, if_pos h5, if_neg h6, if_neg h12, if_pos h13]; try rfl)
                · refine wp_seg 3 (P := none) (ls' := [some (aR 5 (0)), some (aI (c)), some (aI (0))]) (st' := [aI (2), aI (σ 5 (0) 5)]) (σ' := σ) rq_65 rfl True.intro (i' := 85) rfl ?_
                  refine wp_icmp rq_65 rfl (fun (h14 : ¬ (σ 5 (0) 5) = 2) => ?_) (fun (h14 : ¬ (¬ (σ 5 (0) 5) = 2)) => ?_)
                  · refine wp_seg 1 (P := none) (ls' := [some (aR 5 (0)), some (aI (c)), some (aI (0))]) (st' := [aI (0)]) (σ' := σ) rq_65 rfl True.intro (i' := 99) rfl ?_
                    refine wp_zret rq_65 rfl rt_65 ?_ ⟨?_, ?_⟩
                    · first | exact Or.inl rfl | exact Or.inr rfl
                    · (rw [zo_accept, if_pos h1, if_pos h2, if_pos h3, if_pos h4, if_pos h5, if_neg h6, if_neg h12, if_neg h13, if_pos h14]; try rfl)
                    · (rw [zm_accept, if_pos h1, if_pos h2, if_pos h3, if_pos h4, if_pos h5, if_neg h6, if_neg h12, if_neg h13, if_pos h14]; try rfl)
                  · refine wp_seg 1 (P := none) (ls' := [some (aR 5 (0)), some (aI (c)), some (aI (0))]) (st' := [aI (0)]) (σ' := σ) rq_65 rfl True.intro (i' := 87) rfl ?_
                    refine wp_if rq_65 rfl (fun _ => ?_) (fun (h15 : ¬ ((0 : Int) = (0 : Int))) => absurd (show (0 : Int) = (0 : Int) from by decide) h15)
                    refine wp_seg 1 (P := none) (ls' := [some (aR 5 (0)), some (aI (c)), some (aI (0))]) (st' := [aI (0)]) (σ' := σ) rq_65 rfl True.intro (i' := 99) rfl ?_
                    refine wp_zret rq_65 rfl rt_65 ?_ ⟨?_, ?_⟩
                    · first | exact Or.inl rfl | exact Or.inr rfl
                    · (rw [zo_accept, if_pos h1, if_pos h2, if_pos h3, if_pos h4, if_pos h5, if_neg h6, if_neg h12, if_neg h13, if_neg h14]; try rfl)
                    · (rw [zm_accept, if_pos h1, if_pos h2, if_pos h3, if_pos h4, if_pos h5, if_neg h6, if_neg h12, if_neg h13, if_neg h14]; try rfl)
          · refine wp_seg 2 (P := none) (ls' := [some (aR 5 (0)), some (aI (c)), some (aI (0))]) (st' := [aI (114), aI (c)]) (σ' := σ) rq_65 rfl True.intro (i' := 49) rfl ?_
            refine wp_icmp rq_65 rfl (fun (h16 : ¬ (c) = 114) => ?_) (fun (h16 : ¬ (¬ (c) = 114)) => ?_)
            · refine wp_seg 2 (P := none) (ls' := [some (aR 5 (0)), some (aI (c)), some (aI (0))]) (st' := [aI (59), aI (c)]) (σ' := σ) rq_65 rfl True.intro (i' := 77) rfl ?_
              refine wp_icmp rq_65 rfl (fun (h17 : ¬ (c) = 59) => ?_) (fun (h17 : ¬ (¬ (c) = 59)) => ?_)
              · refine wp_seg 1 (P := none) (ls' := [some (aR 5 (0)), some (aI (c)), some (aI (0))]) (st' := [aI (0)]) (σ' := σ) rq_65 rfl True.intro (i' := 99) rfl ?_
                refine wp_zret rq_65 rfl rt_65 ?_ ⟨?_, ?_⟩
                · first | exact Or.inl rfl | exact Or.inr rfl
                · (rw [zo_accept, if_pos h1, if_pos h2, if_pos h3, if_pos h4, if_neg h5, if_pos h16, if_pos h17]; try rfl)
                · (rw [zm_accept, if_pos h1, if_pos h2, if_pos h3, if_pos h4, if_neg h5, if_pos h16, if_pos h17]; try rfl)
              · refine wp_seg 3 (P := none) (ls' := [some (aR 5 (0)), some (aI (c)), some (aI (0))]) (st' := [aI (3), aI (σ 5 (0) 5)]) (σ' := σ) rq_65 rfl True.intro (i' := 81) rfl ?_
                refine wp_icmp rq_65 rfl (fun (h18 : (σ 5 (0) 5) = 3) => ?_) (fun (h18 : ¬ ((σ 5 (0) 5) = 3)) => ?_)
                · refine wp_seg 8 (P := none) (ls' := [some (aR 5 (0)), some (aI (c)), some (aI (0))]) (st' := [aI (0), aR 5 (0)]) (σ' := (up σ 5 (0) 4 (wr ((σ 5 (0) 4) + (1))))) rq_65 rfl True.intro (i' := 96) rfl ?_
                  refine wp_call (C := 5) (As := [aR 5 (0), aI (0)]) (rest := []) rq_65 (ev_openPart (0) (up σ 5 (0) 4 (wr ((σ 5 (0) 4) + (1)))) ) rfl rfl (show clOK 65 66 0 0 0 2 5 = true by decide +kernel) rfl (show 0 ≤ 4 by decide) (fun _ => ⟨_, rfl⟩) rfl (c' := 0) (s' := 0) rfl rfl ?_
                  refine wp_goto rq_65 rfl ?_
                  refine wp_seg 1 (P := none) (ls' := [some (aR 5 (0)), some (aI (c)), some (aI (0))]) (st' := [aI (1)]) (σ' := (zm_openPart (0) (up σ 5 (0) 4 (wr ((σ 5 (0) 4) + (1)))))) rq_65 rfl True.intro (i' := 101) rfl ?_
                  refine wp_zret rq_65 rfl rt_65 ?_ ⟨?_, ?_⟩
                  · first | exact Or.inl rfl | exact Or.inr rfl
                  · (rw [zo_accept, if_pos h1, if_pos h2, if_pos h3, if_pos h4, if_neg h5, if_pos h16, if_neg h17, if_pos h18]; try rfl)
                  · (rw [zm_accept, if_pos h1, if_pos h2, if_pos h3, if_pos h4, if_neg h5, if_pos h16, if_neg h17, if_pos h18]; try rfl)
                · refine wp_seg 3 (P := none) (ls' := [some (aR 5 (0)), some (aI (c)), some (aI (0))]) (st' := [aI (2), aI (σ 5 (0) 5)]) (σ' := σ) rq_65 rfl True.intro (i' := 85) rfl ?_
                  refine wp_icmp rq_65 rfl (fun (h19 : ¬ (σ 5 (0) 5) = 2) => ?_) (fun (h19 : ¬ (¬ (σ 5 (0) 5) = 2)) => ?_)
                  · refine wp_seg 1 (P := none) (ls' := [some (aR 5 (0)), some (aI (c)), some (aI (0))]) (st' := [aI (0)]) (σ' := σ) rq_65 rfl True.intro (i' := 99) rfl ?_
                    refine wp_zret rq_65 rfl rt_65 ?_ ⟨?_, ?_⟩
                    · first | exact Or.inl rfl | exact Or.inr rfl
                    · (rw [zo_accept, if_pos h1, if_pos h2, if_pos h3, if_pos h4, if_neg h5, if_pos h16, if_neg h17, if_neg h18, if_pos h19]; try rfl)
                    · (rw [zm_accept, if_pos h1, if_pos h2, if_pos h3, if_pos h4, if_neg h5, if_pos h16, if_neg h17, if_neg h18, if_pos h19]; try rfl)
                  · refine wp_seg 1 (P := none) (ls' := [some (aR 5 (0)), some (aI (c)), some (aI (0))]) (st' := [aI (0)]) (σ' := σ) rq_65 rfl True.intro (i' := 87) rfl ?_
                    refine wp_if rq_65 rfl (fun _ => ?_) (fun (h20 : ¬ ((0 : Int) = (0 : Int))) => absurd (show (0 : Int) = (0 : Int) from by decide) h20)
                    refine wp_seg 1 (P := none) (ls' := [some (aR 5 (0)), some (aI (c)), some (aI (0))]) (st' := [aI (0)]) (σ' := σ) rq_65 rfl True.intro (i' := 99) rfl ?_
                    refine wp_zret rq_65 rfl rt_65 ?_ ⟨?_, ?_⟩
                    · first | exact Or.inl rfl | exact Or.inr rfl
                    · (rw [zo_accept, if_pos h1, if_pos h2, if_pos h3, if_pos h4, if_neg h5, if_pos h16, if_neg h17, if_neg h18, if_neg h19]; try rfl)
                    · (rw [zm_accept, if_pos h1, if_pos h2, if_pos h3, if_pos h4, if_neg h5, if_pos h16, if_neg h17, if_neg h18, if_neg h19]; try rfl)
            · refine wp_seg 3 (P := none) (ls' := [some (aR 5 (0)), some (aI (c)), some (aI (0))]) (st' := [aI (2), aI (σ 5 (0) 5)]) (σ' := σ) rq_65 rfl True.intro (i' := 53) rfl ?_
              refine wp_icmp rq_65 rfl (fun (h21 : ¬ (σ 5 (0) 5) = 2) => ?_) (fun (h21 : ¬ (¬ (σ 5 (0) 5) = 2)) => ?_)
              · refine wp_seg 2 (P := none) (ls' := [some (aR 5 (0)), some (aI (c)), some (aI (0))]) (st' := [aI (59), aI (c)]) (σ' := σ) rq_65 rfl True.intro (i' := 77) rfl ?_
                refine wp_icmp rq_65 rfl (fun (h22 : ¬ (c) = 59) => ?_) (fun (h22 : ¬ (¬ (c) = 59)) => ?_)
                · refine wp_seg 1 (P := none) (ls' := [some (aR 5 (0)), some (aI (c)), some (aI (0))]) (st' := [aI (0)]) (σ' := σ) rq_65 rfl True.intro (i' := 99) rfl ?_
                  refine wp_zret rq_65 rfl rt_65 ?_ ⟨?_, ?_⟩
                  · first | exact Or.inl rfl | exact Or.inr rfl
                  · (rw [zo_accept, if_pos h1, if_pos h2, if_pos h3, if_pos h4, if_neg h5, if_neg h16, if_pos h21, if_pos h22]; try rfl)
                  · (rw [zm_accept, if_pos h1, if_pos h2, if_pos h3, if_pos h4, if_neg h5, if_neg h16, if_pos h21, if_pos h22]; try rfl)
                · refine wp_seg 3 (P := none) (ls' := [some (aR 5 (0)), some (aI (c)), some (aI (0))]) (st' := [aI (3), aI (σ 5 (0) 5)]) (σ' := σ) rq_65 rfl True.intro (i' := 81) rfl ?_
                  refine wp_icmp rq_65 rfl (fun (h23 : (σ 5 (0) 5) = 3) => ?_) (fun (h23 : ¬ ((σ 5 (0) 5) = 3)) => ?_)
                  · refine wp_seg 8 (P := none) (ls' := [some (aR 5 (0)), some (aI (c)), some (aI (0))]) (st' := [aI (0), aR 5 (0)]) (σ' := (up σ 5 (0) 4 (wr ((σ 5 (0) 4) + (1))))) rq_65 rfl True.intro (i' := 96) rfl ?_
                    refine wp_call (C := 5) (As := [aR 5 (0), aI (0)]) (rest := []) rq_65 (ev_openPart (0) (up σ 5 (0) 4 (wr ((σ 5 (0) 4) + (1)))) ) rfl rfl (show clOK 65 66 0 0 0 2 5 = true by decide +kernel) rfl (show 0 ≤ 4 by decide) (fun _ => ⟨_, rfl⟩) rfl (c' := 0) (s' := 0) rfl rfl ?_
                    refine wp_goto rq_65 rfl ?_
                    refine wp_seg 1 (P := none) (ls' := [some (aR 5 (0)), some (aI (c)), some (aI (0))]) (st' := [aI (1)]) (σ' := (zm_openPart (0) (up σ 5 (0) 4 (wr ((σ 5 (0) 4) + (1)))))) rq_65 rfl True.intro (i' := 101) rfl ?_
                    refine wp_zret rq_65 rfl rt_65 ?_ ⟨?_, ?_⟩
                    · first | exact Or.inl rfl | exact Or.inr rfl
                    · (rw [zo_accept, if_pos h1, if_pos h2, if_pos h3, if_pos h4, if_neg h5, if_neg h16, if_pos h21, if_neg h22, if_pos h23]; try rfl)
                    · (rw [zm_accept, if_pos h1, if_pos h2, if_pos h3, if_pos h4, if_neg h5, if_neg h16, if_pos h21, if_neg h22, if_pos h23]; try rfl)
                  · refine wp_seg 3 (P := none) (ls' := [some (aR 5 (0)), some (aI (c)), some (aI (0))]) (st' := [aI (2), aI (σ 5 (0) 5)]) (σ' := σ) rq_65 rfl True.intro (i' := 85) rfl ?_
                    refine wp_icmp rq_65 rfl (fun (h24 : ¬ (σ 5 (0) 5) = 2) => ?_) (fun (h24 : ¬ (¬ (σ 5 (0) 5) = 2)) => ?_)
                    · refine wp_seg 1 (P := none) (ls' := [some (aR 5 (0)), some (aI (c)), some (aI (0))]) (st' := [aI (0)]) (σ' := σ) rq_65 rfl True.intro (i' := 99) rfl ?_
                      refine wp_zret rq_65 rfl rt_65 ?_ ⟨?_, ?_⟩
                      · first | exact Or.inl rfl | exact Or.inr rfl
                      · (rw [zo_accept, if_pos h1, if_pos h2, if_pos h3, if_pos h4, if_neg h5, if_neg h16, if_pos h21, if_neg h22, if_neg h23, if_pos h24]; try rfl)
                      · (rw [zm_accept, if_pos h1, if_pos h2, if_pos h3, if_pos h4, if_neg h5, if_neg h16, if_pos h21, if_neg h22, if_neg h23, if_pos h24]; try rfl)
                    · refine wp_seg 1 (P := none) (ls' := [some (aR 5 (0)), some (aI (c)), some (aI (0))]) (st' := [aI (0)]) (σ' := σ) rq_65 rfl True.intro (i' := 87) rfl ?_
                      refine wp_if rq_65 rfl (fun _ => ?_) (fun (h25 : ¬ ((0 : Int) = (0 : Int))) => absurd (show (0 : Int) = (0 : Int) from by decide) h25)
                      refine wp_seg 1 (P := none) (ls' := [some (aR 5 (0)), some (aI (c)), some (aI (0))]) (st' := [aI (0)]) (σ' := σ) rq_65 rfl True.intro (i' := 99) rfl ?_
                      refine wp_zret rq_65 rfl rt_65 ?_ ⟨?_, ?_⟩
                      · first | exact Or.inl rfl | exact Or.inr rfl
                      · (rw [zo_accept, if_pos h1, if_pos h2, if_pos h3, if_pos h4, if_neg h5, if_neg h16, if_pos h21, if_neg h22, if_neg h23, if_neg h24]; try rfl)
                      · (rw [zm_accept, if_pos h1, if_pos h2, if_pos h3, if_pos h4, if_neg h5, if_neg h16, if_pos h21, if_neg h22, if_neg h23, if_neg h24]; try rfl)
              · refine wp_seg 1 (P := none) (ls' := [some (aR 5 (0)), some (aI (c)), some (aI (0))]) (st' := [aI (0)]) (σ' := σ) rq_65 rfl True.intro (i' := 55) rfl ?_
                refine wp_if rq_65 rfl (fun _ => ?_) (fun (h26 : ¬ ((0 : Int) = (0 : Int))) => absurd (show (0 : Int) = (0 : Int) from by decide) h26)
                refine wp_seg 2 (P := none) (ls' := [some (aR 5 (0)), some (aI (c)), some (aI (0))]) (st' := [aI (59), aI (c)]) (σ' := σ) rq_65 rfl True.intro (i' := 77) rfl ?_
                refine wp_icmp rq_65 rfl (fun (h27 : ¬ (c) = 59) => ?_) (fun (h27 : ¬ (¬ (c) = 59)) => ?_)
                · refine wp_seg 1 (P := none) (ls' := [some (aR 5 (0)), some (aI (c)), some (aI (0))]) (st' := [aI (0)]) (σ' := σ) rq_65 rfl True.intro (i' := 99) rfl ?_
                  refine wp_zret rq_65 rfl rt_65 ?_ ⟨?_, ?_⟩
                  · first | exact Or.inl rfl | exact Or.inr rfl
                  · (rw [zo_accept, if_pos h1, if_pos h2, if_pos h3, if_pos h4, if_neg h5, if_neg h16, if_neg h21, if_pos h27]; try rfl)
                  · (rw [zm_accept, if_pos h1, if_pos h2, if_pos h3, if_pos h4, if_neg h5, if_neg h16, if_neg h21, if_pos h27]; try rfl)
                · refine wp_seg 3 (P := none) (ls' := [some (aR 5 (0)), some (aI (c)), some (aI (0))]) (st' := [aI (3), aI (σ 5 (0) 5)]) (σ' := σ) rq_65 rfl True.intro (i' := 81) rfl ?_
                  refine wp_icmp rq_65 rfl (fun (h28 : (σ 5 (0) 5) = 3) => ?_) (fun (h28 : ¬ ((σ 5 (0) 5) = 3)) => ?_)
                  · refine wp_seg 8 (P := none) (ls' := [some (aR 5 (0)), some (aI (c)), some (aI (0))]) (st' := [aI (0), aR 5 (0)]) (σ' := (up σ 5 (0) 4 (wr ((σ 5 (0) 4) + (1))))) rq_65 rfl True.intro (i' := 96) rfl ?_
                    refine wp_call (C := 5) (As := [aR 5 (0), aI (0)]) (rest := []) rq_65 (ev_openPart (0) (up σ 5 (0) 4 (wr ((σ 5 (0) 4) + (1)))) ) rfl rfl (show clOK 65 66 0 0 0 2 5 = true by decide +kernel) rfl (show 0 ≤ 4 by decide) (fun _ => ⟨_, rfl⟩) rfl (c' := 0) (s' := 0) rfl rfl ?_
                    refine wp_goto rq_65 rfl ?_
                    refine wp_seg 1 (P := none) (ls' := [some (aR 5 (0)), some (aI (c)), some (aI (0))]) (st' := [aI (1)]) (σ' := (zm_openPart (0) (up σ 5 (0) 4 (wr ((σ 5 (0) 4) + (1)))))) rq_65 rfl True.intro (i' := 101) rfl ?_
                    refine wp_zret rq_65 rfl rt_65 ?_ ⟨?_, ?_⟩
                    · first | exact Or.inl rfl | exact Or.inr rfl
                    · (rw [zo_accept, if_pos h1, if_pos h2, if_pos h3, if_pos h4, if_neg h5, if_neg h16, if_neg h21, if_neg h27, if_pos h28]; try rfl)
                    · (rw [zm_accept, if_pos h1, if_pos h2, if_pos h3, if_pos h4, if_neg h5, if_neg h16, if_neg h21, if_neg h27, if_pos h28]; try rfl)
                  · refine wp_seg 3 (P := none) (ls' := [some (aR 5 (0)), some (aI (c)), some (aI (0))]) (st' := [aI (2), aI (σ 5 (0) 5)]) (σ' := σ) rq_65 rfl True.intro (i' := 85) rfl ?_
                    refine wp_icmp rq_65 rfl (fun (h29 : ¬ (σ 5 (0) 5) = 2) => ?_) (fun (h29 : ¬ (¬ (σ 5 (0) 5) = 2)) => ?_)
                    · refine wp_seg 1 (P := none) (ls' := [some (aR 5 (0)), some (aI (c)), some (aI (0))]) (st' := [aI (0)]) (σ' := σ) rq_65 rfl True.intro (i' := 99) rfl ?_
                      refine wp_zret rq_65 rfl rt_65 ?_ ⟨?_, ?_⟩
                      · first | exact Or.inl rfl | exact Or.inr rfl
                      · (rw [zo_accept, if_pos h1, if_pos h2, if_pos h3, if_pos h4, if_neg h5, if_neg h16, if_neg h21, if_neg h27, if_neg h28, if_pos h29]; try rfl)
                      · (rw [zm_accept, if_pos h1, if_pos h2, if_pos h3, if_pos h4, if_neg h5, if_neg h16, if_neg h21, if_neg h27, if_neg h28, if_pos h29]; try rfl)
                    · refine wp_seg 1 (P := none) (ls' := [some (aR 5 (0)), some (aI (c)), some (aI (0))]) (st' := [aI (0)]) (σ' := σ) rq_65 rfl True.intro (i' := 87) rfl ?_
                      refine wp_if rq_65 rfl (fun _ => ?_) (fun (h30 : ¬ ((0 : Int) = (0 : Int))) => absurd (show (0 : Int) = (0 : Int) from by decide) h30)
                      refine wp_seg 1 (P := none) (ls' := [some (aR 5 (0)), some (aI (c)), some (aI (0))]) (st' := [aI (0)]) (σ' := σ) rq_65 rfl True.intro (i' := 99) rfl ?_
                      refine wp_zret rq_65 rfl rt_65 ?_ ⟨?_, ?_⟩
                      · first | exact Or.inl rfl | exact Or.inr rfl
                      · (rw [zo_accept, if_pos h1, if_pos h2, if_pos h3, if_pos h4, if_neg h5, if_neg h16, if_neg h21, if_neg h27, if_neg h28, if_neg h29]; try rfl)
                      · (rw [zm_accept, if_pos h1, if_pos h2, if_pos h3, if_pos h4, if_neg h5, if_neg h16, if_neg h21, if_neg h27, if_neg h28, if_neg h29]; try rfl)
        · refine wp_seg 3 (P := none) (ls' := [some (aR 5 (0)), some (aI (c)), some (aI (0))]) (st' := [aI (1), aI (σ 5 (0) 5)]) (σ' := σ) rq_65 rfl True.intro (i' := 37) rfl ?_
          refine wp_icmp rq_65 rfl (fun (h31 : ¬ (σ 5 (0) 5) = 1) => ?_) (fun (h31 : ¬ (¬ (σ 5 (0) 5) = 1)) => ?_)
          · refine wp_seg 2 (P := none) (ls' := [some (aR 5 (0)), some (aI (c)), some (aI (0))]) (st' := [aI (108), aI (c)]) (σ' := σ) rq_65 rfl True.intro (i' := 46) rfl ?_
            refine wp_icmp rq_65 rfl (fun (h32 : (c) = 108) => ?_) (fun (h32 : ¬ ((c) = 108)) => ?_)
            · refine wp_seg 3 (P := none) (ls' := [some (aR 5 (0)), some (aI (c)), some (aI (0))]) (st' := [aI (2), aI (σ 5 (0) 5)]) (σ' := σ) rq_65 rfl True.intro (i' := 53) rfl ?_
              refine wp_icmp rq_65 rfl (fun (h33 : ¬ (σ 5 (0) 5) = 2) => ?_) (fun (h33 : ¬ (¬ (σ 5 (0) 5) = 2)) => ?_)
              · refine wp_seg 2 (P := none) (ls' := [some (aR 5 (0)), some (aI (c)), some (aI (0))]) (st' := [aI (59), aI (c)]) (σ' := σ) rq_65 rfl True.intro (i' := 77) rfl ?_
                refine wp_icmp rq_65 rfl (fun (h34 : ¬ (c) = 59) => ?_) (fun (h34 : ¬ (¬ (c) = 59)) => ?_)
                · refine wp_seg 1 (P := none) (ls' := [some (aR 5 (0)), some (aI (c)), some (aI (0))]) (st' := [aI (0)]) (σ' := σ) rq_65 rfl True.intro (i' := 99) rfl ?_
                  refine wp_zret rq_65 rfl rt_65 ?_ ⟨?_, ?_⟩
                  · first | exact Or.inl rfl | exact Or.inr rfl
                  · (rw [zo_accept, if_pos h1, if_pos h2, if_pos h3, if_neg h4, if_pos h31, if_pos h32, if_pos h33, if_pos h34]; try rfl)
                  · (rw [zm_accept, if_pos h1, if_pos h2, if_pos h3, if_neg h4, if_pos h31, if_pos h32, if_pos h33, if_pos h34]; try rfl)
                · refine wp_seg 3 (P := none) (ls' := [some (aR 5 (0)), some (aI (c)), some (aI (0))]) (st' := [aI (3), aI (σ 5 (0) 5)]) (σ' := σ) rq_65 rfl True.intro (i' := 81) rfl ?_
                  refine wp_icmp rq_65 rfl (fun (h35 : (σ 5 (0) 5) = 3) => ?_) (fun (h35 : ¬ ((σ 5 (0) 5) = 3)) => ?_)
                  · refine wp_seg 8 (P := none) (ls' := [some (aR 5 (0)), some (aI (c)), some (aI (0))]) (st' := [aI (0), aR 5 (0)]) (σ' := (up σ 5 (0) 4 (wr ((σ 5 (0) 4) + (1))))) rq_65 rfl True.intro (i' := 96) rfl ?_
                    refine wp_call (C := 5) (As := [aR 5 (0), aI (0)]) (rest := []) rq_65 (ev_openPart (0) (up σ 5 (0) 4 (wr ((σ 5 (0) 4) + (1)))) ) rfl rfl (show clOK 65 66 0 0 0 2 5 = true by decide +kernel) rfl (show 0 ≤ 4 by decide) (fun _ => ⟨_, rfl⟩) rfl (c' := 0) (s' := 0) rfl rfl ?_
                    refine wp_goto rq_65 rfl ?_
                    refine wp_seg 1 (P := none) (ls' := [some (aR 5 (0)), some (aI (c)), some (aI (0))]) (st' := [aI (1)]) (σ' := (zm_openPart (0) (up σ 5 (0) 4 (wr ((σ 5 (0) 4) + (1)))))) rq_65 rfl True.intro (i' := 101) rfl ?_
                    refine wp_zret rq_65 rfl rt_65 ?_ ⟨?_, ?_⟩
                    · first | exact Or.inl rfl | exact Or.inr rfl
                    · (rw [zo_accept, if_pos h1, if_pos h2, if_pos h3, if_neg h4, if_pos h31, if_pos h32, if_pos h33, if_neg h34, if_pos h35]; try rfl)
                    · (rw [zm_accept, if_pos h1, if_pos h2, if_pos h3, if_neg h4, if_pos h31, if_pos h32, if_pos h33, if_neg h34, if_pos h35]; try rfl)
                  · refine wp_seg 3 (P := none) (ls' := [some (aR 5 (0)), some (aI (c)), some (aI (0))]) (st' := [aI (2), aI (σ 5 (0) 5)]) (σ' := σ) rq_65 rfl True.intro (i' := 85) rfl ?_
                    refine wp_icmp rq_65 rfl (fun (h36 : ¬ (σ 5 (0) 5) = 2) => ?_) (fun (h36 : ¬ (¬ (σ 5 (0) 5) = 2)) => ?_)
                    · refine wp_seg 1 (P := none) (ls' := [some (aR 5 (0)), some (aI (c)), some (aI (0))]) (st' := [aI (0)]) (σ' := σ) rq_65 rfl True.intro (i' := 99) rfl ?_
                      refine wp_zret rq_65 rfl rt_65 ?_ ⟨?_, ?_⟩
                      · first | exact Or.inl rfl | exact Or.inr rfl
                      · (rw [zo_accept, if_pos h1, if_pos h2, if_pos h3, if_neg h4, if_pos h31, if_pos h32, if_pos h33, if_neg h34, if_neg h35, if_pos h36]; try rfl)
                      · (rw [zm_accept, if_pos h1, if_pos h2, if_pos h3, if_neg h4, if_pos h31, if_pos h32, if_pos h33, if_neg h34, if_neg h35, if_pos h36]; try rfl)
                    · refine wp_seg 1 (P := none) (ls' := [some (aR 5 (0)), some (aI (c)), some (aI (0))]) (st' := [aI (0)]) (σ' := σ) rq_65 rfl True.intro (i' := 87) rfl ?_
                      refine wp_if rq_65 rfl (fun _ => ?_) (fun (h37 : ¬ ((0 : Int) = (0 : Int))) => absurd (show (0 : Int) = (0 : Int) from by decide) h37)
                      refine wp_seg 1 (P := none) (ls' := [some (aR 5 (0)), some (aI (c)), some (aI (0))]) (st' := [aI (0)]) (σ' := σ) rq_65 rfl True.intro (i' := 99) rfl ?_
                      refine wp_zret rq_65 rfl rt_65 ?_ ⟨?_, ?_⟩
                      · first | exact Or.inl rfl | exact Or.inr rfl
                      · (rw [zo_accept, if_pos h1, if_pos h2, if_pos h3, if_neg h4, if_pos h31, if_pos h32, if_pos h33, if_neg h34, if_neg h35, if_neg h36]; try rfl)
                      · (rw [zm_accept, if_pos h1, if_pos h2, if_pos h3, if_neg h4, if_pos h31, if_pos h32, if_pos h33, if_neg h34, if_neg h35, if_neg h36]; try rfl)
              · refine wp_seg 1 (P := none) (ls' := [some (aR 5 (0)), some (aI (c)), some (aI (0))]) (st' := [aI (0)]) (σ' := σ) rq_65 rfl True.intro (i' := 55) rfl ?_
                refine wp_if rq_65 rfl (fun _ => ?_) (fun (h38 : ¬ ((0 : Int) = (0 : Int))) => absurd (show (0 : Int) = (0 : Int) from by decide) h38)
                refine wp_seg 2 (P := none) (ls' := [some (aR 5 (0)), some (aI (c)), some (aI (0))]) (st' := [aI (59), aI (c)]) (σ' := σ) rq_65 rfl True.intro (i' := 77) rfl ?_
                refine wp_icmp rq_65 rfl (fun (h39 : ¬ (c) = 59) => ?_) (fun (h39 : ¬ (¬ (c) = 59)) => ?_)
                · refine wp_seg 1 (P := none) (ls' := [some (aR 5 (0)), some (aI (c)), some (aI (0))]) (st' := [aI (0)]) (σ' := σ) rq_65 rfl True.intro (i' := 99) rfl ?_
                  refine wp_zret rq_65 rfl rt_65 ?_ ⟨?_, ?_⟩
                  · first | exact Or.inl rfl | exact Or.inr rfl
                  · (rw [zo_accept, if_pos h1, if_pos h2, if_pos h3, if_neg h4, if_pos h31, if_pos h32, if_neg h33, if_pos h39]; try rfl)
                  · (rw [zm_accept, if_pos h1, if_pos h2, if_pos h3, if_neg h4, if_pos h31, if_pos h32, if_neg h33, if_pos h39]; try rfl)
                · refine wp_seg 3 (P := none) (ls' := [some (aR 5 (0)), some (aI (c)), some (aI (0))]) (st' := [aI (3), aI (σ 5 (0) 5)]) (σ' := σ) rq_65 rfl True.intro (i' := 81) rfl ?_
                  refine wp_icmp rq_65 rfl (fun (h40 : (σ 5 (0) 5) = 3) => ?_) (fun (h40 : ¬ ((σ 5 (0) 5) = 3)) => ?_)
                  · refine wp_seg 8 (P := none) (ls' := [some (aR 5 (0)), some (aI (c)), some (aI (0))]) (st' := [aI (0), aR 5 (0)]) (σ' := (up σ 5 (0) 4 (wr ((σ 5 (0) 4) + (1))))) rq_65 rfl True.intro (i' := 96) rfl ?_
                    refine wp_call (C := 5) (As := [aR 5 (0), aI (0)]) (rest := []) rq_65 (ev_openPart (0) (up σ 5 (0) 4 (wr ((σ 5 (0) 4) + (1)))) ) rfl rfl (show clOK 65 66 0 0 0 2 5 = true by decide +kernel) rfl (show 0 ≤ 4 by decide) (fun _ => ⟨_, rfl⟩) rfl (c' := 0) (s' := 0) rfl rfl ?_
                    refine wp_goto rq_65 rfl ?_
                    refine wp_seg 1 (P := none) (ls' := [some (aR 5 (0)), some (aI (c)), some (aI (0))]) (st' := [aI (1)]) (σ' := (zm_openPart (0) (up σ 5 (0) 4 (wr ((σ 5 (0) 4) + (1)))))) rq_65 rfl True.intro (i' := 101) rfl ?_
                    refine wp_zret rq_65 rfl rt_65 ?_ ⟨?_, ?_⟩
                    · first | exact Or.inl rfl | exact Or.inr rfl
                    · (rw [zo_accept, if_pos h1, if_pos h2, if_pos h3, if_neg h4, if_pos h31, if_pos h32, if_neg h33, if_neg h39, if_pos h40]; try rfl)
                    · (rw [zm_accept, if_pos h1, if_pos h2, if_pos h3, if_neg h4, if_pos h31, if_pos h32, if_neg h33, if_neg h39, if_pos h40]; try rfl)
                  · refine wp_seg 3 (P := none) (ls' := [some (aR 5 (0)), some (aI (c)), some (aI (0))]) (st' := [aI (2), aI (σ 5 (0) 5)]) (σ' := σ) rq_65 rfl True.intro (i' := 85) rfl ?_
                    refine wp_icmp rq_65 rfl (fun (h41 : ¬ (σ 5 (0) 5) = 2) => ?_) (fun (h41 : ¬ (¬ (σ 5 (0) 5) = 2)) => ?_)
                    · refine wp_seg 1 (P := none) (ls' := [some (aR 5 (0)), some (aI (c)), some (aI (0))]) (st' := [aI (0)]) (σ' := σ) rq_65 rfl True.intro (i' := 99) rfl ?_
                      refine wp_zret rq_65 rfl rt_65 ?_ ⟨?_, ?_⟩
                      · first | exact Or.inl rfl | exact Or.inr rfl
                      · (rw [zo_accept, if_pos h1, if_pos h2, if_pos h3, if_neg h4, if_pos h31, if_pos h32, if_neg h33, if_neg h39, if_neg h40, if_pos h41]; try rfl)
                      · (rw [zm_accept, if_pos h1, if_pos h2, if_pos h3, if_neg h4, if_pos h31, if_pos h32, if_neg h33, if_neg h39, if_neg h40, if_pos h41]; try rfl)
                    · refine wp_seg 1 (P := none) (ls' := [some (aR 5 (0)), some (aI (c)), some (aI (0))]) (st' := [aI (0)]) (σ' := σ) rq_65 rfl True.intro (i' := 87) rfl ?_
                      refine wp_if rq_65 rfl (fun _ => ?_) (fun (h42 : ¬ ((0 : Int) = (0 : Int))) => absurd (show (0 : Int) = (0 : Int) from by decide) h42)
                      refine wp_seg 1 (P := none) (ls' := [some (aR 5 (0)), some (aI (c)), some (aI (0))]) (st' := [aI (0)]) (σ' := σ) rq_65 rfl True.intro (i' := 99) rfl ?_
                      refine wp_zret rq_65 rfl rt_65 ?_ ⟨?_, ?_⟩
                      · first | exact Or.inl rfl | exact Or.inr rfl
                      · (rw [zo_accept, if_pos h1, if_pos h2, if_pos h3, if_neg h4, if_pos h31, if_pos h32, if_neg h33, if_neg h39, if_neg h40, if_neg h41]; try rfl)
                      · (rw [zm_accept, if_pos h1, if_pos h2, if_pos h3, if_neg h4, if_pos h31, if_pos h32, if_neg h33, if_neg h39, if_neg h40, if_neg h41]; try rfl)
            · refine wp_seg 2 (P := none) (ls' := [some (aR 5 (0)), some (aI (c)), some (aI (0))]) (st' := [aI (114), aI (c)]) (σ' := σ) rq_65 rfl True.intro (i' := 49) rfl ?_
              refine wp_icmp rq_65 rfl (fun (h43 : ¬ (c) = 114) => ?_) (fun (h43 : ¬ (¬ (c) = 114)) => ?_)
              · refine wp_seg 2 (P := none) (ls' := [some (aR 5 (0)), some (aI (c)), some (aI (0))]) (st' := [aI (59), aI (c)]) (σ' := σ) rq_65 rfl True.intro (i' := 77) rfl ?_
                refine wp_icmp rq_65 rfl (fun (h44 : ¬ (c) = 59) => ?_) (fun (h44 : ¬ (¬ (c) = 59)) => ?_)
                · refine wp_seg 1 (P := none) (ls' := [some (aR 5 (0)), some (aI (c)), some (aI (0))]) (st' := [aI (0)]) (σ' := σ) rq_65 rfl True.intro (i' := 99) rfl ?_
                  refine wp_zret rq_65 rfl rt_65 ?_ ⟨?_, ?_⟩
                  · first | exact Or.inl rfl | exact Or.inr rfl
                  · (rw [zo_accept, if_pos h1, if_pos h2, if_pos h3, if_neg h4, if_pos h31, if_neg h32, if_pos h43, if_pos h44]; try rfl)
                  · (rw [zm_accept, if_pos h1, if_pos h2, if_pos h3, if_neg h4, if_pos h31, if_neg h32, if_pos h43, if_pos h44]; try rfl)
                · refine wp_seg 3 (P := none) (ls' := [some (aR 5 (0)), some (aI (c)), some (aI (0))]) (st' := [aI (3), aI (σ 5 (0) 5)]) (σ' := σ) rq_65 rfl True.intro (i' := 81) rfl ?_
                  refine wp_icmp rq_65 rfl (fun (h45 : (σ 5 (0) 5) = 3) => ?_) (fun (h45 : ¬ ((σ 5 (0) 5) = 3)) => ?_)
                  · refine wp_seg 8 (P := none) (ls' := [some (aR 5 (0)), some (aI (c)), some (aI (0))]) (st' := [aI (0), aR 5 (0)]) (σ' := (up σ 5 (0) 4 (wr ((σ 5 (0) 4) + (1))))) rq_65 rfl True.intro (i' := 96) rfl ?_
                    refine wp_call (C := 5) (As := [aR 5 (0), aI (0)]) (rest := []) rq_65 (ev_openPart (0) (up σ 5 (0) 4 (wr ((σ 5 (0) 4) + (1)))) ) rfl rfl (show clOK 65 66 0 0 0 2 5 = true by decide +kernel) rfl (show 0 ≤ 4 by decide) (fun _ => ⟨_, rfl⟩) rfl (c' := 0) (s' := 0) rfl rfl ?_
                    refine wp_goto rq_65 rfl ?_
                    refine wp_seg 1 (P := none) (ls' := [some (aR 5 (0)), some (aI (c)), some (aI (0))]) (st' := [aI (1)]) (σ' := (zm_openPart (0) (up σ 5 (0) 4 (wr ((σ 5 (0) 4) + (1)))))) rq_65 rfl True.intro (i' := 101) rfl ?_
                    refine wp_zret rq_65 rfl rt_65 ?_ ⟨?_, ?_⟩
                    · first | exact Or.inl rfl | exact Or.inr rfl
                    · (rw [zo_accept, if_pos h1, if_pos h2, if_pos h3, if_neg h4, if_pos h31, if_neg h32, if_pos h43, if_neg h44, if_pos h45]; try rfl)
                    · (rw [zm_accept, if_pos h1, if_pos h2, if_pos h3, if_neg h4, if_pos h31, if_neg h32, if_pos h43, if_neg h44, if_pos h45]; try rfl)
                  · refine wp_seg 3 (P := none) (ls' := [some (aR 5 (0)), some (aI (c)), some (aI (0))]) (st' := [aI (2), aI (σ 5 (0) 5)]) (σ' := σ) rq_65 rfl True.intro (i' := 85) rfl ?_
                    refine wp_icmp rq_65 rfl (fun (h46 : ¬ (σ 5 (0) 5) = 2) => ?_) (fun (h46 : ¬ (¬ (σ 5 (0) 5) = 2)) => ?_)
                    · refine wp_seg 1 (P := none) (ls' := [some (aR 5 (0)), some (aI (c)), some (aI (0))]) (st' := [aI (0)]) (σ' := σ) rq_65 rfl True.intro (i' := 99) rfl ?_
                      refine wp_zret rq_65 rfl rt_65 ?_ ⟨?_, ?_⟩
                      · first | exact Or.inl rfl | exact Or.inr rfl
                      · (rw [zo_accept, if_pos h1, if_pos h2, if_pos h3, if_neg h4, if_pos h31, if_neg h32, if_pos h43, if_neg h44, if_neg h45, if_pos h46]; try rfl)
                      · (rw [zm_accept, if_pos h1, if_pos h2, if_pos h3, if_neg h4, if_pos h31, if_neg h32, if_pos h43, if_neg h44, if_neg h45, if_pos h46]; try rfl)
                    · refine wp_seg 1 (P := none) (ls' := [some (aR 5 (0)), some (aI (c)), some (aI (0))]) (st' := [aI (0)]) (σ' := σ) rq_65 rfl True.intro (i' := 87) rfl ?_
                      refine wp_if rq_65 rfl (fun _ => ?_) (fun (h47 : ¬ ((0 : Int) = (0 : Int))) => absurd (show (0 : Int) = (0 : Int) from by decide) h47)
                      refine wp_seg 1 (P := none) (ls' := [some (aR 5 (0)), some (aI (c)), some (aI (0))]) (st' := [aI (0)]) (σ' := σ) rq_65 rfl True.intro (i' := 99) rfl ?_
                      refine wp_zret rq_65 rfl rt_65 ?_ ⟨?_, ?_⟩
                      · first | exact Or.inl rfl | exact Or.inr rfl
                      · (rw [zo_accept, if_pos h1, if_pos h2, if_pos h3, if_neg h4, if_pos h31, if_neg h32, if_pos h43, if_neg h44, if_neg h45, if_neg h46]; try rfl)
                      · (rw [zm_accept, if_pos h1, if_pos h2, if_pos h3, if_neg h4, if_pos h31, if_neg h32, if_pos h43, if_neg h44, if_neg h45, if_neg h46]; try rfl)
              · refine wp_seg 3 (P := none) (ls' := [some (aR 5 (0)), some (aI (c)), some (aI (0))]) (st' := [aI (2), aI (σ 5 (0) 5)]) (σ' := σ) rq_65 rfl True.intro (i' := 53) rfl ?_
                refine wp_icmp rq_65 rfl (fun (h48 : ¬ (σ 5 (0) 5) = 2) => ?_) (fun (h48 : ¬ (¬ (σ 5 (0) 5) = 2)) => ?_)
                · refine wp_seg 2 (P := none) (ls' := [some (aR 5 (0)), some (aI (c)), some (aI (0))]) (st' := [aI (59), aI (c)]) (σ' := σ) rq_65 rfl True.intro (i' := 77) rfl ?_
                  refine wp_icmp rq_65 rfl (fun (h49 : ¬ (c) = 59) => ?_) (fun (h49 : ¬ (¬ (c) = 59)) => ?_)
                  · refine wp_seg 1 (P := none) (ls' := [some (aR 5 (0)), some (aI (c)), some (aI (0))]) (st' := [aI (0)]) (σ' := σ) rq_65 rfl True.intro (i' := 99) rfl ?_
                    refine wp_zret rq_65 rfl rt_65 ?_ ⟨?_, ?_⟩
                    · first | exact Or.inl rfl | exact Or.inr rfl
                    · (rw [zo_accept, if_pos h1, if_pos h2, if_pos h3, if_neg h4, if_pos h31, if_neg h32, if_neg h43, if_pos h48, if_pos h49]; try rfl)
                    · (rw [zm_accept, if_pos h1, if_pos h2, if_pos h3, if_neg h4, if_pos h31, if_neg h32, if_neg h43, if_pos h48, if_pos h49]; try rfl)
                  · refine wp_seg 3 (P := none) (ls' := [some (aR 5 (0)), some (aI (c)), some (aI (0))]) (st' := [aI (3), aI (σ 5 (0) 5)]) (σ' := σ) rq_65 rfl True.intro (i' := 81) rfl ?_
                    refine wp_icmp rq_65 rfl (fun (h50 : (σ 5 (0) 5) = 3) => ?_) (fun (h50 : ¬ ((σ 5 (0) 5) = 3)) => ?_)
                    · refine wp_seg 8 (P := none) (ls' := [some (aR 5 (0)), some (aI (c)), some (aI (0))]) (st' := [aI (0), aR 5 (0)]) (σ' := (up σ 5 (0) 4 (wr ((σ 5 (0) 4) + (1))))) rq_65 rfl True.intro (i' := 96) rfl ?_
                      refine wp_call (C := 5) (As := [aR 5 (0), aI (0)]) (rest := []) rq_65 (ev_openPart (0) (up σ 5 (0) 4 (wr ((σ 5 (0) 4) + (1)))) ) rfl rfl (show clOK 65 66 0 0 0 2 5 = true by decide +kernel) rfl (show 0 ≤ 4 by decide) (fun _ => ⟨_, rfl⟩) rfl (c' := 0) (s' := 0) rfl rfl ?_
                      refine wp_goto rq_65 rfl ?_
                      refine wp_seg 1 (P := none) (ls' := [some (aR 5 (0)), some (aI (c)), some (aI (0))]) (st' := [aI (1)]) (σ' := (zm_openPart (0) (up σ 5 (0) 4 (wr ((σ 5 (0) 4) + (1)))))) rq_65 rfl True.intro (i' := 101) rfl ?_
                      refine wp_zret rq_65 rfl rt_65 ?_ ⟨?_, ?_⟩
                      · first | exact Or.inl rfl | exact Or.inr rfl
                      · (rw [zo_accept, if_pos h1, if_pos h2, if_pos h3, if_neg h4, if_pos h31, if_neg h32, if_neg h43, if_pos h48, if_neg h49, if_pos h50]; try rfl)
                      · (rw [zm_accept, if_pos h1, if_pos h2, if_pos h3, if_neg h4, if_pos h31, if_neg h32, if_neg h43, if_pos h48, if_neg h49, if_pos h50]; try rfl)
                    · refine wp_seg 3 (P := none) (ls' := [some (aR 5 (0)), some (aI (c)), some (aI (0))]) (st' := [aI (2), aI (σ 5 (0) 5)]) (σ' := σ) rq_65 rfl True.intro (i' := 85) rfl ?_
                      refine wp_icmp rq_65 rfl (fun (h51 : ¬ (σ 5 (0) 5) = 2) => ?_) (fun (h51 : ¬ (¬ (σ 5 (0) 5) = 2)) => ?_)
                      · refine wp_seg 1 (P := none) (ls' := [some (aR 5 (0)), some (aI (c)), some (aI (0))]) (st' := [aI (0)]) (σ' := σ) rq_65 rfl True.intro (i' := 99) rfl ?_
                        refine wp_zret rq_65 rfl rt_65 ?_ ⟨?_, ?_⟩
                        · first | exact Or.inl rfl | exact Or.inr rfl
                        · (rw [zo_accept, if_pos h1, if_pos h2, if_pos h3, if_neg h4, if_pos h31, if_neg h32, if_neg h43, if_pos h48, if_neg h49, if_neg h50, if_pos h51]; try rfl)
                        · (rw [zm_accept, if_pos h1, if_pos h2, if_pos h3, if_neg h4, if_pos h31, if_neg h32, if_neg h43, if_pos h48, if_neg h49, if_neg h50, if_pos h51]; try rfl)
                      · refine wp_seg 1 (P := none) (ls' := [some (aR 5 (0)), some (aI (c)), some (aI (0))]) (st' := [aI (0)]) (σ' := σ) rq_65 rfl True.intro (i' := 87) rfl ?_
                        refine wp_if rq_65 rfl (fun _ => ?_) (fun (h52 : ¬ ((0 : Int) = (0 : Int))) => absurd (show (0 : Int) = (0 : Int) from by decide) h52)
                        refine wp_seg 1 (P := none) (ls' := [some (aR 5 (0)), some (aI (c)), some (aI (0))]) (st' := [aI (0)]) (σ' := σ) rq_65 rfl True.intro (i' := 99) rfl ?_
                        refine wp_zret rq_65 rfl rt_65 ?_ ⟨?_, ?_⟩
                        · first | exact Or.inl rfl | exact Or.inr rfl
                        · (rw [zo_accept, if_pos h1, if_pos h2, if_pos h3, if_neg h4, if_pos h31, if_neg h32, if_neg h43, if_pos h48, if_neg h49, if_neg h50, if_neg h51]; try rfl)
                        · (rw [zm_accept, if_pos h1, if_pos h2, if_pos h3, if_neg h4, if_pos h31, if_neg h32, if_neg h43, if_pos h48, if_neg h49, if_neg h50, if_neg h51]; try rfl)
                · refine wp_seg 1 (P := none) (ls' := [some (aR 5 (0)), some (aI (c)), some (aI (0))]) (st' := [aI (0)]) (σ' := σ) rq_65 rfl True.intro (i' := 55) rfl ?_
                  refine wp_if rq_65 rfl (fun _ => ?_) (fun (h53 : ¬ ((0 : Int) = (0 : Int))) => absurd (show (0 : Int) = (0 : Int) from by decide) h53)
                  refine wp_seg 2 (P := none) (ls' := [some (aR 5 (0)), some (aI (c)), some (aI (0))]) (st' := [aI (59), aI (c)]) (σ' := σ) rq_65 rfl True.intro (i' := 77) rfl ?_
                  refine wp_icmp rq_65 rfl (fun (h54 : ¬ (c) = 59) => ?_) (fun (h54 : ¬ (¬ (c) = 59)) => ?_)
                  · refine wp_seg 1 (P := none) (ls' := [some (aR 5 (0)), some (aI (c)), some (aI (0))]) (st' := [aI (0)]) (σ' := σ) rq_65 rfl True.intro (i' := 99) rfl ?_
                    refine wp_zret rq_65 rfl rt_65 ?_ ⟨?_, ?_⟩
                    · first | exact Or.inl rfl | exact Or.inr rfl
                    · (rw [zo_accept, if_pos h1, if_pos h2, if_pos h3, if_neg h4, if_pos h31, if_neg h32, if_neg h43, if_neg h48, if_pos h54]; try rfl)
                    · (rw [zm_accept, if_pos h1, if_pos h2, if_pos h3, if_neg h4, if_pos h31, if_neg h32, if_neg h43, if_neg h48, if_pos h54]; try rfl)
                  · refine wp_seg 3 (P := none) (ls' := [some (aR 5 (0)), some (aI (c)), some (aI (0))]) (st' := [aI (3), aI (σ 5 (0) 5)]) (σ' := σ) rq_65 rfl True.intro (i' := 81) rfl ?_
                    refine wp_icmp rq_65 rfl (fun (h55 : (σ 5 (0) 5) = 3) => ?_) (fun (h55 : ¬ ((σ 5 (0) 5) = 3)) => ?_)
                    · refine wp_seg 8 (P := none) (ls' := [some (aR 5 (0)), some (aI (c)), some (aI (0))]) (st' := [aI (0), aR 5 (0)]) (σ' := (up σ 5 (0) 4 (wr ((σ 5 (0) 4) + (1))))) rq_65 rfl True.intro (i' := 96) rfl ?_
                      refine wp_call (C := 5) (As := [aR 5 (0), aI (0)]) (rest := []) rq_65 (ev_openPart (0) (up σ 5 (0) 4 (wr ((σ 5 (0) 4) + (1)))) ) rfl rfl (show clOK 65 66 0 0 0 2 5 = true by decide +kernel) rfl (show 0 ≤ 4 by decide) (fun _ => ⟨_, rfl⟩) rfl (c' := 0) (s' := 0) rfl rfl ?_
                      refine wp_goto rq_65 rfl ?_
                      refine wp_seg 1 (P := none) (ls' := [some (aR 5 (0)), some (aI (c)), some (aI (0))]) (st' := [aI (1)]) (σ' := (zm_openPart (0) (up σ 5 (0) 4 (wr ((σ 5 (0) 4) + (1)))))) rq_65 rfl True.intro (i' := 101) rfl ?_
                      refine wp_zret rq_65 rfl rt_65 ?_ ⟨?_, ?_⟩
                      · first | exact Or.inl rfl | exact Or.inr rfl
                      · (rw [zo_accept, if_pos h1, if_pos h2, if_pos h3, if_neg h4, if_pos h31, if_neg h32, if_neg h43, if_neg h48, if_neg h54, if_pos h55]; try rfl)
                      · (rw [zm_accept, if_pos h1, if_pos h2, if_pos h3, if_neg h4, if_pos h31, if_neg h32, if_neg h43, if_neg h48, if_neg h54, if_pos h55]; try rfl)
                    · refine wp_seg 3 (P := none) (ls' := [some (aR 5 (0)), some (aI (c)), some (aI (0))]) (st' := [aI (2), aI (σ 5 (0) 5)]) (σ' := σ) rq_65 rfl True.intro (i' := 85) rfl ?_
                      refine wp_icmp rq_65 rfl (fun (h56 : ¬ (σ 5 (0) 5) = 2) => ?_) (fun (h56 : ¬ (¬ (σ 5 (0) 5) = 2)) => ?_)
                      · refine wp_seg 1 (P := none) (ls' := [some (aR 5 (0)), some (aI (c)), some (aI (0))]) (st' := [aI (0)]) (σ' := σ) rq_65 rfl True.intro (i' := 99) rfl ?_
                        refine wp_zret rq_65 rfl rt_65 ?_ ⟨?_, ?_⟩
                        · first | exact Or.inl rfl | exact Or.inr rfl
                        · (rw [zo_accept, if_pos h1, if_pos h2, if_pos h3, if_neg h4, if_pos h31, if_neg h32, if_neg h43, if_neg h48, if_neg h54, if_neg h55, if_pos h56]; try rfl)
                        · (rw [zm_accept, if_pos h1, if_pos h2, if_pos h3, if_neg h4, if_pos h31, if_neg h32, if_neg h43, if_neg h48, if_neg h54, if_neg h55, if_pos h56]; try rfl)
                      · refine wp_seg 1 (P := none) (ls' := [some (aR 5 (0)), some (aI (c)), some (aI (0))]) (st' := [aI (0)]) (σ' := σ) rq_65 rfl True.intro (i' := 87) rfl ?_
                        refine wp_if rq_65 rfl (fun _ => ?_) (fun (h57 : ¬ ((0 : Int) = (0 : Int))) => absurd (show (0 : Int) = (0 : Int) from by decide) h57)
                        refine wp_seg 1 (P := none) (ls' := [some (aR 5 (0)), some (aI (c)), some (aI (0))]) (st' := [aI (0)]) (σ' := σ) rq_65 rfl True.intro (i' := 99) rfl ?_
                        refine wp_zret rq_65 rfl rt_65 ?_ ⟨?_, ?_⟩
                        · first | exact Or.inl rfl | exact Or.inr rfl
                        · (rw [zo_accept, if_pos h1, if_pos h2, if_pos h3, if_neg h4, if_pos h31, if_neg h32, if_neg h43, if_neg h48, if_neg h54, if_neg h55, if_neg h56]; try rfl)
                        · (rw [zm_accept, if_pos h1, if_pos h2, if_pos h3, if_neg h4, if_pos h31, if_neg h32, if_neg h43, if_neg h48, if_neg h54, if_neg h55, if_neg h56]; try rfl)
          · refine wp_seg 1 (P := none) (ls' := [some (aR 5 (0)), some (aI (c)), some (aI (0))]) (st' := [aI (0)]) (σ' := σ) rq_65 rfl True.intro (i' := 39) rfl ?_
            refine wp_if rq_65 rfl (fun _ => ?_) (fun (h58 : ¬ ((0 : Int) = (0 : Int))) => absurd (show (0 : Int) = (0 : Int) from by decide) h58)
            refine wp_seg 2 (P := none) (ls' := [some (aR 5 (0)), some (aI (c)), some (aI (0))]) (st' := [aI (108), aI (c)]) (σ' := σ) rq_65 rfl True.intro (i' := 46) rfl ?_
            refine wp_icmp rq_65 rfl (fun (h59 : (c) = 108) => ?_) (fun (h59 : ¬ ((c) = 108)) => ?_)
            · refine wp_seg 3 (P := none) (ls' := [some (aR 5 (0)), some (aI (c)), some (aI (0))]) (st' := [aI (2), aI (σ 5 (0) 5)]) (σ' := σ) rq_65 rfl True.intro (i' := 53) rfl ?_
              refine wp_icmp rq_65 rfl (fun (h60 : ¬ (σ 5 (0) 5) = 2) => ?_) (fun (h60 : ¬ (¬ (σ 5 (0) 5) = 2)) => ?_)
              · refine wp_seg 2 (P := none) (ls' := [some (aR 5 (0)), some (aI (c)), some (aI (0))]) (st' := [aI (59), aI (c)]) (σ' := σ) rq_65 rfl True.intro (i' := 77) rfl ?_
                refine wp_icmp rq_65 rfl (fun (h61 : ¬ (c) = 59) => ?_) (fun (h61 : ¬ (¬ (c) = 59)) => ?_)
                · refine wp_seg 1 (P := none) (ls' := [some (aR 5 (0)), some (aI (c)), some (aI (0))]) (st' := [aI (0)]) (σ' := σ) rq_65 rfl True.intro (i' := 99) rfl ?_
                  refine wp_zret rq_65 rfl rt_65 ?_ ⟨?_, ?_⟩
                  · first | exact Or.inl rfl | exact Or.inr rfl
                  · (rw [zo_accept, if_pos h1, if_pos h2, if_pos h3, if_neg h4, if_neg h31, if_pos h59, if_pos h60, if_pos h61]; try rfl)
                  · (rw [zm_accept, if_pos h1, if_pos h2, if_pos h3, if_neg h4, if_neg h31, if_pos h59, if_pos h60, if_pos h61]; try rfl)
                · refine wp_seg 3 (P := none) (ls' := [some (aR 5 (0)), some (aI (c)), some (aI (0))]) (st' := [aI (3), aI (σ 5 (0) 5)]) (σ' := σ) rq_65 rfl True.intro (i' := 81) rfl ?_
                  refine wp_icmp rq_65 rfl (fun (h62 : (σ 5 (0) 5) = 3) => ?_) (fun (h62 : ¬ ((σ 5 (0) 5) = 3)) => ?_)
                  · refine wp_seg 8 (P := none) (ls' := [some (aR 5 (0)), some (aI (c)), some (aI (0))]) (st' := [aI (0), aR 5 (0)]) (σ' := (up σ 5 (0) 4 (wr ((σ 5 (0) 4) + (1))))) rq_65 rfl True.intro (i' := 96) rfl ?_
                    refine wp_call (C := 5) (As := [aR 5 (0), aI (0)]) (rest := []) rq_65 (ev_openPart (0) (up σ 5 (0) 4 (wr ((σ 5 (0) 4) + (1)))) ) rfl rfl (show clOK 65 66 0 0 0 2 5 = true by decide +kernel) rfl (show 0 ≤ 4 by decide) (fun _ => ⟨_, rfl⟩) rfl (c' := 0) (s' := 0) rfl rfl ?_
                    refine wp_goto rq_65 rfl ?_
                    refine wp_seg 1 (P := none) (ls' := [some (aR 5 (0)), some (aI (c)), some (aI (0))]) (st' := [aI (1)]) (σ' := (zm_openPart (0) (up σ 5 (0) 4 (wr ((σ 5 (0) 4) + (1)))))) rq_65 rfl True.intro (i' := 101) rfl ?_
                    refine wp_zret rq_65 rfl rt_65 ?_ ⟨?_, ?_⟩
                    · first | exact Or.inl rfl | exact Or.inr rfl
                    · (rw [zo_accept, if_pos h1, if_pos h2, if_pos h3, if_neg h4, if_neg h31, if_pos h59, if_pos h60, if_neg h61, if_pos h62]; try rfl)
                    · (rw [zm_accept, if_pos h1, if_pos h2, if_pos h3, if_neg h4, if_neg h31, if_pos h59, if_pos h60, if_neg h61, if_pos h62]; try rfl)
                  · refine wp_seg 3 (P := none) (ls' := [some (aR 5 (0)), some (aI (c)), some (aI (0))]) (st' := [aI (2), aI (σ 5 (0) 5)]) (σ' := σ) rq_65 rfl True.intro (i' := 85) rfl ?_
                    refine wp_icmp rq_65 rfl (fun (h63 : ¬ (σ 5 (0) 5) = 2) => ?_) (fun (h63 : ¬ (¬ (σ 5 (0) 5) = 2)) => ?_)
                    · refine wp_seg 1 (P := none) (ls' := [some (aR 5 (0)), some (aI (c)), some (aI (0))]) (st' := [aI (0)]) (σ' := σ) rq_65 rfl True.intro (i' := 99) rfl ?_
                      refine wp_zret rq_65 rfl rt_65 ?_ ⟨?_, ?_⟩
                      · first | exact Or.inl rfl | exact Or.inr rfl
                      · (rw [zo_accept, if_pos h1, if_pos h2, if_pos h3, if_neg h4, if_neg h31, if_pos h59, if_pos h60, if_neg h61, if_neg h62, if_pos h63]; try rfl)
                      · (rw [zm_accept, if_pos h1, if_pos h2, if_pos h3, if_neg h4, if_neg h31, if_pos h59, if_pos h60, if_neg h61, if_neg h62, if_pos h63]; try rfl)
                    · refine wp_seg 1 (P := none) (ls' := [some (aR 5 (0)), some (aI (c)), some (aI (0))]) (st' := [aI (0)]) (σ' := σ) rq_65 rfl True.intro (i' := 87) rfl ?_
                      refine wp_if rq_65 rfl (fun _ => ?_) (fun (h64 : ¬ ((0 : Int) = (0 : Int))) => absurd (show (0 : Int) = (0 : Int) from by decide) h64)
                      refine wp_seg 1 (P := none) (ls' := [some (aR 5 (0)), some (aI (c)), some (aI (0))]) (st' := [aI (0)]) (σ' := σ) rq_65 rfl True.intro (i' := 99) rfl ?_
                      refine wp_zret rq_65 rfl rt_65 ?_ ⟨?_, ?_⟩
                      · first | exact Or.inl rfl | exact Or.inr rfl
                      · (rw [zo_accept, if_pos h1, if_pos h2, if_pos h3, if_neg h4, if_neg h31, if_pos h59, if_pos h60, if_neg h61, if_neg h62, if_neg h63]; try rfl)
                      · (rw [zm_accept, if_pos h1, if_pos h2, if_pos h3, if_neg h4, if_neg h31, if_pos h59, if_pos h60, if_neg h61, if_neg h62, if_neg h63]; try rfl)
              · refine wp_seg 1 (P := none) (ls' := [some (aR 5 (0)), some (aI (c)), some (aI (0))]) (st' := [aI (0)]) (σ' := σ) rq_65 rfl True.intro (i' := 55) rfl ?_
                refine wp_if rq_65 rfl (fun _ => ?_) (fun (h65 : ¬ ((0 : Int) = (0 : Int))) => absurd (show (0 : Int) = (0 : Int) from by decide) h65)
                refine wp_seg 2 (P := none) (ls' := [some (aR 5 (0)), some (aI (c)), some (aI (0))]) (st' := [aI (59), aI (c)]) (σ' := σ) rq_65 rfl True.intro (i' := 77) rfl ?_
                refine wp_icmp rq_65 rfl (fun (h66 : ¬ (c) = 59) => ?_) (fun (h66 : ¬ (¬ (c) = 59)) => ?_)
                · refine wp_seg 1 (P := none) (ls' := [some (aR 5 (0)), some (aI (c)), some (aI (0))]) (st' := [aI (0)]) (σ' := σ) rq_65 rfl True.intro (i' := 99) rfl ?_
                  refine wp_zret rq_65 rfl rt_65 ?_ ⟨?_, ?_⟩
                  · first | exact Or.inl rfl | exact Or.inr rfl
                  · (rw [zo_accept, if_pos h1, if_pos h2, if_pos h3, if_neg h4, if_neg h31, if_pos h59, if_neg h60, if_pos h66]; try rfl)
                  · (rw [zm_accept, if_pos h1, if_pos h2, if_pos h3, if_neg h4, if_neg h31, if_pos h59, if_neg h60, if_pos h66]; try rfl)
                · refine wp_seg 3 (P := none) (ls' := [some (aR 5 (0)), some (aI (c)), some (aI (0))]) (st' := [aI (3), aI (σ 5 (0) 5)]) (σ' := σ) rq_65 rfl True.intro (i' := 81) rfl ?_
                  refine wp_icmp rq_65 rfl (fun (h67 : (σ 5 (0) 5) = 3) => ?_) (fun (h67 : ¬ ((σ 5 (0) 5) = 3)) => ?_)
                  · refine wp_seg 8 (P := none) (ls' := [some (aR 5 (0)), some (aI (c)), some (aI (0))]) (st' := [aI (0), aR 5 (0)]) (σ' := (up σ 5 (0) 4 (wr ((σ 5 (0) 4) + (1))))) rq_65 rfl True.intro (i' := 96) rfl ?_
                    refine wp_call (C := 5) (As := [aR 5 (0), aI (0)]) (rest := []) rq_65 (ev_openPart (0) (up σ 5 (0) 4 (wr ((σ 5 (0) 4) + (1)))) ) rfl rfl (show clOK 65 66 0 0 0 2 5 = true by decide +kernel) rfl (show 0 ≤ 4 by decide) (fun _ => ⟨_, rfl⟩) rfl (c' := 0) (s' := 0) rfl rfl ?_
                    refine wp_goto rq_65 rfl ?_
                    refine wp_seg 1 (P := none) (ls' := [some (aR 5 (0)), some (aI (c)), some (aI (0))]) (st' := [aI (1)]) (σ' := (zm_openPart (0) (up σ 5 (0) 4 (wr ((σ 5 (0) 4) + (1)))))) rq_65 rfl True.intro (i' := 101) rfl ?_
                    refine wp_zret rq_65 rfl rt_65 ?_ ⟨?_, ?_⟩
                    · first | exact Or.inl rfl | exact Or.inr rfl
                    · (rw [zo_accept, if_pos h1, if_pos h2, if_pos h3, if_neg h4, if_neg h31, if_pos h59, if_neg h60, if_neg h66, if_pos h67]; try rfl)
                    · (rw [zm_accept, if_pos h1, if_pos h2, if_pos h3, if_neg h4, if_neg h31, if_pos h59, if_neg h60, if_neg h66, if_pos h67]; try rfl)
                  · refine wp_seg 3 (P := none) (ls' := [some (aR 5 (0)), some (aI (c)), some (aI (0))]) (st' := [aI (2), aI (σ 5 (0) 5)]) (σ' := σ) rq_65 rfl True.intro (i' := 85) rfl ?_
                    refine wp_icmp rq_65 rfl (fun (h68 : ¬ (σ 5 (0) 5) = 2) => ?_) (fun (h68 : ¬ (¬ (σ 5 (0) 5) = 2)) => ?_)
                    · refine wp_seg 1 (P := none) (ls' := [some (aR 5 (0)), some (aI (c)), some (aI (0))]) (st' := [aI (0)]) (σ' := σ) rq_65 rfl True.intro (i' := 99) rfl ?_
                      refine wp_zret rq_65 rfl rt_65 ?_ ⟨?_, ?_⟩
                      · first | exact Or.inl rfl | exact Or.inr rfl
                      · (rw [zo_accept, if_pos h1, if_pos h2, if_pos h3, if_neg h4, if_neg h31, if_pos h59, if_neg h60, if_neg h66, if_neg h67, if_pos h68]; try rfl)
                      · (rw [zm_accept, if_pos h1, if_pos h2, if_pos h3, if_neg h4, if_neg h31, if_pos h59, if_neg h60, if_neg h66, if_neg h67, if_pos h68]; try rfl)
                    · refine wp_seg 1 (P := none) (ls' := [some (aR 5 (0)), some (aI (c)), some (aI (0))]) (st' := [aI (0)]) (σ' := σ) rq_65 rfl True.intro (i' := 87) rfl ?_
                      refine wp_if rq_65 rfl (fun _ => ?_) (fun (h69 : ¬ ((0 : Int) = (0 : Int))) => absurd (show (0 : Int) = (0 : Int) from by decide) h69)
                      refine wp_seg 1 (P := none) (ls' := [some (aR 5 (0)), some (aI (c)), some (aI (0))]) (st' := [aI (0)]) (σ' := σ) rq_65 rfl True.intro (i' := 99) rfl ?_
                      refine wp_zret rq_65 rfl rt_65 ?_ ⟨?_, ?_⟩
                      · first | exact Or.inl rfl | exact Or.inr rfl
                      · (rw [zo_accept, if_pos h1, if_pos h2, if_pos h3, if_neg h4, if_neg h31, if_pos h59, if_neg h60, if_neg h66, if_neg h67, if_neg h68]; try rfl)
                      · (rw [zm_accept, if_pos h1, if_pos h2, if_pos h3, if_neg h4, if_neg h31, if_pos h59, if_neg h60, if_neg h66, if_neg h67, if_neg h68]; try rfl)
            · refine wp_seg 2 (P := none) (ls' := [some (aR 5 (0)), some (aI (c)), some (aI (0))]) (st' := [aI (114), aI (c)]) (σ' := σ) rq_65 rfl True.intro (i' := 49) rfl ?_
              refine wp_icmp rq_65 rfl (fun (h70 : ¬ (c) = 114) => ?_) (fun (h70 : ¬ (¬ (c) = 114)) => ?_)
              · refine wp_seg 2 (P := none) (ls' := [some (aR 5 (0)), some (aI (c)), some (aI (0))]) (st' := [aI (59), aI (c)]) (σ' := σ) rq_65 rfl True.intro (i' := 77) rfl ?_
                refine wp_icmp rq_65 rfl (fun (h71 : ¬ (c) = 59) => ?_) (fun (h71 : ¬ (¬ (c) = 59)) => ?_)
                · refine wp_seg 1 (P := none) (ls' := [some (aR 5 (0)), some (aI (c)), some (aI (0))]) (st' := [aI (0)]) (σ' := σ) rq_65 rfl True.intro (i' := 99) rfl ?_
                  refine wp_zret rq_65 rfl rt_65 ?_ ⟨?_, ?_⟩
                  · first | exact Or.inl rfl | exact Or.inr rfl
                  · (rw [zo_accept, if_pos h1, if_pos h2, if_pos h3, if_neg h4, if_neg h31, if_neg h59, if_pos h70, if_pos h71]; try rfl)
                  · (rw [zm_accept, if_pos h1, if_pos h2, if_pos h3, if_neg h4, if_neg h31, if_neg h59, if_pos h70, if_pos h71]; try rfl)
                · refine wp_seg 3 (P := none) (ls' := [some (aR 5 (0)), some (aI (c)), some (aI (0))]) (st' := [aI (3), aI (σ 5 (0) 5)]) (σ' := σ) rq_65 rfl True.intro (i' := 81) rfl ?_
                  refine wp_icmp rq_65 rfl (fun (h72 : (σ 5 (0) 5) = 3) => ?_) (fun (h72 : ¬ ((σ 5 (0) 5) = 3)) => ?_)
                  · refine wp_seg 8 (P := none) (ls' := [some (aR 5 (0)), some (aI (c)), some (aI (0))]) (st' := [aI (0), aR 5 (0)]) (σ' := (up σ 5 (0) 4 (wr ((σ 5 (0) 4) + (1))))) rq_65 rfl True.intro (i' := 96) rfl ?_
                    refine wp_call (C := 5) (As := [aR 5 (0), aI (0)]) (rest := []) rq_65 (ev_openPart (0) (up σ 5 (0) 4 (wr ((σ 5 (0) 4) + (1)))) ) rfl rfl (show clOK 65 66 0 0 0 2 5 = true by decide +kernel) rfl (show 0 ≤ 4 by decide) (fun _ => ⟨_, rfl⟩) rfl (c' := 0) (s' := 0) rfl rfl ?_
                    refine wp_goto rq_65 rfl ?_
                    refine wp_seg 1 (P := none) (ls' := [some (aR 5 (0)), some (aI (c)), some (aI (0))]) (st' := [aI (1)]) (σ' := (zm_openPart (0) (up σ 5 (0) 4 (wr ((σ 5 (0) 4) + (1)))))) rq_65 rfl True.intro (i' := 101) rfl ?_
                    refine wp_zret rq_65 rfl rt_65 ?_ ⟨?_, ?_⟩
                    · first | exact Or.inl rfl | exact Or.inr rfl
                    · (rw [zo_accept, if_pos h1, if_pos h2, if_pos h3, if_neg h4, if_neg h31, if_neg h59, if_pos h70, if_neg h71, if_pos h72]; try rfl)
                    · (rw [zm_accept, if_pos h1, if_pos h2, if_pos h3, if_neg h4, if_neg h31, if_neg h59, if_pos h70, if_neg h71, if_pos h72]; try rfl)
                  · refine wp_seg 3 (P := none) (ls' := [some (aR 5 (0)), some (aI (c)), some (aI (0))]) (st' := [aI (2), aI (σ 5 (0) 5)]) (σ' := σ) rq_65 rfl True.intro (i' := 85) rfl ?_
                    refine wp_icmp rq_65 rfl (fun (h73 : ¬ (σ 5 (0) 5) = 2) => ?_) (fun (h73 : ¬ (¬ (σ 5 (0) 5) = 2)) => ?_)
                    · refine wp_seg 1 (P := none) (ls' := [some (aR 5 (0)), some (aI (c)), some (aI (0))]) (st' := [aI (0)]) (σ' := σ) rq_65 rfl True.intro (i' := 99) rfl ?_
                      refine wp_zret rq_65 rfl rt_65 ?_ ⟨?_, ?_⟩
                      · first | exact Or.inl rfl | exact Or.inr rfl
                      · (rw [zo_accept, if_pos h1, if_pos h2, if_pos h3, if_neg h4, if_neg h31, if_neg h59, if_pos h70, if_neg h71, if_neg h72, if_pos h73]; try rfl)
                      · (rw [zm_accept, if_pos h1, if_pos h2, if_pos h3, if_neg h4, if_neg h31, if_neg h59, if_pos h70, if_neg h71, if_neg h72, if_pos h73]; try rfl)
                    · refine wp_seg 1 (P := none) (ls' := [some (aR 5 (0)), some (aI (c)), some (aI (0))]) (st' := [aI (0)]) (σ' := σ) rq_65 rfl True.intro (i' := 87) rfl ?_
                      refine wp_if rq_65 rfl (fun _ => ?_) (fun (h74 : ¬ ((0 : Int) = (0 : Int))) => absurd (show (0 : Int) = (0 : Int) from by decide) h74)
                      refine wp_seg 1 (P := none) (ls' := [some (aR 5 (0)), some (aI (c)), some (aI (0))]) (st' := [aI (0)]) (σ' := σ) rq_65 rfl True.intro (i' := 99) rfl ?_
                      refine wp_zret rq_65 rfl rt_65 ?_ ⟨?_, ?_⟩
                      · first | exact Or.inl rfl | exact Or.inr rfl
                      · (rw [zo_accept, if_pos h1, if_pos h2, if_pos h3, if_neg h4, if_neg h31, if_neg h59, if_pos h70, if_neg h71, if_neg h72, if_neg h73]; try rfl)
                      · (rw [zm_accept, if_pos h1, if_pos h2, if_pos h3, if_neg h4, if_neg h31, if_neg h59, if_pos h70, if_neg h71, if_neg h72, if_neg h73]; try rfl)
              · refine wp_seg 3 (P := none) (ls' := [some (aR 5 (0)), some (aI (c)), some (aI (0))]) (st' := [aI (2), aI (σ 5 (0) 5)]) (σ' := σ) rq_65 rfl True.intro (i' := 53) rfl ?_
                refine wp_icmp rq_65 rfl (fun (h75 : ¬ (σ 5 (0) 5) = 2) => ?_) (fun (h75 : ¬ (¬ (σ 5 (0) 5) = 2)) => ?_)
                · refine wp_seg 2 (P := none) (ls' := [some (aR 5 (0)), some (aI (c)), some (aI (0))]) (st' := [aI (59), aI (c)]) (σ' := σ) rq_65 rfl True.intro (i' := 77) rfl ?_
                  refine wp_icmp rq_65 rfl (fun (h76 : ¬ (c) = 59) => ?_) (fun (h76 : ¬ (¬ (c) = 59)) => ?_)
                  · refine wp_seg 1 (P := none) (ls' := [some (aR 5 (0)), some (aI (c)), some (aI (0))]) (st' := [aI (0)]) (σ' := σ) rq_65 rfl True.intro (i' := 99) rfl ?_
                    refine wp_zret rq_65 rfl rt_65 ?_ ⟨?_, ?_⟩
                    · first | exact Or.inl rfl | exact Or.inr rfl
                    · (rw [zo_accept, if_pos h1, if_pos h2, if_pos h3, if_neg h4, if_neg h31, if_neg h59, if_neg h70, if_pos h75, if_pos h76]; try rfl)
                    · (rw [zm_accept, if_pos h1, if_pos h2, if_pos h3, if_neg h4, if_neg h31, if_neg h59, if_neg h70, if_pos h75, if_pos h76]; try rfl)
                  · refine wp_seg 3 (P := none) (ls' := [some (aR 5 (0)), some (aI (c)), some (aI (0))]) (st' := [aI (3), aI (σ 5 (0) 5)]) (σ' := σ) rq_65 rfl True.intro (i' := 81) rfl ?_
                    refine wp_icmp rq_65 rfl (fun (h77 : (σ 5 (0) 5) = 3) => ?_) (fun (h77 : ¬ ((σ 5 (0) 5) = 3)) => ?_)
                    · refine wp_seg 8 (P := none) (ls' := [some (aR 5 (0)), some (aI (c)), some (aI (0))]) (st' := [aI (0), aR 5 (0)]) (σ' := (up σ 5 (0) 4 (wr ((σ 5 (0) 4) + (1))))) rq_65 rfl True.intro (i' := 96) rfl ?_
                      refine wp_call (C := 5) (As := [aR 5 (0), aI (0)]) (rest := []) rq_65 (ev_openPart (0) (up σ 5 (0) 4 (wr ((σ 5 (0) 4) + (1)))) ) rfl rfl (show clOK 65 66 0 0 0 2 5 = true by decide +kernel) rfl (show 0 ≤ 4 by decide) (fun _ => ⟨_, rfl⟩) rfl (c' := 0) (s' := 0) rfl rfl ?_
                      refine wp_goto rq_65 rfl ?_
                      refine wp_seg 1 (P := none) (ls' := [some (aR 5 (0)), some (aI (c)), some (aI (0))]) (st' := [aI (1)]) (σ' := (zm_openPart (0) (up σ 5 (0) 4 (wr ((σ 5 (0) 4) + (1)))))) rq_65 rfl True.intro (i' := 101) rfl ?_
                      refine wp_zret rq_65 rfl rt_65 ?_ ⟨?_, ?_⟩
                      · first | exact Or.inl rfl | exact Or.inr rfl
                      · (rw [zo_accept, if_pos h1, if_pos h2, if_pos h3, if_neg h4, if_neg h31, if_neg h59, if_neg h70, if_pos h75, if_neg h76, if_pos h77]; try rfl)
                      · (rw [zm_accept, if_pos h1, if_pos h2, if_pos h3, if_neg h4, if_neg h31, if_neg h59, if_neg h70, if_pos h75, if_neg h76, if_pos h77]; try rfl)
                    · refine wp_seg 3 (P := none) (ls' := [some (aR 5 (0)), some (aI (c)), some (aI (0))]) (st' := [aI (2), aI (σ 5 (0) 5)]) (σ' := σ) rq_65 rfl True.intro (i' := 85) rfl ?_
                      refine wp_icmp rq_65 rfl (fun (h78 : ¬ (σ 5 (0) 5) = 2) => ?_) (fun (h78 : ¬ (¬ (σ 5 (0) 5) = 2)) => ?_)
                      · refine wp_seg 1 (P := none) (ls' := [some (aR 5 (0)), some (aI (c)), some (aI (0))]) (st' := [aI (0)]) (σ' := σ) rq_65 rfl True.intro (i' := 99) rfl ?_
                        refine wp_zret rq_65 rfl rt_65 ?_ ⟨?_, ?_⟩
                        · first | exact Or.inl rfl | exact Or.inr rfl
                        · (rw [zo_accept, if_pos h1, if_pos h2, if_pos h3, if_neg h4, if_neg h31, if_neg h59, if_neg h70, if_pos h75, if_neg h76, if_neg h77, if_pos h78]; try rfl)
                        · (rw [zm_accept, if_pos h1, if_pos h2, if_pos h3, if_neg h4, if_neg h31, if_neg h59, if_neg h70, if_pos h75, if_neg h76, if_neg h77, if_pos h78]; try rfl)
                      · refine wp_seg 1 (P := none) (ls' := [some (aR 5 (0)), some (aI (c)), some (aI (0))]) (st' := [aI (0)]) (σ' := σ) rq_65 rfl True.intro (i' := 87) rfl ?_
                        refine wp_if rq_65 rfl (fun _ => ?_) (fun (h79 : ¬ ((0 : Int) = (0 : Int))) => absurd (show (0 : Int) = (0 : Int) from by decide) h79)
                        refine wp_seg 1 (P := none) (ls' := [some (aR 5 (0)), some (aI (c)), some (aI (0))]) (st' := [aI (0)]) (σ' := σ) rq_65 rfl True.intro (i' := 99) rfl ?_
                        refine wp_zret rq_65 rfl rt_65 ?_ ⟨?_, ?_⟩
                        · first | exact Or.inl rfl | exact Or.inr rfl
                        · (rw [zo_accept, if_pos h1, if_pos h2, if_pos h3, if_neg h4, if_neg h31, if_neg h59, if_neg h70, if_pos h75, if_neg h76, if_neg h77, if_neg h78]; try rfl)
                        · (rw [zm_accept, if_pos h1, if_pos h2, if_pos h3, if_neg h4, if_neg h31, if_neg h59, if_neg h70, if_pos h75, if_neg h76, if_neg h77, if_neg h78]; try rfl)
                · refine wp_seg 1 (P := none) (ls' := [some (aR 5 (0)), some (aI (c)), some (aI (0))]) (st' := [aI (0)]) (σ' := σ) rq_65 rfl True.intro (i' := 55) rfl ?_
                  refine wp_if rq_65 rfl (fun _ => ?_) (fun (h80 : ¬ ((0 : Int) = (0 : Int))) => absurd (show (0 : Int) = (0 : Int) from by decide) h80)
                  refine wp_seg 2 (P := none) (ls' := [some (aR 5 (0)), some (aI (c)), some (aI (0))]) (st' := [aI (59), aI (c)]) (σ' := σ) rq_65 rfl True.intro (i' := 77) rfl ?_
                  refine wp_icmp rq_65 rfl (fun (h81 : ¬ (c) = 59) => ?_) (fun (h81 : ¬ (¬ (c) = 59)) => ?_)
                  · refine wp_seg 1 (P := none) (ls' := [some (aR 5 (0)), some (aI (c)), some (aI (0))]) (st' := [aI (0)]) (σ' := σ) rq_65 rfl True.intro (i' := 99) rfl ?_
                    refine wp_zret rq_65 rfl rt_65 ?_ ⟨?_, ?_⟩
                    · first | exact Or.inl rfl | exact Or.inr rfl
                    · (rw [zo_accept, if_pos h1, if_pos h2, if_pos h3, if_neg h4, if_neg h31, if_neg h59, if_neg h70, if_neg h75, if_pos h81]; try rfl)
                    · (rw [zm_accept, if_pos h1, if_pos h2, if_pos h3, if_neg h4, if_neg h31, if_neg h59, if_neg h70, if_neg h75, if_pos h81]; try rfl)
                  · refine wp_seg 3 (P := none) (ls' := [some (aR 5 (0)), some (aI (c)), some (aI (0))]) (st' := [aI (3), aI (σ 5 (0) 5)]) (σ' := σ) rq_65 rfl True.intro (i' := 81) rfl ?_
                    refine wp_icmp rq_65 rfl (fun (h82 : (σ 5 (0) 5) = 3) => ?_) (fun (h82 : ¬ ((σ 5 (0) 5) = 3)) => ?_)
                    · refine wp_seg 8 (P := none) (ls' := [some (aR 5 (0)), some (aI (c)), some (aI (0))]) (st' := [aI (0), aR 5 (0)]) (σ' := (up σ 5 (0) 4 (wr ((σ 5 (0) 4) + (1))))) rq_65 rfl True.intro (i' := 96) rfl ?_
                      refine wp_call (C := 5) (As := [aR 5 (0), aI (0)]) (rest := []) rq_65 (ev_openPart (0) (up σ 5 (0) 4 (wr ((σ 5 (0) 4) + (1)))) ) rfl rfl (show clOK 65 66 0 0 0 2 5 = true by decide +kernel) rfl (show 0 ≤ 4 by decide) (fun _ => ⟨_, rfl⟩) rfl (c' := 0) (s' := 0) rfl rfl ?_
                      refine wp_goto rq_65 rfl ?_
                      refine wp_seg 1 (P := none) (ls' := [some (aR 5 (0)), some (aI (c)), some (aI (0))]) (st' := [aI (1)]) (σ' := (zm_openPart (0) (up σ 5 (0) 4 (wr ((σ 5 (0) 4) + (1)))))) rq_65 rfl True.intro (i' := 101) rfl ?_
                      refine wp_zret rq_65 rfl rt_65 ?_ ⟨?_, ?_⟩
                      · first | exact Or.inl rfl | exact Or.inr rfl
                      · (rw [zo_accept, if_pos h1, if_pos h2, if_pos h3, if_neg h4, if_neg h31, if_neg h59, if_neg h70, if_neg h75, if_neg h81, if_pos h82]; try rfl)
                      · (rw [zm_accept, if_pos h1, if_pos h2, if_pos h3, if_neg h4, if_neg h31, if_neg h59, if_neg h70, if_neg h75, if_neg h81, if_pos h82]; try rfl)
                    · refine wp_seg 3 (P := none) (ls' := [some (aR 5 (0)), some (aI (c)), some (aI (0))]) (st' := [aI (2), aI (σ 5 (0) 5)]) (σ' := σ) rq_65 rfl True.intro (i' := 85) rfl ?_
                      refine wp_icmp rq_65 rfl (fun (h83 : ¬ (σ 5 (0) 5) = 2) => ?_) (fun (h83 : ¬ (¬ (σ 5 (0) 5) = 2)) => ?_)
                      · refine wp_seg 1 (P := none) (ls' := [some (aR 5 (0)), some (aI (c)), some (aI (0))]) (st' := [aI (0)]) (σ' := σ) rq_65 rfl True.intro (i' := 99) rfl ?_
                        refine wp_zret rq_65 rfl rt_65 ?_ ⟨?_, ?_⟩
                        · first | exact Or.inl rfl | exact Or.inr rfl
                        · (rw [zo_accept, if_pos h1, if_pos h2, if_pos h3, if_neg h4, if_neg h31, if_neg h59, if_neg h70, if_neg h75, if_neg h81, if_neg h82, if_pos h83]; try rfl)
                        · (rw [zm_accept, if_pos h1, if_pos h2, if_pos h3, if_neg h4, if_neg h31, if_neg h59, if_neg h70, if_neg h75, if_neg h81, if_neg h82, if_pos h83]; try rfl)
                      · refine wp_seg 1 (P := none) (ls' := [some (aR 5 (0)), some (aI (c)), some (aI (0))]) (st' := [aI (0)]) (σ' := σ) rq_65 rfl True.intro (i' := 87) rfl ?_
                        refine wp_if rq_65 rfl (fun _ => ?_) (fun (h84 : ¬ ((0 : Int) = (0 : Int))) => absurd (show (0 : Int) = (0 : Int) from by decide) h84)
                        refine wp_seg 1 (P := none) (ls' := [some (aR 5 (0)), some (aI (c)), some (aI (0))]) (st' := [aI (0)]) (σ' := σ) rq_65 rfl True.intro (i' := 99) rfl ?_
                        refine wp_zret rq_65 rfl rt_65 ?_ ⟨?_, ?_⟩
                        · first | exact Or.inl rfl | exact Or.inr rfl
                        · (rw [zo_accept, if_pos h1, if_pos h2, if_pos h3, if_neg h4, if_neg h31, if_neg h59, if_neg h70, if_neg h75, if_neg h81, if_neg h82, if_neg h83]; try rfl)
                        · (rw [zm_accept, if_pos h1, if_pos h2, if_pos h3, if_neg h4, if_neg h31, if_neg h59, if_neg h70, if_neg h75, if_neg h81, if_neg h82, if_neg h83]; try rfl)
      · refine wp_seg 2 (P := none) (ls' := [some (aR 5 (0)), some (aI (c)), some (aI (0))]) (st' := [aI (σ 5 (0) 5)]) (σ' := σ) rq_65 rfl True.intro (i' := 24) rfl ?_
        refine wp_if rq_65 rfl (fun (h85 : ¬ (σ 5 (0) 5) = 0) => ?_) (fun (h85 : ¬ (¬ (σ 5 (0) 5) = 0)) => ?_)
        · refine wp_seg 2 (P := none) (ls' := [some (aR 5 (0)), some (aI (c)), some (aI (0))]) (st' := [aI (58), aI (c)]) (σ' := σ) rq_65 rfl True.intro (i' := 33) rfl ?_
          refine wp_icmp rq_65 rfl (fun (h86 : ¬ (c) = 58) => ?_) (fun (h86 : ¬ (¬ (c) = 58)) => ?_)
          · refine wp_seg 2 (P := none) (ls' := [some (aR 5 (0)), some (aI (c)), some (aI (0))]) (st' := [aI (108), aI (c)]) (σ' := σ) rq_65 rfl True.intro (i' := 46) rfl ?_
            refine wp_icmp rq_65 rfl (fun (h87 : (c) = 108) => ?_) (fun (h87 : ¬ ((c) = 108)) => ?_)
            · refine wp_seg 3 (P := none) (ls' := [some (aR 5 (0)), some (aI (c)), some (aI (0))]) (st' := [aI (2), aI (σ 5 (0) 5)]) (σ' := σ) rq_65 rfl True.intro (i' := 53) rfl ?_
              refine wp_icmp rq_65 rfl (fun (h88 : ¬ (σ 5 (0) 5) = 2) => ?_) (fun (h88 : ¬ (¬ (σ 5 (0) 5) = 2)) => ?_)
              · refine wp_seg 2 (P := none) (ls' := [some (aR 5 (0)), some (aI (c)), some (aI (0))]) (st' := [aI (59), aI (c)]) (σ' := σ) rq_65 rfl True.intro (i' := 77) rfl ?_
                refine wp_icmp rq_65 rfl (fun (h89 : ¬ (c) = 59) => ?_) (fun (h89 : ¬ (¬ (c) = 59)) => ?_)
                · refine wp_seg 1 (P := none) (ls' := [some (aR 5 (0)), some (aI (c)), some (aI (0))]) (st' := [aI (0)]) (σ' := σ) rq_65 rfl True.intro (i' := 99) rfl ?_
                  refine wp_zret rq_65 rfl rt_65 ?_ ⟨?_, ?_⟩
                  · first | exact Or.inl rfl | exact Or.inr rfl
                  · (rw [zo_accept, if_pos h1, if_pos h2, if_neg h3, if_pos h85, if_pos h86, if_pos h87, if_pos h88, if_pos h89]; try rfl)
                  · (rw [zm_accept, if_pos h1, if_pos h2, if_neg h3, if_pos h85, if_pos h86, if_pos h87, if_pos h88, if_pos h89]; try rfl)
                · refine wp_seg 3 (P := none) (ls' := [some (aR 5 (0)), some (aI (c)), some (aI (0))]) (st' := [aI (3), aI (σ 5 (0) 5)]) (σ' := σ) rq_65 rfl True.intro (i' := 81) rfl ?_
                  refine wp_icmp rq_65 rfl (fun (h90 : (σ 5 (0) 5) = 3) => ?_) (fun (h90 : ¬ ((σ 5 (0) 5) = 3)) => ?_)
                  · refine wp_seg 8 (P := none) (ls' := [some (aR 5 (0)), some (aI (c)), some (aI (0))]) (st' := [aI (0), aR 5 (0)]) (σ' := (up σ 5 (0) 4 (wr ((σ 5 (0) 4) + (1))))) rq_65 rfl True.intro (i' := 96) rfl ?_
                    refine wp_call (C := 5) (As := [aR 5 (0), aI (0)]) (rest := []) rq_65 (ev_openPart (0) (up σ 5 (0) 4 (wr ((σ 5 (0) 4) + (1)))) ) rfl rfl (show clOK 65 66 0 0 0 2 5 = true by decide +kernel) rfl (show 0 ≤ 4 by decide) (fun _ => ⟨_, rfl⟩) rfl (c' := 0) (s' := 0) rfl rfl ?_
                    refine wp_goto rq_65 rfl ?_
                    refine wp_seg 1 (P := none) (ls' := [some (aR 5 (0)), some (aI (c)), some (aI (0))]) (st' := [aI (1)]) (σ' := (zm_openPart (0) (up σ 5 (0) 4 (wr ((σ 5 (0) 4) + (1)))))) rq_65 rfl True.intro (i' := 101) rfl ?_
                    refine wp_zret rq_65 rfl rt_65 ?_ ⟨?_, ?_⟩
                    · first | exact Or.inl rfl | exact Or.inr rfl
                    · (rw [zo_accept, if_pos h1, if_pos h2, if_neg h3, if_pos h85, if_pos h86, if_pos h87, if_pos h88, if_neg h89, if_pos h90]; try rfl)
                    · (rw [zm_accept, if_pos h1, if_pos h2, if_neg h3, if_pos h85, if_pos h86, if_pos h87, if_pos h88, if_neg h89, if_pos h90]; try rfl)
                  · refine wp_seg 3 (P := none) (ls' := [some (aR 5 (0)), some (aI (c)), some (aI (0))]) (st' := [aI (2), aI (σ 5 (0) 5)]) (σ' := σ) rq_65 rfl True.intro (i' := 85) rfl ?_
                    refine wp_icmp rq_65 rfl (fun (h91 : ¬ (σ 5 (0) 5) = 2) => ?_) (fun (h91 : ¬ (¬ (σ 5 (0) 5) = 2)) => ?_)
                    · refine wp_seg 1 (P := none) (ls' := [some (aR 5 (0)), some (aI (c)), some (aI (0))]) (st' := [aI (0)]) (σ' := σ) rq_65 rfl True.intro (i' := 99) rfl ?_
                      refine wp_zret rq_65 rfl rt_65 ?_ ⟨?_, ?_⟩
                      · first | exact Or.inl rfl | exact Or.inr rfl
                      · (rw [zo_accept, if_pos h1, if_pos h2, if_neg h3, if_pos h85, if_pos h86, if_pos h87, if_pos h88, if_neg h89, if_neg h90, if_pos h91]; try rfl)
                      · (rw [zm_accept, if_pos h1, if_pos h2, if_neg h3, if_pos h85, if_pos h86, if_pos h87, if_pos h88, if_neg h89, if_neg h90, if_pos h91]; try rfl)
                    · refine wp_seg 1 (P := none) (ls' := [some (aR 5 (0)), some (aI (c)), some (aI (0))]) (st' := [aI (0)]) (σ' := σ) rq_65 rfl True.intro (i' := 87) rfl ?_
                      refine wp_if rq_65 rfl (fun _ => ?_) (fun (h92 : ¬ ((0 : Int) = (0 : Int))) => absurd (show (0 : Int) = (0 : Int) from by decide) h92)
                      refine wp_seg 1 (P := none) (ls' := [some (aR 5 (0)), some (aI (c)), some (aI (0))]) (st' := [aI (0)]) (σ' := σ) rq_65 rfl True.intro (i' := 99) rfl ?_
                      refine wp_zret rq_65 rfl rt_65 ?_ ⟨?_, ?_⟩
                      · first | exact Or.inl rfl | exact Or.inr rfl
                      · (rw [zo_accept, if_pos h1, if_pos h2, if_neg h3, if_pos h85, if_pos h86, if_pos h87, if_pos h88, if_neg h89, if_neg h90, if_neg h91]; try rfl)
                      · (rw [zm_accept, if_pos h1, if_pos h2, if_neg h3, if_pos h85, if_pos h86, if_pos h87, if_pos h88, if_neg h89, if_neg h90, if_neg h91]; try rfl)
              · refine wp_seg 1 (P := none) (ls' := [some (aR 5 (0)), some (aI (c)), some (aI (0))]) (st' := [aI (0)]) (σ' := σ) rq_65 rfl True.intro (i' := 55) rfl ?_
                refine wp_if rq_65 rfl (fun _ => ?_) (fun (h93 : ¬ ((0 : Int) = (0 : Int))) => absurd (show (0 : Int) = (0 : Int) from by decide) h93)
                refine wp_seg 2 (P := none) (ls' := [some (aR 5 (0)), some (aI (c)), some (aI (0))]) (st' := [aI (59), aI (c)]) (σ' := σ) rq_65 rfl True.intro (i' := 77) rfl ?_
                refine wp_icmp rq_65 rfl (fun (h94 : ¬ (c) = 59) => ?_) (fun (h94 : ¬ (¬ (c) = 59)) => ?_)
                · refine wp_seg 1 (P := none) (ls' := [some (aR 5 (0)), some (aI (c)), some (aI (0))]) (st' := [aI (0)]) (σ' := σ) rq_65 rfl True.intro (i' := 99) rfl ?_
                  refine wp_zret rq_65 rfl rt_65 ?_ ⟨?_, ?_⟩
                  · first | exact Or.inl rfl | exact Or.inr rfl
                  · (rw [zo_accept, if_pos h1, if_pos h2, if_neg h3, if_pos h85, if_pos h86, if_pos h87, if_neg h88, if_pos h94]; try rfl)
                  · (rw [zm_accept, if_pos h1, if_pos h2, if_neg h3, if_pos h85, if_pos h86, if_pos h87, if_neg h88, if_pos h94]; try rfl)
                · refine wp_seg 3 (P := none) (ls' := [some (aR 5 (0)), some (aI (c)), some (aI (0))]) (st' := [aI (3), aI (σ 5 (0) 5)]) (σ' := σ) rq_65 rfl True.intro (i' := 81) rfl ?_
                  refine wp_icmp rq_65 rfl (fun (h95 : (σ 5 (0) 5) = 3) => ?_) (fun (h95 : ¬ ((σ 5 (0) 5) = 3)) => ?_)
                  · refine wp_seg 8 (P := none) (ls' := [some (aR 5 (0)), some (aI (c)), some (aI (0))]) (st' := [aI (0), aR 5 (0)]) (σ' := (up σ 5 (0) 4 (wr ((σ 5 (0) 4) + (1))))) rq_65 rfl True.intro (i' := 96) rfl ?_
                    refine wp_call (C := 5) (As := [aR 5 (0), aI (0)]) (rest := []) rq_65 (ev_openPart (0) (up σ 5 (0) 4 (wr ((σ 5 (0) 4) + (1)))) ) rfl rfl (show clOK 65 66 0 0 0 2 5 = true by decide +kernel) rfl (show 0 ≤ 4 by decide) (fun _ => ⟨_, rfl⟩) rfl (c' := 0) (s' := 0) rfl rfl ?_
                    refine wp_goto rq_65 rfl ?_
                    refine wp_seg 1 (P := none) (ls' := [some (aR 5 (0)), some (aI (c)), some (aI (0))]) (st' := [aI (1)]) (σ' := (zm_openPart (0) (up σ 5 (0) 4 (wr ((σ 5 (0) 4) + (1)))))) rq_65 rfl True.intro (i' := 101) rfl ?_
                    refine wp_zret rq_65 rfl rt_65 ?_ ⟨?_, ?_⟩
                    · first | exact Or.inl rfl | exact Or.inr rfl
                    · (rw [zo_accept, if_pos h1, if_pos h2, if_neg h3, if_pos h85, if_pos h86, if_pos h87, if_neg h88, if_neg h94, if_pos h95]; try rfl)
                    · (rw [zm_accept, if_pos h1, if_pos h2, if_neg h3, if_pos h85, if_pos h86, if_pos h87, if_neg h88, if_neg h94, if_pos h95]; try rfl)
                  · refine wp_seg 3 (P := none) (ls' := [some (aR 5 (0)), some (aI (c)), some (aI (0))]) (st' := [aI (2), aI (σ 5 (0) 5)]) (σ' := σ) rq_65 rfl True.intro (i' := 85) rfl ?_
                    refine wp_icmp rq_65 rfl (fun (h96 : ¬ (σ 5 (0) 5) = 2) => ?_) (fun (h96 : ¬ (¬ (σ 5 (0) 5) = 2)) => ?_)
                    · refine wp_seg 1 (P := none) (ls' := [some (aR 5 (0)), some (aI (c)), some (aI (0))]) (st' := [aI (0)]) (σ' := σ) rq_65 rfl True.intro (i' := 99) rfl ?_
                      refine wp_zret rq_65 rfl rt_65 ?_ ⟨?_, ?_⟩
                      · first | exact Or.inl rfl | exact Or.inr rfl
                      · (rw [zo_accept, if_pos h1, if_pos h2, if_neg h3, if_pos h85, if_pos h86, if_pos h87, if_neg h88, if_neg h94, if_neg h95, if_pos h96]; try rfl)
                      · (rw [zm_accept, if_pos h1, if_pos h2, if_neg h3, if_pos h85, if_pos h86, if_pos h87, if_neg h88, if_neg h94, if_neg h95, if_pos h96]; try rfl)
                    · refine wp_seg 1 (P := none) (ls' := [some (aR 5 (0)), some (aI (c)), some (aI (0))]) (st' := [aI (0)]) (σ' := σ) rq_65 rfl True.intro (i' := 87) rfl ?_
                      refine wp_if rq_65 rfl (fun _ => ?_) (fun (h97 : ¬ ((0 : Int) = (0 : Int))) => absurd (show (0 : Int) = (0 : Int) from by decide) h97)
                      refine wp_seg 1 (P := none) (ls' := [some (aR 5 (0)), some (aI (c)), some (aI (0))]) (st' := [aI (0)]) (σ' := σ) rq_65 rfl True.intro (i' := 99) rfl ?_
                      refine wp_zret rq_65 rfl rt_65 ?_ ⟨?_, ?_⟩
                      · first | exact Or.inl rfl | exact Or.inr rfl
                      · (rw [zo_accept, if_pos h1, if_pos h2, if_neg h3, if_pos h85, if_pos h86, if_pos h87, if_neg h88, if_neg h94, if_neg h95, if_neg h96]; try rfl)
                      · (rw [zm_accept, if_pos h1, if_pos h2, if_neg h3, if_pos h85, if_pos h86, if_pos h87, if_neg h88, if_neg h94, if_neg h95, if_neg h96]; try rfl)
            · refine wp_seg 2 (P := none) (ls' := [some (aR 5 (0)), some (aI (c)), some (aI (0))]) (st' := [aI (114), aI (c)]) (σ' := σ) rq_65 rfl True.intro (i' := 49) rfl ?_
              refine wp_icmp rq_65 rfl (fun (h98 : ¬ (c) = 114) => ?_) (fun (h98 : ¬ (¬ (c) = 114)) => ?_)
              · refine wp_seg 2 (P := none) (ls' := [some (aR 5 (0)), some (aI (c)), some (aI (0))]) (st' := [aI (59), aI (c)]) (σ' := σ) rq_65 rfl True.intro (i' := 77) rfl ?_
                refine wp_icmp rq_65 rfl (fun (h99 : ¬ (c) = 59) => ?_) (fun (h99 : ¬ (¬ (c) = 59)) => ?_)
                · refine wp_seg 1 (P := none) (ls' := [some (aR 5 (0)), some (aI (c)), some (aI (0))]) (st' := [aI (0)]) (σ' := σ) rq_65 rfl True.intro (i' := 99) rfl ?_
                  refine wp_zret rq_65 rfl rt_65 ?_ ⟨?_, ?_⟩
                  · first | exact Or.inl rfl | exact Or.inr rfl
                  · (rw [zo_accept, if_pos h1, if_pos h2, if_neg h3, if_pos h85, if_pos h86, if_neg h87, if_pos h98, if_pos h99]; try rfl)
                  · (rw [zm_accept, if_pos h1, if_pos h2, if_neg h3, if_pos h85, if_pos h86, if_neg h87, if_pos h98, if_pos h99]; try rfl)
                · refine wp_seg 3 (P := none) (ls' := [some (aR 5 (0)), some (aI (c)), some (aI (0))]) (st' := [aI (3), aI (σ 5 (0) 5)]) (σ' := σ) rq_65 rfl True.intro (i' := 81) rfl ?_
                  refine wp_icmp rq_65 rfl (fun (h100 : (σ 5 (0) 5) = 3) => ?_) (fun (h100 : ¬ ((σ 5 (0) 5) = 3)) => ?_)
                  · refine wp_seg 8 (P := none) (ls' := [some (aR 5 (0)), some (aI (c)), some (aI (0))]) (st' := [aI (0), aR 5 (0)]) (σ' := (up σ 5 (0) 4 (wr ((σ 5 (0) 4) + (1))))) rq_65 rfl True.intro (i' := 96) rfl ?_
                    refine wp_call (C := 5) (As := [aR 5 (0), aI (0)]) (rest := []) rq_65 (ev_openPart (0) (up σ 5 (0) 4 (wr ((σ 5 (0) 4) + (1)))) ) rfl rfl (show clOK 65 66 0 0 0 2 5 = true by decide +kernel) rfl (show 0 ≤ 4 by decide) (fun _ => ⟨_, rfl⟩) rfl (c' := 0) (s' := 0) rfl rfl ?_
                    refine wp_goto rq_65 rfl ?_
                    refine wp_seg 1 (P := none) (ls' := [some (aR 5 (0)), some (aI (c)), some (aI (0))]) (st' := [aI (1)]) (σ' := (zm_openPart (0) (up σ 5 (0) 4 (wr ((σ 5 (0) 4) + (1)))))) rq_65 rfl True.intro (i' := 101) rfl ?_
                    refine wp_zret rq_65 rfl rt_65 ?_ ⟨?_, ?_⟩
                    · first | exact Or.inl rfl | exact Or.inr rfl
                    · (rw [zo_accept, if_pos h1, if_pos h2, if_neg h3, if_pos h85, if_pos h86, if_neg h87, if_pos h98, if_neg h99, if_pos h100]; try rfl)
                    · (rw [zm_accept, if_pos h1, if_pos h2, if_neg h3, if_pos h85, if_pos h86, if_neg h87, if_pos h98, if_neg h99, if_pos h100]; try rfl)
                  · refine wp_seg 3 (P := none) (ls' := [some (aR 5 (0)), some (aI (c)), some (aI (0))]) (st' := [aI (2), aI (σ 5 (0) 5)]) (σ' := σ) rq_65 rfl True.intro (i' := 85) rfl ?_
                    refine wp_icmp rq_65 rfl (fun (h101 : ¬ (σ 5 (0) 5) = 2) => ?_) (fun (h101 : ¬ (¬ (σ 5 (0) 5) = 2)) => ?_)
                    · refine wp_seg 1 (P := none) (ls' := [some (aR 5 (0)), some (aI (c)), some (aI (0))]) (st' := [aI (0)]) (σ' := σ) rq_65 rfl True.intro (i' := 99) rfl ?_
                      refine wp_zret rq_65 rfl rt_65 ?_ ⟨?_, ?_⟩
                      · first | exact Or.inl rfl | exact Or.inr rfl
                      · (rw [zo_accept, if_pos h1, if_pos h2, if_neg h3, if_pos h85, if_pos h86, if_neg h87, if_pos h98, if_neg h99, if_neg h100, if_pos h101]; try rfl)
                      · (rw [zm_accept, if_pos h1, if_pos h2, if_neg h3, if_pos h85, if_pos h86, if_neg h87, if_pos h98, if_neg h99, if_neg h100, if_pos h101]; try rfl)
                    · refine wp_seg 1 (P := none) (ls' := [some (aR 5 (0)), some (aI (c)), some (aI (0))]) (st' := [aI (0)]) (σ' := σ) rq_65 rfl True.intro (i' := 87) rfl ?_
                      refine wp_if rq_65 rfl (fun _ => ?_) (fun (h102 : ¬ ((0 : Int) = (0 : Int))) => absurd (show (0 : Int) = (0 : Int) from by decide) h102)
                      refine wp_seg 1 (P := none) (ls' := [some (aR 5 (0)), some (aI (c)), some (aI (0))]) (st' := [aI (0)]) (σ' := σ) rq_65 rfl True.intro (i' := 99) rfl ?_
                      refine wp_zret rq_65 rfl rt_65 ?_ ⟨?_, ?_⟩
                      · first | exact Or.inl rfl | exact Or.inr rfl
                      · (rw [zo_accept, if_pos h1, if_pos h2, if_neg h3, if_pos h85, if_pos h86, if_neg h87, if_pos h98, if_neg h99, if_neg h100, if_neg h101]; try rfl)
                      · (rw [zm_accept, if_pos h1, if_pos h2, if_neg h3, if_pos h85, if_pos h86, if_neg h87, if_pos h98, if_neg h99, if_neg h100, if_neg h101]; try rfl)
              · refine wp_seg 3 (P := none) (ls' := [some (aR 5 (0)), some (aI (c)), some (aI (0))]) (st' := [aI (2), aI (σ 5 (0) 5)]) (σ' := σ) rq_65 rfl True.intro (i' := 53) rfl ?_
                refine wp_icmp rq_65 rfl (fun (h103 : ¬ (σ 5 (0) 5) = 2) => ?_) (fun (h103 : ¬ (¬ (σ 5 (0) 5) = 2)) => ?_)
                · refine wp_seg 2 (P := none) (ls' := [some (aR 5 (0)), some (aI (c)), some (aI (0))]) (st' := [aI (59), aI (c)]) (σ' := σ) rq_65 rfl True.intro (i' := 77) rfl ?_
                  refine wp_icmp rq_65 rfl (fun (h104 : ¬ (c) = 59) => ?_) (fun (h104 : ¬ (¬ (c) = 59)) => ?_)
                  · refine wp_seg 1 (P := none) (ls' := [some (aR 5 (0)), some (aI (c)), some (aI (0))]) (st' := [aI (0)]) (σ' := σ) rq_65 rfl True.intro (i' := 99) rfl ?_
                    refine wp_zret rq_65 rfl rt_65 ?_ ⟨?_, ?_⟩
                    · first | exact Or.inl rfl | exact Or.inr rfl
                    · (rw [zo_accept, if_pos h1, if_pos h2, if_neg h3, if_pos h85, if_pos h86, if_neg h87, if_neg h98, if_pos h103, if_pos h104]; try rfl)
                    · (rw [zm_accept, if_pos h1, if_pos h2, if_neg h3, if_pos h85, if_pos h86, if_neg h87, if_neg h98, if_pos h103, if_pos h104]; try rfl)
                  · refine wp_seg 3 (P := none) (ls' := [some (aR 5 (0)), some (aI (c)), some (aI (0))]) (st' := [aI (3), aI (σ 5 (0) 5)]) (σ' := σ) rq_65 rfl True.intro (i' := 81) rfl ?_
                    refine wp_icmp rq_65 rfl (fun (h105 : (σ 5 (0) 5) = 3) => ?_) (fun (h105 : ¬ ((σ 5 (0) 5) = 3)) => ?_)
                    · refine wp_seg 8 (P := none) (ls' := [some (aR 5 (0)), some (aI (c)), some (aI (0))]) (st' := [aI (0), aR 5 (0)]) (σ' := (up σ 5 (0) 4 (wr ((σ 5 (0) 4) + (1))))) rq_65 rfl True.intro (i' := 96) rfl ?_
                      refine wp_call (C := 5) (As := [aR 5 (0), aI (0)]) (rest := []) rq_65 (ev_openPart (0) (up σ 5 (0) 4 (wr ((σ 5 (0) 4) + (1)))) ) rfl rfl (show clOK 65 66 0 0 0 2 5 = true by decide +kernel) rfl (show 0 ≤ 4 by decide) (fun _ => ⟨_, rfl⟩) rfl (c' := 0) (s' := 0) rfl rfl ?_
                      refine wp_goto rq_65 rfl ?_
                      refine wp_seg 1 (P := none) (ls' := [some (aR 5 (0)), some (aI (c)), some (aI (0))]) (st' := [aI (1)]) (σ' := (zm_openPart (0) (up σ 5 (0) 4 (wr ((σ 5 (0) 4) + (1)))))) rq_65 rfl True.intro (i' := 101) rfl ?_
                      refine wp_zret rq_65 rfl rt_65 ?_ ⟨?_, ?_⟩
                      · first | exact Or.inl rfl | exact Or.inr rfl
                      · (rw [zo_accept, if_pos h1, if_pos h2, if_neg h3, if_pos h85, if_pos h86, if_neg h87, if_neg h98, if_pos h103, if_neg h104, if_pos h105]; try rfl)
                      · (rw [zm_accept, if_pos h1, if_pos h2, if_neg h3, if_pos h85, if_pos h86, if_neg h87, if_neg h98, if_pos h103, if_neg h104, if_pos h105]; try rfl)
                    · refine wp_seg 3 (P := none) (ls' := [some (aR 5 (0)), some (aI (c)), some (aI (0))]) (st' := [aI (2), aI (σ 5 (0) 5)]) (σ' := σ) rq_65 rfl True.intro (i' := 85) rfl ?_
                      refine wp_icmp rq_65 rfl (fun (h106 : ¬ (σ 5 (0) 5) = 2) => ?_) (fun (h106 : ¬ (¬ (σ 5 (0) 5) = 2)) => ?_)
                      · refine wp_seg 1 (P := none) (ls' := [some (aR 5 (0)), some (aI (c)), some (aI (0))]) (st' := [aI (0)]) (σ' := σ) rq_65 rfl True.intro (i' := 99) rfl ?_
                        refine wp_zret rq_65 rfl rt_65 ?_ ⟨?_, ?_⟩
                        · first | exact Or.inl rfl | exact Or.inr rfl
                        · (rw [zo_accept, if_pos h1, if_pos h2, if_neg h3, if_pos h85, if_pos h86, if_neg h87, if_neg h98, if_pos h103, if_neg h104, if_neg h105, if_pos h106]; try rfl)
                        · (rw [zm_accept, if_pos h1, if_pos h2, if_neg h3, if_pos h85, if_pos h86, if_neg h87, if_neg h98, if_pos h103, if_neg h104, if_neg h105, if_pos h106]; try rfl)
                      · refine wp_seg 1 (P := none) (ls' := [some (aR 5 (0)), some (aI (c)), some (aI (0))]) (st' := [aI (0)]) (σ' := σ) rq_65 rfl True.intro (i' := 87) rfl ?_
                        refine wp_if rq_65 rfl (fun _ => ?_) (fun (h107 : ¬ ((0 : Int) = (0 : Int))) => absurd (show (0 : Int) = (0 : Int) from by decide) h107)
                        refine wp_seg 1 (P := none) (ls' := [some (aR 5 (0)), some (aI (c)), some (aI (0))]) (st' := [aI (0)]) (σ' := σ) rq_65 rfl True.intro (i' := 99) rfl ?_
                        refine wp_zret rq_65 rfl rt_65 ?_ ⟨?_, ?_⟩
                        · first | exact Or.inl rfl | exact Or.inr rfl
                        · (rw [zo_accept, if_pos h1, if_pos h2, if_neg h3, if_pos h85, if_pos h86, if_neg h87, if_neg h98, if_pos h103, if_neg h104, if_neg h105, if_neg h106]; try rfl)
                        · (rw [zm_accept, if_pos h1, if_pos h2, if_neg h3, if_pos h85, if_pos h86, if_neg h87, if_neg h98, if_pos h103, if_neg h104, if_neg h105, if_neg h106]; try rfl)
                · refine wp_seg 1 (P := none) (ls' := [some (aR 5 (0)), some (aI (c)), some (aI (0))]) (st' := [aI (0)]) (σ' := σ) rq_65 rfl True.intro (i' := 55) rfl ?_
                  refine wp_if rq_65 rfl (fun _ => ?_) (fun (h108 : ¬ ((0 : Int) = (0 : Int))) => absurd (show (0 : Int) = (0 : Int) from by decide) h108)
                  refine wp_seg 2 (P := none) (ls' := [some (aR 5 (0)), some (aI (c)), some (aI (0))]) (st' := [aI (59), aI (c)]) (σ' := σ) rq_65 rfl True.intro (i' := 77) rfl ?_
                  refine wp_icmp rq_65 rfl (fun (h109 : ¬ (c) = 59) => ?_) (fun (h109 : ¬ (¬ (c) = 59)) => ?_)
                  · refine wp_seg 1 (P := none) (ls' := [some (aR 5 (0)), some (aI (c)), some (aI (0))]) (st' := [aI (0)]) (σ' := σ) rq_65 rfl True.intro (i' := 99) rfl ?_
                    refine wp_zret rq_65 rfl rt_65 ?_ ⟨?_, ?_⟩
                    · first | exact Or.inl rfl | exact Or.inr rfl
                    · (rw [zo_accept, if_pos h1, if_pos h2, if_neg h3, if_pos h85, if_pos h86, if_neg h87, if_neg h98, if_neg h103, if_pos h109]; try rfl)
                    · (rw [zm_accept, if_pos h1, if_pos h2, if_neg h3, if_pos h85, if_pos h86, if_neg h87, if_neg h98, if_neg h103, if_pos h109]; try rfl)
                  · refine wp_seg 3 (P := none) (ls' := [some (aR 5 (0)), some (aI (c)), some (aI (0))]) (st' := [aI (3), aI (σ 5 (0) 5)]) (σ' := σ) rq_65 rfl True.intro (i' := 81) rfl ?_
                    refine wp_icmp rq_65 rfl (fun (h110 : (σ 5 (0) 5) = 3) => ?_) (fun (h110 : ¬ ((σ 5 (0) 5) = 3)) => ?_)
                    · refine wp_seg 8 (P := none) (ls' := [some (aR 5 (0)), some (aI (c)), some (aI (0))]) (st' := [aI (0), aR 5 (0)]) (σ' := (up σ 5 (0) 4 (wr ((σ 5 (0) 4) + (1))))) rq_65 rfl True.intro (i' := 96) rfl ?_
                      refine wp_call (C := 5) (As := [aR 5 (0), aI (0)]) (rest := []) rq_65 (ev_openPart (0) (up σ 5 (0) 4 (wr ((σ 5 (0) 4) + (1)))) ) rfl rfl (show clOK 65 66 0 0 0 2 5 = true by decide +kernel) rfl (show 0 ≤ 4 by decide) (fun _ => ⟨_, rfl⟩) rfl (c' := 0) (s' := 0) rfl rfl ?_
                      refine wp_goto rq_65 rfl ?_
                      refine wp_seg 1 (P := none) (ls' := [some (aR 5 (0)), some (aI (c)), some (aI (0))]) (st' := [aI (1)]) (σ' := (zm_openPart (0) (up σ 5 (0) 4 (wr ((σ 5 (0) 4) + (1)))))) rq_65 rfl True.intro (i' := 101) rfl ?_
                      refine wp_zret rq_65 rfl rt_65 ?_ ⟨?_, ?_⟩
                      · first | exact Or.inl rfl | exact Or.inr rfl
                      · (rw [zo_accept, if_pos h1, if_pos h2, if_neg h3, if_pos h85, if_pos h86, if_neg h87, if_neg h98, if_neg h103, if_neg h109, if_pos h110]; try rfl)
                      · (rw [zm_accept, if_pos h1, if_pos h2, if_neg h3, if_pos h85, if_pos h86, if_neg h87, if_neg h98, if_neg h103, if_neg h109, if_pos h110]; try rfl)
                    · refine wp_seg 3 (P := none) (ls' := [some (aR 5 (0)), some (aI (c)), some (aI (0))]) (st' := [aI (2), aI (σ 5 (0) 5)]) (σ' := σ) rq_65 rfl True.intro (i' := 85) rfl ?_
                      refine wp_icmp rq_65 rfl (fun (h111 : ¬ (σ 5 (0) 5) = 2) => ?_) (fun (h111 : ¬ (¬ (σ 5 (0) 5) = 2)) => ?_)
                      · refine wp_seg 1 (P := none) (ls' := [some (aR 5 (0)), some (aI (c)), some (aI (0))]) (st' := [aI (0)]) (σ' := σ) rq_65 rfl True.intro (i' := 99) rfl ?_
                        refine wp_zret rq_65 rfl rt_65 ?_ ⟨?_, ?_⟩
                        · first | exact Or.inl rfl | exact Or.inr rfl
                        · (rw [zo_accept, if_pos h1, if_pos h2, if_neg h3, if_pos h85, if_pos h86, if_neg h87, if_neg h98, if_neg h103, if_neg h109, if_neg h110, if_pos h111]; try rfl)
                        · (rw [zm_accept, if_pos h1, if_pos h2, if_neg h3, if_pos h85, if_pos h86, if_neg h87, if_neg h98, if_neg h103, if_neg h109, if_neg h110, if_pos h111]; try rfl)
                      · refine wp_seg 1 (P := none) (ls' := [some (aR 5 (0)), some (aI (c)), some (aI (0))]) (st' := [aI (0)]) (σ' := σ) rq_65 rfl True.intro (i' := 87) rfl ?_
                        refine wp_if rq_65 rfl (fun _ => ?_) (fun (h112 : ¬ ((0 : Int) = (0 : Int))) => absurd (show (0 : Int) = (0 : Int) from by decide) h112)
                        refine wp_seg 1 (P := none) (ls' := [some (aR 5 (0)), some (aI (c)), some (aI (0))]) (st' := [aI (0)]) (σ' := σ) rq_65 rfl True.intro (i' := 99) rfl ?_
                        refine wp_zret rq_65 rfl rt_65 ?_ ⟨?_, ?_⟩
                        · first | exact Or.inl rfl | exact Or.inr rfl
                        · (rw [zo_accept, if_pos h1, if_pos h2, if_neg h3, if_pos h85, if_pos h86, if_neg h87, if_neg h98, if_neg h103, if_neg h109, if_neg h110, if_neg h111]; try rfl)
                        · (rw [zm_accept, if_pos h1, if_pos h2, if_neg h3, if_pos h85, if_pos h86, if_neg h87, if_neg h98, if_neg h103, if_neg h109, if_neg h110, if_neg h111]; try rfl)
          · refine wp_seg 3 (P := none) (ls' := [some (aR 5 (0)), some (aI (c)), some (aI (0))]) (st' := [aI (1), aI (σ 5 (0) 5)]) (σ' := σ) rq_65 rfl True.intro (i' := 37) rfl ?_
            refine wp_icmp rq_65 rfl (fun (h113 : ¬ (σ 5 (0) 5) = 1) => ?_) (fun (h113 : ¬ (¬ (σ 5 (0) 5) = 1)) => ?_)
            · refine wp_seg 2 (P := none) (ls' := [some (aR 5 (0)), some (aI (c)), some (aI (0))]) (st' := [aI (108), aI (c)]) (σ' := σ) rq_65 rfl True.intro (i' := 46) rfl ?_
              refine wp_icmp rq_65 rfl (fun (h114 : (c) = 108) => ?_) (fun (h114 : ¬ ((c) = 108)) => ?_)
              · refine wp_seg 3 (P := none) (ls' := [some (aR 5 (0)), some (aI (c)), some (aI (0))]) (st' := [aI (2), aI (σ 5 (0) 5)]) (σ' := σ) rq_65 rfl True.intro (i' := 53) rfl ?_
                refine wp_icmp rq_65 rfl (fun (h115 : ¬ (σ 5 (0) 5) = 2) => ?_) (fun (h115 : ¬ (¬ (σ 5 (0) 5) = 2)) => ?_)
                · refine wp_seg 2 (P := none) (ls' := [some (aR 5 (0)), some (aI (c)), some (aI (0))]) (st' := [aI (59), aI (c)]) (σ' := σ) rq_65 rfl True.intro (i' := 77) rfl ?_
                  refine wp_icmp rq_65 rfl (fun (h116 : ¬ (c) = 59) => ?_) (fun (h116 : ¬ (¬ (c) = 59)) => ?_)
                  · refine wp_seg 1 (P := none) (ls' := [some (aR 5 (0)), some (aI (c)), some (aI (0))]) (st' := [aI (0)]) (σ' := σ) rq_65 rfl True.intro (i' := 99) rfl ?_
                    refine wp_zret rq_65 rfl rt_65 ?_ ⟨?_, ?_⟩
                    · first | exact Or.inl rfl | exact Or.inr rfl
                    · (rw [zo_accept, if_pos h1, if_pos h2, if_neg h3, if_pos h85, if_neg h86, if_pos h113, if_pos h114, if_pos h115, if_pos h116]; try rfl)
                    · (rw [zm_accept, if_pos h1, if_pos h2, if_neg h3, if_pos h85, if_neg h86, if_pos h113, if_pos h114, if_pos h115, if_pos h116]; try rfl)
                  · refine wp_seg 3 (P := none) (ls' := [some (aR 5 (0)), some (aI (c)), some (aI (0))]) (st' := [aI (3), aI (σ 5 (0) 5)]) (σ' := σ) rq_65 rfl True.intro (i' := 81) rfl ?_
                    refine wp_icmp rq_65 rfl (fun (h117 : (σ 5 (0) 5) = 3) => ?_) (fun (h117 : ¬ ((σ 5 (0) 5) = 3)) => ?_)
                    · refine wp_seg 8 (P := none) (ls' := [some (aR 5 (0)), some (aI (c)), some (aI (0))]) (st' := [aI (0), aR 5 (0)]) (σ' := (up σ 5 (0) 4 (wr ((σ 5 (0) 4) + (1))))) rq_65 rfl True.intro (i' := 96) rfl ?_
                      refine wp_call (C := 5) (As := [aR 5 (0), aI (0)]) (rest := []) rq_65 (ev_openPart (0) (up σ 5 (0) 4 (wr ((σ 5 (0) 4) + (1)))) ) rfl rfl (show clOK 65 66 0 0 0 2 5 = true by decide +kernel) rfl (show 0 ≤ 4 by decide) (fun _ => ⟨_, rfl⟩) rfl (c' := 0) (s' := 0) rfl rfl ?_
                      refine wp_goto rq_65 rfl ?_
                      refine wp_seg 1 (P := none) (ls' := [some (aR 5 (0)), some (aI (c)), some (aI (0))]) (st' := [aI (1)]) (σ' := (zm_openPart (0) (up σ 5 (0) 4 (wr ((σ 5 (0) 4) + (1)))))) rq_65 rfl True.intro (i' := 101) rfl ?_
                      refine wp_zret rq_65 rfl rt_65 ?_ ⟨?_, ?_⟩
                      · first | exact Or.inl rfl | exact Or.inr rfl
                      · (rw [zo_accept, if_pos h1, if_pos h2, if_neg h3, if_pos h85, if_neg h86, if_pos h113, if_pos h114, if_pos h115, if_neg h116, if_pos h117]; try rfl)
                      · (rw [zm_accept, if_pos h1, if_pos h2, if_neg h3, if_pos h85, if_neg h86, if_pos h113, if_pos h114, if_pos h115, if_neg h116, if_pos h117]; try rfl)
                    · refine wp_seg 3 (P := none) (ls' := [some (aR 5 (0)), some (aI (c)), some (aI (0))]) (st' := [aI (2), aI (σ 5 (0) 5)]) (σ' := σ) rq_65 rfl True.intro (i' := 85) rfl ?_
                      refine wp_icmp rq_65 rfl (fun (h118 : ¬ (σ 5 (0) 5) = 2) => ?_) (fun (h118 : ¬ (¬ (σ 5 (0) 5) = 2)) => ?_)
                      · refine wp_seg 1 (P := none) (ls' := [some (aR 5 (0)), some (aI (c)), some (aI (0))]) (st' := [aI (0)]) (σ' := σ) rq_65 rfl True.intro (i' := 99) rfl ?_
                        refine wp_zret rq_65 rfl rt_65 ?_ ⟨?_, ?_⟩
                        · first | exact Or.inl rfl | exact Or.inr rfl
                        · (rw [zo_accept, if_pos h1, if_pos h2, if_neg h3, if_pos h85, if_neg h86, if_pos h113, if_pos h114, if_pos h115, if_neg h116, if_neg h117, if_pos h118]; try rfl)
                        · (rw [zm_accept, if_pos h1, if_pos h2, if_neg h3, if_pos h85, if_neg h86, if_pos h113, if_pos h114, if_pos h115, if_neg h116, if_neg h117, if_pos h118]; try rfl)
                      · refine wp_seg 1 (P := none) (ls' := [some (aR 5 (0)), some (aI (c)), some (aI (0))]) (st' := [aI (0)]) (σ' := σ) rq_65 rfl True.intro (i' := 87) rfl ?_
                        refine wp_if rq_65 rfl (fun _ => ?_) (fun (h119 : ¬ ((0 : Int) = (0 : Int))) => absurd (show (0 : Int) = (0 : Int) from by decide) h119)
                        refine wp_seg 1 (P := none) (ls' := [some (aR 5 (0)), some (aI (c)), some (aI (0))]) (st' := [aI (0)]) (σ' := σ) rq_65 rfl True.intro (i' := 99) rfl ?_
                        refine wp_zret rq_65 rfl rt_65 ?_ ⟨?_, ?_⟩
                        · first | exact Or.inl rfl | exact Or.inr rfl
                        · (rw [zo_accept, if_pos h1, if_pos h2, if_neg h3, if_pos h85, if_neg h86, if_pos h113, if_pos h114, if_pos h115, if_neg h116, if_neg h117, if_neg h118]; try rfl)
                        · (rw [zm_accept, if_pos h1, if_pos h2, if_neg h3, if_pos h85, if_neg h86, if_pos h113, if_pos h114, if_pos h115, if_neg h116, if_neg h117, if_neg h118]; try rfl)
                · refine wp_seg 1 (P := none) (ls' := [some (aR 5 (0)), some (aI (c)), some (aI (0))]) (st' := [aI (0)]) (σ' := σ) rq_65 rfl True.intro (i' := 55) rfl ?_
                  refine wp_if rq_65 rfl (fun _ => ?_) (fun (h120 : ¬ ((0 : Int) = (0 : Int))) => absurd (show (0 : Int) = (0 : Int) from by decide) h120)
                  refine wp_seg 2 (P := none) (ls' := [some (aR 5 (0)), some (aI (c)), some (aI (0))]) (st' := [aI (59), aI (c)]) (σ' := σ) rq_65 rfl True.intro (i' := 77) rfl ?_
                  refine wp_icmp rq_65 rfl (fun (h121 : ¬ (c) = 59) => ?_) (fun (h121 : ¬ (¬ (c) = 59)) => ?_)
                  · refine wp_seg 1 (P := none) (ls' := [some (aR 5 (0)), some (aI (c)), some (aI (0))]) (st' := [aI (0)]) (σ' := σ) rq_65 rfl True.intro (i' := 99) rfl ?_
                    refine wp_zret rq_65 rfl rt_65 ?_ ⟨?_, ?_⟩
                    · first | exact Or.inl rfl | exact Or.inr rfl
                    · (rw [zo_accept, if_pos h1, if_pos h2, if_neg h3, if_pos h85, if_neg h86, if_pos h113, if_pos h114, if_neg h115, if_pos h121]; try rfl)
                    · (rw [zm_accept, if_pos h1, if_pos h2, if_neg h3, if_pos h85, if_neg h86, if_pos h113, if_pos h114, if_neg h115, if_pos h121]; try rfl)
                  · refine wp_seg 3 (P := none) (ls' := [some (aR 5 (0)), some (aI (c)), some (aI (0))]) (st' := [aI (3), aI (σ 5 (0) 5)]) (σ' := σ) rq_65 rfl True.intro (i' := 81) rfl ?_
                    refine wp_icmp rq_65 rfl (fun (h122 : (σ 5 (0) 5) = 3) => ?_) (fun (h122 : ¬ ((σ 5 (0) 5) = 3)) => ?_)
                    · refine wp_seg 8 (P := none) (ls' := [some (aR 5 (0)), some (aI (c)), some (aI (0))]) (st' := [aI (0), aR 5 (0)]) (σ' := (up σ 5 (0) 4 (wr ((σ 5 (0) 4) + (1))))) rq_65 rfl True.intro (i' := 96) rfl ?_
                      refine wp_call (C := 5) (As := [aR 5 (0), aI (0)]) (rest := []) rq_65 (ev_openPart (0) (up σ 5 (0) 4 (wr ((σ 5 (0) 4) + (1)))) ) rfl rfl (show clOK 65 66 0 0 0 2 5 = true by decide +kernel) rfl (show 0 ≤ 4 by decide) (fun _ => ⟨_, rfl⟩) rfl (c' := 0) (s' := 0) rfl rfl ?_
                      refine wp_goto rq_65 rfl ?_
                      refine wp_seg 1 (P := none) (ls' := [some (aR 5 (0)), some (aI (c)), some (aI (0))]) (st' := [aI (1)]) (σ' := (zm_openPart (0) (up σ 5 (0) 4 (wr ((σ 5 (0) 4) + (1)))))) rq_65 rfl True.intro (i' := 101) rfl ?_
                      refine wp_zret rq_65 rfl rt_65 ?_ ⟨?_, ?_⟩
                      · first | exact Or.inl rfl | exact Or.inr rfl
                      · (rw [zo_accept, if_pos h1, if_pos h2, if_neg h3, if_pos h85, if_neg h86, if_pos h113, if_pos h114, if_neg h115, if_neg h121, if_pos h122]; try rfl)
                      · (rw [zm_accept, if_pos h1, if_pos h2, if_neg h3, if_pos h85, if_neg h86, if_pos h113, if_pos h114, if_neg h115, if_neg h121, if_pos h122]; try rfl)
                    · refine wp_seg 3 (P := none) (ls' := [some (aR 5 (0)), some (aI (c)), some (aI (0))]) (st' := [aI (2), aI (σ 5 (0) 5)]) (σ' := σ) rq_65 rfl True.intro (i' := 85) rfl ?_
                      refine wp_icmp rq_65 rfl (fun (h123 : ¬ (σ 5 (0) 5) = 2) => ?_) (fun (h123 : ¬ (¬ (σ 5 (0) 5) = 2)) => ?_)
                      · refine wp_seg 1 (P := none) (ls' := [some (aR 5 (0)), some (aI (c)), some (aI (0))]) (st' := [aI (0)]) (σ' := σ) rq_65 rfl True.intro (i' := 99) rfl ?_
                        refine wp_zret rq_65 rfl rt_65 ?_ ⟨?_, ?_⟩
                        · first | exact Or.inl rfl | exact Or.inr rfl
                        · (rw [zo_accept, if_pos h1, if_pos h2, if_neg h3, if_pos h85, if_neg h86, if_pos h113, if_pos h114, if_neg h115, if_neg h121, if_neg h122, if_pos h123]; try rfl)
                        · (rw [zm_accept, if_pos h1, if_pos h2, if_neg h3, if_pos h85, if_neg h86, if_pos h113, if_pos h114, if_neg h115, if_neg h121, if_neg h122, if_pos h123]; try rfl)
                      · refine wp_seg 1 (P := none) (ls' := [some (aR 5 (0)), some (aI (c)), some (aI (0))]) (st' := [aI (0)]) (σ' := σ) rq_65 rfl True.intro (i' := 87) rfl ?_
                        refine wp_if rq_65 rfl (fun _ => ?_) (fun (h124 : ¬ ((0 : Int) = (0 : Int))) => absurd (show (0 : Int) = (0 : Int) from by decide) h124)
                        refine wp_seg 1 (P := none) (ls' := [some (aR 5 (0)), some (aI (c)), some (aI (0))]) (st' := [aI (0)]) (σ' := σ) rq_65 rfl True.intro (i' := 99) rfl ?_
                        refine wp_zret rq_65 rfl rt_65 ?_ ⟨?_, ?_⟩
                        · first | exact Or.inl rfl | exact Or.inr rfl
                        · (rw [zo_accept, if_pos h1, if_pos h2, if_neg h3, if_pos h85, if_neg h86, if_pos h113, if_pos h114, if_neg h115, if_neg h121, if_neg h122, if_neg h123]; try rfl)
                        · (rw [zm_accept, if_pos h1, if_pos h2, if_neg h3, if_pos h85, if_neg h86, if_pos h113, if_pos h114, if_neg h115, if_neg h121, if_neg h122, if_neg h123]; try rfl)
              · refine wp_seg 2 (P := none) (ls' := [some (aR 5 (0)), some (aI (c)), some (aI (0))]) (st' := [aI (114), aI (c)]) (σ' := σ) rq_65 rfl True.intro (i' := 49) rfl ?_
                refine wp_icmp rq_65 rfl (fun (h125 : ¬ (c) = 114) => ?_) (fun (h125 : ¬ (¬ (c) = 114)) => ?_)
                · refine wp_seg 2 (P := none) (ls' := [some (aR 5 (0)), some (aI (c)), some (aI (0))]) (st' := [aI (59), aI (c)]) (σ' := σ) rq_65 rfl True.intro (i' := 77) rfl ?_
                  refine wp_icmp rq_65 rfl (fun (h126 : ¬ (c) = 59) => ?_) (fun (h126 : ¬ (¬ (c) = 59)) => ?_)
                  · refine wp_seg 1 (P := none) (ls' := [some (aR 5 (0)), some (aI (c)), some (aI (0))]) (st' := [aI (0)]) (σ' := σ) rq_65 rfl True.intro (i' := 99) rfl ?_
                    refine wp_zret rq_65 rfl rt_65 ?_ ⟨?_, ?_⟩
                    · first | exact Or.inl rfl | exact Or.inr rfl
                    · (rw [zo_accept, if_pos h1, if_pos h2, if_neg h3, if_pos h85, if_neg h86, if_pos h113, if_neg h114, if_pos h125, if_pos h126]; try rfl)
                    · (rw [zm_accept, if_pos h1, if_pos h2, if_neg h3, if_pos h85, if_neg h86, if_pos h113, if_neg h114, if_pos h125, if_pos h126]; try rfl)
                  · refine wp_seg 3 (P := none) (ls' := [some (aR 5 (0)), some (aI (c)), some (aI (0))]) (st' := [aI (3), aI (σ 5 (0) 5)]) (σ' := σ) rq_65 rfl True.intro (i' := 81) rfl ?_
                    refine wp_icmp rq_65 rfl (fun (h127 : (σ 5 (0) 5) = 3) => ?_) (fun (h127 : ¬ ((σ 5 (0) 5) = 3)) => ?_)
                    · refine wp_seg 8 (P := none) (ls' := [some (aR 5 (0)), some (aI (c)), some (aI (0))]) (st' := [aI (0), aR 5 (0)]) (σ' := (up σ 5 (0) 4 (wr ((σ 5 (0) 4) + (1))))) rq_65 rfl True.intro (i' := 96) rfl ?_
                      refine wp_call (C := 5) (As := [aR 5 (0), aI (0)]) (rest := []) rq_65 (ev_openPart (0) (up σ 5 (0) 4 (wr ((σ 5 (0) 4) + (1)))) ) rfl rfl (show clOK 65 66 0 0 0 2 5 = true by decide +kernel) rfl (show 0 ≤ 4 by decide) (fun _ => ⟨_, rfl⟩) rfl (c' := 0) (s' := 0) rfl rfl ?_
                      refine wp_goto rq_65 rfl ?_
                      refine wp_seg 1 (P := none) (ls' := [some (aR 5 (0)), some (aI (c)), some (aI (0))]) (st' := [aI (1)]) (σ' := (zm_openPart (0) (up σ 5 (0) 4 (wr ((σ 5 (0) 4) + (1)))))) rq_65 rfl True.intro (i' := 101) rfl ?_
                      refine wp_zret rq_65 rfl rt_65 ?_ ⟨?_, ?_⟩
                      · first | exact Or.inl rfl | exact Or.inr rfl
                      · (rw [zo_accept, if_pos h1, if_pos h2, if_neg h3, if_pos h85, if_neg h86, if_pos h113, if_neg h114, if_pos h125, if_neg h126, if_pos h127]; try rfl)
                      · (rw [zm_accept, if_pos h1, if_pos h2, if_neg h3, if_pos h85, if_neg h86, if_pos h113, if_neg h114, if_pos h125, if_neg h126, if_pos h127]; try rfl)
                    · refine wp_seg 3 (P := none) (ls' := [some (aR 5 (0)), some (aI (c)), some (aI (0))]) (st' := [aI (2), aI (σ 5 (0) 5)]) (σ' := σ) rq_65 rfl True.intro (i' := 85) rfl ?_
                      refine wp_icmp rq_65 rfl (fun (h128 : ¬ (σ 5 (0) 5) = 2) => ?_) (fun (h128 : ¬ (¬ (σ 5 (0) 5) = 2)) => ?_)
                      · refine wp_seg 1 (P := none) (ls' := [some (aR 5 (0)), some (aI (c)), some (aI (0))]) (st' := [aI (0)]) (σ' := σ) rq_65 rfl True.intro (i' := 99) rfl ?_
                        refine wp_zret rq_65 rfl rt_65 ?_ ⟨?_, ?_⟩
                        · first | exact Or.inl rfl | exact Or.inr rfl
                        · (rw [zo_accept, if_pos h1, if_pos h2, if_neg h3, if_pos h85, if_neg h86, if_pos h113, if_neg h114, if_pos h125, if_neg h126, if_neg h127, if_pos h128]; try rfl)
                        · (rw [zm_accept, if_pos h1, if_pos h2, if_neg h3, if_pos h85, if_neg h86, if_pos h113, if_neg h114, if_pos h125, if_neg h126, if_neg h127, if_pos h128]; try rfl)
                      · refine wp_seg 1 (P := none) (ls' := [some (aR 5 (0)), some (aI (c)), some (aI (0))]) (st' := [aI (0)]) (σ' := σ) rq_65 rfl True.intro (i' := 87) rfl ?_
                        refine wp_if rq_65 rfl (fun _ => ?_) (fun (h129 : ¬ ((0 : Int) = (0 : Int))) => absurd (show (0 : Int) = (0 : Int) from by decide) h129)
                        refine wp_seg 1 (P := none) (ls' := [some (aR 5 (0)), some (aI (c)), some (aI (0))]) (st' := [aI (0)]) (σ' := σ) rq_65 rfl True.intro (i' := 99) rfl ?_
                        refine wp_zret rq_65 rfl rt_65 ?_ ⟨?_, ?_⟩
                        · first | exact Or.inl rfl | exact Or.inr rfl
                        · (rw [zo_accept, if_pos h1, if_pos h2, if_neg h3, if_pos h85, if_neg h86, if_pos h113, if_neg h114, if_pos h125, if_neg h126, if_neg h127, if_neg h128]; try rfl)
                        · (rw [zm_accept, if_pos h1, if_pos h2, if_neg h3, if_pos h85, if_neg h86, if_pos h113, if_neg h114, if_pos h125, if_neg h126, if_neg h127, if_neg h128]; try rfl)
                · refine wp_seg 3 (P := none) (ls' := [some (aR 5 (0)), some (aI (c)), some (aI (0))]) (st' := [aI (2), aI (σ 5 (0) 5)]) (σ' := σ) rq_65 rfl True.intro (i' := 53) rfl ?_
                  refine wp_icmp rq_65 rfl (fun (h130 : ¬ (σ 5 (0) 5) = 2) => ?_) (fun (h130 : ¬ (¬ (σ 5 (0) 5) = 2)) => ?_)
                  · refine wp_seg 2 (P := none) (ls' := [some (aR 5 (0)), some (aI (c)), some (aI (0))]) (st' := [aI (59), aI (c)]) (σ' := σ) rq_65 rfl True.intro (i' := 77) rfl ?_
                    refine wp_icmp rq_65 rfl (fun (h131 : ¬ (c) = 59) => ?_) (fun (h131 : ¬ (¬ (c) = 59)) => ?_)
                    · refine wp_seg 1 (P := none) (ls' := [some (aR 5 (0)), some (aI (c)), some (aI (0))]) (st' := [aI (0)]) (σ' := σ) rq_65 rfl True.intro (i' := 99) rfl ?_
                      refine wp_zret rq_65 rfl rt_65 ?_ ⟨?_, ?_⟩
                      · first | exact Or.inl rfl | exact Or.inr rfl
                      · (rw [zo_accept, if_pos h1, if_pos h2, if_neg h3, if_pos h85, if_neg h86, if_pos h113, if_neg h114, if_neg h125, if_pos h130, if_pos h131]; try rfl)
                      · (rw [zm_accept, if_pos h1, if_pos h2, if_neg h3, if_pos h85, if_neg h86, if_pos h113, if_neg h114, if_neg h125, if_pos h130, if_pos h131]; try rfl)
                    · refine wp_seg 3 (P := none) (ls' := [some (aR 5 (0)), some (aI (c)), some (aI (0))]) (st' := [aI (3), aI (σ 5 (0) 5)]) (σ' := σ) rq_65 rfl True.intro (i' := 81) rfl ?_
                      refine wp_icmp rq_65 rfl (fun (h132 : (σ 5 (0) 5) = 3) => ?_) (fun (h132 : ¬ ((σ 5 (0) 5) = 3)) => ?_)
                      · refine wp_seg 8 (P := none) (ls' := [some (aR 5 (0)), some (aI (c)), some (aI (0))]) (st' := [aI (0), aR 5 (0)]) (σ' := (up σ 5 (0) 4 (wr ((σ 5 (0) 4) + (1))))) rq_65 rfl True.intro (i' := 96) rfl ?_
                        refine wp_call (C := 5) (As := [aR 5 (0), aI (0)]) (rest := []) rq_65 (ev_openPart (0) (up σ 5 (0) 4 (wr ((σ 5 (0) 4) + (1)))) ) rfl rfl (show clOK 65 66 0 0 0 2 5 = true by decide +kernel) rfl (show 0 ≤ 4 by decide) (fun _ => ⟨_, rfl⟩) rfl (c' := 0) (s' := 0) rfl rfl ?_
                        refine wp_goto rq_65 rfl ?_
                        refine wp_seg 1 (P := none) (ls' := [some (aR 5 (0)), some (aI (c)), some (aI (0))]) (st' := [aI (1)]) (σ' := (zm_openPart (0) (up σ 5 (0) 4 (wr ((σ 5 (0) 4) + (1)))))) rq_65 rfl True.intro (i' := 101) rfl ?_
                        refine wp_zret rq_65 rfl rt_65 ?_ ⟨?_, ?_⟩
                        · first | exact Or.inl rfl | exact Or.inr rfl
                        · (rw [zo_accept, if_pos h1, if_pos h2, if_neg h3, if_pos h85, if_neg h86, if_pos h113, if_neg h114, if_neg h125, if_pos h130, if_neg h131, if_pos h132]; try rfl)
                        · (rw [zm_accept, if_pos h1, if_pos h2, if_neg h3, if_pos h85, if_neg h86, if_pos h113, if_neg h114, if_neg h125, if_pos h130, if_neg h131, if_pos h132]; try rfl)
                      · refine wp_seg 3 (P := none) (ls' := [some (aR 5 (0)), some (aI (c)), some (aI (0))]) (st' := [aI (2), aI (σ 5 (0) 5)]) (σ' := σ) rq_65 rfl True.intro (i' := 85) rfl ?_
                        refine wp_icmp rq_65 rfl (fun (h133 : ¬ (σ 5 (0) 5) = 2) => ?_) (fun (h133 : ¬ (¬ (σ 5 (0) 5) = 2)) => ?_)
                        · refine wp_seg 1 (P := none) (ls' := [some (aR 5 (0)), some (aI (c)), some (aI (0))]) (st' := [aI (0)]) (σ' := σ) rq_65 rfl True.intro (i' := 99) rfl ?_
                          refine wp_zret rq_65 rfl rt_65 ?_ ⟨?_, ?_⟩
                          · first | exact Or.inl rfl | exact Or.inr rfl
                          · (rw [zo_accept, if_pos h1, if_pos h2, if_neg h3, if_pos h85, if_neg h86, if_pos h113, if_neg h114, if_neg h125, if_pos h130, if_neg h131, if_neg h132, if_pos h133]; try rfl)
                          · (rw [zm_accept, if_pos h1, if_pos h2, if_neg h3, if_pos h85, if_neg h86, if_pos h113, if_neg h114, if_neg h125, if_pos h130, if_neg h131, if_neg h132, if_pos h133]; try rfl)
                        · refine wp_seg 1 (P := none) (ls' := [some (aR 5 (0)), some (aI (c)), some (aI (0))]) (st' := [aI (0)]) (σ' := σ) rq_65 rfl True.intro (i' := 87) rfl ?_
                          refine wp_if rq_65 rfl (fun _ => ?_) (fun (h134 : ¬ ((0 : Int) = (0 : Int))) => absurd (show (0 : Int) = (0 : Int) from by decide) h134)
                          refine wp_seg 1 (P := none) (ls' := [some (aR 5 (0)), some (aI (c)), some (aI (0))]) (st' := [aI (0)]) (σ' := σ) rq_65 rfl True.intro (i' := 99) rfl ?_
                          refine wp_zret rq_65 rfl rt_65 ?_ ⟨?_, ?_⟩
                          · first | exact Or.inl rfl | exact Or.inr rfl
                          · (rw [zo_accept, if_pos h1, if_pos h2, if_neg h3, if_pos h85, if_neg h86, if_pos h113, if_neg h114, if_neg h125, if_pos h130, if_neg h131, if_neg h132, if_neg h133]; try rfl)
                          · (rw [zm_accept, if_pos h1, if_pos h2, if_neg h3, if_pos h85, if_neg h86, if_pos h113, if_neg h114, if_neg h125, if_pos h130, if_neg h131, if_neg h132, if_neg h133]; try rfl)
                  · refine wp_seg 1 (P := none) (ls' := [some (aR 5 (0)), some (aI (c)), some (aI (0))]) (st' := [aI (0)]) (σ' := σ) rq_65 rfl True.intro (i' := 55) rfl ?_
                    refine wp_if rq_65 rfl (fun _ => ?_) (fun (h135 : ¬ ((0 : Int) = (0 : Int))) => absurd (show (0 : Int) = (0 : Int) from by decide) h135)
                    refine wp_seg 2 (P := none) (ls' := [some (aR 5 (0)), some (aI (c)), some (aI (0))]) (st' := [aI (59), aI (c)]) (σ' := σ) rq_65 rfl True.intro (i' := 77) rfl ?_
                    refine wp_icmp rq_65 rfl (fun (h136 : ¬ (c) = 59) => ?_) (fun (h136 : ¬ (¬ (c) = 59)) => ?_)
                    · refine wp_seg 1 (P := none) (ls' := [some (aR 5 (0)), some (aI (c)), some (aI (0))]) (st' := [aI (0)]) (σ' := σ) rq_65 rfl True.intro (i' := 99) rfl ?_
                      refine wp_zret rq_65 rfl rt_65 ?_ ⟨?_, ?_⟩
                      · first | exact Or.inl rfl | exact Or.inr rfl
                      · (rw [zo_accept, if_pos h1, if_pos h2, if_neg h3, if_pos h85, if_neg h86, if_pos h113, if_neg h114, if_neg h125, if_neg h130, if_pos h136]; try rfl)
                      · (rw [zm_accept, if_pos h1, if_pos h2, if_neg h3, if_pos h85, if_neg h86, if_pos h113, if_neg h114, if_neg h125, if_neg h130, if_pos h136]; try rfl)
                    · refine wp_seg 3 (P := none) (ls' := [some (aR 5 (0)), some (aI (c)), some (aI (0))]) (st' := [aI (3), aI (σ 5 (0) 5)]) (σ' := σ) rq_65 rfl True.intro (i' := 81) rfl ?_
                      refine wp_icmp rq_65 rfl (fun (h137 : (σ 5 (0) 5) = 3) => ?_) (fun (h137 : ¬ ((σ 5 (0) 5) = 3)) => ?_)
                      · refine wp_seg 8 (P := none) (ls' := [some (aR 5 (0)), some (aI (c)), some (aI (0))]) (st' := [aI (0), aR 5 (0)]) (σ' := (up σ 5 (0) 4 (wr ((σ 5 (0) 4) + (1))))) rq_65 rfl True.intro (i' := 96) rfl ?_
                        refine wp_call (C := 5) (As := [aR 5 (0), aI (0)]) (rest := []) rq_65 (ev_openPart (0) (up σ 5 (0) 4 (wr ((σ 5 (0) 4) + (1)))) ) rfl rfl (show clOK 65 66 0 0 0 2 5 = true by decide +kernel) rfl (show 0 ≤ 4 by decide) (fun _ => ⟨_, rfl⟩) rfl (c' := 0) (s' := 0) rfl rfl ?_
                        refine wp_goto rq_65 rfl ?_
                        refine wp_seg 1 (P := none) (ls' := [some (aR 5 (0)), some (aI (c)), some (aI (0))]) (st' := [aI (1)]) (σ' := (zm_openPart (0) (up σ 5 (0) 4 (wr ((σ 5 (0) 4) + (1)))))) rq_65 rfl True.intro (i' := 101) rfl ?_
                        refine wp_zret rq_65 rfl rt_65 ?_ ⟨?_, ?_⟩
                        · first | exact Or.inl rfl | exact Or.inr rfl
                        · (rw [zo_accept, if_pos h1, if_pos h2, if_neg h3, if_pos h85, if_neg h86, if_pos h113, if_neg h114, if_neg h125, if_neg h130, if_neg h136, if_pos h137]; try rfl)
                        · (rw [zm_accept, if_pos h1, if_pos h2, if_neg h3, if_pos h85, if_neg h86, if_pos h113, if_neg h114, if_neg h125, if_neg h130, if_neg h136, if_pos h137]; try rfl)
                      · refine wp_seg 3 (P := none) (ls' := [some (aR 5 (0)), some (aI (c)), some (aI (0))]) (st' := [aI (2), aI (σ 5 (0) 5)]) (σ' := σ) rq_65 rfl True.intro (i' := 85) rfl ?_
                        refine wp_icmp rq_65 rfl (fun (h138 : ¬ (σ 5 (0) 5) = 2) => ?_) (fun (h138 : ¬ (¬ (σ 5 (0) 5) = 2)) => ?_)
                        · refine wp_seg 1 (P := none) (ls' := [some (aR 5 (0)), some (aI (c)), some (aI (0))]) (st' := [aI (0)]) (σ' := σ) rq_65 rfl True.intro (i' := 99) rfl ?_
                          refine wp_zret rq_65 rfl rt_65 ?_ ⟨?_, ?_⟩
                          · first | exact Or.inl rfl | exact Or.inr rfl
                          · (rw [zo_accept, if_pos h1, if_pos h2, if_neg h3, if_pos h85, if_neg h86, if_pos h113, if_neg h114, if_neg h125, if_neg h130, if_neg h136, if_neg h137, if_pos h138]; try rfl)
                          · (rw [zm_accept, if_pos h1, if_pos h2, if_neg h3, if_pos h85, if_neg h86, if_pos h113, if_neg h114, if_neg h125, if_neg h130, if_neg h136, if_neg h137, if_pos h138]; try rfl)
                        · refine wp_seg 1 (P := none) (ls' := [some (aR 5 (0)), some (aI (c)), some (aI (0))]) (st' := [aI (0)]) (σ' := σ) rq_65 rfl True.intro (i' := 87) rfl ?_
                          refine wp_if rq_65 rfl (fun _ => ?_) (fun (h139 : ¬ ((0 : Int) = (0 : Int))) => absurd (show (0 : Int) = (0 : Int) from by decide) h139)
                          refine wp_seg 1 (P := none) (ls' := [some (aR 5 (0)), some (aI (c)), some (aI (0))]) (st' := [aI (0)]) (σ' := σ) rq_65 rfl True.intro (i' := 99) rfl ?_
                          refine wp_zret rq_65 rfl rt_65 ?_ ⟨?_, ?_⟩
                          · first | exact Or.inl rfl | exact Or.inr rfl
                          · (rw [zo_accept, if_pos h1, if_pos h2, if_neg h3, if_pos h85, if_neg h86, if_pos h113, if_neg h114, if_neg h125, if_neg h130, if_neg h136, if_neg h137, if_neg h138]; try rfl)
                          · (rw [zm_accept, if_pos h1, if_pos h2, if_neg h3, if_pos h85, if_neg h86, if_pos h113, if_neg h114, if_neg h125, if_neg h130, if_neg h136, if_neg h137, if_neg h138]; try rfl)
            · refine wp_seg 1 (P := none) (ls' := [some (aR 5 (0)), some (aI (c)), some (aI (0))]) (st' := [aI (0)]) (σ' := σ) rq_65 rfl True.intro (i' := 39) rfl ?_
              refine wp_if rq_65 rfl (fun _ => ?_) (fun (h140 : ¬ ((0 : Int) = (0 : Int))) => absurd (show (0 : Int) = (0 : Int) from by decide) h140)
              refine wp_seg 2 (P := none) (ls' := [some (aR 5 (0)), some (aI (c)), some (aI (0))]) (st' := [aI (108), aI (c)]) (σ' := σ) rq_65 rfl True.intro (i' := 46) rfl ?_
              refine wp_icmp rq_65 rfl (fun (h141 : (c) = 108) => ?_) (fun (h141 : ¬ ((c) = 108)) => ?_)
              · refine wp_seg 3 (P := none) (ls' := [some (aR 5 (0)), some (aI (c)), some (aI (0))]) (st' := [aI (2), aI (σ 5 (0) 5)]) (σ' := σ) rq_65 rfl True.intro (i' := 53) rfl ?_
                refine wp_icmp rq_65 rfl (fun (h142 : ¬ (σ 5 (0) 5) = 2) => ?_) (fun (h142 : ¬ (¬ (σ 5 (0) 5) = 2)) => ?_)
                · refine wp_seg 2 (P := none) (ls' := [some (aR 5 (0)), some (aI (c)), some (aI (0))]) (st' := [aI (59), aI (c)]) (σ' := σ) rq_65 rfl True.intro (i' := 77) rfl ?_
                  refine wp_icmp rq_65 rfl (fun (h143 : ¬ (c) = 59) => ?_) (fun (h143 : ¬ (¬ (c) = 59)) => ?_)
                  · refine wp_seg 1 (P := none) (ls' := [some (aR 5 (0)), some (aI (c)), some (aI (0))]) (st' := [aI (0)]) (σ' := σ) rq_65 rfl True.intro (i' := 99) rfl ?_
                    refine wp_zret rq_65 rfl rt_65 ?_ ⟨?_, ?_⟩
                    · first | exact Or.inl rfl | exact Or.inr rfl
                    · (rw [zo_accept, if_pos h1, if_pos h2, if_neg h3, if_pos h85, if_neg h86, if_neg h113, if_pos h141, if_pos h142, if_pos h143]; try rfl)
                    · (rw [zm_accept, if_pos h1, if_pos h2, if_neg h3, if_pos h85, if_neg h86, if_neg h113, if_pos h141, if_pos h142, if_pos h143]; try rfl)
                  · refine wp_seg 3 (P := none) (ls' := [some (aR 5 (0)), some (aI (c)), some (aI (0))]) (st' := [aI (3), aI (σ 5 (0) 5)]) (σ' := σ) rq_65 rfl True.intro (i' := 81) rfl ?_
                    refine wp_icmp rq_65 rfl (fun (h144 : (σ 5 (0) 5) = 3) => ?_) (fun (h144 : ¬ ((σ 5 (0) 5) = 3)) => ?_)
                    · refine wp_seg 8 (P := none) (ls' := [some (aR 5 (0)), some (aI (c)), some (aI (0))]) (st' := [aI (0), aR 5 (0)]) (σ' := (up σ 5 (0) 4 (wr ((σ 5 (0) 4) + (1))))) rq_65 rfl True.intro (i' := 96) rfl ?_
                      refine wp_call (C := 5) (As := [aR 5 (0), aI (0)]) (rest := []) rq_65 (ev_openPart (0) (up σ 5 (0) 4 (wr ((σ 5 (0) 4) + (1)))) ) rfl rfl (show clOK 65 66 0 0 0 2 5 = true by decide +kernel) rfl (show 0 ≤ 4 by decide) (fun _ => ⟨_, rfl⟩) rfl (c' := 0) (s' := 0) rfl rfl ?_
                      refine wp_goto rq_65 rfl ?_
                      refine wp_seg 1 (P := none) (ls' := [some (aR 5 (0)), some (aI (c)), some (aI (0))]) (st' := [aI (1)]) (σ' := (zm_openPart (0) (up σ 5 (0) 4 (wr ((σ 5 (0) 4) + (1)))))) rq_65 rfl True.intro (i' := 101) rfl ?_
                      refine wp_zret rq_65 rfl rt_65 ?_ ⟨?_, ?_⟩
                      · first | exact Or.inl rfl | exact Or.inr rfl
                      · (rw [zo_accept, if_pos h1, if_pos h2, if_neg h3, if_pos h85, if_neg h86, if_neg h113, if_pos h141, if_pos h142, if_neg h143, if_pos h144]; try rfl)
                      · (rw [zm_accept, if_pos h1, if_pos h2, if_neg h3, if_pos h85, if_neg h86, if_neg h113, if_pos h141, if_pos h142, if_neg h143, if_pos h144]; try rfl)
                    · refine wp_seg 3 (P := none) (ls' := [some (aR 5 (0)), some (aI (c)), some (aI (0))]) (st' := [aI (2), aI (σ 5 (0) 5)]) (σ' := σ) rq_65 rfl True.intro (i' := 85) rfl ?_
                      refine wp_icmp rq_65 rfl (fun (h145 : ¬ (σ 5 (0) 5) = 2) => ?_) (fun (h145 : ¬ (¬ (σ 5 (0) 5) = 2)) => ?_)
                      · refine wp_seg 1 (P := none) (ls' := [some (aR 5 (0)), some (aI (c)), some (aI (0))]) (st' := [aI (0)]) (σ' := σ) rq_65 rfl True.intro (i' := 99) rfl ?_
                        refine wp_zret rq_65 rfl rt_65 ?_ ⟨?_, ?_⟩
                        · first | exact Or.inl rfl | exact Or.inr rfl
                        · (rw [zo_accept, if_pos h1, if_pos h2, if_neg h3, if_pos h85, if_neg h86, if_neg h113, if_pos h141, if_pos h142, if_neg h143, if_neg h144, if_pos h145]; try rfl)
                        · (rw [zm_accept, if_pos h1, if_pos h2, if_neg h3, if_pos h85, if_neg h86, if_neg h113, if_pos h141, if_pos h142, if_neg h143, if_neg h144, if_pos h145]; try rfl)
                      · refine wp_seg 1 (P := none) (ls' := [some (aR 5 (0)), some (aI (c)), some (aI (0))]) (st' := [aI (0)]) (σ' := σ) rq_65 rfl True.intro (i' := 87) rfl ?_
                        refine wp_if rq_65 rfl (fun _ => ?_) (fun (h146 : ¬ ((0 : Int) = (0 : Int))) => absurd (show (0 : Int) = (0 : Int) from by decide) h146)
                        refine wp_seg 1 (P := none) (ls' := [some (aR 5 (0)), some (aI (c)), some (aI (0))]) (st' := [aI (0)]) (σ' := σ) rq_65 rfl True.intro (i' := 99) rfl ?_
                        refine wp_zret rq_65 rfl rt_65 ?_ ⟨?_, ?_⟩
                        · first | exact Or.inl rfl | exact Or.inr rfl
                        · (rw [zo_accept, if_pos h1, if_pos h2, if_neg h3, if_pos h85, if_neg h86, if_neg h113, if_pos h141, if_pos h142, if_neg h143, if_neg h144, if_neg h145]; try rfl)
                        · (rw [zm_accept, if_pos h1, if_pos h2, if_neg h3, if_pos h85, if_neg h86, if_neg h113, if_pos h141, if_pos h142, if_neg h143, if_neg h144, if_neg h145]; try rfl)
                · refine wp_seg 1 (P := none) (ls' := [some (aR 5 (0)), some (aI (c)), some (aI (0))]) (st' := [aI (0)]) (σ' := σ) rq_65 rfl True.intro (i' := 55) rfl ?_
                  refine wp_if rq_65 rfl (fun _ => ?_) (fun (h147 : ¬ ((0 : Int) = (0 : Int))) => absurd (show (0 : Int) = (0 : Int) from by decide) h147)
                  refine wp_seg 2 (P := none) (ls' := [some (aR 5 (0)), some (aI (c)), some (aI (0))]) (st' := [aI (59), aI (c)]) (σ' := σ) rq_65 rfl True.intro (i' := 77) rfl ?_
                  refine wp_icmp rq_65 rfl (fun (h148 : ¬ (c) = 59) => ?_) (fun (h148 : ¬ (¬ (c) = 59)) => ?_)
                  · refine wp_seg 1 (P := none) (ls' := [some (aR 5 (0)), some (aI (c)), some (aI (0))]) (st' := [aI (0)]) (σ' := σ) rq_65 rfl True.intro (i' := 99) rfl ?_
                    refine wp_zret rq_65 rfl rt_65 ?_ ⟨?_, ?_⟩
                    · first | exact Or.inl rfl | exact Or.inr rfl
                    · (rw [zo_accept, if_pos h1, if_pos h2, if_neg h3, if_pos h85, if_neg h86, if_neg h113, if_pos h141, if_neg h142, if_pos h148]; try rfl)
                    · (rw [zm_accept, if_pos h1, if_pos h2, if_neg h3, if_pos h85, if_neg h86, if_neg h113, if_pos h141, if_neg h142, if_pos h148]; try rfl)
                  · refine wp_seg 3 (P := none) (ls' := [some (aR 5 (0)), some (aI (c)), some (aI (0))]) (st' := [aI (3), aI (σ 5 (0) 5)]) (σ' := σ) rq_65 rfl True.intro (i' := 81) rfl ?_
                    refine wp_icmp rq_65 rfl (fun (h149 : (σ 5 (0) 5) = 3) => ?_) (fun (h149 : ¬ ((σ 5 (0) 5) = 3)) => ?_)
                    · refine wp_seg 8 (P := none) (ls' := [some (aR 5 (0)), some (aI (c)), some (aI (0))]) (st' := [aI (0), aR 5 (0)]) (σ' := (up σ 5 (0) 4 (wr ((σ 5 (0) 4) + (1))))) rq_65 rfl True.intro (i' := 96) rfl ?_
                      refine wp_call (C := 5) (As := [aR 5 (0), aI (0)]) (rest := []) rq_65 (ev_openPart (0) (up σ 5 (0) 4 (wr ((σ 5 (0) 4) + (1)))) ) rfl rfl (show clOK 65 66 0 0 0 2 5 = true by decide +kernel) rfl (show 0 ≤ 4 by decide) (fun _ => ⟨_, rfl⟩) rfl (c' := 0) (s' := 0) rfl rfl ?_
                      refine wp_goto rq_65 rfl ?_
                      refine wp_seg 1 (P := none) (ls' := [some (aR 5 (0)), some (aI (c)), some (aI (0))]) (st' := [aI (1)]) (σ' := (zm_openPart (0) (up σ 5 (0) 4 (wr ((σ 5 (0) 4) + (1)))))) rq_65 rfl True.intro (i' := 101) rfl ?_
                      refine wp_zret rq_65 rfl rt_65 ?_ ⟨?_, ?_⟩
                      · first | exact Or.inl rfl | exact Or.inr rfl
                      · (rw [zo_accept, if_pos h1, if_pos h2, if_neg h3, if_pos h85, if_neg h86, if_neg h113, if_pos h141, if_neg h142, if_neg h148, if_pos h149]; try rfl)
                      · (rw [zm_accept, if_pos h1, if_pos h2, if_neg h3, if_pos h85, if_neg h86, if_neg h113, if_pos h141, if_neg h142, if_neg h148, if_pos h149]; try rfl)
                    · refine wp_seg 3 (P := none) (ls' := [some (aR 5 (0)), some (aI (c)), some (aI (0))]) (st' := [aI (2), aI (σ 5 (0) 5)]) (σ' := σ) rq_65 rfl True.intro (i' := 85) rfl ?_
                      refine wp_icmp rq_65 rfl (fun (h150 : ¬ (σ 5 (0) 5) = 2) => ?_) (fun (h150 : ¬ (¬ (σ 5 (0) 5) = 2)) => ?_)
                      · refine wp_seg 1 (P := none) (ls' := [some (aR 5 (0)), some (aI (c)), some (aI (0))]) (st' := [aI (0)]) (σ' := σ) rq_65 rfl True.intro (i' := 99) rfl ?_
                        refine wp_zret rq_65 rfl rt_65 ?_ ⟨?_, ?_⟩
                        · first | exact Or.inl rfl | exact Or.inr rfl
                        · (rw [zo_accept, if_pos h1, if_pos h2, if_neg h3, if_pos h85, if_neg h86, if_neg h113, if_pos h141, if_neg h142, if_neg h148, if_neg h149, if_pos h150]; try rfl)
                        · (rw [zm_accept, if_pos h1, if_pos h2, if_neg h3, if_pos h85, if_neg h86, if_neg h113, if_pos h141, if_neg h142, if_neg h148, if_neg h149, if_pos h150]; try rfl)
                      · refine wp_seg 1 (P := none) (ls' := [some (aR 5 (0)), some (aI (c)), some (aI (0))]) (st' := [aI (0)]) (σ' := σ) rq_65 rfl True.intro (i' := 87) rfl ?_
                        refine wp_if rq_65 rfl (fun _ => ?_) (fun (h151 : ¬ ((0 : Int) = (0 : Int))) => absurd (show (0 : Int) = (0 : Int) from by decide) h151)
                        refine wp_seg 1 (P := none) (ls' := [some (aR 5 (0)), some (aI (c)), some (aI (0))]) (st' := [aI (0)]) (σ' := σ) rq_65 rfl True.intro (i' := 99) rfl ?_
                        refine wp_zret rq_65 rfl rt_65 ?_ ⟨?_, ?_⟩
                        · first | exact Or.inl rfl | exact Or.inr rfl
                        · (rw [zo_accept, if_pos h1, if_pos h2, if_neg h3, if_pos h85, if_neg h86, if_neg h113, if_pos h141, if_neg h142, if_neg h148, if_neg h149, if_neg h150]; try rfl)
                        · (rw [zm_accept, if_pos h1, if_pos h2, if_neg h3, if_pos h85, if_neg h86, if_neg h113, if_pos h141, if_neg h142, if_neg h148, if_neg h149, if_neg h150]; try rfl)
              · refine wp_seg 2 (P := none) (ls' := [some (aR 5 (0)), some (aI (c)), some (aI (0))]) (st' := [aI (114), aI (c)]) (σ' := σ) rq_65 rfl True.intro (i' := 49) rfl ?_
                refine wp_icmp rq_65 rfl (fun (h152 : ¬ (c) = 114) => ?_) (fun (h152 : ¬ (¬ (c) = 114)) => ?_)
                · refine wp_seg 2 (P := none) (ls' := [some (aR 5 (0)), some (aI (c)), some (aI (0))]) (st' := [aI (59), aI (c)]) (σ' := σ) rq_65 rfl True.intro (i' := 77) rfl ?_
                  refine wp_icmp rq_65 rfl (fun (h153 : ¬ (c) = 59) => ?_) (fun (h153 : ¬ (¬ (c) = 59)) => ?_)
                  · refine wp_seg 1 (P := none) (ls' := [some (aR 5 (0)), some (aI (c)), some (aI (0))]) (st' := [aI (0)]) (σ' := σ) rq_65 rfl True.intro (i' := 99) rfl ?_
                    refine wp_zret rq_65 rfl rt_65 ?_ ⟨?_, ?_⟩
                    · first | exact Or.inl rfl | exact Or.inr rfl
                    · (rw [zo_accept, if_pos h1, if_pos h2, if_neg h3, if_pos h85, if_neg h86, if_neg h113, if_neg h141, if_pos h152, if_pos h153]; try rfl)
                    · (rw [zm_accept, if_pos h1, if_pos h2, if_neg h3, if_pos h85, if_neg h86, if_neg h113, if_neg h141, if_pos h152, if_pos h153]; try rfl)
                  · refine wp_seg 3 (P := none) (ls' := [some (aR 5 (0)), some (aI (c)), some (aI (0))]) (st' := [aI (3), aI (σ 5 (0) 5)]) (σ' := σ) rq_65 rfl True.intro (i' := 81) rfl ?_
                    refine wp_icmp rq_65 rfl (fun (h154 : (σ 5 (0) 5) = 3) => ?_) (fun (h154 : ¬ ((σ 5 (0) 5) = 3)) => ?_)
                    · refine wp_seg 8 (P := none) (ls' := [some (aR 5 (0)), some (aI (c)), some (aI (0))]) (st' := [aI (0), aR 5 (0)]) (σ' := (up σ 5 (0) 4 (wr ((σ 5 (0) 4) + (1))))) rq_65 rfl True.intro (i' := 96) rfl ?_
                      refine wp_call (C := 5) (As := [aR 5 (0), aI (0)]) (rest := []) rq_65 (ev_openPart (0) (up σ 5 (0) 4 (wr ((σ 5 (0) 4) + (1)))) ) rfl rfl (show clOK 65 66 0 0 0 2 5 = true by decide +kernel) rfl (show 0 ≤ 4 by decide) (fun _ => ⟨_, rfl⟩) rfl (c' := 0) (s' := 0) rfl rfl ?_
                      refine wp_goto rq_65 rfl ?_
                      refine wp_seg 1 (P := none) (ls' := [some (aR 5 (0)), some (aI (c)), some (aI (0))]) (st' := [aI (1)]) (σ' := (zm_openPart (0) (up σ 5 (0) 4 (wr ((σ 5 (0) 4) + (1)))))) rq_65 rfl True.intro (i' := 101) rfl ?_
                      refine wp_zret rq_65 rfl rt_65 ?_ ⟨?_, ?_⟩
                      · first | exact Or.inl rfl | exact Or.inr rfl
                      · (rw [zo_accept, if_pos h1, if_pos h2, if_neg h3, if_pos h85, if_neg h86, if_neg h113, if_neg h141, if_pos h152, if_neg h153, if_pos h154]; try rfl)
                      · (rw [zm_accept, if_pos h1, if_pos h2, if_neg h3, if_pos h85, if_neg h86, if_neg h113, if_neg h141, if_pos h152, if_neg h153, if_pos h154]; try rfl)
                    · refine wp_seg 3 (P := none) (ls' := [some (aR 5 (0)), some (aI (c)), some (aI (0))]) (st' := [aI (2), aI (σ 5 (0) 5)]) (σ' := σ) rq_65 rfl True.intro (i' := 85) rfl ?_
                      refine wp_icmp rq_65 rfl (fun (h155 : ¬ (σ 5 (0) 5) = 2) => ?_) (fun (h155 : ¬ (¬ (σ 5 (0) 5) = 2)) => ?_)
                      · refine wp_seg 1 (P := none) (ls' := [some (aR 5 (0)), some (aI (c)), some (aI (0))]) (st' := [aI (0)]) (σ' := σ) rq_65 rfl True.intro (i' := 99) rfl ?_
                        refine wp_zret rq_65 rfl rt_65 ?_ ⟨?_, ?_⟩
                        · first | exact Or.inl rfl | exact Or.inr rfl
                        · (rw [zo_accept, if_pos h1, if_pos h2, if_neg h3, if_pos h85, if_neg h86, if_neg h113, if_neg h141, if_pos h152, if_neg h153, if_neg h154, if_pos h155]; try rfl)
                        · (rw [zm_accept, if_pos h1, if_pos h2, if_neg h3, if_pos h85, if_neg h86, if_neg h113, if_neg h141, if_pos h152, if_neg h153, if_neg h154, if_pos h155]; try rfl)
                      · refine wp_seg 1 (P := none) (ls' := [some (aR 5 (0)), some (aI (c)), some (aI (0))]) (st' := [aI (0)]) (σ' := σ) rq_65 rfl True.intro (i' := 87) rfl ?_
                        refine wp_if rq_65 rfl (fun _ => ?_) (fun (h156 : ¬ ((0 : Int) = (0 : Int))) => absurd (show (0 : Int) = (0 : Int) from by decide) h156)
                        refine wp_seg 1 (P := none) (ls' := [some (aR 5 (0)), some (aI (c)), some (aI (0))]) (st' := [aI (0)]) (σ' := σ) rq_65 rfl True.intro (i' := 99) rfl ?_
                        refine wp_zret rq_65 rfl rt_65 ?_ ⟨?_, ?_⟩
                        · first | exact Or.inl rfl | exact Or.inr rfl
                        · (rw [zo_accept, if_pos h1, if_pos h2, if_neg h3, if_pos h85, if_neg h86, if_neg h113, if_neg h141, if_pos h152, if_neg h153, if_neg h154, if_neg h155]; try rfl)
                        · (rw [zm_accept, if_pos h1, if_pos h2, if_neg h3, if_pos h85, if_neg h86, if_neg h113, if_neg h141, if_pos h152, if_neg h153, if_neg h154, if_neg h155]; try rfl)
                · refine wp_seg 3 (P := none) (ls' := [some (aR 5 (0)), some (aI (c)), some (aI (0))]) (st' := [aI (2), aI (σ 5 (0) 5)]) (σ' := σ) rq_65 rfl True.intro (i' := 53) rfl ?_
                  refine wp_icmp rq_65 rfl (fun (h157 : ¬ (σ 5 (0) 5) = 2) => ?_) (fun (h157 : ¬ (¬ (σ 5 (0) 5) = 2)) => ?_)
                  · refine wp_seg 2 (P := none) (ls' := [some (aR 5 (0)), some (aI (c)), some (aI (0))]) (st' := [aI (59), aI (c)]) (σ' := σ) rq_65 rfl True.intro (i' := 77) rfl ?_
                    refine wp_icmp rq_65 rfl (fun (h158 : ¬ (c) = 59) => ?_) (fun (h158 : ¬ (¬ (c) = 59)) => ?_)
                    · refine wp_seg 1 (P := none) (ls' := [some (aR 5 (0)), some (aI (c)), some (aI (0))]) (st' := [aI (0)]) (σ' := σ) rq_65 rfl True.intro (i' := 99) rfl ?_
                      refine wp_zret rq_65 rfl rt_65 ?_ ⟨?_, ?_⟩
                      · first | exact Or.inl rfl | exact Or.inr rfl
                      · (rw [zo_accept, if_pos h1, if_pos h2, if_neg h3, if_pos h85, if_neg h86, if_neg h113, if_neg h141, if_neg h152, if_pos h157, if_pos h158]; try rfl)
                      · (rw [zm_accept, if_pos h1, if_pos h2, if_neg h3, if_pos h85, if_neg h86, if_neg h113, if_neg h141, if_neg h152, if_pos h157, if_pos h158]; try rfl)
                    · refine wp_seg 3 (P := none) (ls' := [some (aR 5 (0)), some (aI (c)), some (aI (0))]) (st' := [aI (3), aI (σ 5 (0) 5)]) (σ' := σ) rq_65 rfl True.intro (i' := 81) rfl ?_
                      refine wp_icmp rq_65 rfl (fun (h159 : (σ 5 (0) 5) = 3) => ?_) (fun (h159 : ¬ ((σ 5 (0) 5) = 3)) => ?_)
                      · refine wp_seg 8 (P := none) (ls' := [some (aR 5 (0)), some (aI (c)), some (aI (0))]) (st' := [aI (0), aR 5 (0)]) (σ' := (up σ 5 (0) 4 (wr ((σ 5 (0) 4) + (1))))) rq_65 rfl True.intro (i' := 96) rfl ?_
                        refine wp_call (C := 5) (As := [aR 5 (0), aI (0)]) (rest := []) rq_65 (ev_openPart (0) (up σ 5 (0) 4 (wr ((σ 5 (0) 4) + (1)))) ) rfl rfl (show clOK 65 66 0 0 0 2 5 = true by decide +kernel) rfl (show 0 ≤ 4 by decide) (fun _ => ⟨_, rfl⟩) rfl (c' := 0) (s' := 0) rfl rfl ?_
                        refine wp_goto rq_65 rfl ?_
                        refine wp_seg 1 (P := none) (ls' := [some (aR 5 (0)), some (aI (c)), some (aI (0))]) (st' := [aI (1)]) (σ' := (zm_openPart (0) (up σ 5 (0) 4 (wr ((σ 5 (0) 4) + (1)))))) rq_65 rfl True.intro (i' := 101) rfl ?_
                        refine wp_zret rq_65 rfl rt_65 ?_ ⟨?_, ?_⟩
                        · first | exact Or.inl rfl | exact Or.inr rfl
                        · (rw [zo_accept, if_pos h1, if_pos h2, if_neg h3, if_pos h85, if_neg h86, if_neg h113, if_neg h141, if_neg h152, if_pos h157, if_neg h158, if_pos h159]; try rfl)
                        · (rw [zm_accept, if_pos h1, if_pos h2, if_neg h3, if_pos h85, if_neg h86, if_neg h113, if_neg h141, if_neg h152, if_pos h157, if_neg h158, if_pos h159]; try rfl)
                      · refine wp_seg 3 (P := none) (ls' := [some (aR 5 (0)), some (aI (c)), some (aI (0))]) (st' := [aI (2), aI (σ 5 (0) 5)]) (σ' := σ) rq_65 rfl True.intro (i' := 85) rfl ?_
                        refine wp_icmp rq_65 rfl (fun (h160 : ¬ (σ 5 (0) 5) = 2) => ?_) (fun (h160 : ¬ (¬ (σ 5 (0) 5) = 2)) => ?_)
                        · refine wp_seg 1 (P := none) (ls' := [some (aR 5 (0)), some (aI (c)), some (aI (0))]) (st' := [aI (0)]) (σ' := σ) rq_65 rfl True.intro (i' := 99) rfl ?_
                          refine wp_zret rq_65 rfl rt_65 ?_ ⟨?_, ?_⟩
                          · first | exact Or.inl rfl | exact Or.inr rfl
                          · (rw [zo_accept, if_pos h1, if_pos h2, if_neg h3, if_pos h85, if_neg h86, if_neg h113, if_neg h141, if_neg h152, if_pos h157, if_neg h158, if_neg h159, if_pos h160]; try rfl)
                          · (rw [zm_accept, if_pos h1, if_pos h2, if_neg h3, if_pos h85, if_neg h86, if_neg h113, if_neg h141, if_neg h152, if_pos h157, if_neg h158, if_neg h159, if_pos h160]; try rfl)
                        · refine wp_seg 1 (P := none) (ls' := [some (aR 5 (0)), some (aI (c)), some (aI (0))]) (st' := [aI (0)]) (σ' := σ) rq_65 rfl True.intro (i' := 87) rfl ?_
                          refine wp_if rq_65 rfl (fun _ => ?_) (fun (h161 : ¬ ((0 : Int) = (0 : Int))) => absurd (show (0 : Int) = (0 : Int) from by decide) h161)
                          refine wp_seg 1 (P := none) (ls' := [some (aR 5 (0)), some (aI (c)), some (aI (0))]) (st' := [aI (0)]) (σ' := σ) rq_65 rfl True.intro (i' := 99) rfl ?_
                          refine wp_zret rq_65 rfl rt_65 ?_ ⟨?_, ?_⟩
                          · first | exact Or.inl rfl | exact Or.inr rfl
                          · (rw [zo_accept, if_pos h1, if_pos h2, if_neg h3, if_pos h85, if_neg h86, if_neg h113, if_neg h141, if_neg h152, if_pos h157, if_neg h158, if_neg h159, if_neg h160]; try rfl)
                          · (rw [zm_accept, if_pos h1, if_pos h2, if_neg h3, if_pos h85, if_neg h86, if_neg h113, if_neg h141, if_neg h152, if_pos h157, if_neg h158, if_neg h159, if_neg h160]; try rfl)
                  · refine wp_seg 1 (P := none) (ls' := [some (aR 5 (0)), some (aI (c)), some (aI (0))]) (st' := [aI (0)]) (σ' := σ) rq_65 rfl True.intro (i' := 55) rfl ?_
                    refine wp_if rq_65 rfl (fun _ => ?_) (fun (h162 : ¬ ((0 : Int) = (0 : Int))) => absurd (show (0 : Int) = (0 : Int) from by decide) h162)
                    refine wp_seg 2 (P := none) (ls' := [some (aR 5 (0)), some (aI (c)), some (aI (0))]) (st' := [aI (59), aI (c)]) (σ' := σ) rq_65 rfl True.intro (i' := 77) rfl ?_
                    refine wp_icmp rq_65 rfl (fun (h163 : ¬ (c) = 59) => ?_) (fun (h163 : ¬ (¬ (c) = 59)) => ?_)
                    · refine wp_seg 1 (P := none) (ls' := [some (aR 5 (0)), some (aI (c)), some (aI (0))]) (st' := [aI (0)]) (σ' := σ) rq_65 rfl True.intro (i' := 99) rfl ?_
                      refine wp_zret rq_65 rfl rt_65 ?_ ⟨?_, ?_⟩
                      · first | exact Or.inl rfl | exact Or.inr rfl
                      · (rw [zo_accept, if_pos h1, if_pos h2, if_neg h3, if_pos h85, if_neg h86, if_neg h113, if_neg h141, if_neg h152, if_neg h157, if_pos h163]; try rfl)
                      · (rw [zm_accept, if_pos h1, if_pos h2, if_neg h3, if_pos h85, if_neg h86, if_neg h113, if_neg h141, if_neg h152, if_neg h157, if_pos h163]; try rfl)
                    · refine wp_seg 3 (P := none) (ls' := [some (aR 5 (0)), some (aI (c)), some (aI (0))]) (st' := [aI (3), aI (σ 5 (0) 5)]) (σ' := σ) rq_65 rfl True.intro (i' := 81) rfl ?_
                      refine wp_icmp rq_65 rfl (fun (h164 : (σ 5 (0) 5) = 3) => ?_) (fun (h164 : ¬ ((σ 5 (0) 5) = 3)) => ?_)
                      · refine wp_seg 8 (P := none) (ls' := [some (aR 5 (0)), some (aI (c)), some (aI (0))]) (st' := [aI (0), aR 5 (0)]) (σ' := (up σ 5 (0) 4 (wr ((σ 5 (0) 4) + (1))))) rq_65 rfl True.intro (i' := 96) rfl ?_
                        refine wp_call (C := 5) (As := [aR 5 (0), aI (0)]) (rest := []) rq_65 (ev_openPart (0) (up σ 5 (0) 4 (wr ((σ 5 (0) 4) + (1)))) ) rfl rfl (show clOK 65 66 0 0 0 2 5 = true by decide +kernel) rfl (show 0 ≤ 4 by decide) (fun _ => ⟨_, rfl⟩) rfl (c' := 0) (s' := 0) rfl rfl ?_
                        refine wp_goto rq_65 rfl ?_
                        refine wp_seg 1 (P := none) (ls' := [some (aR 5 (0)), some (aI (c)), some (aI (0))]) (st' := [aI (1)]) (σ' := (zm_openPart (0) (up σ 5 (0) 4 (wr ((σ 5 (0) 4) + (1)))))) rq_65 rfl True.intro (i' := 101) rfl ?_
                        refine wp_zret rq_65 rfl rt_65 ?_ ⟨?_, ?_⟩
                        · first | exact Or.inl rfl | exact Or.inr rfl
                        · (rw [zo_accept, if_pos h1, if_pos h2, if_neg h3, if_pos h85, if_neg h86, if_neg h113, if_neg h141, if_neg h152, if_neg h157, if_neg h163, if_pos h164]; try rfl)
                        · (rw [zm_accept, if_pos h1, if_pos h2, if_neg h3, if_pos h85, if_neg h86, if_neg h113, if_neg h141, if_neg h152, if_neg h157, if_neg h163, if_pos h164]; try rfl)
                      · refine wp_seg 3 (P := none) (ls' := [some (aR 5 (0)), some (aI (c)), some (aI (0))]) (st' := [aI (2), aI (σ 5 (0) 5)]) (σ' := σ) rq_65 rfl True.intro (i' := 85) rfl ?_
                        refine wp_icmp rq_65 rfl (fun (h165 : ¬ (σ 5 (0) 5) = 2) => ?_) (fun (h165 : ¬ (¬ (σ 5 (0) 5) = 2)) => ?_)
                        · refine wp_seg 1 (P := none) (ls' := [some (aR 5 (0)), some (aI (c)), some (aI (0))]) (st' := [aI (0)]) (σ' := σ) rq_65 rfl True.intro (i' := 99) rfl ?_
                          refine wp_zret rq_65 rfl rt_65 ?_ ⟨?_, ?_⟩
                          · first | exact Or.inl rfl | exact Or.inr rfl
                          · (rw [zo_accept, if_pos h1, if_pos h2, if_neg h3, if_pos h85, if_neg h86, if_neg h113, if_neg h141, if_neg h152, if_neg h157, if_neg h163, if_neg h164, if_pos h165]; try rfl)
                          · (rw [zm_accept, if_pos h1, if_pos h2, if_neg h3, if_pos h85, if_neg h86, if_neg h113, if_neg h141, if_neg h152, if_neg h157, if_neg h163, if_neg h164, if_pos h165]; try rfl)
                        · refine wp_seg 1 (P := none) (ls' := [some (aR 5 (0)), some (aI (c)), some (aI (0))]) (st' := [aI (0)]) (σ' := σ) rq_65 rfl True.intro (i' := 87) rfl ?_
                          refine wp_if rq_65 rfl (fun _ => ?_) (fun (h166 : ¬ ((0 : Int) = (0 : Int))) => absurd (show (0 : Int) = (0 : Int) from by decide) h166)
                          refine wp_seg 1 (P := none) (ls' := [some (aR 5 (0)), some (aI (c)), some (aI (0))]) (st' := [aI (0)]) (σ' := σ) rq_65 rfl True.intro (i' := 99) rfl ?_
                          refine wp_zret rq_65 rfl rt_65 ?_ ⟨?_, ?_⟩
                          · first | exact Or.inl rfl | exact Or.inr rfl
                          · (rw [zo_accept, if_pos h1, if_pos h2, if_neg h3, if_pos h85, if_neg h86, if_neg h113, if_neg h141, if_neg h152, if_neg h157, if_neg h163, if_neg h164, if_neg h165]; try rfl)
                          · (rw [zm_accept, if_pos h1, if_pos h2, if_neg h3, if_pos h85, if_neg h86, if_neg h113, if_neg h141, if_neg h152, if_neg h157, if_neg h163, if_neg h164, if_neg h165]; try rfl)
        · refine wp_seg 1 (P := none) (ls' := [some (aR 5 (0)), some (aI (c)), some (aI (0))]) (st' := [aI (0)]) (σ' := σ) rq_65 rfl True.intro (i' := 26) rfl ?_
          refine wp_if rq_65 rfl (fun _ => ?_) (fun (h167 : ¬ ((0 : Int) = (0 : Int))) => absurd (show (0 : Int) = (0 : Int) from by decide) h167)
          refine wp_seg 2 (P := none) (ls' := [some (aR 5 (0)), some (aI (c)), some (aI (0))]) (st' := [aI (58), aI (c)]) (σ' := σ) rq_65 rfl True.intro (i' := 33) rfl ?_
          refine wp_icmp rq_65 rfl (fun (h168 : ¬ (c) = 58) => ?_) (fun (h168 : ¬ (¬ (c) = 58)) => ?_)
          · refine wp_seg 2 (P := none) (ls' := [some (aR 5 (0)), some (aI (c)), some (aI (0))]) (st' := [aI (108), aI (c)]) (σ' := σ) rq_65 rfl True.intro (i' := 46) rfl ?_
            refine wp_icmp rq_65 rfl (fun (h169 : (c) = 108) => ?_) (fun (h169 : ¬ ((c) = 108)) => ?_)
            · refine wp_seg 3 (P := none) (ls' := [some (aR 5 (0)), some (aI (c)), some (aI (0))]) (st' := [aI (2), aI (σ 5 (0) 5)]) (σ' := σ) rq_65 rfl True.intro (i' := 53) rfl ?_
              refine wp_icmp rq_65 rfl (fun (h170 : ¬ (σ 5 (0) 5) = 2) => ?_) (fun (h170 : ¬ (¬ (σ 5 (0) 5) = 2)) => ?_)
              · refine wp_seg 2 (P := none) (ls' := [some (aR 5 (0)), some (aI (c)), some (aI (0))]) (st' := [aI (59), aI (c)]) (σ' := σ) rq_65 rfl True.intro (i' := 77) rfl ?_
                refine wp_icmp rq_65 rfl (fun (h171 : ¬ (c) = 59) => ?_) (fun (h171 : ¬ (¬ (c) = 59)) => ?_)
                · refine wp_seg 1 (P := none) (ls' := [some (aR 5 (0)), some (aI (c)), some (aI (0))]) (st' := [aI (0)]) (σ' := σ) rq_65 rfl True.intro (i' := 99) rfl ?_
                  refine wp_zret rq_65 rfl rt_65 ?_ ⟨?_, ?_⟩
                  · first | exact Or.inl rfl | exact Or.inr rfl
                  · (rw [zo_accept, if_pos h1, if_pos h2, if_neg h3, if_neg h85, if_pos h168, if_pos h169, if_pos h170, if_pos h171]; try rfl)
                  · (rw [zm_accept, if_pos h1, if_pos h2, if_neg h3, if_neg h85, if_pos h168, if_pos h169, if_pos h170, if_pos h171]; try rfl)
                · refine wp_seg 3 (P := none) (ls' := [some (aR 5 (0)), some (aI (c)), some (aI (0))]) (st' := [aI (3), aI (σ 5 (0) 5)]) (σ' := σ) rq_65 rfl True.intro (i' := 81) rfl ?_
                  refine wp_icmp rq_65 rfl (fun (h172 : (σ 5 (0) 5) = 3) => ?_) (fun (h172 : ¬ ((σ 5 (0) 5) = 3)) => ?_)
                  · refine wp_seg 8 (P := none) (ls' := [some (aR 5 (0)), some (aI (c)), some (aI (0))]) (st' := [aI (0), aR 5 (0)]) (σ' := (up σ 5 (0) 4 (wr ((σ 5 (0) 4) + (1))))) rq_65 rfl True.intro (i' := 96) rfl ?_
                    refine wp_call (C := 5) (As := [aR 5 (0), aI (0)]) (rest := []) rq_65 (ev_openPart (0) (up σ 5 (0) 4 (wr ((σ 5 (0) 4) + (1)))) ) rfl rfl (show clOK 65 66 0 0 0 2 5 = true by decide +kernel) rfl (show 0 ≤ 4 by decide) (fun _ => ⟨_, rfl⟩) rfl (c' := 0) (s' := 0) rfl rfl ?_
                    refine wp_goto rq_65 rfl ?_
                    refine wp_seg 1 (P := none) (ls' := [some (aR 5 (0)), some (aI (c)), some (aI (0))]) (st' := [aI (1)]) (σ' := (zm_openPart (0) (up σ 5 (0) 4 (wr ((σ 5 (0) 4) + (1)))))) rq_65 rfl True.intro (i' := 101) rfl ?_
                    refine wp_zret rq_65 rfl rt_65 ?_ ⟨?_, ?_⟩
                    · first | exact Or.inl rfl | exact Or.inr rfl
                    · (rw [zo_accept, if_pos h1, if_pos h2, if_neg h3, if_neg h85, if_pos h168, if_pos h169, if_pos h170, if_neg h171, if_pos h172]; try rfl)
                    · (rw [zm_accept, if_pos h1, if_pos h2, if_neg h3, if_neg h85, if_pos h168, if_pos h169, if_pos h170, if_neg h171, if_pos h172]; try rfl)
                  · refine wp_seg 3 (P := none) (ls' := [some (aR 5 (0)), some (aI (c)), some (aI (0))]) (st' := [aI (2), aI (σ 5 (0) 5)]) (σ' := σ) rq_65 rfl True.intro (i' := 85) rfl ?_
                    refine wp_icmp rq_65 rfl (fun (h173 : ¬ (σ 5 (0) 5) = 2) => ?_) (fun (h173 : ¬ (¬ (σ 5 (0) 5) = 2)) => ?_)
                    · refine wp_seg 1 (P := none) (ls' := [some (aR 5 (0)), some (aI (c)), some (aI (0))]) (st' := [aI (0)]) (σ' := σ) rq_65 rfl True.intro (i' := 99) rfl ?_
                      refine wp_zret rq_65 rfl rt_65 ?_ ⟨?_, ?_⟩
                      · first | exact Or.inl rfl | exact Or.inr rfl
                      · (rw [zo_accept, if_pos h1, if_pos h2, if_neg h3, if_neg h85, if_pos h168, if_pos h169, if_pos h170, if_neg h171, if_neg h172, if_pos h173]; try rfl)
                      · (rw [zm_accept, if_pos h1, if_pos h2, if_neg h3, if_neg h85, if_pos h168, if_pos h169, if_pos h170, if_neg h171, if_neg h172, if_pos h173]; try rfl)
                    · refine wp_seg 1 (P := none) (ls' := [some (aR 5 (0)), some (aI (c)), some (aI (0))]) (st' := [aI (0)]) (σ' := σ) rq_65 rfl True.intro (i' := 87) rfl ?_
                      refine wp_if rq_65 rfl (fun _ => ?_) (fun (h174 : ¬ ((0 : Int) = (0 : Int))) => absurd (show (0 : Int) = (0 : Int) from by decide) h174)
                      refine wp_seg 1 (P := none) (ls' := [some (aR 5 (0)), some (aI (c)), some (aI (0))]) (st' := [aI (0)]) (σ' := σ) rq_65 rfl True.intro (i' := 99) rfl ?_
                      refine wp_zret rq_65 rfl rt_65 ?_ ⟨?_, ?_⟩
                      · first | exact Or.inl rfl | exact Or.inr rfl
                      · (rw [zo_accept, if_pos h1, if_pos h2, if_neg h3, if_neg h85, if_pos h168, if_pos h169, if_pos h170, if_neg h171, if_neg h172, if_neg h173]; try rfl)
                      · (rw [zm_accept, if_pos h1, if_pos h2, if_neg h3, if_neg h85, if_pos h168, if_pos h169, if_pos h170, if_neg h171, if_neg h172, if_neg h173]; try rfl)
              · refine wp_seg 1 (P := none) (ls' := [some (aR 5 (0)), some (aI (c)), some (aI (0))]) (st' := [aI (0)]) (σ' := σ) rq_65 rfl True.intro (i' := 55) rfl ?_
                refine wp_if rq_65 rfl (fun _ => ?_) (fun (h175 : ¬ ((0 : Int) = (0 : Int))) => absurd (show (0 : Int) = (0 : Int) from by decide) h175)
                refine wp_seg 2 (P := none) (ls' := [some (aR 5 (0)), some (aI (c)), some (aI (0))]) (st' := [aI (59), aI (c)]) (σ' := σ) rq_65 rfl True.intro (i' := 77) rfl ?_
                refine wp_icmp rq_65 rfl (fun (h176 : ¬ (c) = 59) => ?_) (fun (h176 : ¬ (¬ (c) = 59)) => ?_)
                · refine wp_seg 1 (P := none) (ls' := [some (aR 5 (0)), some (aI (c)), some (aI (0))]) (st' := [aI (0)]) (σ' := σ) rq_65 rfl True.intro (i' := 99) rfl ?_
                  refine wp_zret rq_65 rfl rt_65 ?_ ⟨?_, ?_⟩
                  · first | exact Or.inl rfl | exact Or.inr rfl
                  · (rw [zo_accept, if_pos h1, if_pos h2, if_neg h3, if_neg h85, if_pos h168, if_pos h169, if_neg h170, if_pos h176]; try rfl)
                  · (rw [zm_accept, if_pos h1, if_pos h2, if_neg h3, if_neg h85, if_pos h168, if_pos h169, if_neg h170, if_pos h176]; try rfl)
                · refine wp_seg 3 (P := none) (ls' := [some (aR 5 (0)), some (aI (c)), some (aI (0))]) (st' := [aI (3), aI (σ 5 (0) 5)]) (σ' := σ) rq_65 rfl True.intro (i' := 81) rfl ?_
                  refine wp_icmp rq_65 rfl (fun (h177 : (σ 5 (0) 5) = 3) => ?_) (fun (h177 : ¬ ((σ 5 (0) 5) = 3)) => ?_)
                  · refine wp_seg 8 (P := none) (ls' := [some (aR 5 (0)), some (aI (c)), some (aI (0))]) (st' := [aI (0), aR 5 (0)]) (σ' := (up σ 5 (0) 4 (wr ((σ 5 (0) 4) + (1))))) rq_65 rfl True.intro (i' := 96) rfl ?_
                    refine wp_call (C := 5) (As := [aR 5 (0), aI (0)]) (rest := []) rq_65 (ev_openPart (0) (up σ 5 (0) 4 (wr ((σ 5 (0) 4) + (1)))) ) rfl rfl (show clOK 65 66 0 0 0 2 5 = true by decide +kernel) rfl (show 0 ≤ 4 by decide) (fun _ => ⟨_, rfl⟩) rfl (c' := 0) (s' := 0) rfl rfl ?_
                    refine wp_goto rq_65 rfl ?_
                    refine wp_seg 1 (P := none) (ls' := [some (aR 5 (0)), some (aI (c)), some (aI (0))]) (st' := [aI (1)]) (σ' := (zm_openPart (0) (up σ 5 (0) 4 (wr ((σ 5 (0) 4) + (1)))))) rq_65 rfl True.intro (i' := 101) rfl ?_
                    refine wp_zret rq_65 rfl rt_65 ?_ ⟨?_, ?_⟩
                    · first | exact Or.inl rfl | exact Or.inr rfl
                    · (rw [zo_accept, if_pos h1, if_pos h2, if_neg h3, if_neg h85, if_pos h168, if_pos h169, if_neg h170, if_neg h176, if_pos h177]; try rfl)
                    · (rw [zm_accept, if_pos h1, if_pos h2, if_neg h3, if_neg h85, if_pos h168, if_pos h169, if_neg h170, if_neg h176, if_pos h177]; try rfl)
                  · refine wp_seg 3 (P := none) (ls' := [some (aR 5 (0)), some (aI (c)), some (aI (0))]) (st' := [aI (2), aI (σ 5 (0) 5)]) (σ' := σ) rq_65 rfl True.intro (i' := 85) rfl ?_
                    refine wp_icmp rq_65 rfl (fun (h178 : ¬ (σ 5 (0) 5) = 2) => ?_) (fun (h178 : ¬ (¬ (σ 5 (0) 5) = 2)) => ?_)
                    · refine wp_seg 1 (P := none) (ls' := [some (aR 5 (0)), some (aI (c)), some (aI (0))]) (st' := [aI (0)]) (σ' := σ) rq_65 rfl True.intro (i' := 99) rfl ?_
                      refine wp_zret rq_65 rfl rt_65 ?_ ⟨?_, ?_⟩
                      · first | exact Or.inl rfl | exact Or.inr rfl
                      · (rw [zo_accept, if_pos h1, if_pos h2, if_neg h3, if_neg h85, if_pos h168, if_pos h169, if_neg h170, if_neg h176, if_neg h177, if_pos h178]; try rfl)
                      · (rw [zm_accept, if_pos h1, if_pos h2, if_neg h3, if_neg h85, if_pos h168, if_pos h169, if_neg h170, if_neg h176, if_neg h177, if_pos h178]; try rfl)
                    · refine wp_seg 1 (P := none) (ls' := [some (aR 5 (0)), some (aI (c)), some (aI (0))]) (st' := [aI (0)]) (σ' := σ) rq_65 rfl True.intro (i' := 87) rfl ?_
                      refine wp_if rq_65 rfl (fun _ => ?_) (fun (h179 : ¬ ((0 : Int) = (0 : Int))) => absurd (show (0 : Int) = (0 : Int) from by decide) h179)
                      refine wp_seg 1 (P := none) (ls' := [some (aR 5 (0)), some (aI (c)), some (aI (0))]) (st' := [aI (0)]) (σ' := σ) rq_65 rfl True.intro (i' := 99) rfl ?_
                      refine wp_zret rq_65 rfl rt_65 ?_ ⟨?_, ?_⟩
                      · first | exact Or.inl rfl | exact Or.inr rfl
                      · (rw [zo_accept, if_pos h1, if_pos h2, if_neg h3, if_neg h85, if_pos h168, if_pos h169, if_neg h170, if_neg h176, if_neg h177, if_neg h178]; try rfl)
                      · (rw [zm_accept, if_pos h1, if_pos h2, if_neg h3, if_neg h85, if_pos h168, if_pos h169, if_neg h170, if_neg h176, if_neg h177, if_neg h178]; try rfl)
            · refine wp_seg 2 (P := none) (ls' := [some (aR 5 (0)), some (aI (c)), some (aI (0))]) (st' := [aI (114), aI (c)]) (σ' := σ) rq_65 rfl True.intro (i' := 49) rfl ?_
              refine wp_icmp rq_65 rfl (fun (h180 : ¬ (c) = 114) => ?_) (fun (h180 : ¬ (¬ (c) = 114)) => ?_)
              · refine wp_seg 2 (P := none) (ls' := [some (aR 5 (0)), some (aI (c)), some (aI (0))]) (st' := [aI (59), aI (c)]) (σ' := σ) rq_65 rfl True.intro (i' := 77) rfl ?_
                refine wp_icmp rq_65 rfl (fun (h181 : ¬ (c) = 59) => ?_) (fun (h181 : ¬ (¬ (c) = 59)) => ?_)
                · refine wp_seg 1 (P := none) (ls' := [some (aR 5 (0)), some (aI (c)), some (aI (0))]) (st' := [aI (0)]) (σ' := σ) rq_65 rfl True.intro (i' := 99) rfl ?_
                  refine wp_zret rq_65 rfl rt_65 ?_ ⟨?_, ?_⟩
                  · first | exact Or.inl rfl | exact Or.inr rfl
                  · (rw [zo_accept, if_pos h1, if_pos h2, if_neg h3, if_neg h85, if_pos h168, if_neg h169, if_pos h180, if_pos h181]; try rfl)
                  · (rw [zm_accept, if_pos h1, if_pos h2, if_neg h3, if_neg h85, if_pos h168, if_neg h169, if_pos h180, if_pos h181]; try rfl)
                · refine wp_seg 3 (P := none) (ls' := [some (aR 5 (0)), some (aI (c)), some (aI (0))]) (st' := [aI (3), aI (σ 5 (0) 5)]) (σ' := σ) rq_65 rfl True.intro (i' := 81) rfl ?_
                  refine wp_icmp rq_65 rfl (fun (h182 : (σ 5 (0) 5) = 3) => ?_) (fun (h182 : ¬ ((σ 5 (0) 5) = 3)) => ?_)
                  · refine wp_seg 8 (P := none) (ls' := [some (aR 5 (0)), some (aI (c)), some (aI (0))]) (st' := [aI (0), aR 5 (0)]) (σ' := (up σ 5 (0) 4 (wr ((σ 5 (0) 4) + (1))))) rq_65 rfl True.intro (i' := 96) rfl ?_
                    refine wp_call (C := 5) (As := [aR 5 (0), aI (0)]) (rest := []) rq_65 (ev_openPart (0) (up σ 5 (0) 4 (wr ((σ 5 (0) 4) + (1)))) ) rfl rfl (show clOK 65 66 0 0 0 2 5 = true by decide +kernel) rfl (show 0 ≤ 4 by decide) (fun _ => ⟨_, rfl⟩) rfl (c' := 0) (s' := 0) rfl rfl ?_
                    refine wp_goto rq_65 rfl ?_
                    refine wp_seg 1 (P := none) (ls' := [some (aR 5 (0)), some (aI (c)), some (aI (0))]) (st' := [aI (1)]) (σ' := (zm_openPart (0) (up σ 5 (0) 4 (wr ((σ 5 (0) 4) + (1)))))) rq_65 rfl True.intro (i' := 101) rfl ?_
                    refine wp_zret rq_65 rfl rt_65 ?_ ⟨?_, ?_⟩
                    · first | exact Or.inl rfl | exact Or.inr rfl
                    · (rw [zo_accept, if_pos h1, if_pos h2, if_neg h3, if_neg h85, if_pos h168, if_neg h169, if_pos h180, if_neg h181, if_pos h182]; try rfl)
                    · (rw [zm_accept, if_pos h1, if_pos h2, if_neg h3, if_neg h85, if_pos h168, if_neg h169, if_pos h180, if_neg h181, if_pos h182]; try rfl)
                  · refine wp_seg 3 (P := none) (ls' := [some (aR 5 (0)), some (aI (c)), some (aI (0))]) (st' := [aI (2), aI (σ 5 (0) 5)]) (σ' := σ) rq_65 rfl True.intro (i' := 85) rfl ?_
                    refine wp_icmp rq_65 rfl (fun (h183 : ¬ (σ 5 (0) 5) = 2) => ?_) (fun (h183 : ¬ (¬ (σ 5 (0) 5) = 2)) => ?_)
                    · refine wp_seg 1 (P := none) (ls' := [some (aR 5 (0)), some (aI (c)), some (aI (0))]) (st' := [aI (0)]) (σ' := σ) rq_65 rfl True.intro (i' := 99) rfl ?_
                      refine wp_zret rq_65 rfl rt_65 ?_ ⟨?_, ?_⟩
                      · first | exact Or.inl rfl | exact Or.inr rfl
                      · (rw [zo_accept, if_pos h1, if_pos h2, if_neg h3, if_neg h85, if_pos h168, if_neg h169, if_pos h180, if_neg h181, if_neg h182, if_pos h183]; try rfl)
                      · (rw [zm_accept, if_pos h1, if_pos h2, if_neg h3, if_neg h85, if_pos h168, if_neg h169, if_pos h180, if_neg h181, if_neg h182, if_pos h183]; try rfl)
                    · refine wp_seg 1 (P := none) (ls' := [some (aR 5 (0)), some (aI (c)), some (aI (0))]) (st' := [aI (0)]) (σ' := σ) rq_65 rfl True.intro (i' := 87) rfl ?_
                      refine wp_if rq_65 rfl (fun _ => ?_) (fun (h184 : ¬ ((0 : Int) = (0 : Int))) => absurd (show (0 : Int) = (0 : Int) from by decide) h184)
                      refine wp_seg 1 (P := none) (ls' := [some (aR 5 (0)), some (aI (c)), some (aI (0))]) (st' := [aI (0)]) (σ' := σ) rq_65 rfl True.intro (i' := 99) rfl ?_
                      refine wp_zret rq_65 rfl rt_65 ?_ ⟨?_, ?_⟩
                      · first | exact Or.inl rfl | exact Or.inr rfl
                      · (rw [zo_accept, if_pos h1, if_pos h2, if_neg h3, if_neg h85, if_pos h168, if_neg h169, if_pos h180, if_neg h181, if_neg h182, if_neg h183]; try rfl)
                      · (rw [zm_accept, if_pos h1, if_pos h2, if_neg h3, if_neg h85, if_pos h168, if_neg h169, if_pos h180, if_neg h181, if_neg h182, if_neg h183]; try rfl)
              · refine wp_seg 3 (P := none) (ls' := [some (aR 5 (0)), some (aI (c)), some (aI (0))]) (st' := [aI (2), aI (σ 5 (0) 5)]) (σ' := σ) rq_65 rfl True.intro (i' := 53) rfl ?_
                refine wp_icmp rq_65 rfl (fun (h185 : ¬ (σ 5 (0) 5) = 2) => ?_) (fun (h185 : ¬ (¬ (σ 5 (0) 5) = 2)) => ?_)
                · refine wp_seg 2 (P := none) (ls' := [some (aR 5 (0)), some (aI (c)), some (aI (0))]) (st' := [aI (59), aI (c)]) (σ' := σ) rq_65 rfl True.intro (i' := 77) rfl ?_
                  refine wp_icmp rq_65 rfl (fun (h186 : ¬ (c) = 59) => ?_) (fun (h186 : ¬ (¬ (c) = 59)) => ?_)
                  · refine wp_seg 1 (P := none) (ls' := [some (aR 5 (0)), some (aI (c)), some (aI (0))]) (st' := [aI (0)]) (σ' := σ) rq_65 rfl True.intro (i' := 99) rfl ?_
                    refine wp_zret rq_65 rfl rt_65 ?_ ⟨?_, ?_⟩
                    · first | exact Or.inl rfl | exact Or.inr rfl
                    · (rw [zo_accept, if_pos h1, if_pos h2, if_neg h3, if_neg h85, if_pos h168, if_neg h169, if_neg h180, if_pos h185, if_pos h186]; try rfl)
                    · (rw [zm_accept, if_pos h1, if_pos h2, if_neg h3, if_neg h85, if_pos h168, if_neg h169, if_neg h180, if_pos h185, if_pos h186]; try rfl)
                  · refine wp_seg 3 (P := none) (ls' := [some (aR 5 (0)), some (aI (c)), some (aI (0))]) (st' := [aI (3), aI (σ 5 (0) 5)]) (σ' := σ) rq_65 rfl True.intro (i' := 81) rfl ?_
                    refine wp_icmp rq_65 rfl (fun (h187 : (σ 5 (0) 5) = 3) => ?_) (fun (h187 : ¬ ((σ 5 (0) 5) = 3)) => ?_)
                    · refine wp_seg 8 (P := none) (ls' := [some (aR 5 (0)), some (aI (c)), some (aI (0))]) (st' := [aI (0), aR 5 (0)]) (σ' := (up σ 5 (0) 4 (wr ((σ 5 (0) 4) + (1))))) rq_65 rfl True.intro (i' := 96) rfl ?_
                      refine wp_call (C := 5) (As := [aR 5 (0), aI (0)]) (rest := []) rq_65 (ev_openPart (0) (up σ 5 (0) 4 (wr ((σ 5 (0) 4) + (1)))) ) rfl rfl (show clOK 65 66 0 0 0 2 5 = true by decide +kernel) rfl (show 0 ≤ 4 by decide) (fun _ => ⟨_, rfl⟩) rfl (c' := 0) (s' := 0) rfl rfl ?_
                      refine wp_goto rq_65 rfl ?_
                      refine wp_seg 1 (P := none) (ls' := [some (aR 5 (0)), some (aI (c)), some (aI (0))]) (st' := [aI (1)]) (σ' := (zm_openPart (0) (up σ 5 (0) 4 (wr ((σ 5 (0) 4) + (1)))))) rq_65 rfl True.intro (i' := 101) rfl ?_
                      refine wp_zret rq_65 rfl rt_65 ?_ ⟨?_, ?_⟩
                      · first | exact Or.inl rfl | exact Or.inr rfl
                      · (rw [zo_accept, if_pos h1, if_pos h2, if_neg h3, if_neg h85, if_pos h168, if_neg h169, if_neg h180, if_pos h185, if_neg h186, if_pos h187]; try rfl)
                      · (rw [zm_accept, if_pos h1, if_pos h2, if_neg h3, if_neg h85, if_pos h168, if_neg h169, if_neg h180, if_pos h185, if_neg h186, if_pos h187]; try rfl)
                    · refine wp_seg 3 (P := none) (ls' := [some (aR 5 (0)), some (aI (c)), some (aI (0))]) (st' := [aI (2), aI (σ 5 (0) 5)]) (σ' := σ) rq_65 rfl True.intro (i' := 85) rfl ?_
                      refine wp_icmp rq_65 rfl (fun (h188 : ¬ (σ 5 (0) 5) = 2) => ?_) (fun (h188 : ¬ (¬ (σ 5 (0) 5) = 2)) => ?_)
                      · refine wp_seg 1 (P := none) (ls' := [some (aR 5 (0)), some (aI (c)), some (aI (0))]) (st' := [aI (0)]) (σ' := σ) rq_65 rfl True.intro (i' := 99) rfl ?_
                        refine wp_zret rq_65 rfl rt_65 ?_ ⟨?_, ?_⟩
                        · first | exact Or.inl rfl | exact Or.inr rfl
                        · (rw [zo_accept, if_pos h1, if_pos h2, if_neg h3, if_neg h85, if_pos h168, if_neg h169, if_neg h180, if_pos h185, if_neg h186, if_neg h187, if_pos h188]; try rfl)
                        · (rw [zm_accept, if_pos h1, if_pos h2, if_neg h3, if_neg h85, if_pos h168, if_neg h169, if_neg h180, if_pos h185, if_neg h186, if_neg h187, if_pos h188]; try rfl)
                      · refine wp_seg 1 (P := none) (ls' := [some (aR 5 (0)), some (aI (c)), some (aI (0))]) (st' := [aI (0)]) (σ' := σ) rq_65 rfl True.intro (i' := 87) rfl ?_
                        refine wp_if rq_65 rfl (fun _ => ?_) (fun (h189 : ¬ ((0 : Int) = (0 : Int))) => absurd (show (0 : Int) = (0 : Int) from by decide) h189)
                        refine wp_seg 1 (P := none) (ls' := [some (aR 5 (0)), some (aI (c)), some (aI (0))]) (st' := [aI (0)]) (σ' := σ) rq_65 rfl True.intro (i' := 99) rfl ?_
                        refine wp_zret rq_65 rfl rt_65 ?_ ⟨?_, ?_⟩
                        · first | exact Or.inl rfl | exact Or.inr rfl
                        · (rw [zo_accept, if_pos h1, if_pos h2, if_neg h3, if_neg h85, if_pos h168, if_neg h169, if_neg h180, if_pos h185, if_neg h186, if_neg h187, if_neg h188]; try rfl)
                        · (rw [zm_accept, if_pos h1, if_pos h2, if_neg h3, if_neg h85, if_pos h168, if_neg h169, if_neg h180, if_pos h185, if_neg h186, if_neg h187, if_neg h188]; try rfl)
                · refine wp_seg 1 (P := none) (ls' := [some (aR 5 (0)), some (aI (c)), some (aI (0))]) (st' := [aI (0)]) (σ' := σ) rq_65 rfl True.intro (i' := 55) rfl ?_
                  refine wp_if rq_65 rfl (fun _ => ?_) (fun (h190 : ¬ ((0 : Int) = (0 : Int))) => absurd (show (0 : Int) = (0 : Int) from by decide) h190)
                  refine wp_seg 2 (P := none) (ls' := [some (aR 5 (0)), some (aI (c)), some (aI (0))]) (st' := [aI (59), aI (c)]) (σ' := σ) rq_65 rfl True.intro (i' := 77) rfl ?_
                  refine wp_icmp rq_65 rfl (fun (h191 : ¬ (c) = 59) => ?_) (fun (h191 : ¬ (¬ (c) = 59)) => ?_)
                  · refine wp_seg 1 (P := none) (ls' := [some (aR 5 (0)), some (aI (c)), some (aI (0))]) (st' := [aI (0)]) (σ' := σ) rq_65 rfl True.intro (i' := 99) rfl ?_
                    refine wp_zret rq_65 rfl rt_65 ?_ ⟨?_, ?_⟩
                    · first | exact Or.inl rfl | exact Or.inr rfl
                    · (rw [zo_accept, if_pos h1, if_pos h2, if_neg h3, if_neg h85, if_pos h168, if_neg h169, if_neg h180, if_neg h185, if_pos h191]; try rfl)
                    · (rw [zm_accept, if_pos h1, if_pos h2, if_neg h3, if_neg h85, if_pos h168, if_neg h169, if_neg h180, if_neg h185, if_pos h191]; try rfl)
                  · refine wp_seg 3 (P := none) (ls' := [some (aR 5 (0)), some (aI (c)), some (aI (0))]) (st' := [aI (3), aI (σ 5 (0) 5)]) (σ' := σ) rq_65 rfl True.intro (i' := 81) rfl ?_
                    refine wp_icmp rq_65 rfl (fun (h192 : (σ 5 (0) 5) = 3) => ?_) (fun (h192 : ¬ ((σ 5 (0) 5) = 3)) => ?_)
                    · refine wp_seg 8 (P := none) (ls' := [some (aR 5 (0)), some (aI (c)), some (aI (0))]) (st' := [aI (0), aR 5 (0)]) (σ' := (up σ 5 (0) 4 (wr ((σ 5 (0) 4) + (1))))) rq_65 rfl True.intro (i' := 96) rfl ?_
                      refine wp_call (C := 5) (As := [aR 5 (0), aI (0)]) (rest := []) rq_65 (ev_openPart (0) (up σ 5 (0) 4 (wr ((σ 5 (0) 4) + (1)))) ) rfl rfl (show clOK 65 66 0 0 0 2 5 = true by decide +kernel) rfl (show 0 ≤ 4 by decide) (fun _ => ⟨_, rfl⟩) rfl (c' := 0) (s' := 0) rfl rfl ?_
                      refine wp_goto rq_65 rfl ?_
                      refine wp_seg 1 (P := none) (ls' := [some (aR 5 (0)), some (aI (c)), some (aI (0))]) (st' := [aI (1)]) (σ' := (zm_openPart (0) (up σ 5 (0) 4 (wr ((σ 5 (0) 4) + (1)))))) rq_65 rfl True.intro (i' := 101) rfl ?_
                      refine wp_zret rq_65 rfl rt_65 ?_ ⟨?_, ?_⟩
                      · first | exact Or.inl rfl | exact Or.inr rfl
                      · (rw [zo_accept, if_pos h1, if_pos h2, if_neg h3, if_neg h85, if_pos h168, if_neg h169, if_neg h180, if_neg h185, if_neg h191, if_pos h192]; try rfl)
                      · (rw [zm_accept, if_pos h1, if_pos h2, if_neg h3, if_neg h85, if_pos h168, if_neg h169, if_neg h180, if_neg h185, if_neg h191, if_pos h192]; try rfl)
                    · refine wp_seg 3 (P := none) (ls' := [some (aR 5 (0)), some (aI (c)), some (aI (0))]) (st' := [aI (2), aI (σ 5 (0) 5)]) (σ' := σ) rq_65 rfl True.intro (i' := 85) rfl ?_
                      refine wp_icmp rq_65 rfl (fun (h193 : ¬ (σ 5 (0) 5) = 2) => ?_) (fun (h193 : ¬ (¬ (σ 5 (0) 5) = 2)) => ?_)
                      · refine wp_seg 1 (P := none) (ls' := [some (aR 5 (0)), some (aI (c)), some (aI (0))]) (st' := [aI (0)]) (σ' := σ) rq_65 rfl True.intro (i' := 99) rfl ?_
                        refine wp_zret rq_65 rfl rt_65 ?_ ⟨?_, ?_⟩
                        · first | exact Or.inl rfl | exact Or.inr rfl
                        · (rw [zo_accept, if_pos h1, if_pos h2, if_neg h3, if_neg h85, if_pos h168, if_neg h169, if_neg h180, if_neg h185, if_neg h191, if_neg h192, if_pos h193]; try rfl)
                        · (rw [zm_accept, if_pos h1, if_pos h2, if_neg h3, if_neg h85, if_pos h168, if_neg h169, if_neg h180, if_neg h185, if_neg h191, if_neg h192, if_pos h193]; try rfl)
                      · refine wp_seg 1 (P := none) (ls' := [some (aR 5 (0)), some (aI (c)), some (aI (0))]) (st' := [aI (0)]) (σ' := σ) rq_65 rfl True.intro (i' := 87) rfl ?_
                        refine wp_if rq_65 rfl (fun _ => ?_) (fun (h194 : ¬ ((0 : Int) = (0 : Int))) => absurd (show (0 : Int) = (0 : Int) from by decide) h194)
                        refine wp_seg 1 (P := none) (ls' := [some (aR 5 (0)), some (aI (c)), some (aI (0))]) (st' := [aI (0)]) (σ' := σ) rq_65 rfl True.intro (i' := 99) rfl ?_
                        refine wp_zret rq_65 rfl rt_65 ?_ ⟨?_, ?_⟩
                        · first | exact Or.inl rfl | exact Or.inr rfl
                        · (rw [zo_accept, if_pos h1, if_pos h2, if_neg h3, if_neg h85, if_pos h168, if_neg h169, if_neg h180, if_neg h185, if_neg h191, if_neg h192, if_neg h193]; try rfl)
                        · (rw [zm_accept, if_pos h1, if_pos h2, if_neg h3, if_neg h85, if_pos h168, if_neg h169, if_neg h180, if_neg h185, if_neg h191, if_neg h192, if_neg h193]; try rfl)
          · refine wp_seg 3 (P := none) (ls' := [some (aR 5 (0)), some (aI (c)), some (aI (0))]) (st' := [aI (1), aI (σ 5 (0) 5)]) (σ' := σ) rq_65 rfl True.intro (i' := 37) rfl ?_
            refine wp_icmp rq_65 rfl (fun (h195 : ¬ (σ 5 (0) 5) = 1) => ?_) (fun (h195 : ¬ (¬ (σ 5 (0) 5) = 1)) => ?_)
            · refine wp_seg 2 (P := none) (ls' := [some (aR 5 (0)), some (aI (c)), some (aI (0))]) (st' := [aI (108), aI (c)]) (σ' := σ) rq_65 rfl True.intro (i' := 46) rfl ?_
              refine wp_icmp rq_65 rfl (fun (h196 : (c) = 108) => ?_) (fun (h196 : ¬ ((c) = 108)) => ?_)
              · refine wp_seg 3 (P := none) (ls' := [some (aR 5 (0)), some (aI (c)), some (aI (0))]) (st' := [aI (2), aI (σ 5 (0) 5)]) (σ' := σ) rq_65 rfl True.intro (i' := 53) rfl ?_
                refine wp_icmp rq_65 rfl (fun (h197 : ¬ (σ 5 (0) 5) = 2) => ?_) (fun (h197 : ¬ (¬ (σ 5 (0) 5) = 2)) => ?_)
                · refine wp_seg 2 (P := none) (ls' := [some (aR 5 (0)), some (aI (c)), some (aI (0))]) (st' := [aI (59), aI (c)]) (σ' := σ) rq_65 rfl True.intro (i' := 77) rfl ?_
                  refine wp_icmp rq_65 rfl (fun (h198 : ¬ (c) = 59) => ?_) (fun (h198 : ¬ (¬ (c) = 59)) => ?_)
                  · refine wp_seg 1 (P := none) (ls' := [some (aR 5 (0)), some (aI (c)), some (aI (0))]) (st' := [aI (0)]) (σ' := σ) rq_65 rfl True.intro (i' := 99) rfl ?_
                    refine wp_zret rq_65 rfl rt_65 ?_ ⟨?_, ?_⟩
                    · first | exact Or.inl rfl | exact Or.inr rfl
                    · (rw [zo_accept, if_pos h1, if_pos h2, if_neg h3, if_neg h85, if_neg h168, if_pos h195, if_pos h196, if_pos h197, if_pos h198]; try rfl)
                    · (rw [zm_accept, if_pos h1, if_pos h2, if_neg h3, if_neg h85, if_neg h168, if_pos h195, if_pos h196, if_pos h197, if_pos h198]; try rfl)
                  · refine wp_seg 3 (P := none) (ls' := [some (aR 5 (0)), some (aI (c)), some (aI (0))]) (st' := [aI (3), aI (σ 5 (0) 5)]) (σ' := σ) rq_65 rfl True.intro (i' := 81) rfl ?_
                    refine wp_icmp rq_65 rfl (fun (h199 : (σ 5 (0) 5) = 3) => ?_) (fun (h199 : ¬ ((σ 5 (0) 5) = 3)) => ?_)
                    · refine wp_seg 8 (P := none) (ls' := [some (aR 5 (0)), some (aI (c)), some (aI (0))]) (st' := [aI (0), aR 5 (0)]) (σ' := (up σ 5 (0) 4 (wr ((σ 5 (0) 4) + (1))))) rq_65 rfl True.intro (i' := 96) rfl ?_
                      refine wp_call (C := 5) (As := [aR 5 (0), aI (0)]) (rest := []) rq_65 (ev_openPart (0) (up σ 5 (0) 4 (wr ((σ 5 (0) 4) + (1)))) ) rfl rfl (show clOK 65 66 0 0 0 2 5 = true by decide +kernel) rfl (show 0 ≤ 4 by decide) (fun _ => ⟨_, rfl⟩) rfl (c' := 0) (s' := 0) rfl rfl ?_
                      refine wp_goto rq_65 rfl ?_
                      refine wp_seg 1 (P := none) (ls' := [some (aR 5 (0)), some (aI (c)), some (aI (0))]) (st' := [aI (1)]) (σ' := (zm_openPart (0) (up σ 5 (0) 4 (wr ((σ 5 (0) 4) + (1)))))) rq_65 rfl True.intro (i' := 101) rfl ?_
                      refine wp_zret rq_65 rfl rt_65 ?_ ⟨?_, ?_⟩
                      · first | exact Or.inl rfl | exact Or.inr rfl
                      · (rw [zo_accept, if_pos h1, if_pos h2, if_neg h3, if_neg h85, if_neg h168, if_pos h195, if_pos h196, if_pos h197, if_neg h198, if_pos h199]; try rfl)
                      · (rw [zm_accept, if_pos h1, if_pos h2, if_neg h3, if_neg h85, if_neg h168, if_pos h195, if_pos h196, if_pos h197, if_neg h198, if_pos h199]; try rfl)
                    · refine wp_seg 3 (P := none) (ls' := [some (aR 5 (0)), some (aI (c)), some (aI (0))]) (st' := [aI (2), aI (σ 5 (0) 5)]) (σ' := σ) rq_65 rfl True.intro (i' := 85) rfl ?_
                      refine wp_icmp rq_65 rfl (fun (h200 : ¬ (σ 5 (0) 5) = 2) => ?_) (fun (h200 : ¬ (¬ (σ 5 (0) 5) = 2)) => ?_)
                      · refine wp_seg 1 (P := none) (ls' := [some (aR 5 (0)), some (aI (c)), some (aI (0))]) (st' := [aI (0)]) (σ' := σ) rq_65 rfl True.intro (i' := 99) rfl ?_
                        refine wp_zret rq_65 rfl rt_65 ?_ ⟨?_, ?_⟩
                        · first | exact Or.inl rfl | exact Or.inr rfl
                        · (rw [zo_accept, if_pos h1, if_pos h2, if_neg h3, if_neg h85, if_neg h168, if_pos h195, if_pos h196, if_pos h197, if_neg h198, if_neg h199, if_pos h200]; try rfl)
                        · (rw [zm_accept, if_pos h1, if_pos h2, if_neg h3, if_neg h85, if_neg h168, if_pos h195, if_pos h196, if_pos h197, if_neg h198, if_neg h199, if_pos h200]; try rfl)
                      · refine wp_seg 1 (P := none) (ls' := [some (aR 5 (0)), some (aI (c)), some (aI (0))]) (st' := [aI (0)]) (σ' := σ) rq_65 rfl True.intro (i' := 87) rfl ?_
                        refine wp_if rq_65 rfl (fun _ => ?_) (fun (h201 : ¬ ((0 : Int) = (0 : Int))) => absurd (show (0 : Int) = (0 : Int) from by decide) h201)
                        refine wp_seg 1 (P := none) (ls' := [some (aR 5 (0)), some (aI (c)), some (aI (0))]) (st' := [aI (0)]) (σ' := σ) rq_65 rfl True.intro (i' := 99) rfl ?_
                        refine wp_zret rq_65 rfl rt_65 ?_ ⟨?_, ?_⟩
                        · first | exact Or.inl rfl | exact Or.inr rfl
                        · (rw [zo_accept, if_pos h1, if_pos h2, if_neg h3, if_neg h85, if_neg h168, if_pos h195, if_pos h196, if_pos h197, if_neg h198, if_neg h199, if_neg h200]; try rfl)
                        · (rw [zm_accept, if_pos h1, if_pos h2, if_neg h3, if_neg h85, if_neg h168, if_pos h195, if_pos h196, if_pos h197, if_neg h198, if_neg h199, if_neg h200]; try rfl)
                · refine wp_seg 1 (P := none) (ls' := [some (aR 5 (0)), some (aI (c)), some (aI (0))]) (st' := [aI (0)]) (σ' := σ) rq_65 rfl True.intro (i' := 55) rfl ?_
                  refine wp_if rq_65 rfl (fun _ => ?_) (fun (h202 : ¬ ((0 : Int) = (0 : Int))) => absurd (show (0 : Int) = (0 : Int) from by decide) h202)
                  refine wp_seg 2 (P := none) (ls' := [some (aR 5 (0)), some (aI (c)), some (aI (0))]) (st' := [aI (59), aI (c)]) (σ' := σ) rq_65 rfl True.intro (i' := 77) rfl ?_
                  refine wp_icmp rq_65 rfl (fun (h203 : ¬ (c) = 59) => ?_) (fun (h203 : ¬ (¬ (c) = 59)) => ?_)
                  · refine wp_seg 1 (P := none) (ls' := [some (aR 5 (0)), some (aI (c)), some (aI (0))]) (st' := [aI (0)]) (σ' := σ) rq_65 rfl True.intro (i' := 99) rfl ?_
                    refine wp_zret rq_65 rfl rt_65 ?_ ⟨?_, ?_⟩
                    · first | exact Or.inl rfl | exact Or.inr rfl
                    · (rw [zo_accept, if_pos h1, if_pos h2, if_neg h3, if_neg h85, if_neg h168, if_pos h195, if_pos h196, if_neg h197, if_pos h203]; try rfl)
                    · (rw [zm_accept, if_pos h1, if_pos h2, if_neg h3, if_neg h85, if_neg h168, if_pos h195, if_pos h196, if_neg h197, if_pos h203]; try rfl)
                  · refine wp_seg 3 (P := none) (ls' := [some (aR 5 (0)), some (aI (c)), some (aI (0))]) (st' := [aI (3), aI (σ 5 (0) 5)]) (σ' := σ) rq_65 rfl True.intro (i' := 81) rfl ?_
                    refine wp_icmp rq_65 rfl (fun (h204 : (σ 5 (0) 5) = 3) => ?_) (fun (h204 : ¬ ((σ 5 (0) 5) = 3)) => ?_)
                    · refine wp_seg 8 (P := none) (ls' := [some (aR 5 (0)), some (aI (c)), some (aI (0))]) (st' := [aI (0), aR 5 (0)]) (σ' := (up σ 5 (0) 4 (wr ((σ 5 (0) 4) + (1))))) rq_65 rfl True.intro (i' := 96) rfl ?_
                      refine wp_call (C := 5) (As := [aR 5 (0), aI (0)]) (rest := []) rq_65 (ev_openPart (0) (up σ 5 (0) 4 (wr ((σ 5 (0) 4) + (1)))) ) rfl rfl (show clOK 65 66 0 0 0 2 5 = true by decide +kernel) rfl (show 0 ≤ 4 by decide) (fun _ => ⟨_, rfl⟩) rfl (c' := 0) (s' := 0) rfl rfl ?_
                      refine wp_goto rq_65 rfl ?_
                      refine wp_seg 1 (P := none) (ls' := [some (aR 5 (0)), some (aI (c)), some (aI (0))]) (st' := [aI (1)]) (σ' := (zm_openPart (0) (up σ 5 (0) 4 (wr ((σ 5 (0) 4) + (1)))))) rq_65 rfl True.intro (i' := 101) rfl ?_
                      refine wp_zret rq_65 rfl rt_65 ?_ ⟨?_, ?_⟩
                      · first | exact Or.inl rfl | exact Or.inr rfl
                      · (rw [zo_accept, if_pos h1, if_pos h2, if_neg h3, if_neg h85, if_neg h168, if_pos h195, if_pos h196, if_neg h197, if_neg h203, if_pos h204]; try rfl)
                      · (rw [zm_accept, if_pos h1, if_pos h2, if_neg h3, if_neg h85, if_neg h168, if_pos h195, if_pos h196, if_neg h197, if_neg h203, if_pos h204]; try rfl)
                    · refine wp_seg 3 (P := none) (ls' := [some (aR 5 (0)), some (aI (c)), some (aI (0))]) (st' := [aI (2), aI (σ 5 (0) 5)]) (σ' := σ) rq_65 rfl True.intro (i' := 85) rfl ?_
                      refine wp_icmp rq_65 rfl (fun (h205 : ¬ (σ 5 (0) 5) = 2) => ?_) (fun (h205 : ¬ (¬ (σ 5 (0) 5) = 2)) => ?_)
                      · refine wp_seg 1 (P := none) (ls' := [some (aR 5 (0)), some (aI (c)), some (aI (0))]) (st' := [aI (0)]) (σ' := σ) rq_65 rfl True.intro (i' := 99) rfl ?_
                        refine wp_zret rq_65 rfl rt_65 ?_ ⟨?_, ?_⟩
                        · first | exact Or.inl rfl | exact Or.inr rfl
                        · (rw [zo_accept, if_pos h1, if_pos h2, if_neg h3, if_neg h85, if_neg h168, if_pos h195, if_pos h196, if_neg h197, if_neg h203, if_neg h204, if_pos h205]; try rfl)
                        · (rw [zm_accept, if_pos h1, if_pos h2, if_neg h3, if_neg h85, if_neg h168, if_pos h195, if_pos h196, if_neg h197, if_neg h203, if_neg h204, if_pos h205]; try rfl)
                      · refine wp_seg 1 (P := none) (ls' := [some (aR 5 (0)), some (aI (c)), some (aI (0))]) (st' := [aI (0)]) (σ' := σ) rq_65 rfl True.intro (i' := 87) rfl ?_
                        refine wp_if rq_65 rfl (fun _ => ?_) (fun (h206 : ¬ ((0 : Int) = (0 : Int))) => absurd (show (0 : Int) = (0 : Int) from by decide) h206)
                        refine wp_seg 1 (P := none) (ls' := [some (aR 5 (0)), some (aI (c)), some (aI (0))]) (st' := [aI (0)]) (σ' := σ) rq_65 rfl True.intro (i' := 99) rfl ?_
                        refine wp_zret rq_65 rfl rt_65 ?_ ⟨?_, ?_⟩
                        · first | exact Or.inl rfl | exact Or.inr rfl
                        · (rw [zo_accept, if_pos h1, if_pos h2, if_neg h3, if_neg h85, if_neg h168, if_pos h195, if_pos h196, if_neg h197, if_neg h203, if_neg h204, if_neg h205]; try rfl)
                        · (rw [zm_accept, if_pos h1, if_pos h2, if_neg h3, if_neg h85, if_neg h168, if_pos h195, if_pos h196, if_neg h197, if_neg h203, if_neg h204, if_neg h205]; try rfl)
              · refine wp_seg 2 (P := none) (ls' := [some (aR 5 (0)), some (aI (c)), some (aI (0))]) (st' := [aI (114), aI (c)]) (σ' := σ) rq_65 rfl True.intro (i' := 49) rfl ?_
                refine wp_icmp rq_65 rfl (fun (h207 : ¬ (c) = 114) => ?_) (fun (h207 : ¬ (¬ (c) = 114)) => ?_)
                · refine wp_seg 2 (P := none) (ls' := [some (aR 5 (0)), some (aI (c)), some (aI (0))]) (st' := [aI (59), aI (c)]) (σ' := σ) rq_65 rfl True.intro (i' := 77) rfl ?_
                  refine wp_icmp rq_65 rfl (fun (h208 : ¬ (c) = 59) => ?_) (fun (h208 : ¬ (¬ (c) = 59)) => ?_)
                  · refine wp_seg 1 (P := none) (ls' := [some (aR 5 (0)), some (aI (c)), some (aI (0))]) (st' := [aI (0)]) (σ' := σ) rq_65 rfl True.intro (i' := 99) rfl ?_
                    refine wp_zret rq_65 rfl rt_65 ?_ ⟨?_, ?_⟩
                    · first | exact Or.inl rfl | exact Or.inr rfl
                    · (rw [zo_accept, if_pos h1, if_pos h2, if_neg h3, if_neg h85, if_neg h168, if_pos h195, if_neg h196, if_pos h207, if_pos h208]; try rfl)
                    · (rw [zm_accept, if_pos h1, if_pos h2, if_neg h3, if_neg h85, if_neg h168, if_pos h195, if_neg h196, if_pos h207, if_pos h208]; try rfl)
                  · refine wp_seg 3 (P := none) (ls' := [some (aR 5 (0)), some (aI (c)), some (aI (0))]) (st' := [aI (3), aI (σ 5 (0) 5)]) (σ' := σ) rq_65 rfl True.intro (i' := 81) rfl ?_
                    refine wp_icmp rq_65 rfl (fun (h209 : (σ 5 (0) 5) = 3) => ?_) (fun (h209 : ¬ ((σ 5 (0) 5) = 3)) => ?_)
                    · refine wp_seg 8 (P := none) (ls' := [some (aR 5 (0)), some (aI (c)), some (aI (0))]) (st' := [aI (0), aR 5 (0)]) (σ' := (up σ 5 (0) 4 (wr ((σ 5 (0) 4) + (1))))) rq_65 rfl True.intro (i' := 96) rfl ?_
                      refine wp_call (C := 5) (As := [aR 5 (0), aI (0)]) (rest := []) rq_65 (ev_openPart (0) (up σ 5 (0) 4 (wr ((σ 5 (0) 4) + (1)))) ) rfl rfl (show clOK 65 66 0 0 0 2 5 = true by decide +kernel) rfl (show 0 ≤ 4 by decide) (fun _ => ⟨_, rfl⟩) rfl (c' := 0) (s' := 0) rfl rfl ?_
                      refine wp_goto rq_65 rfl ?_
                      refine wp_seg 1 (P := none) (ls' := [some (aR 5 (0)), some (aI (c)), some (aI (0))]) (st' := [aI (1)]) (σ' := (zm_openPart (0) (up σ 5 (0) 4 (wr ((σ 5 (0) 4) + (1)))))) rq_65 rfl True.intro (i' := 101) rfl ?_
                      refine wp_zret rq_65 rfl rt_65 ?_ ⟨?_, ?_⟩
                      · first | exact Or.inl rfl | exact Or.inr rfl
                      · (rw [zo_accept, if_pos h1, if_pos h2, if_neg h3, if_neg h85, if_neg h168, if_pos h195, if_neg h196, if_pos h207, if_neg h208, if_pos h209]; try rfl)
                      · (rw [zm_accept, if_pos h1, if_pos h2, if_neg h3, if_neg h85, if_neg h168, if_pos h195, if_neg h196, if_pos h207, if_neg h208, if_pos h209]; try rfl)
                    · refine wp_seg 3 (P := none) (ls' := [some (aR 5 (0)), some (aI (c)), some (aI (0))]) (st' := [aI (2), aI (σ 5 (0) 5)]) (σ' := σ) rq_65 rfl True.intro (i' := 85) rfl ?_
                      refine wp_icmp rq_65 rfl (fun (h210 : ¬ (σ 5 (0) 5) = 2) => ?_) (fun (h210 : ¬ (¬ (σ 5 (0) 5) = 2)) => ?_)
                      · refine wp_seg 1 (P := none) (ls' := [some (aR 5 (0)), some (aI (c)), some (aI (0))]) (st' := [aI (0)]) (σ' := σ) rq_65 rfl True.intro (i' := 99) rfl ?_
                        refine wp_zret rq_65 rfl rt_65 ?_ ⟨?_, ?_⟩
                        · first | exact Or.inl rfl | exact Or.inr rfl
                        · (rw [zo_accept, if_pos h1, if_pos h2, if_neg h3, if_neg h85, if_neg h168, if_pos h195, if_neg h196, if_pos h207, if_neg h208, if_neg h209, if_pos h210]; try rfl)
                        · (rw [zm_accept, if_pos h1, if_pos h2, if_neg h3, if_neg h85, if_neg h168, if_pos h195, if_neg h196, if_pos h207, if_neg h208, if_neg h209, if_pos h210]; try rfl)
                      · refine wp_seg 1 (P := none) (ls' := [some (aR 5 (0)), some (aI (c)), some (aI (0))]) (st' := [aI (0)]) (σ' := σ) rq_65 rfl True.intro (i' := 87) rfl ?_
                        refine wp_if rq_65 rfl (fun _ => ?_) (fun (h211 : ¬ ((0 : Int) = (0 : Int))) => absurd (show (0 : Int) = (0 : Int) from by decide) h211)
                        refine wp_seg 1 (P := none) (ls' := [some (aR 5 (0)), some (aI (c)), some (aI (0))]) (st' := [aI (0)]) (σ' := σ) rq_65 rfl True.intro (i' := 99) rfl ?_
                        refine wp_zret rq_65 rfl rt_65 ?_ ⟨?_, ?_⟩
                        · first | exact Or.inl rfl | exact Or.inr rfl
                        · (rw [zo_accept, if_pos h1, if_pos h2, if_neg h3, if_neg h85, if_neg h168, if_pos h195, if_neg h196, if_pos h207, if_neg h208, if_neg h209, if_neg h210]; try rfl)
                        · (rw [zm_accept, if_pos h1, if_pos h2, if_neg h3, if_neg h85, if_neg h168, if_pos h195, if_neg h196, if_pos h207, if_neg h208, if_neg h209, if_neg h210]; try rfl)
                · refine wp_seg 3 (P := none) (ls' := [some (aR 5 (0)), some (aI (c)), some (aI (0))]) (st' := [aI (2), aI (σ 5 (0) 5)]) (σ' := σ) rq_65 rfl True.intro (i' := 53) rfl ?_
                  refine wp_icmp rq_65 rfl (fun (h212 : ¬ (σ 5 (0) 5) = 2) => ?_) (fun (h212 : ¬ (¬ (σ 5 (0) 5) = 2)) => ?_)
                  · refine wp_seg 2 (P := none) (ls' := [some (aR 5 (0)), some (aI (c)), some (aI (0))]) (st' := [aI (59), aI (c)]) (σ' := σ) rq_65 rfl True.intro (i' := 77) rfl ?_
                    refine wp_icmp rq_65 rfl (fun (h213 : ¬ (c) = 59) => ?_) (fun (h213 : ¬ (¬ (c) = 59)) => ?_)
                    · refine wp_seg 1 (P := none) (ls' := [some (aR 5 (0)), some (aI (c)), some (aI (0))]) (st' := [aI (0)]) (σ' := σ) rq_65 rfl True.intro (i' := 99) rfl ?_
                      refine wp_zret rq_65 rfl rt_65 ?_ ⟨?_, ?_⟩
                      · first | exact Or.inl rfl | exact Or.inr rfl
                      · (rw [zo_accept, if_pos h1, if_pos h2, if_neg h3, if_neg h85, if_neg h168, if_pos h195, if_neg h196, if_neg h207, if_pos h212, if_pos h213]; try rfl)
                      · (rw [zm_accept, if_pos h1, if_pos h2, if_neg h3, if_neg h85, if_neg h168, if_pos h195, if_neg h196, if_neg h207, if_pos h212, if_pos h213]; try rfl)
                    · refine wp_seg 3 (P := none) (ls' := [some (aR 5 (0)), some (aI (c)), some (aI (0))]) (st' := [aI (3), aI (σ 5 (0) 5)]) (σ' := σ) rq_65 rfl True.intro (i' := 81) rfl ?_
                      refine wp_icmp rq_65 rfl (fun (h214 : (σ 5 (0) 5) = 3) => ?_) (fun (h214 : ¬ ((σ 5 (0) 5) = 3)) => ?_)
                      · refine wp_seg 8 (P := none) (ls' := [some (aR 5 (0)), some (aI (c)), some (aI (0))]) (st' := [aI (0), aR 5 (0)]) (σ' := (up σ 5 (0) 4 (wr ((σ 5 (0) 4) + (1))))) rq_65 rfl True.intro (i' := 96) rfl ?_
                        refine wp_call (C := 5) (As := [aR 5 (0), aI (0)]) (rest := []) rq_65 (ev_openPart (0) (up σ 5 (0) 4 (wr ((σ 5 (0) 4) + (1)))) ) rfl rfl (show clOK 65 66 0 0 0 2 5 = true by decide +kernel) rfl (show 0 ≤ 4 by decide) (fun _ => ⟨_, rfl⟩) rfl (c' := 0) (s' := 0) rfl rfl ?_
                        refine wp_goto rq_65 rfl ?_
                        refine wp_seg 1 (P := none) (ls' := [some (aR 5 (0)), some (aI (c)), some (aI (0))]) (st' := [aI (1)]) (σ' := (zm_openPart (0) (up σ 5 (0) 4 (wr ((σ 5 (0) 4) + (1)))))) rq_65 rfl True.intro (i' := 101) rfl ?_
                        refine wp_zret rq_65 rfl rt_65 ?_ ⟨?_, ?_⟩
                        · first | exact Or.inl rfl | exact Or.inr rfl
                        · (rw [zo_accept, if_pos h1, if_pos h2, if_neg h3, if_neg h85, if_neg h168, if_pos h195, if_neg h196, if_neg h207, if_pos h212, if_neg h213, if_pos h214]; try rfl)
                        · (rw [zm_accept, if_pos h1, if_pos h2, if_neg h3, if_neg h85, if_neg h168, if_pos h195, if_neg h196, if_neg h207, if_pos h212, if_neg h213, if_pos h214]; try rfl)
                      · refine wp_seg 3 (P := none) (ls' := [some (aR 5 (0)), some (aI (c)), some (aI (0))]) (st' := [aI (2), aI (σ 5 (0) 5)]) (σ' := σ) rq_65 rfl True.intro (i' := 85) rfl ?_
                        refine wp_icmp rq_65 rfl (fun (h215 : ¬ (σ 5 (0) 5) = 2) => ?_) (fun (h215 : ¬ (¬ (σ 5 (0) 5) = 2)) => ?_)
                        · refine wp_seg 1 (P := none) (ls' := [some (aR 5 (0)), some (aI (c)), some (aI (0))]) (st' := [aI (0)]) (σ' := σ) rq_65 rfl True.intro (i' := 99) rfl ?_
                          refine wp_zret rq_65 rfl rt_65 ?_ ⟨?_, ?_⟩
                          · first | exact Or.inl rfl | exact Or.inr rfl
                          · (rw [zo_accept, if_pos h1, if_pos h2, if_neg h3, if_neg h85, if_neg h168, if_pos h195, if_neg h196, if_neg h207, if_pos h212, if_neg h213, if_neg h214, if_pos h215]; try rfl)
                          · (rw [zm_accept, if_pos h1, if_pos h2, if_neg h3, if_neg h85, if_neg h168, if_pos h195, if_neg h196, if_neg h207, if_pos h212, if_neg h213, if_neg h214, if_pos h215]; try rfl)
                        · refine wp_seg 1 (P := none) (ls' := [some (aR 5 (0)), some (aI (c)), some (aI (0))]) (st' := [aI (0)]) (σ' := σ) rq_65 rfl True.intro (i' := 87) rfl ?_
                          refine wp_if rq_65 rfl (fun _ => ?_) (fun (h216 : ¬ ((0 : Int) = (0 : Int))) => absurd (show (0 : Int) = (0 : Int) from by decide) h216)
                          refine wp_seg 1 (P := none) (ls' := [some (aR 5 (0)), some (aI (c)), some (aI (0))]) (st' := [aI (0)]) (σ' := σ) rq_65 rfl True.intro (i' := 99) rfl ?_
                          refine wp_zret rq_65 rfl rt_65 ?_ ⟨?_, ?_⟩
                          · first | exact Or.inl rfl | exact Or.inr rfl
                          · (rw [zo_accept, if_pos h1, if_pos h2, if_neg h3, if_neg h85, if_neg h168, if_pos h195, if_neg h196, if_neg h207, if_pos h212, if_neg h213, if_neg h214, if_neg h215]; try rfl)
                          · (rw [zm_accept, if_pos h1, if_pos h2, if_neg h3, if_neg h85, if_neg h168, if_pos h195, if_neg h196, if_neg h207, if_pos h212, if_neg h213, if_neg h214, if_neg h215]; try rfl)
                  · refine wp_seg 1 (P := none) (ls' := [some (aR 5 (0)), some (aI (c)), some (aI (0))]) (st' := [aI (0)]) (σ' := σ) rq_65 rfl True.intro (i' := 55) rfl ?_
                    refine wp_if rq_65 rfl (fun _ => ?_) (fun (h217 : ¬ ((0 : Int) = (0 : Int))) => absurd (show (0 : Int) = (0 : Int) from by decide) h217)
                    refine wp_seg 2 (P := none) (ls' := [some (aR 5 (0)), some (aI (c)), some (aI (0))]) (st' := [aI (59), aI (c)]) (σ' := σ) rq_65 rfl True.intro (i' := 77) rfl ?_
                    refine wp_icmp rq_65 rfl (fun (h218 : ¬ (c) = 59) => ?_) (fun (h218 : ¬ (¬ (c) = 59)) => ?_)
                    · refine wp_seg 1 (P := none) (ls' := [some (aR 5 (0)), some (aI (c)), some (aI (0))]) (st' := [aI (0)]) (σ' := σ) rq_65 rfl True.intro (i' := 99) rfl ?_
                      refine wp_zret rq_65 rfl rt_65 ?_ ⟨?_, ?_⟩
                      · first | exact Or.inl rfl | exact Or.inr rfl
                      · (rw [zo_accept, if_pos h1, if_pos h2, if_neg h3, if_neg h85, if_neg h168, if_pos h195, if_neg h196, if_neg h207, if_neg h212, if_pos h218]; try rfl)
                      · (rw [zm_accept, if_pos h1, if_pos h2, if_neg h3, if_neg h85, if_neg h168, if_pos h195, if_neg h196, if_neg h207, if_neg h212, if_pos h218]; try rfl)
                    · refine wp_seg 3 (P := none) (ls' := [some (aR 5 (0)), some (aI (c)), some (aI (0))]) (st' := [aI (3), aI (σ 5 (0) 5)]) (σ' := σ) rq_65 rfl True.intro (i' := 81) rfl ?_
                      refine wp_icmp rq_65 rfl (fun (h219 : (σ 5 (0) 5) = 3) => ?_) (fun (h219 : ¬ ((σ 5 (0) 5) = 3)) => ?_)
                      · refine wp_seg 8 (P := none) (ls' := [some (aR 5 (0)), some (aI (c)), some (aI (0))]) (st' := [aI (0), aR 5 (0)]) (σ' := (up σ 5 (0) 4 (wr ((σ 5 (0) 4) + (1))))) rq_65 rfl True.intro (i' := 96) rfl ?_
                        refine wp_call (C := 5) (As := [aR 5 (0), aI (0)]) (rest := []) rq_65 (ev_openPart (0) (up σ 5 (0) 4 (wr ((σ 5 (0) 4) + (1)))) ) rfl rfl (show clOK 65 66 0 0 0 2 5 = true by decide +kernel) rfl (show 0 ≤ 4 by decide) (fun _ => ⟨_, rfl⟩) rfl (c' := 0) (s' := 0) rfl rfl ?_
                        refine wp_goto rq_65 rfl ?_
                        refine wp_seg 1 (P := none) (ls' := [some (aR 5 (0)), some (aI (c)), some (aI (0))]) (st' := [aI (1)]) (σ' := (zm_openPart (0) (up σ 5 (0) 4 (wr ((σ 5 (0) 4) + (1)))))) rq_65 rfl True.intro (i' := 101) rfl ?_
                        refine wp_zret rq_65 rfl rt_65 ?_ ⟨?_, ?_⟩
                        · first | exact Or.inl rfl | exact Or.inr rfl
                        · (rw [zo_accept, if_pos h1, if_pos h2, if_neg h3, if_neg h85, if_neg h168, if_pos h195, if_neg h196, if_neg h207, if_neg h212, if_neg h218, if_pos h219]; try rfl)
                        · (rw [zm_accept, if_pos h1, if_pos h2, if_neg h3, if_neg h85, if_neg h168, if_pos h195, if_neg h196, if_neg h207, if_neg h212, if_neg h218, if_pos h219]; try rfl)
                      · refine wp_seg 3 (P := none) (ls' := [some (aR 5 (0)), some (aI (c)), some (aI (0))]) (st' := [aI (2), aI (σ 5 (0) 5)]) (σ' := σ) rq_65 rfl True.intro (i' := 85) rfl ?_
                        refine wp_icmp rq_65 rfl (fun (h220 : ¬ (σ 5 (0) 5) = 2) => ?_) (fun (h220 : ¬ (¬ (σ 5 (0) 5) = 2)) => ?_)
                        · refine wp_seg 1 (P := none) (ls' := [some (aR 5 (0)), some (aI (c)), some (aI (0))]) (st' := [aI (0)]) (σ' := σ) rq_65 rfl True.intro (i' := 99) rfl ?_
                          refine wp_zret rq_65 rfl rt_65 ?_ ⟨?_, ?_⟩
                          · first | exact Or.inl rfl | exact Or.inr rfl
                          · (rw [zo_accept, if_pos h1, if_pos h2, if_neg h3, if_neg h85, if_neg h168, if_pos h195, if_neg h196, if_neg h207, if_neg h212, if_neg h218, if_neg h219, if_pos h220]; try rfl)
                          · (rw [zm_accept, if_pos h1, if_pos h2, if_neg h3, if_neg h85, if_neg h168, if_pos h195, if_neg h196, if_neg h207, if_neg h212, if_neg h218, if_neg h219, if_pos h220]; try rfl)
                        · refine wp_seg 1 (P := none) (ls' := [some (aR 5 (0)), some (aI (c)), some (aI (0))]) (st' := [aI (0)]) (σ' := σ) rq_65 rfl True.intro (i' := 87) rfl ?_
                          refine wp_if rq_65 rfl (fun _ => ?_) (fun (h221 : ¬ ((0 : Int) = (0 : Int))) => absurd (show (0 : Int) = (0 : Int) from by decide) h221)
                          refine wp_seg 1 (P := none) (ls' := [some (aR 5 (0)), some (aI (c)), some (aI (0))]) (st' := [aI (0)]) (σ' := σ) rq_65 rfl True.intro (i' := 99) rfl ?_
                          refine wp_zret rq_65 rfl rt_65 ?_ ⟨?_, ?_⟩
                          · first | exact Or.inl rfl | exact Or.inr rfl
                          · (rw [zo_accept, if_pos h1, if_pos h2, if_neg h3, if_neg h85, if_neg h168, if_pos h195, if_neg h196, if_neg h207, if_neg h212, if_neg h218, if_neg h219, if_neg h220]; try rfl)
                          · (rw [zm_accept, if_pos h1, if_pos h2, if_neg h3, if_neg h85, if_neg h168, if_pos h195, if_neg h196, if_neg h207, if_neg h212, if_neg h218, if_neg h219, if_neg h220]; try rfl)
            · refine wp_seg 1 (P := none) (ls' := [some (aR 5 (0)), some (aI (c)), some (aI (0))]) (st' := [aI (0)]) (σ' := σ) rq_65 rfl True.intro (i' := 39) rfl ?_
              refine wp_if rq_65 rfl (fun _ => ?_) (fun (h222 : ¬ ((0 : Int) = (0 : Int))) => absurd (show (0 : Int) = (0 : Int) from by decide) h222)
              refine wp_seg 2 (P := none) (ls' := [some (aR 5 (0)), some (aI (c)), some (aI (0))]) (st' := [aI (108), aI (c)]) (σ' := σ) rq_65 rfl True.intro (i' := 46) rfl ?_
              refine wp_icmp rq_65 rfl (fun (h223 : (c) = 108) => ?_) (fun (h223 : ¬ ((c) = 108)) => ?_)
              · refine wp_seg 3 (P := none) (ls' := [some (aR 5 (0)), some (aI (c)), some (aI (0))]) (st' := [aI (2), aI (σ 5 (0) 5)]) (σ' := σ) rq_65 rfl True.intro (i' := 53) rfl ?_
                refine wp_icmp rq_65 rfl (fun (h224 : ¬ (σ 5 (0) 5) = 2) => ?_) (fun (h224 : ¬ (¬ (σ 5 (0) 5) = 2)) => ?_)
                · refine wp_seg 2 (P := none) (ls' := [some (aR 5 (0)), some (aI (c)), some (aI (0))]) (st' := [aI (59), aI (c)]) (σ' := σ) rq_65 rfl True.intro (i' := 77) rfl ?_
                  refine wp_icmp rq_65 rfl (fun (h225 : ¬ (c) = 59) => ?_) (fun (h225 : ¬ (¬ (c) = 59)) => ?_)
                  · refine wp_seg 1 (P := none) (ls' := [some (aR 5 (0)), some (aI (c)), some (aI (0))]) (st' := [aI (0)]) (σ' := σ) rq_65 rfl True.intro (i' := 99) rfl ?_
                    refine wp_zret rq_65 rfl rt_65 ?_ ⟨?_, ?_⟩
                    · first | exact Or.inl rfl | exact Or.inr rfl
                    · (rw [zo_accept, if_pos h1, if_pos h2, if_neg h3, if_neg h85, if_neg h168, if_neg h195, if_pos h223, if_pos h224, if_pos h225]; try rfl)
                    · (rw [zm_accept, if_pos h1, if_pos h2, if_neg h3, if_neg h85, if_neg h168, if_neg h195, if_pos h223, if_pos h224, if_pos h225]; try rfl)
                  · refine wp_seg 3 (P := none) (ls' := [some (aR 5 (0)), some (aI (c)), some (aI (0))]) (st' := [aI (3), aI (σ 5 (0) 5)]) (σ' := σ) rq_65 rfl True.intro (i' := 81) rfl ?_
                    refine wp_icmp rq_65 rfl (fun (h226 : (σ 5 (0) 5) = 3) => ?_) (fun (h226 : ¬ ((σ 5 (0) 5) = 3)) => ?_)
                    · refine wp_seg 8 (P := none) (ls' := [some (aR 5 (0)), some (aI (c)), some (aI (0))]) (st' := [aI (0), aR 5 (0)]) (σ' := (up σ 5 (0) 4 (wr ((σ 5 (0) 4) + (1))))) rq_65 rfl True.intro (i' := 96) rfl ?_
                      refine wp_call (C := 5) (As := [aR 5 (0), aI (0)]) (rest := []) rq_65 (ev_openPart (0) (up σ 5 (0) 4 (wr ((σ 5 (0) 4) + (1)))) ) rfl rfl (show clOK 65 66 0 0 0 2 5 = true by decide +kernel) rfl (show 0 ≤ 4 by decide) (fun _ => ⟨_, rfl⟩) rfl (c' := 0) (s' := 0) rfl rfl ?_
                      refine wp_goto rq_65 rfl ?_
                      refine wp_seg 1 (P := none) (ls' := [some (aR 5 (0)), some (aI (c)), some (aI (0))]) (st' := [aI (1)]) (σ' := (zm_openPart (0) (up σ 5 (0) 4 (wr ((σ 5 (0) 4) + (1)))))) rq_65 rfl True.intro (i' := 101) rfl ?_
                      refine wp_zret rq_65 rfl rt_65 ?_ ⟨?_, ?_⟩
                      · first | exact Or.inl rfl | exact Or.inr rfl
                      · (rw [zo_accept, if_pos h1, if_pos h2, if_neg h3, if_neg h85, if_neg h168, if_neg h195, if_pos h223, if_pos h224, if_neg h225, if_pos h226]; try rfl)
                      · (rw [zm_accept, if_pos h1, if_pos h2, if_neg h3, if_neg h85, if_neg h168, if_neg h195, if_pos h223, if_pos h224, if_neg h225, if_pos h226]; try rfl)
                    · refine wp_seg 3 (P := none) (ls' := [some (aR 5 (0)), some (aI (c)), some (aI (0))]) (st' := [aI (2), aI (σ 5 (0) 5)]) (σ' := σ) rq_65 rfl True.intro (i' := 85) rfl ?_
                      refine wp_icmp rq_65 rfl (fun (h227 : ¬ (σ 5 (0) 5) = 2) => ?_) (fun (h227 : ¬ (¬ (σ 5 (0) 5) = 2)) => ?_)
                      · refine wp_seg 1 (P := none) (ls' := [some (aR 5 (0)), some (aI (c)), some (aI (0))]) (st' := [aI (0)]) (σ' := σ) rq_65 rfl True.intro (i' := 99) rfl ?_
                        refine wp_zret rq_65 rfl rt_65 ?_ ⟨?_, ?_⟩
                        · first | exact Or.inl rfl | exact Or.inr rfl
                        · (rw [zo_accept, if_pos h1, if_pos h2, if_neg h3, if_neg h85, if_neg h168, if_neg h195, if_pos h223, if_pos h224, if_neg h225, if_neg h226, if_pos h227]; try rfl)
                        · (rw [zm_accept, if_pos h1, if_pos h2, if_neg h3, if_neg h85, if_neg h168, if_neg h195, if_pos h223, if_pos h224, if_neg h225, if_neg h226, if_pos h227]; try rfl)
                      · refine wp_seg 1 (P := none) (ls' := [some (aR 5 (0)), some (aI (c)), some (aI (0))]) (st' := [aI (0)]) (σ' := σ) rq_65 rfl True.intro (i' := 87) rfl ?_
                        refine wp_if rq_65 rfl (fun _ => ?_) (fun (h228 : ¬ ((0 : Int) = (0 : Int))) => absurd (show (0 : Int) = (0 : Int) from by decide) h228)
                        refine wp_seg 1 (P := none) (ls' := [some (aR 5 (0)), some (aI (c)), some (aI (0))]) (st' := [aI (0)]) (σ' := σ) rq_65 rfl True.intro (i' := 99) rfl ?_
                        refine wp_zret rq_65 rfl rt_65 ?_ ⟨?_, ?_⟩
                        · first | exact Or.inl rfl | exact Or.inr rfl
                        · (rw [zo_accept, if_pos h1, if_pos h2, if_neg h3, if_neg h85, if_neg h168, if_neg h195, if_pos h223, if_pos h224, if_neg h225, if_neg h226, if_neg h227]; try rfl)
                        · (rw [zm_accept, if_pos h1, if_pos h2, if_neg h3, if_neg h85, if_neg h168, if_neg h195, if_pos h223, if_pos h224, if_neg h225, if_neg h226, if_neg h227]; try rfl)
                · refine wp_seg 1 (P := none) (ls' := [some (aR 5 (0)), some (aI (c)), some (aI (0))]) (st' := [aI (0)]) (σ' := σ) rq_65 rfl True.intro (i' := 55) rfl ?_
                  refine wp_if rq_65 rfl (fun _ => ?_) (fun (h229 : ¬ ((0 : Int) = (0 : Int))) => absurd (show (0 : Int) = (0 : Int) from by decide) h229)
                  refine wp_seg 2 (P := none) (ls' := [some (aR 5 (0)), some (aI (c)), some (aI (0))]) (st' := [aI (59), aI (c)]) (σ' := σ) rq_65 rfl True.intro (i' := 77) rfl ?_
                  refine wp_icmp rq_65 rfl (fun (h230 : ¬ (c) = 59) => ?_) (fun (h230 : ¬ (¬ (c) = 59)) => ?_)
                  · refine wp_seg 1 (P := none) (ls' := [some (aR 5 (0)), some (aI (c)), some (aI (0))]) (st' := [aI (0)]) (σ' := σ) rq_65 rfl True.intro (i' := 99) rfl ?_
                    refine wp_zret rq_65 rfl rt_65 ?_ ⟨?_, ?_⟩
                    · first | exact Or.inl rfl | exact Or.inr rfl
                    · (rw [zo_accept, if_pos h1, if_pos h2, if_neg h3, if_neg h85, if_neg h168, if_neg h195, if_pos h223, if_neg h224, if_pos h230]; try rfl)
                    · (rw [zm_accept, if_pos h1, if_pos h2, if_neg h3, if_neg h85, if_neg h168, if_neg h195, if_pos h223, if_neg h224, if_pos h230]; try rfl)
                  · refine wp_seg 3 (P := none) (ls' := [some (aR 5 (0)), some (aI (c)), some (aI (0))]) (st' := [aI (3), aI (σ 5 (0) 5)]) (σ' := σ) rq_65 rfl True.intro (i' := 81) rfl ?_
                    refine wp_icmp rq_65 rfl (fun (h231 : (σ 5 (0) 5) = 3) => ?_) (fun (h231 : ¬ ((σ 5 (0) 5) = 3)) => ?_)
                    · refine wp_seg 8 (P := none) (ls' := [some (aR 5 (0)), some (aI (c)), some (aI (0))]) (st' := [aI (0), aR 5 (0)]) (σ' := (up σ 5 (0) 4 (wr ((σ 5 (0) 4) + (1))))) rq_65 rfl True.intro (i' := 96) rfl ?_
                      refine wp_call (C := 5) (As := [aR 5 (0), aI (0)]) (rest := []) rq_65 (ev_openPart (0) (up σ 5 (0) 4 (wr ((σ 5 (0) 4) + (1)))) ) rfl rfl (show clOK 65 66 0 0 0 2 5 = true by decide +kernel) rfl (show 0 ≤ 4 by decide) (fun _ => ⟨_, rfl⟩) rfl (c' := 0) (s' := 0) rfl rfl ?_
                      refine wp_goto rq_65 rfl ?_
                      refine wp_seg 1 (P := none) (ls' := [some (aR 5 (0)), some (aI (c)), some (aI (0))]) (st' := [aI (1)]) (σ' := (zm_openPart (0) (up σ 5 (0) 4 (wr ((σ 5 (0) 4) + (1)))))) rq_65 rfl True.intro (i' := 101) rfl ?_
                      refine wp_zret rq_65 rfl rt_65 ?_ ⟨?_, ?_⟩
                      · first | exact Or.inl rfl | exact Or.inr rfl
                      · (rw [zo_accept, if_pos h1, if_pos h2, if_neg h3, if_neg h85, if_neg h168, if_neg h195, if_pos h223, if_neg h224, if_neg h230, if_pos h231]; try rfl)
                      · (rw [zm_accept, if_pos h1, if_pos h2, if_neg h3, if_neg h85, if_neg h168, if_neg h195, if_pos h223, if_neg h224, if_neg h230, if_pos h231]; try rfl)
                    · refine wp_seg 3 (P := none) (ls' := [some (aR 5 (0)), some (aI (c)), some (aI (0))]) (st' := [aI (2), aI (σ 5 (0) 5)]) (σ' := σ) rq_65 rfl True.intro (i' := 85) rfl ?_
                      refine wp_icmp rq_65 rfl (fun (h232 : ¬ (σ 5 (0) 5) = 2) => ?_) (fun (h232 : ¬ (¬ (σ 5 (0) 5) = 2)) => ?_)
                      · refine wp_seg 1 (P := none) (ls' := [some (aR 5 (0)), some (aI (c)), some (aI (0))]) (st' := [aI (0)]) (σ' := σ) rq_65 rfl True.intro (i' := 99) rfl ?_
                        refine wp_zret rq_65 rfl rt_65 ?_ ⟨?_, ?_⟩
                        · first | exact Or.inl rfl | exact Or.inr rfl
                        · (rw [zo_accept, if_pos h1, if_pos h2, if_neg h3, if_neg h85, if_neg h168, if_neg h195, if_pos h223, if_neg h224, if_neg h230, if_neg h231, if_pos h232]; try rfl)
                        · (rw [zm_accept, if_pos h1, if_pos h2, if_neg h3, if_neg h85, if_neg h168, if_neg h195, if_pos h223, if_neg h224, if_neg h230, if_neg h231, if_pos h232]; try rfl)
                      · refine wp_seg 1 (P := none) (ls' := [some (aR 5 (0)), some (aI (c)), some (aI (0))]) (st' := [aI (0)]) (σ' := σ) rq_65 rfl True.intro (i' := 87) rfl ?_
                        refine wp_if rq_65 rfl (fun _ => ?_) (fun (h233 : ¬ ((0 : Int) = (0 : Int))) => absurd (show (0 : Int) = (0 : Int) from by decide) h233)
                        refine wp_seg 1 (P := none) (ls' := [some (aR 5 (0)), some (aI (c)), some (aI (0))]) (st' := [aI (0)]) (σ' := σ) rq_65 rfl True.intro (i' := 99) rfl ?_
                        refine wp_zret rq_65 rfl rt_65 ?_ ⟨?_, ?_⟩
                        · first | exact Or.inl rfl | exact Or.inr rfl
                        · (rw [zo_accept, if_pos h1, if_pos h2, if_neg h3, if_neg h85, if_neg h168, if_neg h195, if_pos h223, if_neg h224, if_neg h230, if_neg h231, if_neg h232]; try rfl)
                        · (rw [zm_accept, if_pos h1, if_pos h2, if_neg h3, if_neg h85, if_neg h168, if_neg h195, if_pos h223, if_neg h224, if_neg h230, if_neg h231, if_neg h232]; try rfl)
              · refine wp_seg 2 (P := none) (ls' := [some (aR 5 (0)), some (aI (c)), some (aI (0))]) (st' := [aI (114), aI (c)]) (σ' := σ) rq_65 rfl True.intro (i' := 49) rfl ?_
                refine wp_icmp rq_65 rfl (fun (h234 : ¬ (c) = 114) => ?_) (fun (h234 : ¬ (¬ (c) = 114)) => ?_)
                · refine wp_seg 2 (P := none) (ls' := [some (aR 5 (0)), some (aI (c)), some (aI (0))]) (st' := [aI (59), aI (c)]) (σ' := σ) rq_65 rfl True.intro (i' := 77) rfl ?_
                  refine wp_icmp rq_65 rfl (fun (h235 : ¬ (c) = 59) => ?_) (fun (h235 : ¬ (¬ (c) = 59)) => ?_)
                  · refine wp_seg 1 (P := none) (ls' := [some (aR 5 (0)), some (aI (c)), some (aI (0))]) (st' := [aI (0)]) (σ' := σ) rq_65 rfl True.intro (i' := 99) rfl ?_
                    refine wp_zret rq_65 rfl rt_65 ?_ ⟨?_, ?_⟩
                    · first | exact Or.inl rfl | exact Or.inr rfl
                    · (rw [zo_accept, if_pos h1, if_pos h2, if_neg h3, if_neg h85, if_neg h168, if_neg h195, if_neg h223, if_pos h234, if_pos h235]; try rfl)
                    · (rw [zm_accept, if_pos h1, if_pos h2, if_neg h3, if_neg h85, if_neg h168, if_neg h195, if_neg h223, if_pos h234, if_pos h235]; try rfl)
                  · refine wp_seg 3 (P := none) (ls' := [some (aR 5 (0)), some (aI (c)), some (aI (0))]) (st' := [aI (3), aI (σ 5 (0) 5)]) (σ' := σ) rq_65 rfl True.intro (i' := 81) rfl ?_
                    refine wp_icmp rq_65 rfl (fun (h236 : (σ 5 (0) 5) = 3) => ?_) (fun (h236 : ¬ ((σ 5 (0) 5) = 3)) => ?_)
                    · refine wp_seg 8 (P := none) (ls' := [some (aR 5 (0)), some (aI (c)), some (aI (0))]) (st' := [aI (0), aR 5 (0)]) (σ' := (up σ 5 (0) 4 (wr ((σ 5 (0) 4) + (1))))) rq_65 rfl True.intro (i' := 96) rfl ?_
                      refine wp_call (C := 5) (As := [aR 5 (0), aI (0)]) (rest := []) rq_65 (ev_openPart (0) (up σ 5 (0) 4 (wr ((σ 5 (0) 4) + (1)))) ) rfl rfl (show clOK 65 66 0 0 0 2 5 = true by decide +kernel) rfl (show 0 ≤ 4 by decide) (fun _ => ⟨_, rfl⟩) rfl (c' := 0) (s' := 0) rfl rfl ?_
                      refine wp_goto rq_65 rfl ?_
                      refine wp_seg 1 (P := none) (ls' := [some (aR 5 (0)), some (aI (c)), some (aI (0))]) (st' := [aI (1)]) (σ' := (zm_openPart (0) (up σ 5 (0) 4 (wr ((σ 5 (0) 4) + (1)))))) rq_65 rfl True.intro (i' := 101) rfl ?_
                      refine wp_zret rq_65 rfl rt_65 ?_ ⟨?_, ?_⟩
                      · first | exact Or.inl rfl | exact Or.inr rfl
                      · (rw [zo_accept, if_pos h1, if_pos h2, if_neg h3, if_neg h85, if_neg h168, if_neg h195, if_neg h223, if_pos h234, if_neg h235, if_pos h236]; try rfl)
                      · (rw [zm_accept, if_pos h1, if_pos h2, if_neg h3, if_neg h85, if_neg h168, if_neg h195, if_neg h223, if_pos h234, if_neg h235, if_pos h236]; try rfl)
                    · refine wp_seg 3 (P := none) (ls' := [some (aR 5 (0)), some (aI (c)), some (aI (0))]) (st' := [aI (2), aI (σ 5 (0) 5)]) (σ' := σ) rq_65 rfl True.intro (i' := 85) rfl ?_
                      refine wp_icmp rq_65 rfl (fun (h237 : ¬ (σ 5 (0) 5) = 2) => ?_) (fun (h237 : ¬ (¬ (σ 5 (0) 5) = 2)) => ?_)
                      · refine wp_seg 1 (P := none) (ls' := [some (aR 5 (0)), some (aI (c)), some (aI (0))]) (st' := [aI (0)]) (σ' := σ) rq_65 rfl True.intro (i' := 99) rfl ?_
                        refine wp_zret rq_65 rfl rt_65 ?_ ⟨?_, ?_⟩
                        · first | exact Or.inl rfl | exact Or.inr rfl
                        · (rw [zo_accept, if_pos h1, if_pos h2, if_neg h3, if_neg h85, if_neg h168, if_neg h195, if_neg h223, if_pos h234, if_neg h235, if_neg h236, if_pos h237]; try rfl)
                        · (rw [zm_accept, if_pos h1, if_pos h2, if_neg h3, if_neg h85, if_neg h168, if_neg h195, if_neg h223, if_pos h234, if_neg h235, if_neg h236, if_pos h237]; try rfl)
                      · refine wp_seg 1 (P := none) (ls' := [some (aR 5 (0)), some (aI (c)), some (aI (0))]) (st' := [aI (0)]) (σ' := σ) rq_65 rfl True.intro (i' := 87) rfl ?_
                        refine wp_if rq_65 rfl (fun _ => ?_) (fun (h238 : ¬ ((0 : Int) = (0 : Int))) => absurd (show (0 : Int) = (0 : Int) from by decide) h238)
                        refine wp_seg 1 (P := none) (ls' := [some (aR 5 (0)), some (aI (c)), some (aI (0))]) (st' := [aI (0)]) (σ' := σ) rq_65 rfl True.intro (i' := 99) rfl ?_
                        refine wp_zret rq_65 rfl rt_65 ?_ ⟨?_, ?_⟩
                        · first | exact Or.inl rfl | exact Or.inr rfl
                        · (rw [zo_accept, if_pos h1, if_pos h2, if_neg h3, if_neg h85, if_neg h168, if_neg h195, if_neg h223, if_pos h234, if_neg h235, if_neg h236, if_neg h237]; try rfl)
                        · (rw [zm_accept, if_pos h1, if_pos h2, if_neg h3, if_neg h85, if_neg h168, if_neg h195, if_neg h223, if_pos h234, if_neg h235, if_neg h236, if_neg h237]; try rfl)
                · refine wp_seg 3 (P := none) (ls' := [some (aR 5 (0)), some (aI (c)), some (aI (0))]) (st' := [aI (2), aI (σ 5 (0) 5)]) (σ' := σ) rq_65 rfl True.intro (i' := 53) rfl ?_
                  refine wp_icmp rq_65 rfl (fun (h239 : ¬ (σ 5 (0) 5) = 2) => ?_) (fun (h239 : ¬ (¬ (σ 5 (0) 5) = 2)) => ?_)
                  · refine wp_seg 2 (P := none) (ls' := [some (aR 5 (0)), some (aI (c)), some (aI (0))]) (st' := [aI (59), aI (c)]) (σ' := σ) rq_65 rfl True.intro (i' := 77) rfl ?_
                    refine wp_icmp rq_65 rfl (fun (h240 : ¬ (c) = 59) => ?_) (fun (h240 : ¬ (¬ (c) = 59)) => ?_)
                    · refine wp_seg 1 (P := none) (ls' := [some (aR 5 (0)), some (aI (c)), some (aI (0))]) (st' := [aI (0)]) (σ' := σ) rq_65 rfl True.intro (i' := 99) rfl ?_
                      refine wp_zret rq_65 rfl rt_65 ?_ ⟨?_, ?_⟩
                      · first | exact Or.inl rfl | exact Or.inr rfl
                      · (rw [zo_accept, if_pos h1, if_pos h2, if_neg h3, if_neg h85, if_neg h168, if_neg h195, if_neg h223, if_neg h234, if_pos h239, if_pos h240]; try rfl)
                      · (rw [zm_accept, if_pos h1, if_pos h2, if_neg h3, if_neg h85, if_neg h168, if_neg h195, if_neg h223, if_neg h234, if_pos h239, if_pos h240]; try rfl)
                    · refine wp_seg 3 (P := none) (ls' := [some (aR 5 (0)), some (aI (c)), some (aI (0))]) (st' := [aI (3), aI (σ 5 (0) 5)]) (σ' := σ) rq_65 rfl True.intro (i' := 81) rfl ?_
                      refine wp_icmp rq_65 rfl (fun (h241 : (σ 5 (0) 5) = 3) => ?_) (fun (h241 : ¬ ((σ 5 (0) 5) = 3)) => ?_)
                      · refine wp_seg 8 (P := none) (ls' := [some (aR 5 (0)), some (aI (c)), some (aI (0))]) (st' := [aI (0), aR 5 (0)]) (σ' := (up σ 5 (0) 4 (wr ((σ 5 (0) 4) + (1))))) rq_65 rfl True.intro (i' := 96) rfl ?_
                        refine wp_call (C := 5) (As := [aR 5 (0), aI (0)]) (rest := []) rq_65 (ev_openPart (0) (up σ 5 (0) 4 (wr ((σ 5 (0) 4) + (1)))) ) rfl rfl (show clOK 65 66 0 0 0 2 5 = true by decide +kernel) rfl (show 0 ≤ 4 by decide) (fun _ => ⟨_, rfl⟩) rfl (c' := 0) (s' := 0) rfl rfl ?_
                        refine wp_goto rq_65 rfl ?_
                        refine wp_seg 1 (P := none) (ls' := [some (aR 5 (0)), some (aI (c)), some (aI (0))]) (st' := [aI (1)]) (σ' := (zm_openPart (0) (up σ 5 (0) 4 (wr ((σ 5 (0) 4) + (1)))))) rq_65 rfl True.intro (i' := 101) rfl ?_
                        refine wp_zret rq_65 rfl rt_65 ?_ ⟨?_, ?_⟩
                        · first | exact Or.inl rfl | exact Or.inr rfl
                        · (rw [zo_accept, if_pos h1, if_pos h2, if_neg h3, if_neg h85, if_neg h168, if_neg h195, if_neg h223, if_neg h234, if_pos h239, if_neg h240, if_pos h241]; try rfl)
                        · (rw [zm_accept, if_pos h1, if_pos h2, if_neg h3, if_neg h85, if_neg h168, if_neg h195, if_neg h223, if_neg h234, if_pos h239, if_neg h240, if_pos h241]; try rfl)
                      · refine wp_seg 3 (P := none) (ls' := [some (aR 5 (0)), some (aI (c)), some (aI (0))]) (st' := [aI (2), aI (σ 5 (0) 5)]) (σ' := σ) rq_65 rfl True.intro (i' := 85) rfl ?_
                        refine wp_icmp rq_65 rfl (fun (h242 : ¬ (σ 5 (0) 5) = 2) => ?_) (fun (h242 : ¬ (¬ (σ 5 (0) 5) = 2)) => ?_)
                        · refine wp_seg 1 (P := none) (ls' := [some (aR 5 (0)), some (aI (c)), some (aI (0))]) (st' := [aI (0)]) (σ' := σ) rq_65 rfl True.intro (i' := 99) rfl ?_
                          refine wp_zret rq_65 rfl rt_65 ?_ ⟨?_, ?_⟩
                          · first | exact Or.inl rfl | exact Or.inr rfl
                          · (rw [zo_accept, if_pos h1, if_pos h2, if_neg h3, if_neg h85, if_neg h168, if_neg h195, if_neg h223, if_neg h234, if_pos h239, if_neg h240, if_neg h241, if_pos h242]; try rfl)
                          · (rw [zm_accept, if_pos h1, if_pos h2, if_neg h3, if_neg h85, if_neg h168, if_neg h195, if_neg h223, if_neg h234, if_pos h239, if_neg h240, if_neg h241, if_pos h242]; try rfl)
                        · refine wp_seg 1 (P := none) (ls' := [some (aR 5 (0)), some (aI (c)), some (aI (0))]) (st' := [aI (0)]) (σ' := σ) rq_65 rfl True.intro (i' := 87) rfl ?_
                          refine wp_if rq_65 rfl (fun _ => ?_) (fun (h243 : ¬ ((0 : Int) = (0 : Int))) => absurd (show (0 : Int) = (0 : Int) from by decide) h243)
                          refine wp_seg 1 (P := none) (ls' := [some (aR 5 (0)), some (aI (c)), some (aI (0))]) (st' := [aI (0)]) (σ' := σ) rq_65 rfl True.intro (i' := 99) rfl ?_
                          refine wp_zret rq_65 rfl rt_65 ?_ ⟨?_, ?_⟩
                          · first | exact Or.inl rfl | exact Or.inr rfl
                          · (rw [zo_accept, if_pos h1, if_pos h2, if_neg h3, if_neg h85, if_neg h168, if_neg h195, if_neg h223, if_neg h234, if_pos h239, if_neg h240, if_neg h241, if_neg h242]; try rfl)
                          · (rw [zm_accept, if_pos h1, if_pos h2, if_neg h3, if_neg h85, if_neg h168, if_neg h195, if_neg h223, if_neg h234, if_pos h239, if_neg h240, if_neg h241, if_neg h242]; try rfl)
                  · refine wp_seg 1 (P := none) (ls' := [some (aR 5 (0)), some (aI (c)), some (aI (0))]) (st' := [aI (0)]) (σ' := σ) rq_65 rfl True.intro (i' := 55) rfl ?_
                    refine wp_if rq_65 rfl (fun _ => ?_) (fun (h244 : ¬ ((0 : Int) = (0 : Int))) => absurd (show (0 : Int) = (0 : Int) from by decide) h244)
                    refine wp_seg 2 (P := none) (ls' := [some (aR 5 (0)), some (aI (c)), some (aI (0))]) (st' := [aI (59), aI (c)]) (σ' := σ) rq_65 rfl True.intro (i' := 77) rfl ?_
                    refine wp_icmp rq_65 rfl (fun (h245 : ¬ (c) = 59) => ?_) (fun (h245 : ¬ (¬ (c) = 59)) => ?_)
                    · refine wp_seg 1 (P := none) (ls' := [some (aR 5 (0)), some (aI (c)), some (aI (0))]) (st' := [aI (0)]) (σ' := σ) rq_65 rfl True.intro (i' := 99) rfl ?_
                      refine wp_zret rq_65 rfl rt_65 ?_ ⟨?_, ?_⟩
                      · first | exact Or.inl rfl | exact Or.inr rfl
                      · (rw [zo_accept, if_pos h1, if_pos h2, if_neg h3, if_neg h85, if_neg h168, if_neg h195, if_neg h223, if_neg h234, if_neg h239, if_pos h245]; try rfl)
                      · (rw [zm_accept, if_pos h1, if_pos h2, if_neg h3, if_neg h85, if_neg h168, if_neg h195, if_neg h223, if_neg h234, if_neg h239, if_pos h245]; try rfl)
                    · refine wp_seg 3 (P := none) (ls' := [some (aR 5 (0)), some (aI (c)), some (aI (0))]) (st' := [aI (3), aI (σ 5 (0) 5)]) (σ' := σ) rq_65 rfl True.intro (i' := 81) rfl ?_
                      refine wp_icmp rq_65 rfl (fun (h246 : (σ 5 (0) 5) = 3) => ?_) (fun (h246 : ¬ ((σ 5 (0) 5) = 3)) => ?_)
                      · refine wp_seg 8 (P := none) (ls' := [some (aR 5 (0)), some (aI (c)), some (aI (0))]) (st' := [aI (0), aR 5 (0)]) (σ' := (up σ 5 (0) 4 (wr ((σ 5 (0) 4) + (1))))) rq_65 rfl True.intro (i' := 96) rfl ?_
                        refine wp_call (C := 5) (As := [aR 5 (0), aI (0)]) (rest := []) rq_65 (ev_openPart (0) (up σ 5 (0) 4 (wr ((σ 5 (0) 4) + (1)))) ) rfl rfl (show clOK 65 66 0 0 0 2 5 = true by decide +kernel) rfl (show 0 ≤ 4 by decide) (fun _ => ⟨_, rfl⟩) rfl (c' := 0) (s' := 0) rfl rfl ?_
                        refine wp_goto rq_65 rfl ?_
                        refine wp_seg 1 (P := none) (ls' := [some (aR 5 (0)), some (aI (c)), some (aI (0))]) (st' := [aI (1)]) (σ' := (zm_openPart (0) (up σ 5 (0) 4 (wr ((σ 5 (0) 4) + (1)))))) rq_65 rfl True.intro (i' := 101) rfl ?_
                        refine wp_zret rq_65 rfl rt_65 ?_ ⟨?_, ?_⟩
                        · first | exact Or.inl rfl | exact Or.inr rfl
                        · (rw [zo_accept, if_pos h1, if_pos h2, if_neg h3, if_neg h85, if_neg h168, if_neg h195, if_neg h223, if_neg h234, if_neg h239, if_neg h245, if_pos h246]; try rfl)
                        · (rw [zm_accept, if_pos h1, if_pos h2, if_neg h3, if_neg h85, if_neg h168, if_neg h195, if_neg h223, if_neg h234, if_neg h239, if_neg h245, if_pos h246]; try rfl)
                      · refine wp_seg 3 (P := none) (ls' := [some (aR 5 (0)), some (aI (c)), some (aI (0))]) (st' := [aI (2), aI (σ 5 (0) 5)]) (σ' := σ) rq_65 rfl True.intro (i' := 85) rfl ?_
                        refine wp_icmp rq_65 rfl (fun (h247 : ¬ (σ 5 (0) 5) = 2) => ?_) (fun (h247 : ¬ (¬ (σ 5 (0) 5) = 2)) => ?_)
                        · refine wp_seg 1 (P := none) (ls' := [some (aR 5 (0)), some (aI (c)), some (aI (0))]) (st' := [aI (0)]) (σ' := σ) rq_65 rfl True.intro (i' := 99) rfl ?_
                          refine wp_zret rq_65 rfl rt_65 ?_ ⟨?_, ?_⟩
                          · first | exact Or.inl rfl | exact Or.inr rfl
                          · (rw [zo_accept, if_pos h1, if_pos h2, if_neg h3, if_neg h85, if_neg h168, if_neg h195, if_neg h223, if_neg h234, if_neg h239, if_neg h245, if_neg h246, if_pos h247]; try rfl)
                          · (rw [zm_accept, if_pos h1, if_pos h2, if_neg h3, if_neg h85, if_neg h168, if_neg h195, if_neg h223, if_neg h234, if_neg h239, if_neg h245, if_neg h246, if_pos h247]; try rfl)
                        · refine wp_seg 1 (P := none) (ls' := [some (aR 5 (0)), some (aI (c)), some (aI (0))]) (st' := [aI (0)]) (σ' := σ) rq_65 rfl True.intro (i' := 87) rfl ?_
                          refine wp_if rq_65 rfl (fun _ => ?_) (fun (h248 : ¬ ((0 : Int) = (0 : Int))) => absurd (show (0 : Int) = (0 : Int) from by decide) h248)
                          refine wp_seg 1 (P := none) (ls' := [some (aR 5 (0)), some (aI (c)), some (aI (0))]) (st' := [aI (0)]) (σ' := σ) rq_65 rfl True.intro (i' := 99) rfl ?_
                          refine wp_zret rq_65 rfl rt_65 ?_ ⟨?_, ?_⟩
                          · first | exact Or.inl rfl | exact Or.inr rfl
                          · (rw [zo_accept, if_pos h1, if_pos h2, if_neg h3, if_neg h85, if_neg h168, if_neg h195, if_neg h223, if_neg h234, if_neg h239, if_neg h245, if_neg h246, if_neg h247]; try rfl)
                          · (rw [zm_accept, if_pos h1, if_pos h2, if_neg h3, if_neg h85, if_neg h168, if_neg h195, if_neg h223, if_neg h234, if_neg h239, if_neg h245, if_neg h246, if_neg h247]; try rfl)
    · refine wp_seg 1 (P := none) (ls' := [some (aR 5 (0)), some (aI (c)), none]) (st' := [aI (1)]) (σ' := σ) rq_65 rfl True.intro (i' := 16) rfl ?_
      refine wp_goto rq_65 rfl ?_
      refine wp_seg 3 (P := none) (ls' := [some (aR 5 (0)), some (aI (c)), some (aI (1))]) (st' := [aI (61), aI (c)]) (σ' := σ) rq_65 rfl True.intro (i' := 21) rfl ?_
      refine wp_icmp rq_65 rfl (fun (h249 : ¬ (c) = 61) => ?_) (fun (h249 : ¬ (¬ (c) = 61)) => ?_)
      · refine wp_seg 2 (P := none) (ls' := [some (aR 5 (0)), some (aI (c)), some (aI (1))]) (st' := [aI (58), aI (c)]) (σ' := σ) rq_65 rfl True.intro (i' := 33) rfl ?_
        refine wp_icmp rq_65 rfl (fun (h250 : ¬ (c) = 58) => ?_) (fun (h250 : ¬ (¬ (c) = 58)) => ?_)
        · refine wp_seg 2 (P := none) (ls' := [some (aR 5 (0)), some (aI (c)), some (aI (1))]) (st' := [aI (108), aI (c)]) (σ' := σ) rq_65 rfl True.intro (i' := 46) rfl ?_
          refine wp_icmp rq_65 rfl (fun (h251 : (c) = 108) => ?_) (fun (h251 : ¬ ((c) = 108)) => ?_)
          · refine wp_seg 3 (P := none) (ls' := [some (aR 5 (0)), some (aI (c)), some (aI (1))]) (st' := [aI (2), aI (σ 5 (0) 5)]) (σ' := σ) rq_65 rfl True.intro (i' := 53) rfl ?_
            refine wp_icmp rq_65 rfl (fun (h252 : ¬ (σ 5 (0) 5) = 2) => ?_) (fun (h252 : ¬ (¬ (σ 5 (0) 5) = 2)) => ?_)
            · refine wp_seg 2 (P := none) (ls' := [some (aR 5 (0)), some (aI (c)), some (aI (1))]) (st' := [aI (59), aI (c)]) (σ' := σ) rq_65 rfl True.intro (i' := 77) rfl ?_
              refine wp_icmp rq_65 rfl (fun (h253 : ¬ (c) = 59) => ?_) (fun (h253 : ¬ (¬ (c) = 59)) => ?_)
              · refine wp_seg 1 (P := none) (ls' := [some (aR 5 (0)), some (aI (c)), some (aI (1))]) (st' := [aI (0)]) (σ' := σ) rq_65 rfl True.intro (i' := 99) rfl ?_
                refine wp_zret rq_65 rfl rt_65 ?_ ⟨?_, ?_⟩
                · first | exact Or.inl rfl | exact Or.inr rfl
                · (rw [zo_accept, if_pos h1, if_neg h2, if_pos h249, if_pos h250, if_pos h251, if_pos h252, if_pos h253]; try rfl)
                · (rw [zm_accept, if_pos h1, if_neg h2, if_pos h249, if_pos h250, if_pos h251, if_pos h252, if_pos h253]; try rfl)
              · refine wp_seg 3 (P := none) (ls' := [some (aR 5 (0)), some (aI (c)), some (aI (1))]) (st' := [aI (3), aI (σ 5 (0) 5)]) (σ' := σ) rq_65 rfl True.intro (i' := 81) rfl ?_
                refine wp_icmp rq_65 rfl (fun (h254 : (σ 5 (0) 5) = 3) => ?_) (fun (h254 : ¬ ((σ 5 (0) 5) = 3)) => ?_)
                · refine wp_seg 8 (P := none) (ls' := [some (aR 5 (0)), some (aI (c)), some (aI (1))]) (st' := [aI (0), aR 5 (0)]) (σ' := (up σ 5 (0) 4 (wr ((σ 5 (0) 4) + (1))))) rq_65 rfl True.intro (i' := 96) rfl ?_
                  refine wp_call (C := 5) (As := [aR 5 (0), aI (0)]) (rest := []) rq_65 (ev_openPart (0) (up σ 5 (0) 4 (wr ((σ 5 (0) 4) + (1)))) ) rfl rfl (show clOK 65 66 0 0 0 2 5 = true by decide +kernel) rfl (show 0 ≤ 4 by decide) (fun _ => ⟨_, rfl⟩) rfl (c' := 0) (s' := 0) rfl rfl ?_
                  refine wp_goto rq_65 rfl ?_
                  refine wp_seg 1 (P := none) (ls' := [some (aR 5 (0)), some (aI (c)), some (aI (1))]) (st' := [aI (1)]) (σ' := (zm_openPart (0) (up σ 5 (0) 4 (wr ((σ 5 (0) 4) + (1)))))) rq_65 rfl True.intro (i' := 101) rfl ?_
                  refine wp_zret rq_65 rfl rt_65 ?_ ⟨?_, ?_⟩
                  · first | exact Or.inl rfl | exact Or.inr rfl
                  · (rw [zo_accept, if_pos h1, if_neg h2, if_pos h249, if_pos h250, if_pos h251, if_pos h252, if_neg h253, if_pos h254]; try rfl)
                  · (rw [zm_accept, if_pos h1, if_neg h2, if_pos h249, if_pos h250, if_pos h251, if_pos h252, if_neg h253, if_pos h254]; try rfl)
                · refine wp_seg 3 (P := none) (ls' := [some (aR 5 (0)), some (aI (c)), some (aI (1))]) (st' := [aI (2), aI (σ 5 (0) 5)]) (σ' := σ) rq_65 rfl True.intro (i' := 85) rfl ?_
                  refine wp_icmp rq_65 rfl (fun (h255 : ¬ (σ 5 (0) 5) = 2) => ?_) (fun (h255 : ¬ (¬ (σ 5 (0) 5) = 2)) => ?_)
                  · refine wp_seg 1 (P := none) (ls' := [some (aR 5 (0)), some (aI (c)), some (aI (1))]) (st' := [aI (0)]) (σ' := σ) rq_65 rfl True.intro (i' := 99) rfl ?_
                    refine wp_zret rq_65 rfl rt_65 ?_ ⟨?_, ?_⟩
                    · first | exact Or.inl rfl | exact Or.inr rfl
                    · (rw [zo_accept, if_pos h1, if_neg h2, if_pos h249, if_pos h250, if_pos h251, if_pos h252, if_neg h253, if_neg h254, if_pos h255]; try rfl)
                    · (rw [zm_accept, if_pos h1, if_neg h2, if_pos h249, if_pos h250, if_pos h251, if_pos h252, if_neg h253, if_neg h254, if_pos h255]; try rfl)
                  · refine wp_seg 1 (P := none) (ls' := [some (aR 5 (0)), some (aI (c)), some (aI (1))]) (st' := [aI (1)]) (σ' := σ) rq_65 rfl True.intro (i' := 87) rfl ?_
                    refine wp_if rq_65 rfl (fun (h256 : (1 : Int) = (0 : Int)) => absurd h256 (show ¬ ((1 : Int) = (0 : Int)) from by decide)) (fun _ => ?_)
                    refine wp_seg 8 (P := none) (ls' := [some (aR 5 (0)), some (aI (c)), some (aI (1))]) (st' := [aI (0), aR 5 (0)]) (σ' := (up σ 5 (0) 4 (wr ((σ 5 (0) 4) + (1))))) rq_65 rfl True.intro (i' := 96) rfl ?_
                    refine wp_call (C := 5) (As := [aR 5 (0), aI (0)]) (rest := []) rq_65 (ev_openPart (0) (up σ 5 (0) 4 (wr ((σ 5 (0) 4) + (1)))) ) rfl rfl (show clOK 65 66 0 0 0 2 5 = true by decide +kernel) rfl (show 0 ≤ 4 by decide) (fun _ => ⟨_, rfl⟩) rfl (c' := 0) (s' := 0) rfl rfl ?_
                    refine wp_goto rq_65 rfl ?_
                    refine wp_seg 1 (P := none) (ls' := [some (aR 5 (0)), some (aI (c)), some (aI (1))]) (st' := [aI (1)]) (σ' := (zm_openPart (0) (up σ 5 (0) 4 (wr ((σ 5 (0) 4) + (1)))))) rq_65 rfl True.intro (i' := 101) rfl ?_
                    refine wp_zret rq_65 rfl rt_65 ?_ ⟨?_, ?_⟩
                    · first | exact Or.inl rfl | exact Or.inr rfl
                    · (rw [zo_accept, if_pos h1, if_neg h2, if_pos h249, if_pos h250, if_pos h251, if_pos h252, if_neg h253, if_neg h254, if_neg h255]; try rfl)
                    · (rw [zm_accept, if_pos h1, if_neg h2, if_pos h249, if_pos h250, if_pos h251, if_pos h252, if_neg h253, if_neg h254, if_neg h255]; try rfl)
            · refine wp_seg 1 (P := none) (ls' := [some (aR 5 (0)), some (aI (c)), some (aI (1))]) (st' := [aI (1)]) (σ' := σ) rq_65 rfl True.intro (i' := 55) rfl ?_
              refine wp_if rq_65 rfl (fun (h257 : (1 : Int) = (0 : Int)) => absurd h257 (show ¬ ((1 : Int) = (0 : Int)) from by decide)) (fun _ => ?_)
              refine wp_seg 2 (P := none) (ls' := [some (aR 5 (0)), some (aI (c)), some (aI (1))]) (st' := [aI (3), aR 5 (0)]) (σ' := σ) rq_65 rfl True.intro (i' := 58) rfl ?_
              refine wp_call (C := 5) (As := [aR 5 (0), aI (3)]) (rest := []) rq_65 (ev_openPart (3) σ ) rfl rfl (show clOK 65 66 0 0 0 2 5 = true by decide +kernel) rfl (show 0 ≤ 4 by decide) (fun _ => ⟨_, rfl⟩) rfl (c' := 0) (s' := 0) rfl rfl ?_
              refine wp_seg 10 (P := none) (ls' := [some (aR 5 (0)), some (aI (c)), some (aI (1))]) (st' := [aI (108), aI (c), aI (wr ((wr ((4) * ((zm_openPart (3) σ) 5 (0) 4))) + (3))), aR 7 (185)]) (σ' := (zm_openPart (3) σ)) rq_65 rfl True.intro (i' := 69) rfl ?_
              refine wp_icmp rq_65 rfl (fun (h258 : ¬ (c) = 108) => ?_) (fun (h258 : ¬ (¬ (c) = 108)) => ?_)
              · refine wp_seg 1 (P := none) (ls' := [some (aR 5 (0)), some (aI (c)), some (aI (1))]) (st' := [aI (1), aI (wr ((wr ((4) * ((zm_openPart (3) σ) 5 (0) 4))) + (3))), aR 7 (185)]) (σ' := (zm_openPart (3) σ)) rq_65 rfl True.intro (i' := 73) rfl ?_
                refine wp_call (C := 7) (As := [aR 7 (185), aI (wr ((wr ((4) * ((zm_openPart (3) σ) 5 (0) 4))) + (3))), aI (1)]) (rest := []) rq_65 (ev_set (185) (wr ((wr ((4) * ((zm_openPart (3) σ) 5 (0) 4))) + (3))) (1) (zm_openPart (3) σ) ) rfl rfl (show clOK 65 79 0 0 0 3 7 = true by decide +kernel) rfl (show 0 ≤ 4 by decide) (fun _ => ⟨_, rfl⟩) rfl (c' := 0) (s' := 0) rfl rfl ?_
                refine wp_goto rq_65 rfl ?_
                refine wp_seg 1 (P := none) (ls' := [some (aR 5 (0)), some (aI (c)), some (aI (1))]) (st' := [aI (1)]) (σ' := (rset (zm_openPart (3) σ) (185) (wr ((wr ((4) * ((zm_openPart (3) σ) 5 (0) 4))) + (3))) (1))) rq_65 rfl True.intro (i' := 101) rfl ?_
                refine wp_zret rq_65 rfl rt_65 ?_ ⟨?_, ?_⟩
                · first | exact Or.inl rfl | exact Or.inr rfl
                · (rw [zo_accept, if_pos h1, if_neg h2, if_pos h249, if_pos h250, if_pos h251, if_neg h252, if_pos h258]; try rfl)
                · (rw [zm_accept, if_pos h1, if_neg h2, if_pos h249, if_pos h250, if_pos h251, if_neg h252, if_pos h258]; try rfl)
              · refine wp_seg 1 (P := none) (ls' := [some (aR 5 (0)), some (aI (c)), some (aI (1))]) (st' := [aI (0), aI (wr ((wr ((4) * ((zm_openPart (3) σ) 5 (0) 4))) + (3))), aR 7 (185)]) (σ' := (zm_openPart (3) σ)) rq_65 rfl True.intro (i' := 71) rfl ?_
                refine wp_goto rq_65 rfl ?_
                refine wp_call (C := 7) (As := [aR 7 (185), aI (wr ((wr ((4) * ((zm_openPart (3) σ) 5 (0) 4))) + (3))), aI (0)]) (rest := []) rq_65 (ev_set (185) (wr ((wr ((4) * ((zm_openPart (3) σ) 5 (0) 4))) + (3))) (0) (zm_openPart (3) σ) ) rfl rfl (show clOK 65 79 0 0 0 3 7 = true by decide +kernel) rfl (show 0 ≤ 4 by decide) (fun _ => ⟨_, rfl⟩) rfl (c' := 0) (s' := 0) rfl rfl ?_
                refine wp_goto rq_65 rfl ?_
                refine wp_seg 1 (P := none) (ls' := [some (aR 5 (0)), some (aI (c)), some (aI (1))]) (st' := [aI (1)]) (σ' := (rset (zm_openPart (3) σ) (185) (wr ((wr ((4) * ((zm_openPart (3) σ) 5 (0) 4))) + (3))) (0))) rq_65 rfl True.intro (i' := 101) rfl ?_
                refine wp_zret rq_65 rfl rt_65 ?_ ⟨?_, ?_⟩
                · first | exact Or.inl rfl | exact Or.inr rfl
                · (rw [zo_accept, if_pos h1, if_neg h2, if_pos h249, if_pos h250, if_pos h251, if_neg h252, if_neg h258]; try rfl)
                · (rw [zm_accept, if_pos h1, if_neg h2, if_pos h249, if_pos h250, if_pos h251, if_neg h252, if_neg h258]; try rfl)
          · refine wp_seg 2 (P := none) (ls' := [some (aR 5 (0)), some (aI (c)), some (aI (1))]) (st' := [aI (114), aI (c)]) (σ' := σ) rq_65 rfl True.intro (i' := 49) rfl ?_
            refine wp_icmp rq_65 rfl (fun (h259 : ¬ (c) = 114) => ?_) (fun (h259 : ¬ (¬ (c) = 114)) => ?_)
            · refine wp_seg 2 (P := none) (ls' := [some (aR 5 (0)), some (aI (c)), some (aI (1))]) (st' := [aI (59), aI (c)]) (σ' := σ) rq_65 rfl True.intro (i' := 77) rfl ?_
              refine wp_icmp rq_65 rfl (fun (h260 : ¬ (c) = 59) => ?_) (fun (h260 : ¬ (¬ (c) = 59)) => ?_)
              · refine wp_seg 1 (P := none) (ls' := [some (aR 5 (0)), some (aI (c)), some (aI (1))]) (st' := [aI (0)]) (σ' := σ) rq_65 rfl True.intro (i' := 99) rfl ?_
                refine wp_zret rq_65 rfl rt_65 ?_ ⟨?_, ?_⟩
                · first | exact Or.inl rfl | exact Or.inr rfl
                · (rw [zo_accept, if_pos h1, if_neg h2, if_pos h249, if_pos h250, if_neg h251, if_pos h259, if_pos h260]; try rfl)
                · (rw [zm_accept, if_pos h1, if_neg h2, if_pos h249, if_pos h250, if_neg h251, if_pos h259, if_pos h260]; try rfl)
              · refine wp_seg 3 (P := none) (ls' := [some (aR 5 (0)), some (aI (c)), some (aI (1))]) (st' := [aI (3), aI (σ 5 (0) 5)]) (σ' := σ) rq_65 rfl True.intro (i' := 81) rfl ?_
                refine wp_icmp rq_65 rfl (fun (h261 : (σ 5 (0) 5) = 3) => ?_) (fun (h261 : ¬ ((σ 5 (0) 5) = 3)) => ?_)
                · refine wp_seg 8 (P := none) (ls' := [some (aR 5 (0)), some (aI (c)), some (aI (1))]) (st' := [aI (0), aR 5 (0)]) (σ' := (up σ 5 (0) 4 (wr ((σ 5 (0) 4) + (1))))) rq_65 rfl True.intro (i' := 96) rfl ?_
                  refine wp_call (C := 5) (As := [aR 5 (0), aI (0)]) (rest := []) rq_65 (ev_openPart (0) (up σ 5 (0) 4 (wr ((σ 5 (0) 4) + (1)))) ) rfl rfl (show clOK 65 66 0 0 0 2 5 = true by decide +kernel) rfl (show 0 ≤ 4 by decide) (fun _ => ⟨_, rfl⟩) rfl (c' := 0) (s' := 0) rfl rfl ?_
                  refine wp_goto rq_65 rfl ?_
                  refine wp_seg 1 (P := none) (ls' := [some (aR 5 (0)), some (aI (c)), some (aI (1))]) (st' := [aI (1)]) (σ' := (zm_openPart (0) (up σ 5 (0) 4 (wr ((σ 5 (0) 4) + (1)))))) rq_65 rfl True.intro (i' := 101) rfl ?_
                  refine wp_zret rq_65 rfl rt_65 ?_ ⟨?_, ?_⟩
                  · first | exact Or.inl rfl | exact Or.inr rfl
                  · (rw [zo_accept, if_pos h1, if_neg h2, if_pos h249, if_pos h250, if_neg h251, if_pos h259, if_neg h260, if_pos h261]; try rfl)
                  · (rw [zm_accept, if_pos h1, if_neg h2, if_pos h249, if_pos h250, if_neg h251, if_pos h259, if_neg h260, if_pos h261]; try rfl)
                · refine wp_seg 3 (P := none) (ls' := [some (aR 5 (0)), some (aI (c)), some (aI (1))]) (st' := [aI (2), aI (σ 5 (0) 5)]) (σ' := σ) rq_65 rfl True.intro (i' := 85) rfl ?_
                  refine wp_icmp rq_65 rfl (fun (h262 : ¬ (σ 5 (0) 5) = 2) => ?_) (fun (h262 : ¬ (¬ (σ 5 (0) 5) = 2)) => ?_)
                  · refine wp_seg 1 (P := none) (ls' := [some (aR 5 (0)), some (aI (c)), some (aI (1))]) (st' := [aI (0)]) (σ' := σ) rq_65 rfl True.intro (i' := 99) rfl ?_
                    refine wp_zret rq_65 rfl rt_65 ?_ ⟨?_, ?_⟩
                    · first | exact Or.inl rfl | exact Or.inr rfl
                    · (rw [zo_accept, if_pos h1, if_neg h2, if_pos h249, if_pos h250, if_neg h251, if_pos h259, if_neg h260, if_neg h261, if_pos h262]; try rfl)
                    · (rw [zm_accept, if_pos h1, if_neg h2, if_pos h249, if_pos h250, if_neg h251, if_pos h259, if_neg h260, if_neg h261, if_pos h262]; try rfl)
                  · refine wp_seg 1 (P := none) (ls' := [some (aR 5 (0)), some (aI (c)), some (aI (1))]) (st' := [aI (1)]) (σ' := σ) rq_65 rfl True.intro (i' := 87) rfl ?_
                    refine wp_if rq_65 rfl (fun (h263 : (1 : Int) = (0 : Int)) => absurd h263 (show ¬ ((1 : Int) = (0 : Int)) from by decide)) (fun _ => ?_)
                    refine wp_seg 8 (P := none) (ls' := [some (aR 5 (0)), some (aI (c)), some (aI (1))]) (st' := [aI (0), aR 5 (0)]) (σ' := (up σ 5 (0) 4 (wr ((σ 5 (0) 4) + (1))))) rq_65 rfl True.intro (i' := 96) rfl ?_
                    refine wp_call (C := 5) (As := [aR 5 (0), aI (0)]) (rest := []) rq_65 (ev_openPart (0) (up σ 5 (0) 4 (wr ((σ 5 (0) 4) + (1)))) ) rfl rfl (show clOK 65 66 0 0 0 2 5 = true by decide +kernel) rfl (show 0 ≤ 4 by decide) (fun _ => ⟨_, rfl⟩) rfl (c' := 0) (s' := 0) rfl rfl ?_
                    refine wp_goto rq_65 rfl ?_
                    refine wp_seg 1 (P := none) (ls' := [some (aR 5 (0)), some (aI (c)), some (aI (1))]) (st' := [aI (1)]) (σ' := (zm_openPart (0) (up σ 5 (0) 4 (wr ((σ 5 (0) 4) + (1)))))) rq_65 rfl True.intro (i' := 101) rfl ?_
                    refine wp_zret rq_65 rfl rt_65 ?_ ⟨?_, ?_⟩
                    · first | exact Or.inl rfl | exact Or.inr rfl
                    · (rw [zo_accept, if_pos h1, if_neg h2, if_pos h249, if_pos h250, if_neg h251, if_pos h259, if_neg h260, if_neg h261, if_neg h262]; try rfl)
                    · (rw [zm_accept, if_pos h1, if_neg h2, if_pos h249, if_pos h250, if_neg h251, if_pos h259, if_neg h260, if_neg h261, if_neg h262]; try rfl)
            · refine wp_seg 3 (P := none) (ls' := [some (aR 5 (0)), some (aI (c)), some (aI (1))]) (st' := [aI (2), aI (σ 5 (0) 5)]) (σ' := σ) rq_65 rfl True.intro (i' := 53) rfl ?_
              refine wp_icmp rq_65 rfl (fun (h264 : ¬ (σ 5 (0) 5) = 2) => ?_) (fun (h264 : ¬ (¬ (σ 5 (0) 5) = 2)) => ?_)
              · refine wp_seg 2 (P := none) (ls' := [some (aR 5 (0)), some (aI (c)), some (aI (1))]) (st' := [aI (59), aI (c)]) (σ' := σ) rq_65 rfl True.intro (i' := 77) rfl ?_
                refine wp_icmp rq_65 rfl (fun (h265 : ¬ (c) = 59) => ?_) (fun (h265 : ¬ (¬ (c) = 59)) => ?_)
                · refine wp_seg 1 (P := none) (ls' := [some (aR 5 (0)), some (aI (c)), some (aI (1))]) (st' := [aI (0)]) (σ' := σ) rq_65 rfl True.intro (i' := 99) rfl ?_
                  refine wp_zret rq_65 rfl rt_65 ?_ ⟨?_, ?_⟩
                  · first | exact Or.inl rfl | exact Or.inr rfl
                  · (rw [zo_accept, if_pos h1, if_neg h2, if_pos h249, if_pos h250, if_neg h251, if_neg h259, if_pos h264, if_pos h265]; try rfl)
                  · (rw [zm_accept, if_pos h1, if_neg h2, if_pos h249, if_pos h250, if_neg h251, if_neg h259, if_pos h264, if_pos h265]; try rfl)
                · refine wp_seg 3 (P := none) (ls' := [some (aR 5 (0)), some (aI (c)), some (aI (1))]) (st' := [aI (3), aI (σ 5 (0) 5)]) (σ' := σ) rq_65 rfl True.intro (i' := 81) rfl ?_
                  refine wp_icmp rq_65 rfl (fun (h266 : (σ 5 (0) 5) = 3) => ?_) (fun (h266 : ¬ ((σ 5 (0) 5) = 3)) => ?_)
                  · refine wp_seg 8 (P := none) (ls' := [some (aR 5 (0)), some (aI (c)), some (aI (1))]) (st' := [aI (0), aR 5 (0)]) (σ' := (up σ 5 (0) 4 (wr ((σ 5 (0) 4) + (1))))) rq_65 rfl True.intro (i' := 96) rfl ?_
                    refine wp_call (C := 5) (As := [aR 5 (0), aI (0)]) (rest := []) rq_65 (ev_openPart (0) (up σ 5 (0) 4 (wr ((σ 5 (0) 4) + (1)))) ) rfl rfl (show clOK 65 66 0 0 0 2 5 = true by decide +kernel) rfl (show 0 ≤ 4 by decide) (fun _ => ⟨_, rfl⟩) rfl (c' := 0) (s' := 0) rfl rfl ?_
                    refine wp_goto rq_65 rfl ?_
                    refine wp_seg 1 (P := none) (ls' := [some (aR 5 (0)), some (aI (c)), some (aI (1))]) (st' := [aI (1)]) (σ' := (zm_openPart (0) (up σ 5 (0) 4 (wr ((σ 5 (0) 4) + (1)))))) rq_65 rfl True.intro (i' := 101) rfl ?_
                    refine wp_zret rq_65 rfl rt_65 ?_ ⟨?_, ?_⟩
                    · first | exact Or.inl rfl | exact Or.inr rfl
                    · (rw [zo_accept, if_pos h1, if_neg h2, if_pos h249, if_pos h250, if_neg h251, if_neg h259, if_pos h264, if_neg h265, if_pos h266]; try rfl)
                    · (rw [zm_accept, if_pos h1, if_neg h2, if_pos h249, if_pos h250, if_neg h251, if_neg h259, if_pos h264, if_neg h265, if_pos h266]; try rfl)
                  · refine wp_seg 3 (P := none) (ls' := [some (aR 5 (0)), some (aI (c)), some (aI (1))]) (st' := [aI (2), aI (σ 5 (0) 5)]) (σ' := σ) rq_65 rfl True.intro (i' := 85) rfl ?_
                    refine wp_icmp rq_65 rfl (fun (h267 : ¬ (σ 5 (0) 5) = 2) => ?_) (fun (h267 : ¬ (¬ (σ 5 (0) 5) = 2)) => ?_)
                    · refine wp_seg 1 (P := none) (ls' := [some (aR 5 (0)), some (aI (c)), some (aI (1))]) (st' := [aI (0)]) (σ' := σ) rq_65 rfl True.intro (i' := 99) rfl ?_
                      refine wp_zret rq_65 rfl rt_65 ?_ ⟨?_, ?_⟩
                      · first | exact Or.inl rfl | exact Or.inr rfl
                      · (rw [zo_accept, if_pos h1, if_neg h2, if_pos h249, if_pos h250, if_neg h251, if_neg h259, if_pos h264, if_neg h265, if_neg h266, if_pos h267]; try rfl)
                      · (rw [zm_accept, if_pos h1, if_neg h2, if_pos h249, if_pos h250, if_neg h251, if_neg h259, if_pos h264, if_neg h265, if_neg h266, if_pos h267]; try rfl)
                    · refine wp_seg 1 (P := none) (ls' := [some (aR 5 (0)), some (aI (c)), some (aI (1))]) (st' := [aI (1)]) (σ' := σ) rq_65 rfl True.intro (i' := 87) rfl ?_
                      refine wp_if rq_65 rfl (fun (h268 : (1 : Int) = (0 : Int)) => absurd h268 (show ¬ ((1 : Int) = (0 : Int)) from by decide)) (fun _ => ?_)
                      refine wp_seg 8 (P := none) (ls' := [some (aR 5 (0)), some (aI (c)), some (aI (1))]) (st' := [aI (0), aR 5 (0)]) (σ' := (up σ 5 (0) 4 (wr ((σ 5 (0) 4) + (1))))) rq_65 rfl True.intro (i' := 96) rfl ?_
                      refine wp_call (C := 5) (As := [aR 5 (0), aI (0)]) (rest := []) rq_65 (ev_openPart (0) (up σ 5 (0) 4 (wr ((σ 5 (0) 4) + (1)))) ) rfl rfl (show clOK 65 66 0 0 0 2 5 = true by decide +kernel) rfl (show 0 ≤ 4 by decide) (fun _ => ⟨_, rfl⟩) rfl (c' := 0) (s' := 0) rfl rfl ?_
                      refine wp_goto rq_65 rfl ?_
                      refine wp_seg 1 (P := none) (ls' := [some (aR 5 (0)), some (aI (c)), some (aI (1))]) (st' := [aI (1)]) (σ' := (zm_openPart (0) (up σ 5 (0) 4 (wr ((σ 5 (0) 4) + (1)))))) rq_65 rfl True.intro (i' := 101) rfl ?_
                      refine wp_zret rq_65 rfl rt_65 ?_ ⟨?_, ?_⟩
                      · first | exact Or.inl rfl | exact Or.inr rfl
                      · (rw [zo_accept, if_pos h1, if_neg h2, if_pos h249, if_pos h250, if_neg h251, if_neg h259, if_pos h264, if_neg h265, if_neg h266, if_neg h267]; try rfl)
                      · (rw [zm_accept, if_pos h1, if_neg h2, if_pos h249, if_pos h250, if_neg h251, if_neg h259, if_pos h264, if_neg h265, if_neg h266, if_neg h267]; try rfl)
              · refine wp_seg 1 (P := none) (ls' := [some (aR 5 (0)), some (aI (c)), some (aI (1))]) (st' := [aI (1)]) (σ' := σ) rq_65 rfl True.intro (i' := 55) rfl ?_
                refine wp_if rq_65 rfl (fun (h269 : (1 : Int) = (0 : Int)) => absurd h269 (show ¬ ((1 : Int) = (0 : Int)) from by decide)) (fun _ => ?_)
                refine wp_seg 2 (P := none) (ls' := [some (aR 5 (0)), some (aI (c)), some (aI (1))]) (st' := [aI (3), aR 5 (0)]) (σ' := σ) rq_65 rfl True.intro (i' := 58) rfl ?_
                refine wp_call (C := 5) (As := [aR 5 (0), aI (3)]) (rest := []) rq_65 (ev_openPart (3) σ ) rfl rfl (show clOK 65 66 0 0 0 2 5 = true by decide +kernel) rfl (show 0 ≤ 4 by decide) (fun _ => ⟨_, rfl⟩) rfl (c' := 0) (s' := 0) rfl rfl ?_
                refine wp_seg 10 (P := none) (ls' := [some (aR 5 (0)), some (aI (c)), some (aI (1))]) (st' := [aI (108), aI (c), aI (wr ((wr ((4) * ((zm_openPart (3) σ) 5 (0) 4))) + (3))), aR 7 (185)]) (σ' := (zm_openPart (3) σ)) rq_65 rfl True.intro (i' := 69) rfl ?_
                refine wp_icmp rq_65 rfl (fun (h270 : ¬ (c) = 108) => ?_) (fun (h270 : ¬ (¬ (c) = 108)) => ?_)
                · refine wp_seg 1 (P := none) (ls' := [some (aR 5 (0)), some (aI (c)), some (aI (1))]) (st' := [aI (1), aI (wr ((wr ((4) * ((zm_openPart (3) σ) 5 (0) 4))) + (3))), aR 7 (185)]) (σ' := (zm_openPart (3) σ)) rq_65 rfl True.intro (i' := 73) rfl ?_
                  refine wp_call (C := 7) (As := [aR 7 (185), aI (wr ((wr ((4) * ((zm_openPart (3) σ) 5 (0) 4))) + (3))), aI (1)]) (rest := []) rq_65 (ev_set (185) (wr ((wr ((4) * ((zm_openPart (3) σ) 5 (0) 4))) + (3))) (1) (zm_openPart (3) σ) ) rfl rfl (show clOK 65 79 0 0 0 3 7 = true by decide +kernel) rfl (show 0 ≤ 4 by decide) (fun _ => ⟨_, rfl⟩) rfl (c' := 0) (s' := 0) rfl rfl ?_
                  refine wp_goto rq_65 rfl ?_
                  refine wp_seg 1 (P := none) (ls' := [some (aR 5 (0)), some (aI (c)), some (aI (1))]) (st' := [aI (1)]) (σ' := (rset (zm_openPart (3) σ) (185) (wr ((wr ((4) * ((zm_openPart (3) σ) 5 (0) 4))) + (3))) (1))) rq_65 rfl True.intro (i' := 101) rfl ?_
                  refine wp_zret rq_65 rfl rt_65 ?_ ⟨?_, ?_⟩
                  · first | exact Or.inl rfl | exact Or.inr rfl
                  · (rw [zo_accept, if_pos h1, if_neg h2, if_pos h249, if_pos h250, if_neg h251, if_neg h259, if_neg h264, if_pos h270]; try rfl)
                  · (rw [zm_accept, if_pos h1, if_neg h2, if_pos h249, if_pos h250, if_neg h251, if_neg h259, if_neg h264, if_pos h270]; try rfl)
                · refine wp_seg 1 (P := none) (ls' := [some (aR 5 (0)), some (aI (c)), some (aI (1))]) (st' := [aI (0), aI (wr ((wr ((4) * ((zm_openPart (3) σ) 5 (0) 4))) + (3))), aR 7 (185)]) (σ' := (zm_openPart (3) σ)) rq_65 rfl True.intro (i' := 71) rfl ?_
                  refine wp_goto rq_65 rfl ?_
                  refine wp_call (C := 7) (As := [aR 7 (185), aI (wr ((wr ((4) * ((zm_openPart (3) σ) 5 (0) 4))) + (3))), aI (0)]) (rest := []) rq_65 (ev_set (185) (wr ((wr ((4) * ((zm_openPart (3) σ) 5 (0) 4))) + (3))) (0) (zm_openPart (3) σ) ) rfl rfl (show clOK 65 79 0 0 0 3 7 = true by decide +kernel) rfl (show 0 ≤ 4 by decide) (fun _ => ⟨_, rfl⟩) rfl (c' := 0) (s' := 0) rfl rfl ?_
                  refine wp_goto rq_65 rfl ?_
                  refine wp_seg 1 (P := none) (ls' := [some (aR 5 (0)), some (aI (c)), some (aI (1))]) (st' := [aI (1)]) (σ' := (rset (zm_openPart (3) σ) (185) (wr ((wr ((4) * ((zm_openPart (3) σ) 5 (0) 4))) + (3))) (0))) rq_65 rfl True.intro (i' := 101) rfl ?_
                  refine wp_zret rq_65 rfl rt_65 ?_ ⟨?_, ?_⟩
                  · first | exact Or.inl rfl | exact Or.inr rfl
                  · (rw [zo_accept, if_pos h1, if_neg h2, if_pos h249, if_pos h250, if_neg h251, if_neg h259, if_neg h264, if_neg h270]; try rfl)
                  · (rw [zm_accept, if_pos h1, if_neg h2, if_pos h249, if_pos h250, if_neg h251, if_neg h259, if_neg h264, if_neg h270]; try rfl)
        · refine wp_seg 3 (P := none) (ls' := [some (aR 5 (0)), some (aI (c)), some (aI (1))]) (st' := [aI (1), aI (σ 5 (0) 5)]) (σ' := σ) rq_65 rfl True.intro (i' := 37) rfl ?_
          refine wp_icmp rq_65 rfl (fun (h271 : ¬ (σ 5 (0) 5) = 1) => ?_) (fun (h271 : ¬ (¬ (σ 5 (0) 5) = 1)) => ?_)
          · refine wp_seg 2 (P := none) (ls' := [some (aR 5 (0)), some (aI (c)), some (aI (1))]) (st' := [aI (108), aI (c)]) (σ' := σ) rq_65 rfl True.intro (i' := 46) rfl ?_
            refine wp_icmp rq_65 rfl (fun (h272 : (c) = 108) => ?_) (fun (h272 : ¬ ((c) = 108)) => ?_)
            · refine wp_seg 3 (P := none) (ls' := [some (aR 5 (0)), some (aI (c)), some (aI (1))]) (st' := [aI (2), aI (σ 5 (0) 5)]) (σ' := σ) rq_65 rfl True.intro (i' := 53) rfl ?_
              refine wp_icmp rq_65 rfl (fun (h273 : ¬ (σ 5 (0) 5) = 2) => ?_) (fun (h273 : ¬ (¬ (σ 5 (0) 5) = 2)) => ?_)
              · refine wp_seg 2 (P := none) (ls' := [some (aR 5 (0)), some (aI (c)), some (aI (1))]) (st' := [aI (59), aI (c)]) (σ' := σ) rq_65 rfl True.intro (i' := 77) rfl ?_
                refine wp_icmp rq_65 rfl (fun (h274 : ¬ (c) = 59) => ?_) (fun (h274 : ¬ (¬ (c) = 59)) => ?_)
                · refine wp_seg 1 (P := none) (ls' := [some (aR 5 (0)), some (aI (c)), some (aI (1))]) (st' := [aI (0)]) (σ' := σ) rq_65 rfl True.intro (i' := 99) rfl ?_
                  refine wp_zret rq_65 rfl rt_65 ?_ ⟨?_, ?_⟩
                  · first | exact Or.inl rfl | exact Or.inr rfl
                  · (rw [zo_accept, if_pos h1, if_neg h2, if_pos h249, if_neg h250, if_pos h271, if_pos h272, if_pos h273, if_pos h274]; try rfl)
                  · (rw [zm_accept, if_pos h1, if_neg h2, if_pos h249, if_neg h250, if_pos h271, if_pos h272, if_pos h273, if_pos h274]; try rfl)
                · refine wp_seg 3 (P := none) (ls' := [some (aR 5 (0)), some (aI (c)), some (aI (1))]) (st' := [aI (3), aI (σ 5 (0) 5)]) (σ' := σ) rq_65 rfl True.intro (i' := 81) rfl ?_
                  refine wp_icmp rq_65 rfl (fun (h275 : (σ 5 (0) 5) = 3) => ?_) (fun (h275 : ¬ ((σ 5 (0) 5) = 3)) => ?_)
                  · refine wp_seg 8 (P := none) (ls' := [some (aR 5 (0)), some (aI (c)), some (aI (1))]) (st' := [aI (0), aR 5 (0)]) (σ' := (up σ 5 (0) 4 (wr ((σ 5 (0) 4) + (1))))) rq_65 rfl True.intro (i' := 96) rfl ?_
                    refine wp_call (C := 5) (As := [aR 5 (0), aI (0)]) (rest := []) rq_65 (ev_openPart (0) (up σ 5 (0) 4 (wr ((σ 5 (0) 4) + (1)))) ) rfl rfl (show clOK 65 66 0 0 0 2 5 = true by decide +kernel) rfl (show 0 ≤ 4 by decide) (fun _ => ⟨_, rfl⟩) rfl (c' := 0) (s' := 0) rfl rfl ?_
                    refine wp_goto rq_65 rfl ?_
                    refine wp_seg 1 (P := none) (ls' := [some (aR 5 (0)), some (aI (c)), some (aI (1))]) (st' := [aI (1)]) (σ' := (zm_openPart (0) (up σ 5 (0) 4 (wr ((σ 5 (0) 4) + (1)))))) rq_65 rfl True.intro (i' := 101) rfl ?_
                    refine wp_zret rq_65 rfl rt_65 ?_ ⟨?_, ?_⟩
                    · first | exact Or.inl rfl | exact Or.inr rfl
                    · (rw [zo_accept, if_pos h1, if_neg h2, if_pos h249, if_neg h250, if_pos h271, if_pos h272, if_pos h273, if_neg h274, if_pos h275]; try rfl)
                    · (rw [zm_accept, if_pos h1, if_neg h2, if_pos h249, if_neg h250, if_pos h271, if_pos h272, if_pos h273, if_neg h274, if_pos h275]; try rfl)
                  · refine wp_seg 3 (P := none) (ls' := [some (aR 5 (0)), some (aI (c)), some (aI (1))]) (st' := [aI (2), aI (σ 5 (0) 5)]) (σ' := σ) rq_65 rfl True.intro (i' := 85) rfl ?_
                    refine wp_icmp rq_65 rfl (fun (h276 : ¬ (σ 5 (0) 5) = 2) => ?_) (fun (h276 : ¬ (¬ (σ 5 (0) 5) = 2)) => ?_)
                    · refine wp_seg 1 (P := none) (ls' := [some (aR 5 (0)), some (aI (c)), some (aI (1))]) (st' := [aI (0)]) (σ' := σ) rq_65 rfl True.intro (i' := 99) rfl ?_
                      refine wp_zret rq_65 rfl rt_65 ?_ ⟨?_, ?_⟩
                      · first | exact Or.inl rfl | exact Or.inr rfl
                      · (rw [zo_accept, if_pos h1, if_neg h2, if_pos h249, if_neg h250, if_pos h271, if_pos h272, if_pos h273, if_neg h274, if_neg h275, if_pos h276]; try rfl)
                      · (rw [zm_accept, if_pos h1, if_neg h2, if_pos h249, if_neg h250, if_pos h271, if_pos h272, if_pos h273, if_neg h274, if_neg h275, if_pos h276]; try rfl)
                    · refine wp_seg 1 (P := none) (ls' := [some (aR 5 (0)), some (aI (c)), some (aI (1))]) (st' := [aI (1)]) (σ' := σ) rq_65 rfl True.intro (i' := 87) rfl ?_
                      refine wp_if rq_65 rfl (fun (h277 : (1 : Int) = (0 : Int)) => absurd h277 (show ¬ ((1 : Int) = (0 : Int)) from by decide)) (fun _ => ?_)
                      refine wp_seg 8 (P := none) (ls' := [some (aR 5 (0)), some (aI (c)), some (aI (1))]) (st' := [aI (0), aR 5 (0)]) (σ' := (up σ 5 (0) 4 (wr ((σ 5 (0) 4) + (1))))) rq_65 rfl True.intro (i' := 96) rfl ?_
                      refine wp_call (C := 5) (As := [aR 5 (0), aI (0)]) (rest := []) rq_65 (ev_openPart (0) (up σ 5 (0) 4 (wr ((σ 5 (0) 4) + (1)))) ) rfl rfl (show clOK 65 66 0 0 0 2 5 = true by decide +kernel) rfl (show 0 ≤ 4 by decide) (fun _ => ⟨_, rfl⟩) rfl (c' := 0) (s' := 0) rfl rfl ?_
                      refine wp_goto rq_65 rfl ?_
                      refine wp_seg 1 (P := none) (ls' := [some (aR 5 (0)), some (aI (c)), some (aI (1))]) (st' := [aI (1)]) (σ' := (zm_openPart (0) (up σ 5 (0) 4 (wr ((σ 5 (0) 4) + (1)))))) rq_65 rfl True.intro (i' := 101) rfl ?_
                      refine wp_zret rq_65 rfl rt_65 ?_ ⟨?_, ?_⟩
                      · first | exact Or.inl rfl | exact Or.inr rfl
                      · (rw [zo_accept, if_pos h1, if_neg h2, if_pos h249, if_neg h250, if_pos h271, if_pos h272, if_pos h273, if_neg h274, if_neg h275, if_neg h276]; try rfl)
                      · (rw [zm_accept, if_pos h1, if_neg h2, if_pos h249, if_neg h250, if_pos h271, if_pos h272, if_pos h273, if_neg h274, if_neg h275, if_neg h276]; try rfl)
              · refine wp_seg 1 (P := none) (ls' := [some (aR 5 (0)), some (aI (c)), some (aI (1))]) (st' := [aI (1)]) (σ' := σ) rq_65 rfl True.intro (i' := 55) rfl ?_
                refine wp_if rq_65 rfl (fun (h278 : (1 : Int) = (0 : Int)) => absurd h278 (show ¬ ((1 : Int) = (0 : Int)) from by decide)) (fun _ => ?_)
                refine wp_seg 2 (P := none) (ls' := [some (aR 5 (0)), some (aI (c)), some (aI (1))]) (st' := [aI (3), aR 5 (0)]) (σ' := σ) rq_65 rfl True.intro (i' := 58) rfl ?_
                refine wp_call (C := 5) (As := [aR 5 (0), aI (3)]) (rest := []) rq_65 (ev_openPart (3) σ ) rfl rfl (show clOK 65 66 0 0 0 2 5 = true by decide +kernel) rfl (show 0 ≤ 4 by decide) (fun _ => ⟨_, rfl⟩) rfl (c' := 0) (s' := 0) rfl rfl ?_
                refine wp_seg 10 (P := none) (ls' := [some (aR 5 (0)), some (aI (c)), some (aI (1))]) (st' := [aI (108), aI (c), aI (wr ((wr ((4) * ((zm_openPart (3) σ) 5 (0) 4))) + (3))), aR 7 (185)]) (σ' := (zm_openPart (3) σ)) rq_65 rfl True.intro (i' := 69) rfl ?_
                refine wp_icmp rq_65 rfl (fun (h279 : ¬ (c) = 108) => ?_) (fun (h279 : ¬ (¬ (c) = 108)) => ?_)
                · refine wp_seg 1 (P := none) (ls' := [some (aR 5 (0)), some (aI (c)), some (aI (1))]) (st' := [aI (1), aI (wr ((wr ((4) * ((zm_openPart (3) σ) 5 (0) 4))) + (3))), aR 7 (185)]) (σ' := (zm_openPart (3) σ)) rq_65 rfl True.intro (i' := 73) rfl ?_
                  refine wp_call (C := 7) (As := [aR 7 (185), aI (wr ((wr ((4) * ((zm_openPart (3) σ) 5 (0) 4))) + (3))), aI (1)]) (rest := []) rq_65 (ev_set (185) (wr ((wr ((4) * ((zm_openPart (3) σ) 5 (0) 4))) + (3))) (1) (zm_openPart (3) σ) ) rfl rfl (show clOK 65 79 0 0 0 3 7 = true by decide +kernel) rfl (show 0 ≤ 4 by decide) (fun _ => ⟨_, rfl⟩) rfl (c' := 0) (s' := 0) rfl rfl ?_
                  refine wp_goto rq_65 rfl ?_
                  refine wp_seg 1 (P := none) (ls' := [some (aR 5 (0)), some (aI (c)), some (aI (1))]) (st' := [aI (1)]) (σ' := (rset (zm_openPart (3) σ) (185) (wr ((wr ((4) * ((zm_openPart (3) σ) 5 (0) 4))) + (3))) (1))) rq_65 rfl True.intro (i' := 101) rfl ?_
                  refine wp_zret rq_65 rfl rt_65 ?_ ⟨?_, ?_⟩
                  · first | exact Or.inl rfl | exact Or.inr rfl
                  · (rw [zo_accept, if_pos h1, if_neg h2, if_pos h249, if_neg h250, if_pos h271, if_pos h272, if_neg h273, if_pos h279]; try rfl)
                  · (rw [zm_accept, if_pos h1, if_neg h2, if_pos h249, if_neg h250, if_pos h271, if_pos h272, if_neg h273, if_pos h279]; try rfl)
                · refine wp_seg 1 (P := none) (ls' := [some (aR 5 (0)), some (aI (c)), some (aI (1))]) (st' := [aI (0), aI (wr ((wr ((4) * ((zm_openPart (3) σ) 5 (0) 4))) + (3))), aR 7 (185)]) (σ' := (zm_openPart (3) σ)) rq_65 rfl True.intro (i' := 71) rfl ?_
                  refine wp_goto rq_65 rfl ?_
                  refine wp_call (C := 7) (As := [aR 7 (185), aI (wr ((wr ((4) * ((zm_openPart (3) σ) 5 (0) 4))) + (3))), aI (0)]) (rest := []) rq_65 (ev_set (185) (wr ((wr ((4) * ((zm_openPart (3) σ) 5 (0) 4))) + (3))) (0) (zm_openPart (3) σ) ) rfl rfl (show clOK 65 79 0 0 0 3 7 = true by decide +kernel) rfl (show 0 ≤ 4 by decide) (fun _ => ⟨_, rfl⟩) rfl (c' := 0) (s' := 0) rfl rfl ?_
                  refine wp_goto rq_65 rfl ?_
                  refine wp_seg 1 (P := none) (ls' := [some (aR 5 (0)), some (aI (c)), some (aI (1))]) (st' := [aI (1)]) (σ' := (rset (zm_openPart (3) σ) (185) (wr ((wr ((4) * ((zm_openPart (3) σ) 5 (0) 4))) + (3))) (0))) rq_65 rfl True.intro (i' := 101) rfl ?_
                  refine wp_zret rq_65 rfl rt_65 ?_ ⟨?_, ?_⟩
                  · first | exact Or.inl rfl | exact Or.inr rfl
                  · (rw [zo_accept, if_pos h1, if_neg h2, if_pos h249, if_neg h250, if_pos h271, if_pos h272, if_neg h273, if_neg h279]; try rfl)
                  · (rw [zm_accept, if_pos h1, if_neg h2, if_pos h249, if_neg h250, if_pos h271, if_pos h272, if_neg h273, if_neg h279]; try rfl)
            · refine wp_seg 2 (P := none) (ls' := [some (aR 5 (0)), some (aI (c)), some (aI (1))]) (st' := [aI (114), aI (c)]) (σ' := σ) rq_65 rfl True.intro (i' := 49) rfl ?_
              refine wp_icmp rq_65 rfl (fun (h280 : ¬ (c) = 114) => ?_) (fun (h280 : ¬ (¬ (c) = 114)) => ?_)
              · refine wp_seg 2 (P := none) (ls' := [some (aR 5 (0)), some (aI (c)), some (aI (1))]) (st' := [aI (59), aI (c)]) (σ' := σ) rq_65 rfl True.intro (i' := 77) rfl ?_
                refine wp_icmp rq_65 rfl (fun (h281 : ¬ (c) = 59) => ?_) (fun (h281 : ¬ (¬ (c) = 59)) => ?_)
                · refine wp_seg 1 (P := none) (ls' := [some (aR 5 (0)), some (aI (c)), some (aI (1))]) (st' := [aI (0)]) (σ' := σ) rq_65 rfl True.intro (i' := 99) rfl ?_
                  refine wp_zret rq_65 rfl rt_65 ?_ ⟨?_, ?_⟩
                  · first | exact Or.inl rfl | exact Or.inr rfl
                  · (rw [zo_accept, if_pos h1, if_neg h2, if_pos h249, if_neg h250, if_pos h271, if_neg h272, if_pos h280, if_pos h281]; try rfl)
                  · (rw [zm_accept, if_pos h1, if_neg h2, if_pos h249, if_neg h250, if_pos h271, if_neg h272, if_pos h280, if_pos h281]; try rfl)
                · refine wp_seg 3 (P := none) (ls' := [some (aR 5 (0)), some (aI (c)), some (aI (1))]) (st' := [aI (3), aI (σ 5 (0) 5)]) (σ' := σ) rq_65 rfl True.intro (i' := 81) rfl ?_
                  refine wp_icmp rq_65 rfl (fun (h282 : (σ 5 (0) 5) = 3) => ?_) (fun (h282 : ¬ ((σ 5 (0) 5) = 3)) => ?_)
                  · refine wp_seg 8 (P := none) (ls' := [some (aR 5 (0)), some (aI (c)), some (aI (1))]) (st' := [aI (0), aR 5 (0)]) (σ' := (up σ 5 (0) 4 (wr ((σ 5 (0) 4) + (1))))) rq_65 rfl True.intro (i' := 96) rfl ?_
                    refine wp_call (C := 5) (As := [aR 5 (0), aI (0)]) (rest := []) rq_65 (ev_openPart (0) (up σ 5 (0) 4 (wr ((σ 5 (0) 4) + (1)))) ) rfl rfl (show clOK 65 66 0 0 0 2 5 = true by decide +kernel) rfl (show 0 ≤ 4 by decide) (fun _ => ⟨_, rfl⟩) rfl (c' := 0) (s' := 0) rfl rfl ?_
                    refine wp_goto rq_65 rfl ?_
                    refine wp_seg 1 (P := none) (ls' := [some (aR 5 (0)), some (aI (c)), some (aI (1))]) (st' := [aI (1)]) (σ' := (zm_openPart (0) (up σ 5 (0) 4 (wr ((σ 5 (0) 4) + (1)))))) rq_65 rfl True.intro (i' := 101) rfl ?_
                    refine wp_zret rq_65 rfl rt_65 ?_ ⟨?_, ?_⟩
                    · first | exact Or.inl rfl | exact Or.inr rfl
                    · (rw [zo_accept, if_pos h1, if_neg h2, if_pos h249, if_neg h250, if_pos h271, if_neg h272, if_pos h280, if_neg h281, if_pos h282]; try rfl)
                    · (rw [zm_accept, if_pos h1, if_neg h2, if_pos h249, if_neg h250, if_pos h271, if_neg h272, if_pos h280, if_neg h281, if_pos h282]; try rfl)
                  · refine wp_seg 3 (P := none) (ls' := [some (aR 5 (0)), some (aI (c)), some (aI (1))]) (st' := [aI (2), aI (σ 5 (0) 5)]) (σ' := σ) rq_65 rfl True.intro (i' := 85) rfl ?_
                    refine wp_icmp rq_65 rfl (fun (h283 : ¬ (σ 5 (0) 5) = 2) => ?_) (fun (h283 : ¬ (¬ (σ 5 (0) 5) = 2)) => ?_)
                    · refine wp_seg 1 (P := none) (ls' := [some (aR 5 (0)), some (aI (c)), some (aI (1))]) (st' := [aI (0)]) (σ' := σ) rq_65 rfl True.intro (i' := 99) rfl ?_
                      refine wp_zret rq_65 rfl rt_65 ?_ ⟨?_, ?_⟩
                      · first | exact Or.inl rfl | exact Or.inr rfl
                      · (rw [zo_accept, if_pos h1, if_neg h2, if_pos h249, if_neg h250, if_pos h271, if_neg h272, if_pos h280, if_neg h281, if_neg h282, if_pos h283]; try rfl)
                      · (rw [zm_accept, if_pos h1, if_neg h2, if_pos h249, if_neg h250, if_pos h271, if_neg h272, if_pos h280, if_neg h281, if_neg h282, if_pos h283]; try rfl)
                    · refine wp_seg 1 (P := none) (ls' := [some (aR 5 (0)), some (aI (c)), some (aI (1))]) (st' := [aI (1)]) (σ' := σ) rq_65 rfl True.intro (i' := 87) rfl ?_
                      refine wp_if rq_65 rfl (fun (h284 : (1 : Int) = (0 : Int)) => absurd h284 (show ¬ ((1 : Int) = (0 : Int)) from by decide)) (fun _ => ?_)
                      refine wp_seg 8 (P := none) (ls' := [some (aR 5 (0)), some (aI (c)), some (aI (1))]) (st' := [aI (0), aR 5 (0)]) (σ' := (up σ 5 (0) 4 (wr ((σ 5 (0) 4) + (1))))) rq_65 rfl True.intro (i' := 96) rfl ?_
                      refine wp_call (C := 5) (As := [aR 5 (0), aI (0)]) (rest := []) rq_65 (ev_openPart (0) (up σ 5 (0) 4 (wr ((σ 5 (0) 4) + (1)))) ) rfl rfl (show clOK 65 66 0 0 0 2 5 = true by decide +kernel) rfl (show 0 ≤ 4 by decide) (fun _ => ⟨_, rfl⟩) rfl (c' := 0) (s' := 0) rfl rfl ?_
                      refine wp_goto rq_65 rfl ?_
                      refine wp_seg 1 (P := none) (ls' := [some (aR 5 (0)), some (aI (c)), some (aI (1))]) (st' := [aI (1)]) (σ' := (zm_openPart (0) (up σ 5 (0) 4 (wr ((σ 5 (0) 4) + (1)))))) rq_65 rfl True.intro (i' := 101) rfl ?_
                      refine wp_zret rq_65 rfl rt_65 ?_ ⟨?_, ?_⟩
                      · first | exact Or.inl rfl | exact Or.inr rfl
                      · (rw [zo_accept, if_pos h1, if_neg h2, if_pos h249, if_neg h250, if_pos h271, if_neg h272, if_pos h280, if_neg h281, if_neg h282, if_neg h283]; try rfl)
                      · (rw [zm_accept, if_pos h1, if_neg h2, if_pos h249, if_neg h250, if_pos h271, if_neg h272, if_pos h280, if_neg h281, if_neg h282, if_neg h283]; try rfl)
              · refine wp_seg 3 (P := none) (ls' := [some (aR 5 (0)), some (aI (c)), some (aI (1))]) (st' := [aI (2), aI (σ 5 (0) 5)]) (σ' := σ) rq_65 rfl True.intro (i' := 53) rfl ?_
                refine wp_icmp rq_65 rfl (fun (h285 : ¬ (σ 5 (0) 5) = 2) => ?_) (fun (h285 : ¬ (¬ (σ 5 (0) 5) = 2)) => ?_)
                · refine wp_seg 2 (P := none) (ls' := [some (aR 5 (0)), some (aI (c)), some (aI (1))]) (st' := [aI (59), aI (c)]) (σ' := σ) rq_65 rfl True.intro (i' := 77) rfl ?_
                  refine wp_icmp rq_65 rfl (fun (h286 : ¬ (c) = 59) => ?_) (fun (h286 : ¬ (¬ (c) = 59)) => ?_)
                  · refine wp_seg 1 (P := none) (ls' := [some (aR 5 (0)), some (aI (c)), some (aI (1))]) (st' := [aI (0)]) (σ' := σ) rq_65 rfl True.intro (i' := 99) rfl ?_
                    refine wp_zret rq_65 rfl rt_65 ?_ ⟨?_, ?_⟩
                    · first | exact Or.inl rfl | exact Or.inr rfl
                    · (rw [zo_accept, if_pos h1, if_neg h2, if_pos h249, if_neg h250, if_pos h271, if_neg h272, if_neg h280, if_pos h285, if_pos h286]; try rfl)
                    · (rw [zm_accept, if_pos h1, if_neg h2, if_pos h249, if_neg h250, if_pos h271, if_neg h272, if_neg h280, if_pos h285, if_pos h286]; try rfl)
                  · refine wp_seg 3 (P := none) (ls' := [some (aR 5 (0)), some (aI (c)), some (aI (1))]) (st' := [aI (3), aI (σ 5 (0) 5)]) (σ' := σ) rq_65 rfl True.intro (i' := 81) rfl ?_
                    refine wp_icmp rq_65 rfl (fun (h287 : (σ 5 (0) 5) = 3) => ?_) (fun (h287 : ¬ ((σ 5 (0) 5) = 3)) => ?_)
                    · refine wp_seg 8 (P := none) (ls' := [some (aR 5 (0)), some (aI (c)), some (aI (1))]) (st' := [aI (0), aR 5 (0)]) (σ' := (up σ 5 (0) 4 (wr ((σ 5 (0) 4) + (1))))) rq_65 rfl True.intro (i' := 96) rfl ?_
                      refine wp_call (C := 5) (As := [aR 5 (0), aI (0)]) (rest := []) rq_65 (ev_openPart (0) (up σ 5 (0) 4 (wr ((σ 5 (0) 4) + (1)))) ) rfl rfl (show clOK 65 66 0 0 0 2 5 = true by decide +kernel) rfl (show 0 ≤ 4 by decide) (fun _ => ⟨_, rfl⟩) rfl (c' := 0) (s' := 0) rfl rfl ?_
                      refine wp_goto rq_65 rfl ?_
                      refine wp_seg 1 (P := none) (ls' := [some (aR 5 (0)), some (aI (c)), some (aI (1))]) (st' := [aI (1)]) (σ' := (zm_openPart (0) (up σ 5 (0) 4 (wr ((σ 5 (0) 4) + (1)))))) rq_65 rfl True.intro (i' := 101) rfl ?_
                      refine wp_zret rq_65 rfl rt_65 ?_ ⟨?_, ?_⟩
                      · first | exact Or.inl rfl | exact Or.inr rfl
                      · (rw [zo_accept, if_pos h1, if_neg h2, if_pos h249, if_neg h250, if_pos h271, if_neg h272, if_neg h280, if_pos h285, if_neg h286, if_pos h287]; try rfl)
                      · (rw [zm_accept, if_pos h1, if_neg h2, if_pos h249, if_neg h250, if_pos h271, if_neg h272, if_neg h280, if_pos h285, if_neg h286, if_pos h287]; try rfl)
                    · refine wp_seg 3 (P := none) (ls' := [some (aR 5 (0)), some (aI (c)), some (aI (1))]) (st' := [aI (2), aI (σ 5 (0) 5)]) (σ' := σ) rq_65 rfl True.intro (i' := 85) rfl ?_
                      refine wp_icmp rq_65 rfl (fun (h288 : ¬ (σ 5 (0) 5) = 2) => ?_) (fun (h288 : ¬ (¬ (σ 5 (0) 5) = 2)) => ?_)
                      · refine wp_seg 1 (P := none) (ls' := [some (aR 5 (0)), some (aI (c)), some (aI (1))]) (st' := [aI (0)]) (σ' := σ) rq_65 rfl True.intro (i' := 99) rfl ?_
                        refine wp_zret rq_65 rfl rt_65 ?_ ⟨?_, ?_⟩
                        · first | exact Or.inl rfl | exact Or.inr rfl
                        · (rw [zo_accept, if_pos h1, if_neg h2, if_pos h249, if_neg h250, if_pos h271, if_neg h272, if_neg h280, if_pos h285, if_neg h286, if_neg h287, if_pos h288]; try rfl)
                        · (rw [zm_accept, if_pos h1, if_neg h2, if_pos h249, if_neg h250, if_pos h271, if_neg h272, if_neg h280, if_pos h285, if_neg h286, if_neg h287, if_pos h288]; try rfl)
                      · refine wp_seg 1 (P := none) (ls' := [some (aR 5 (0)), some (aI (c)), some (aI (1))]) (st' := [aI (1)]) (σ' := σ) rq_65 rfl True.intro (i' := 87) rfl ?_
                        refine wp_if rq_65 rfl (fun (h289 : (1 : Int) = (0 : Int)) => absurd h289 (show ¬ ((1 : Int) = (0 : Int)) from by decide)) (fun _ => ?_)
                        refine wp_seg 8 (P := none) (ls' := [some (aR 5 (0)), some (aI (c)), some (aI (1))]) (st' := [aI (0), aR 5 (0)]) (σ' := (up σ 5 (0) 4 (wr ((σ 5 (0) 4) + (1))))) rq_65 rfl True.intro (i' := 96) rfl ?_
                        refine wp_call (C := 5) (As := [aR 5 (0), aI (0)]) (rest := []) rq_65 (ev_openPart (0) (up σ 5 (0) 4 (wr ((σ 5 (0) 4) + (1)))) ) rfl rfl (show clOK 65 66 0 0 0 2 5 = true by decide +kernel) rfl (show 0 ≤ 4 by decide) (fun _ => ⟨_, rfl⟩) rfl (c' := 0) (s' := 0) rfl rfl ?_
                        refine wp_goto rq_65 rfl ?_
                        refine wp_seg 1 (P := none) (ls' := [some (aR 5 (0)), some (aI (c)), some (aI (1))]) (st' := [aI (1)]) (σ' := (zm_openPart (0) (up σ 5 (0) 4 (wr ((σ 5 (0) 4) + (1)))))) rq_65 rfl True.intro (i' := 101) rfl ?_
                        refine wp_zret rq_65 rfl rt_65 ?_ ⟨?_, ?_⟩
                        · first | exact Or.inl rfl | exact Or.inr rfl
                        · (rw [zo_accept, if_pos h1, if_neg h2, if_pos h249, if_neg h250, if_pos h271, if_neg h272, if_neg h280, if_pos h285, if_neg h286, if_neg h287, if_neg h288]; try rfl)
                        · (rw [zm_accept, if_pos h1, if_neg h2, if_pos h249, if_neg h250, if_pos h271, if_neg h272, if_neg h280, if_pos h285, if_neg h286, if_neg h287, if_neg h288]; try rfl)
                · refine wp_seg 1 (P := none) (ls' := [some (aR 5 (0)), some (aI (c)), some (aI (1))]) (st' := [aI (1)]) (σ' := σ) rq_65 rfl True.intro (i' := 55) rfl ?_
                  refine wp_if rq_65 rfl (fun (h290 : (1 : Int) = (0 : Int)) => absurd h290 (show ¬ ((1 : Int) = (0 : Int)) from by decide)) (fun _ => ?_)
                  refine wp_seg 2 (P := none) (ls' := [some (aR 5 (0)), some (aI (c)), some (aI (1))]) (st' := [aI (3), aR 5 (0)]) (σ' := σ) rq_65 rfl True.intro (i' := 58) rfl ?_
                  refine wp_call (C := 5) (As := [aR 5 (0), aI (3)]) (rest := []) rq_65 (ev_openPart (3) σ ) rfl rfl (show clOK 65 66 0 0 0 2 5 = true by decide +kernel) rfl (show 0 ≤ 4 by decide) (fun _ => ⟨_, rfl⟩) rfl (c' := 0) (s' := 0) rfl rfl ?_
                  refine wp_seg 10 (P := none) (ls' := [some (aR 5 (0)), some (aI (c)), some (aI (1))]) (st' := [aI (108), aI (c), aI (wr ((wr ((4) * ((zm_openPart (3) σ) 5 (0) 4))) + (3))), aR 7 (185)]) (σ' := (zm_openPart (3) σ)) rq_65 rfl True.intro (i' := 69) rfl ?_
                  refine wp_icmp rq_65 rfl (fun (h291 : ¬ (c) = 108) => ?_) (fun (h291 : ¬ (¬ (c) = 108)) => ?_)
                  · refine wp_seg 1 (P := none) (ls' := [some (aR 5 (0)), some (aI (c)), some (aI (1))]) (st' := [aI (1), aI (wr ((wr ((4) * ((zm_openPart (3) σ) 5 (0) 4))) + (3))), aR 7 (185)]) (σ' := (zm_openPart (3) σ)) rq_65 rfl True.intro (i' := 73) rfl ?_
                    refine wp_call (C := 7) (As := [aR 7 (185), aI (wr ((wr ((4) * ((zm_openPart (3) σ) 5 (0) 4))) + (3))), aI (1)]) (rest := []) rq_65 (ev_set (185) (wr ((wr ((4) * ((zm_openPart (3) σ) 5 (0) 4))) + (3))) (1) (zm_openPart (3) σ) ) rfl rfl (show clOK 65 79 0 0 0 3 7 = true by decide +kernel) rfl (show 0 ≤ 4 by decide) (fun _ => ⟨_, rfl⟩) rfl (c' := 0) (s' := 0) rfl rfl ?_
                    refine wp_goto rq_65 rfl ?_
                    refine wp_seg 1 (P := none) (ls' := [some (aR 5 (0)), some (aI (c)), some (aI (1))]) (st' := [aI (1)]) (σ' := (rset (zm_openPart (3) σ) (185) (wr ((wr ((4) * ((zm_openPart (3) σ) 5 (0) 4))) + (3))) (1))) rq_65 rfl True.intro (i' := 101) rfl ?_
                    refine wp_zret rq_65 rfl rt_65 ?_ ⟨?_, ?_⟩
                    · first | exact Or.inl rfl | exact Or.inr rfl
                    · (rw [zo_accept, if_pos h1, if_neg h2, if_pos h249, if_neg h250, if_pos h271, if_neg h272, if_neg h280, if_neg h285, if_pos h291]; try rfl)
                    · (rw [zm_accept, if_pos h1, if_neg h2, if_pos h249, if_neg h250, if_pos h271, if_neg h272, if_neg h280, if_neg h285, if_pos h291]; try rfl)
                  · refine wp_seg 1 (P := none) (ls' := [some (aR 5 (0)), some (aI (c)), some (aI (1))]) (st' := [aI (0), aI (wr ((wr ((4) * ((zm_openPart (3) σ) 5 (0) 4))) + (3))), aR 7 (185)]) (σ' := (zm_openPart (3) σ)) rq_65 rfl True.intro (i' := 71) rfl ?_
                    refine wp_goto rq_65 rfl ?_
                    refine wp_call (C := 7) (As := [aR 7 (185), aI (wr ((wr ((4) * ((zm_openPart (3) σ) 5 (0) 4))) + (3))), aI (0)]) (rest := []) rq_65 (ev_set (185) (wr ((wr ((4) * ((zm_openPart (3) σ) 5 (0) 4))) + (3))) (0) (zm_openPart (3) σ) ) rfl rfl (show clOK 65 79 0 0 0 3 7 = true by decide +kernel) rfl (show 0 ≤ 4 by decide) (fun _ => ⟨_, rfl⟩) rfl (c' := 0) (s' := 0) rfl rfl ?_
                    refine wp_goto rq_65 rfl ?_
                    refine wp_seg 1 (P := none) (ls' := [some (aR 5 (0)), some (aI (c)), some (aI (1))]) (st' := [aI (1)]) (σ' := (rset (zm_openPart (3) σ) (185) (wr ((wr ((4) * ((zm_openPart (3) σ) 5 (0) 4))) + (3))) (0))) rq_65 rfl True.intro (i' := 101) rfl ?_
                    refine wp_zret rq_65 rfl rt_65 ?_ ⟨?_, ?_⟩
                    · first | exact Or.inl rfl | exact Or.inr rfl
                    · (rw [zo_accept, if_pos h1, if_neg h2, if_pos h249, if_neg h250, if_pos h271, if_neg h272, if_neg h280, if_neg h285, if_neg h291]; try rfl)
                    · (rw [zm_accept, if_pos h1, if_neg h2, if_pos h249, if_neg h250, if_pos h271, if_neg h272, if_neg h280, if_neg h285, if_neg h291]; try rfl)
          · refine wp_seg 1 (P := none) (ls' := [some (aR 5 (0)), some (aI (c)), some (aI (1))]) (st' := [aI (1)]) (σ' := σ) rq_65 rfl True.intro (i' := 39) rfl ?_
            refine wp_if rq_65 rfl (fun (h292 : (1 : Int) = (0 : Int)) => absurd h292 (show ¬ ((1 : Int) = (0 : Int)) from by decide)) (fun _ => ?_)
            refine wp_seg 2 (P := none) (ls' := [some (aR 5 (0)), some (aI (c)), some (aI (1))]) (st' := [aI (2), aR 5 (0)]) (σ' := σ) rq_65 rfl True.intro (i' := 42) rfl ?_
            refine wp_call (C := 5) (As := [aR 5 (0), aI (2)]) (rest := []) rq_65 (ev_openPart (2) σ ) rfl rfl (show clOK 65 66 0 0 0 2 5 = true by decide +kernel) rfl (show 0 ≤ 4 by decide) (fun _ => ⟨_, rfl⟩) rfl (c' := 0) (s' := 0) rfl rfl ?_
            refine wp_goto rq_65 rfl ?_
            refine wp_seg 1 (P := none) (ls' := [some (aR 5 (0)), some (aI (c)), some (aI (1))]) (st' := [aI (1)]) (σ' := (zm_openPart (2) σ)) rq_65 rfl True.intro (i' := 101) rfl ?_
            refine wp_zret rq_65 rfl rt_65 ?_ ⟨?_, ?_⟩
            · first | exact Or.inl rfl | exact Or.inr rfl
            · (rw [zo_accept, if_pos h1, if_neg h2, if_pos h249, if_neg h250, if_neg h271]; try rfl)
            · (rw [zm_accept, if_pos h1, if_neg h2, if_pos h249, if_neg h250, if_neg h271]; try rfl)
      · refine wp_seg 2 (P := none) (ls' := [some (aR 5 (0)), some (aI (c)), some (aI (1))]) (st' := [aI (σ 5 (0) 5)]) (σ' := σ) rq_65 rfl True.intro (i' := 24) rfl ?_
        refine wp_if rq_65 rfl (fun (h293 : ¬ (σ 5 (0) 5) = 0) => ?_) (fun (h293 : ¬ (¬ (σ 5 (0) 5) = 0)) => ?_)
        · refine wp_seg 2 (P := none) (ls' := [some (aR 5 (0)), some (aI (c)), some (aI (1))]) (st' := [aI (58), aI (c)]) (σ' := σ) rq_65 rfl True.intro (i' := 33) rfl ?_
          refine wp_icmp rq_65 rfl (fun (h294 : ¬ (c) = 58) => ?_) (fun (h294 : ¬ (¬ (c) = 58)) => ?_)
          · refine wp_seg 2 (P := none) (ls' := [some (aR 5 (0)), some (aI (c)), some (aI (1))]) (st' := [aI (108), aI (c)]) (σ' := σ) rq_65 rfl True.intro (i' := 46) rfl ?_
            refine wp_icmp rq_65 rfl (fun (h295 : (c) = 108) => ?_) (fun (h295 : ¬ ((c) = 108)) => ?_)
            · refine wp_seg 3 (P := none) (ls' := [some (aR 5 (0)), some (aI (c)), some (aI (1))]) (st' := [aI (2), aI (σ 5 (0) 5)]) (σ' := σ) rq_65 rfl True.intro (i' := 53) rfl ?_
              refine wp_icmp rq_65 rfl (fun (h296 : ¬ (σ 5 (0) 5) = 2) => ?_) (fun (h296 : ¬ (¬ (σ 5 (0) 5) = 2)) => ?_)
              · refine wp_seg 2 (P := none) (ls' := [some (aR 5 (0)), some (aI (c)), some (aI (1))]) (st' := [aI (59), aI (c)]) (σ' := σ) rq_65 rfl True.intro (i' := 77) rfl ?_
                refine wp_icmp rq_65 rfl (fun (h297 : ¬ (c) = 59) => ?_) (fun (h297 : ¬ (¬ (c) = 59)) => ?_)
                · refine wp_seg 1 (P := none) (ls' := [some (aR 5 (0)), some (aI (c)), some (aI (1))]) (st' := [aI (0)]) (σ' := σ) rq_65 rfl True.intro (i' := 99) rfl ?_
                  refine wp_zret rq_65 rfl rt_65 ?_ ⟨?_, ?_⟩
                  · first | exact Or.inl rfl | exact Or.inr rfl
                  · (rw [zo_accept, if_pos h1, if_neg h2, if_neg h249, if_pos h293, if_pos h294, if_pos h295, if_pos h296, if_pos h297]; try rfl)
                  · (rw [zm_accept, if_pos h1, if_neg h2, if_neg h249, if_pos h293, if_pos h294, if_pos h295, if_pos h296, if_pos h297]; try rfl)
                · refine wp_seg 3 (P := none) (ls' := [some (aR 5 (0)), some (aI (c)), some (aI (1))]) (st' := [aI (3), aI (σ 5 (0) 5)]) (σ' := σ) rq_65 rfl True.intro (i' := 81) rfl ?_
                  refine wp_icmp rq_65 rfl (fun (h298 : (σ 5 (0) 5) = 3) => ?_) (fun (h298 : ¬ ((σ 5 (0) 5) = 3)) => ?_)
                  · refine wp_seg 8 (P := none) (ls' := [some (aR 5 (0)), some (aI (c)), some (aI (1))]) (st' := [aI (0), aR 5 (0)]) (σ' := (up σ 5 (0) 4 (wr ((σ 5 (0) 4) + (1))))) rq_65 rfl True.intro (i' := 96) rfl ?_
                    refine wp_call (C := 5) (As := [aR 5 (0), aI (0)]) (rest := []) rq_65 (ev_openPart (0) (up σ 5 (0) 4 (wr ((σ 5 (0) 4) + (1)))) ) rfl rfl (show clOK 65 66 0 0 0 2 5 = true by decide +kernel) rfl (show 0 ≤ 4 by decide) (fun _ => ⟨_, rfl⟩) rfl (c' := 0) (s' := 0) rfl rfl ?_
                    refine wp_goto rq_65 rfl ?_
                    refine wp_seg 1 (P := none) (ls' := [some (aR 5 (0)), some (aI (c)), some (aI (1))]) (st' := [aI (1)]) (σ' := (zm_openPart (0) (up σ 5 (0) 4 (wr ((σ 5 (0) 4) + (1)))))) rq_65 rfl True.intro (i' := 101) rfl ?_
                    refine wp_zret rq_65 rfl rt_65 ?_ ⟨?_, ?_⟩
                    · first | exact Or.inl rfl | exact Or.inr rfl
                    · (rw [zo_accept, if_pos h1, if_neg h2, if_neg h249, if_pos h293, if_pos h294, if_pos h295, if_pos h296, if_neg h297, if_pos h298]; try rfl)
                    · (rw [zm_accept, if_pos h1, if_neg h2, if_neg h249, if_pos h293, if_pos h294, if_pos h295, if_pos h296, if_neg h297, if_pos h298]; try rfl)
                  · refine wp_seg 3 (P := none) (ls' := [some (aR 5 (0)), some (aI (c)), some (aI (1))]) (st' := [aI (2), aI (σ 5 (0) 5)]) (σ' := σ) rq_65 rfl True.intro (i' := 85) rfl ?_
                    refine wp_icmp rq_65 rfl (fun (h299 : ¬ (σ 5 (0) 5) = 2) => ?_) (fun (h299 : ¬ (¬ (σ 5 (0) 5) = 2)) => ?_)
                    · refine wp_seg 1 (P := none) (ls' := [some (aR 5 (0)), some (aI (c)), some (aI (1))]) (st' := [aI (0)]) (σ' := σ) rq_65 rfl True.intro (i' := 99) rfl ?_
                      refine wp_zret rq_65 rfl rt_65 ?_ ⟨?_, ?_⟩
                      · first | exact Or.inl rfl | exact Or.inr rfl
                      · (rw [zo_accept, if_pos h1, if_neg h2, if_neg h249, if_pos h293, if_pos h294, if_pos h295, if_pos h296, if_neg h297, if_neg h298, if_pos h299]; try rfl)
                      · (rw [zm_accept, if_pos h1, if_neg h2, if_neg h249, if_pos h293, if_pos h294, if_pos h295, if_pos h296, if_neg h297, if_neg h298, if_pos h299]; try rfl)
                    · refine wp_seg 1 (P := none) (ls' := [some (aR 5 (0)), some (aI (c)), some (aI (1))]) (st' := [aI (1)]) (σ' := σ) rq_65 rfl True.intro (i' := 87) rfl ?_
                      refine wp_if rq_65 rfl (fun (h300 : (1 : Int) = (0 : Int)) => absurd h300 (show ¬ ((1 : Int) = (0 : Int)) from by decide)) (fun _ => ?_)
                      refine wp_seg 8 (P := none) (ls' := [some (aR 5 (0)), some (aI (c)), some (aI (1))]) (st' := [aI (0), aR 5 (0)]) (σ' := (up σ 5 (0) 4 (wr ((σ 5 (0) 4) + (1))))) rq_65 rfl True.intro (i' := 96) rfl ?_
                      refine wp_call (C := 5) (As := [aR 5 (0), aI (0)]) (rest := []) rq_65 (ev_openPart (0) (up σ 5 (0) 4 (wr ((σ 5 (0) 4) + (1)))) ) rfl rfl (show clOK 65 66 0 0 0 2 5 = true by decide +kernel) rfl (show 0 ≤ 4 by decide) (fun _ => ⟨_, rfl⟩) rfl (c' := 0) (s' := 0) rfl rfl ?_
                      refine wp_goto rq_65 rfl ?_
                      refine wp_seg 1 (P := none) (ls' := [some (aR 5 (0)), some (aI (c)), some (aI (1))]) (st' := [aI (1)]) (σ' := (zm_openPart (0) (up σ 5 (0) 4 (wr ((σ 5 (0) 4) + (1)))))) rq_65 rfl True.intro (i' := 101) rfl ?_
                      refine wp_zret rq_65 rfl rt_65 ?_ ⟨?_, ?_⟩
                      · first | exact Or.inl rfl | exact Or.inr rfl
                      · (rw [zo_accept, if_pos h1, if_neg h2, if_neg h249, if_pos h293, if_pos h294, if_pos h295, if_pos h296, if_neg h297, if_neg h298, if_neg h299]; try rfl)
                      · (rw [zm_accept, if_pos h1, if_neg h2, if_neg h249, if_pos h293, if_pos h294, if_pos h295, if_pos h296, if_neg h297, if_neg h298, if_neg h299]; try rfl)
              · refine wp_seg 1 (P := none) (ls' := [some (aR 5 (0)), some (aI (c)), some (aI (1))]) (st' := [aI (1)]) (σ' := σ) rq_65 rfl True.intro (i' := 55) rfl ?_
                refine wp_if rq_65 rfl (fun (h301 : (1 : Int) = (0 : Int)) => absurd h301 (show ¬ ((1 : Int) = (0 : Int)) from by decide)) (fun _ => ?_)
                refine wp_seg 2 (P := none) (ls' := [some (aR 5 (0)), some (aI (c)), some (aI (1))]) (st' := [aI (3), aR 5 (0)]) (σ' := σ) rq_65 rfl True.intro (i' := 58) rfl ?_
                refine wp_call (C := 5) (As := [aR 5 (0), aI (3)]) (rest := []) rq_65 (ev_openPart (3) σ ) rfl rfl (show clOK 65 66 0 0 0 2 5 = true by decide +kernel) rfl (show 0 ≤ 4 by decide) (fun _ => ⟨_, rfl⟩) rfl (c' := 0) (s' := 0) rfl rfl ?_
                refine wp_seg 10 (P := none) (ls' := [some (aR 5 (0)), some (aI (c)), some (aI (1))]) (st' := [aI (108), aI (c), aI (wr ((wr ((4) * ((zm_openPart (3) σ) 5 (0) 4))) + (3))), aR 7 (185)]) (σ' := (zm_openPart (3) σ)) rq_65 rfl True.intro (i' := 69) rfl ?_
                refine wp_icmp rq_65 rfl (fun (h302 : ¬ (c) = 108) => ?_) (fun (h302 : ¬ (¬ (c) = 108)) => ?_)
                · refine wp_seg 1 (P := none) (ls' := [some (aR 5 (0)), some (aI (c)), some (aI (1))]) (st' := [aI (1), aI (wr ((wr ((4) * ((zm_openPart (3) σ) 5 (0) 4))) + (3))), aR 7 (185)]) (σ' := (zm_openPart (3) σ)) rq_65 rfl True.intro (i' := 73) rfl ?_
                  refine wp_call (C := 7) (As := [aR 7 (185), aI (wr ((wr ((4) * ((zm_openPart (3) σ) 5 (0) 4))) + (3))), aI (1)]) (rest := []) rq_65 (ev_set (185) (wr ((wr ((4) * ((zm_openPart (3) σ) 5 (0) 4))) + (3))) (1) (zm_openPart (3) σ) ) rfl rfl (show clOK 65 79 0 0 0 3 7 = true by decide +kernel) rfl (show 0 ≤ 4 by decide) (fun _ => ⟨_, rfl⟩) rfl (c' := 0) (s' := 0) rfl rfl ?_
                  refine wp_goto rq_65 rfl ?_
                  refine wp_seg 1 (P := none) (ls' := [some (aR 5 (0)), some (aI (c)), some (aI (1))]) (st' := [aI (1)]) (σ' := (rset (zm_openPart (3) σ) (185) (wr ((wr ((4) * ((zm_openPart (3) σ) 5 (0) 4))) + (3))) (1))) rq_65 rfl True.intro (i' := 101) rfl ?_
                  refine wp_zret rq_65 rfl rt_65 ?_ ⟨?_, ?_⟩
                  · first | exact Or.inl rfl | exact Or.inr rfl
                  · (rw [zo_accept, if_pos h1, if_neg h2, if_neg h249, if_pos h293, if_pos h294, if_pos h295, if_neg h296, if_pos h302]; try rfl)
                  · (rw [zm_accept, if_pos h1, if_neg h2, if_neg h249, if_pos h293, if_pos h294, if_pos h295, if_neg h296, if_pos h302]; try rfl)
                · refine wp_seg 1 (P := none) (ls' := [some (aR 5 (0)), some (aI (c)), some (aI (1))]) (st' := [aI (0), aI (wr ((wr ((4) * ((zm_openPart (3) σ) 5 (0) 4))) + (3))), aR 7 (185)]) (σ' := (zm_openPart (3) σ)) rq_65 rfl True.intro (i' := 71) rfl ?_
                  refine wp_goto rq_65 rfl ?_
                  refine wp_call (C := 7) (As := [aR 7 (185), aI (wr ((wr ((4) * ((zm_openPart (3) σ) 5 (0) 4))) + (3))), aI (0)]) (rest := []) rq_65 (ev_set (185) (wr ((wr ((4) * ((zm_openPart (3) σ) 5 (0) 4))) + (3))) (0) (zm_openPart (3) σ) ) rfl rfl (show clOK 65 79 0 0 0 3 7 = true by decide +kernel) rfl (show 0 ≤ 4 by decide) (fun _ => ⟨_, rfl⟩) rfl (c' := 0) (s' := 0) rfl rfl ?_
                  refine wp_goto rq_65 rfl ?_
                  refine wp_seg 1 (P := none) (ls' := [some (aR 5 (0)), some (aI (c)), some (aI (1))]) (st' := [aI (1)]) (σ' := (rset (zm_openPart (3) σ) (185) (wr ((wr ((4) * ((zm_openPart (3) σ) 5 (0) 4))) + (3))) (0))) rq_65 rfl True.intro (i' := 101) rfl ?_
                  refine wp_zret rq_65 rfl rt_65 ?_ ⟨?_, ?_⟩
                  · first | exact Or.inl rfl | exact Or.inr rfl
                  · (rw [zo_accept, if_pos h1, if_neg h2, if_neg h249, if_pos h293, if_pos h294, if_pos h295, if_neg h296, if_neg h302]; try rfl)
                  · (rw [zm_accept, if_pos h1, if_neg h2, if_neg h249, if_pos h293, if_pos h294, if_pos h295, if_neg h296, if_neg h302]; try rfl)
            · refine wp_seg 2 (P := none) (ls' := [some (aR 5 (0)), some (aI (c)), some (aI (1))]) (st' := [aI (114), aI (c)]) (σ' := σ) rq_65 rfl True.intro (i' := 49) rfl ?_
              refine wp_icmp rq_65 rfl (fun (h303 : ¬ (c) = 114) => ?_) (fun (h303 : ¬ (¬ (c) = 114)) => ?_)
              · refine wp_seg 2 (P := none) (ls' := [some (aR 5 (0)), some (aI (c)), some (aI (1))]) (st' := [aI (59), aI (c)]) (σ' := σ) rq_65 rfl True.intro (i' := 77) rfl ?_
                refine wp_icmp rq_65 rfl (fun (h304 : ¬ (c) = 59) => ?_) (fun (h304 : ¬ (¬ (c) = 59)) => ?_)
                · refine wp_seg 1 (P := none) (ls' := [some (aR 5 (0)), some (aI (c)), some (aI (1))]) (st' := [aI (0)]) (σ' := σ) rq_65 rfl True.intro (i' := 99) rfl ?_
                  refine wp_zret rq_65 rfl rt_65 ?_ ⟨?_, ?_⟩
                  · first | exact Or.inl rfl | exact Or.inr rfl
                  · (rw [zo_accept, if_pos h1, if_neg h2, if_neg h249, if_pos h293, if_pos h294, if_neg h295, if_pos h303, if_pos h304]; try rfl)
                  · (rw [zm_accept, if_pos h1, if_neg h2, if_neg h249, if_pos h293, if_pos h294, if_neg h295, if_pos h303, if_pos h304]; try rfl)
                · refine wp_seg 3 (P := none) (ls' := [some (aR 5 (0)), some (aI (c)), some (aI (1))]) (st' := [aI (3), aI (σ 5 (0) 5)]) (σ' := σ) rq_65 rfl True.intro (i' := 81) rfl ?_
                  refine wp_icmp rq_65 rfl (fun (h305 : (σ 5 (0) 5) = 3) => ?_) (fun (h305 : ¬ ((σ 5 (0) 5) = 3)) => ?_)
                  · refine wp_seg 8 (P := none) (ls' := [some (aR 5 (0)), some (aI (c)), some (aI (1))]) (st' := [aI (0), aR 5 (0)]) (σ' := (up σ 5 (0) 4 (wr ((σ 5 (0) 4) + (1))))) rq_65 rfl True.intro (i' := 96) rfl ?_
                    refine wp_call (C := 5) (As := [aR 5 (0), aI (0)]) (rest := []) rq_65 (ev_openPart (0) (up σ 5 (0) 4 (wr ((σ 5 (0) 4) + (1)))) ) rfl rfl (show clOK 65 66 0 0 0 2 5 = true by decide +kernel) rfl (show 0 ≤ 4 by decide) (fun _ => ⟨_, rfl⟩) rfl (c' := 0) (s' := 0) rfl rfl ?_
                    refine wp_goto rq_65 rfl ?_
                    refine wp_seg 1 (P := none) (ls' := [some (aR 5 (0)), some (aI (c)), some (aI (1))]) (st' := [aI (1)]) (σ' := (zm_openPart (0) (up σ 5 (0) 4 (wr ((σ 5 (0) 4) + (1)))))) rq_65 rfl True.intro (i' := 101) rfl ?_
                    refine wp_zret rq_65 rfl rt_65 ?_ ⟨?_, ?_⟩
                    · first | exact Or.inl rfl | exact Or.inr rfl
                    · (rw [zo_accept, if_pos h1, if_neg h2, if_neg h249, if_pos h293, if_pos h294, if_neg h295, if_pos h303, if_neg h304, if_pos h305]; try rfl)
                    · (rw [zm_accept, if_pos h1, if_neg h2, if_neg h249, if_pos h293, if_pos h294, if_neg h295, if_pos h303, if_neg h304, if_pos h305]; try rfl)
                  · refine wp_seg 3 (P := none) (ls' := [some (aR 5 (0)), some (aI (c)), some (aI (1))]) (st' := [aI (2), aI (σ 5 (0) 5)]) (σ' := σ) rq_65 rfl True.intro (i' := 85) rfl ?_
                    refine wp_icmp rq_65 rfl (fun (h306 : ¬ (σ 5 (0) 5) = 2) => ?_) (fun (h306 : ¬ (¬ (σ 5 (0) 5) = 2)) => ?_)
                    · refine wp_seg 1 (P := none) (ls' := [some (aR 5 (0)), some (aI (c)), some (aI (1))]) (st' := [aI (0)]) (σ' := σ) rq_65 rfl True.intro (i' := 99) rfl ?_
                      refine wp_zret rq_65 rfl rt_65 ?_ ⟨?_, ?_⟩
                      · first | exact Or.inl rfl | exact Or.inr rfl
                      · (rw [zo_accept, if_pos h1, if_neg h2, if_neg h249, if_pos h293, if_pos h294, if_neg h295, if_pos h303, if_neg h304, if_neg h305, if_pos h306]; try rfl)
                      · (rw [zm_accept, if_pos h1, if_neg h2, if_neg h249, if_pos h293, if_pos h294, if_neg h295, if_pos h303, if_neg h304, if_neg h305, if_pos h306]; try rfl)
                    · refine wp_seg 1 (P := none) (ls' := [some (aR 5 (0)), some (aI (c)), some (aI (1))]) (st' := [aI (1)]) (σ' := σ) rq_65 rfl True.intro (i' := 87) rfl ?_
                      refine wp_if rq_65 rfl (fun (h307 : (1 : Int) = (0 : Int)) => absurd h307 (show ¬ ((1 : Int) = (0 : Int)) from by decide)) (fun _ => ?_)
                      refine wp_seg 8 (P := none) (ls' := [some (aR 5 (0)), some (aI (c)), some (aI (1))]) (st' := [aI (0), aR 5 (0)]) (σ' := (up σ 5 (0) 4 (wr ((σ 5 (0) 4) + (1))))) rq_65 rfl True.intro (i' := 96) rfl ?_
                      refine wp_call (C := 5) (As := [aR 5 (0), aI (0)]) (rest := []) rq_65 (ev_openPart (0) (up σ 5 (0) 4 (wr ((σ 5 (0) 4) + (1)))) ) rfl rfl (show clOK 65 66 0 0 0 2 5 = true by decide +kernel) rfl (show 0 ≤ 4 by decide) (fun _ => ⟨_, rfl⟩) rfl (c' := 0) (s' := 0) rfl rfl ?_
                      refine wp_goto rq_65 rfl ?_
                      refine wp_seg 1 (P := none) (ls' := [some (aR 5 (0)), some (aI (c)), some (aI (1))]) (st' := [aI (1)]) (σ' := (zm_openPart (0) (up σ 5 (0) 4 (wr ((σ 5 (0) 4) + (1)))))) rq_65 rfl True.intro (i' := 101) rfl ?_
                      refine wp_zret rq_65 rfl rt_65 ?_ ⟨?_, ?_⟩
                      · first | exact Or.inl rfl | exact Or.inr rfl
                      · (rw [zo_accept, if_pos h1, if_neg h2, if_neg h249, if_pos h293, if_pos h294, if_neg h295, if_pos h303, if_neg h304, if_neg h305, if_neg h306]; try rfl)
                      · (rw [zm_accept, if_pos h1, if_neg h2, if_neg h249, if_pos h293, if_pos h294, if_neg h295, if_pos h303, if_neg h304, if_neg h305, if_neg h306]; try rfl)
              · refine wp_seg 3 (P := none) (ls' := [some (aR 5 (0)), some (aI (c)), some (aI (1))]) (st' := [aI (2), aI (σ 5 (0) 5)]) (σ' := σ) rq_65 rfl True.intro (i' := 53) rfl ?_
                refine wp_icmp rq_65 rfl (fun (h308 : ¬ (σ 5 (0) 5) = 2) => ?_) (fun (h308 : ¬ (¬ (σ 5 (0) 5) = 2)) => ?_)
                · refine wp_seg 2 (P := none) (ls' := [some (aR 5 (0)), some (aI (c)), some (aI (1))]) (st' := [aI (59), aI (c)]) (σ' := σ) rq_65 rfl True.intro (i' := 77) rfl ?_
                  refine wp_icmp rq_65 rfl (fun (h309 : ¬ (c) = 59) => ?_) (fun (h309 : ¬ (¬ (c) = 59)) => ?_)
                  · refine wp_seg 1 (P := none) (ls' := [some (aR 5 (0)), some (aI (c)), some (aI (1))]) (st' := [aI (0)]) (σ' := σ) rq_65 rfl True.intro (i' := 99) rfl ?_
                    refine wp_zret rq_65 rfl rt_65 ?_ ⟨?_, ?_⟩
                    · first | exact Or.inl rfl | exact Or.inr rfl
                    · (rw [zo_accept, if_pos h1, if_neg h2, if_neg h249, if_pos h293, if_pos h294, if_neg h295, if_neg h303, if_pos h308, if_pos h309]; try rfl)
                    · (rw [zm_accept, if_pos h1, if_neg h2, if_neg h249, if_pos h293, if_pos h294, if_neg h295, if_neg h303, if_pos h308, if_pos h309]; try rfl)
                  · refine wp_seg 3 (P := none) (ls' := [some (aR 5 (0)), some (aI (c)), some (aI (1))]) (st' := [aI (3), aI (σ 5 (0) 5)]) (σ' := σ) rq_65 rfl True.intro (i' := 81) rfl ?_
                    refine wp_icmp rq_65 rfl (fun (h310 : (σ 5 (0) 5) = 3) => ?_) (fun (h310 : ¬ ((σ 5 (0) 5) = 3)) => ?_)
                    · refine wp_seg 8 (P := none) (ls' := [some (aR 5 (0)), some (aI (c)), some (aI (1))]) (st' := [aI (0), aR 5 (0)]) (σ' := (up σ 5 (0) 4 (wr ((σ 5 (0) 4) + (1))))) rq_65 rfl True.intro (i' := 96) rfl ?_
                      refine wp_call (C := 5) (As := [aR 5 (0), aI (0)]) (rest := []) rq_65 (ev_openPart (0) (up σ 5 (0) 4 (wr ((σ 5 (0) 4) + (1)))) ) rfl rfl (show clOK 65 66 0 0 0 2 5 = true by decide +kernel) rfl (show 0 ≤ 4 by decide) (fun _ => ⟨_, rfl⟩) rfl (c' := 0) (s' := 0) rfl rfl ?_
                      refine wp_goto rq_65 rfl ?_
                      refine wp_seg 1 (P := none) (ls' := [some (aR 5 (0)), some (aI (c)), some (aI (1))]) (st' := [aI (1)]) (σ' := (zm_openPart (0) (up σ 5 (0) 4 (wr ((σ 5 (0) 4) + (1)))))) rq_65 rfl True.intro (i' := 101) rfl ?_
                      refine wp_zret rq_65 rfl rt_65 ?_ ⟨?_, ?_⟩
                      · first | exact Or.inl rfl | exact Or.inr rfl
                      · (rw [zo_accept, if_pos h1, if_neg h2, if_neg h249, if_pos h293, if_pos h294, if_neg h295, if_neg h303, if_pos h308, if_neg h309, if_pos h310]; try rfl)
                      · (rw [zm_accept, if_pos h1, if_neg h2, if_neg h249, if_pos h293, if_pos h294, if_neg h295, if_neg h303, if_pos h308, if_neg h309, if_pos h310]; try rfl)
                    · refine wp_seg 3 (P := none) (ls' := [some (aR 5 (0)), some (aI (c)), some (aI (1))]) (st' := [aI (2), aI (σ 5 (0) 5)]) (σ' := σ) rq_65 rfl True.intro (i' := 85) rfl ?_
                      refine wp_icmp rq_65 rfl (fun (h311 : ¬ (σ 5 (0) 5) = 2) => ?_) (fun (h311 : ¬ (¬ (σ 5 (0) 5) = 2)) => ?_)
                      · refine wp_seg 1 (P := none) (ls' := [some (aR 5 (0)), some (aI (c)), some (aI (1))]) (st' := [aI (0)]) (σ' := σ) rq_65 rfl True.intro (i' := 99) rfl ?_
                        refine wp_zret rq_65 rfl rt_65 ?_ ⟨?_, ?_⟩
                        · first | exact Or.inl rfl | exact Or.inr rfl
                        · (rw [zo_accept, if_pos h1, if_neg h2, if_neg h249, if_pos h293, if_pos h294, if_neg h295, if_neg h303, if_pos h308, if_neg h309, if_neg h310, if_pos h311]; try rfl)
                        · (rw [zm_accept, if_pos h1, if_neg h2, if_neg h249, if_pos h293, if_pos h294, if_neg h295, if_neg h303, if_pos h308, if_neg h309, if_neg h310, if_pos h311]; try rfl)
                      · refine wp_seg 1 (P := none) (ls' := [some (aR 5 (0)), some (aI (c)), some (aI (1))]) (st' := [aI (1)]) (σ' := σ) rq_65 rfl True.intro (i' := 87) rfl ?_
                        refine wp_if rq_65 rfl (fun (h312 : (1 : Int) = (0 : Int)) => absurd h312 (show ¬ ((1 : Int) = (0 : Int)) from by decide)) (fun _ => ?_)
                        refine wp_seg 8 (P := none) (ls' := [some (aR 5 (0)), some (aI (c)), some (aI (1))]) (st' := [aI (0), aR 5 (0)]) (σ' := (up σ 5 (0) 4 (wr ((σ 5 (0) 4) + (1))))) rq_65 rfl True.intro (i' := 96) rfl ?_
                        refine wp_call (C := 5) (As := [aR 5 (0), aI (0)]) (rest := []) rq_65 (ev_openPart (0) (up σ 5 (0) 4 (wr ((σ 5 (0) 4) + (1)))) ) rfl rfl (show clOK 65 66 0 0 0 2 5 = true by decide +kernel) rfl (show 0 ≤ 4 by decide) (fun _ => ⟨_, rfl⟩) rfl (c' := 0) (s' := 0) rfl rfl ?_
                        refine wp_goto rq_65 rfl ?_
                        refine wp_seg 1 (P := none) (ls' := [some (aR 5 (0)), some (aI (c)), some (aI (1))]) (st' := [aI (1)]) (σ' := (zm_openPart (0) (up σ 5 (0) 4 (wr ((σ 5 (0) 4) + (1)))))) rq_65 rfl True.intro (i' := 101) rfl ?_
                        refine wp_zret rq_65 rfl rt_65 ?_ ⟨?_, ?_⟩
                        · first | exact Or.inl rfl | exact Or.inr rfl
                        · (rw [zo_accept, if_pos h1, if_neg h2, if_neg h249, if_pos h293, if_pos h294, if_neg h295, if_neg h303, if_pos h308, if_neg h309, if_neg h310, if_neg h311]; try rfl)
                        · (rw [zm_accept, if_pos h1, if_neg h2, if_neg h249, if_pos h293, if_pos h294, if_neg h295, if_neg h303, if_pos h308, if_neg h309, if_neg h310, if_neg h311]; try rfl)
                · refine wp_seg 1 (P := none) (ls' := [some (aR 5 (0)), some (aI (c)), some (aI (1))]) (st' := [aI (1)]) (σ' := σ) rq_65 rfl True.intro (i' := 55) rfl ?_
                  refine wp_if rq_65 rfl (fun (h313 : (1 : Int) = (0 : Int)) => absurd h313 (show ¬ ((1 : Int) = (0 : Int)) from by decide)) (fun _ => ?_)
                  refine wp_seg 2 (P := none) (ls' := [some (aR 5 (0)), some (aI (c)), some (aI (1))]) (st' := [aI (3), aR 5 (0)]) (σ' := σ) rq_65 rfl True.intro (i' := 58) rfl ?_
                  refine wp_call (C := 5) (As := [aR 5 (0), aI (3)]) (rest := []) rq_65 (ev_openPart (3) σ ) rfl rfl (show clOK 65 66 0 0 0 2 5 = true by decide +kernel) rfl (show 0 ≤ 4 by decide) (fun _ => ⟨_, rfl⟩) rfl (c' := 0) (s' := 0) rfl rfl ?_
                  refine wp_seg 10 (P := none) (ls' := [some (aR 5 (0)), some (aI (c)), some (aI (1))]) (st' := [aI (108), aI (c), aI (wr ((wr ((4) * ((zm_openPart (3) σ) 5 (0) 4))) + (3))), aR 7 (185)]) (σ' := (zm_openPart (3) σ)) rq_65 rfl True.intro (i' := 69) rfl ?_
                  refine wp_icmp rq_65 rfl (fun (h314 : ¬ (c) = 108) => ?_) (fun (h314 : ¬ (¬ (c) = 108)) => ?_)
                  · refine wp_seg 1 (P := none) (ls' := [some (aR 5 (0)), some (aI (c)), some (aI (1))]) (st' := [aI (1), aI (wr ((wr ((4) * ((zm_openPart (3) σ) 5 (0) 4))) + (3))), aR 7 (185)]) (σ' := (zm_openPart (3) σ)) rq_65 rfl True.intro (i' := 73) rfl ?_
                    refine wp_call (C := 7) (As := [aR 7 (185), aI (wr ((wr ((4) * ((zm_openPart (3) σ) 5 (0) 4))) + (3))), aI (1)]) (rest := []) rq_65 (ev_set (185) (wr ((wr ((4) * ((zm_openPart (3) σ) 5 (0) 4))) + (3))) (1) (zm_openPart (3) σ) ) rfl rfl (show clOK 65 79 0 0 0 3 7 = true by decide +kernel) rfl (show 0 ≤ 4 by decide) (fun _ => ⟨_, rfl⟩) rfl (c' := 0) (s' := 0) rfl rfl ?_
                    refine wp_goto rq_65 rfl ?_
                    refine wp_seg 1 (P := none) (ls' := [some (aR 5 (0)), some (aI (c)), some (aI (1))]) (st' := [aI (1)]) (σ' := (rset (zm_openPart (3) σ) (185) (wr ((wr ((4) * ((zm_openPart (3) σ) 5 (0) 4))) + (3))) (1))) rq_65 rfl True.intro (i' := 101) rfl ?_
                    refine wp_zret rq_65 rfl rt_65 ?_ ⟨?_, ?_⟩
                    · first | exact Or.inl rfl | exact Or.inr rfl
                    · (rw [zo_accept, if_pos h1, if_neg h2, if_neg h249, if_pos h293, if_pos h294, if_neg h295, if_neg h303, if_neg h308, if_pos h314]; try rfl)
                    · (rw [zm_accept, if_pos h1, if_neg h2, if_neg h249, if_pos h293, if_pos h294, if_neg h295, if_neg h303, if_neg h308, if_pos h314]; try rfl)
                  · refine wp_seg 1 (P := none) (ls' := [some (aR 5 (0)), some (aI (c)), some (aI (1))]) (st' := [aI (0), aI (wr ((wr ((4) * ((zm_openPart (3) σ) 5 (0) 4))) + (3))), aR 7 (185)]) (σ' := (zm_openPart (3) σ)) rq_65 rfl True.intro (i' := 71) rfl ?_
                    refine wp_goto rq_65 rfl ?_
                    refine wp_call (C := 7) (As := [aR 7 (185), aI (wr ((wr ((4) * ((zm_openPart (3) σ) 5 (0) 4))) + (3))), aI (0)]) (rest := []) rq_65 (ev_set (185) (wr ((wr ((4) * ((zm_openPart (3) σ) 5 (0) 4))) + (3))) (0) (zm_openPart (3) σ) ) rfl rfl (show clOK 65 79 0 0 0 3 7 = true by decide +kernel) rfl (show 0 ≤ 4 by decide) (fun _ => ⟨_, rfl⟩) rfl (c' := 0) (s' := 0) rfl rfl ?_
                    refine wp_goto rq_65 rfl ?_
                    refine wp_seg 1 (P := none) (ls' := [some (aR 5 (0)), some (aI (c)), some (aI (1))]) (st' := [aI (1)]) (σ' := (rset (zm_openPart (3) σ) (185) (wr ((wr ((4) * ((zm_openPart (3) σ) 5 (0) 4))) + (3))) (0))) rq_65 rfl True.intro (i' := 101) rfl ?_
                    refine wp_zret rq_65 rfl rt_65 ?_ ⟨?_, ?_⟩
                    · first | exact Or.inl rfl | exact Or.inr rfl
                    · (rw [zo_accept, if_pos h1, if_neg h2, if_neg h249, if_pos h293, if_pos h294, if_neg h295, if_neg h303, if_neg h308, if_neg h314]; try rfl)
                    · (rw [zm_accept, if_pos h1, if_neg h2, if_neg h249, if_pos h293, if_pos h294, if_neg h295, if_neg h303, if_neg h308, if_neg h314]; try rfl)
          · refine wp_seg 3 (P := none) (ls' := [some (aR 5 (0)), some (aI (c)), some (aI (1))]) (st' := [aI (1), aI (σ 5 (0) 5)]) (σ' := σ) rq_65 rfl True.intro (i' := 37) rfl ?_
            refine wp_icmp rq_65 rfl (fun (h315 : ¬ (σ 5 (0) 5) = 1) => ?_) (fun (h315 : ¬ (¬ (σ 5 (0) 5) = 1)) => ?_)
            · refine wp_seg 2 (P := none) (ls' := [some (aR 5 (0)), some (aI (c)), some (aI (1))]) (st' := [aI (108), aI (c)]) (σ' := σ) rq_65 rfl True.intro (i' := 46) rfl ?_
              refine wp_icmp rq_65 rfl (fun (h316 : (c) = 108) => ?_) (fun (h316 : ¬ ((c) = 108)) => ?_)
              · refine wp_seg 3 (P := none) (ls' := [some (aR 5 (0)), some (aI (c)), some (aI (1))]) (st' := [aI (2), aI (σ 5 (0) 5)]) (σ' := σ) rq_65 rfl True.intro (i' := 53) rfl ?_
                refine wp_icmp rq_65 rfl (fun (h317 : ¬ (σ 5 (0) 5) = 2) => ?_) (fun (h317 : ¬ (¬ (σ 5 (0) 5) = 2)) => ?_)
                · refine wp_seg 2 (P := none) (ls' := [some (aR 5 (0)), some (aI (c)), some (aI (1))]) (st' := [aI (59), aI (c)]) (σ' := σ) rq_65 rfl True.intro (i' := 77) rfl ?_
                  refine wp_icmp rq_65 rfl (fun (h318 : ¬ (c) = 59) => ?_) (fun (h318 : ¬ (¬ (c) = 59)) => ?_)
                  · refine wp_seg 1 (P := none) (ls' := [some (aR 5 (0)), some (aI (c)), some (aI (1))]) (st' := [aI (0)]) (σ' := σ) rq_65 rfl True.intro (i' := 99) rfl ?_
                    refine wp_zret rq_65 rfl rt_65 ?_ ⟨?_, ?_⟩
                    · first | exact Or.inl rfl | exact Or.inr rfl
                    · (rw [zo_accept, if_pos h1, if_neg h2, if_neg h249, if_pos h293, if_neg h294, if_pos h315, if_pos h316, if_pos h317, if_pos h318]; try rfl)
                    · (rw [zm_accept, if_pos h1, if_neg h2, if_neg h249, if_pos h293, if_neg h294, if_pos h315, if_pos h316, if_pos h317, if_pos h318]; try rfl)
                  · refine wp_seg 3 (P := none) (ls' := [some (aR 5 (0)), some (aI (c)), some (aI (1))]) (st' := [aI (3), aI (σ 5 (0) 5)]) (σ' := σ) rq_65 rfl True.intro (i' := 81) rfl ?_
                    refine wp_icmp rq_65 rfl (fun (h319 : (σ 5 (0) 5) = 3) => ?_) (fun (h319 : ¬ ((σ 5 (0) 5) = 3)) => ?_)
                    · refine wp_seg 8 (P := none) (ls' := [some (aR 5 (0)), some (aI (c)), some (aI (1))]) (st' := [aI (0), aR 5 (0)]) (σ' := (up σ 5 (0) 4 (wr ((σ 5 (0) 4) + (1))))) rq_65 rfl True.intro (i' := 96) rfl ?_
                      refine wp_call (C := 5) (As := [aR 5 (0), aI (0)]) (rest := []) rq_65 (ev_openPart (0) (up σ 5 (0) 4 (wr ((σ 5 (0) 4) + (1)))) ) rfl rfl (show clOK 65 66 0 0 0 2 5 = true by decide +kernel) rfl (show 0 ≤ 4 by decide) (fun _ => ⟨_, rfl⟩) rfl (c' := 0) (s' := 0) rfl rfl ?_
                      refine wp_goto rq_65 rfl ?_
                      refine wp_seg 1 (P := none) (ls' := [some (aR 5 (0)), some (aI (c)), some (aI (1))]) (st' := [aI (1)]) (σ' := (zm_openPart (0) (up σ 5 (0) 4 (wr ((σ 5 (0) 4) + (1)))))) rq_65 rfl True.intro (i' := 101) rfl ?_
                      refine wp_zret rq_65 rfl rt_65 ?_ ⟨?_, ?_⟩
                      · first | exact Or.inl rfl | exact Or.inr rfl
                      · (rw [zo_accept, if_pos h1, if_neg h2, if_neg h249, if_pos h293, if_neg h294, if_pos h315, if_pos h316, if_pos h317, if_neg h318, if_pos h319]; try rfl)
                      · (rw [zm_accept, if_pos h1, if_neg h2, if_neg h249, if_pos h293, if_neg h294, if_pos h315, if_pos h316, if_pos h317, if_neg h318, if_pos h319]; try rfl)
                    · refine wp_seg 3 (P := none) (ls' := [some (aR 5 (0)), some (aI (c)), some (aI (1))]) (st' := [aI (2), aI (σ 5 (0) 5)]) (σ' := σ) rq_65 rfl True.intro (i' := 85) rfl ?_
                      refine wp_icmp rq_65 rfl (fun (h320 : ¬ (σ 5 (0) 5) = 2) => ?_) (fun (h320 : ¬ (¬ (σ 5 (0) 5) = 2)) => ?_)
                      · refine wp_seg 1 (P := none) (ls' := [some (aR 5 (0)), some (aI (c)), some (aI (1))]) (st' := [aI (0)]) (σ' := σ) rq_65 rfl True.intro (i' := 99) rfl ?_
                        refine wp_zret rq_65 rfl rt_65 ?_ ⟨?_, ?_⟩
                        · first | exact Or.inl rfl | exact Or.inr rfl
                        · (rw [zo_accept, if_pos h1, if_neg h2, if_neg h249, if_pos h293, if_neg h294, if_pos h315, if_pos h316, if_pos h317, if_neg h318, if_neg h319, if_pos h320]; try rfl)
                        · (rw [zm_accept, if_pos h1, if_neg h2, if_neg h249, if_pos h293, if_neg h294, if_pos h315, if_pos h316, if_pos h317, if_neg h318, if_neg h319, if_pos h320]; try rfl)
                      · refine wp_seg 1 (P := none) (ls' := [some (aR 5 (0)), some (aI (c)), some (aI (1))]) (st' := [aI (1)]) (σ' := σ) rq_65 rfl True.intro (i' := 87) rfl ?_
                        refine wp_if rq_65 rfl (fun (h321 : (1 : Int) = (0 : Int)) => absurd h321 (show ¬ ((1 : Int) = (0 : Int)) from by decide)) (fun _ => ?_)
                        refine wp_seg 8 (P := none) (ls' := [some (aR 5 (0)), some (aI (c)), some (aI (1))]) (st' := [aI (0), aR 5 (0)]) (σ' := (up σ 5 (0) 4 (wr ((σ 5 (0) 4) + (1))))) rq_65 rfl True.intro (i' := 96) rfl ?_
                        refine wp_call (C := 5) (As := [aR 5 (0), aI (0)]) (rest := []) rq_65 (ev_openPart (0) (up σ 5 (0) 4 (wr ((σ 5 (0) 4) + (1)))) ) rfl rfl (show clOK 65 66 0 0 0 2 5 = true by decide +kernel) rfl (show 0 ≤ 4 by decide) (fun _ => ⟨_, rfl⟩) rfl (c' := 0) (s' := 0) rfl rfl ?_
                        refine wp_goto rq_65 rfl ?_
                        refine wp_seg 1 (P := none) (ls' := [some (aR 5 (0)), some (aI (c)), some (aI (1))]) (st' := [aI (1)]) (σ' := (zm_openPart (0) (up σ 5 (0) 4 (wr ((σ 5 (0) 4) + (1)))))) rq_65 rfl True.intro (i' := 101) rfl ?_
                        refine wp_zret rq_65 rfl rt_65 ?_ ⟨?_, ?_⟩
                        · first | exact Or.inl rfl | exact Or.inr rfl
                        · (rw [zo_accept, if_pos h1, if_neg h2, if_neg h249, if_pos h293, if_neg h294, if_pos h315, if_pos h316, if_pos h317, if_neg h318, if_neg h319, if_neg h320]; try rfl)
                        · (rw [zm_accept, if_pos h1, if_neg h2, if_neg h249, if_pos h293, if_neg h294, if_pos h315, if_pos h316, if_pos h317, if_neg h318, if_neg h319, if_neg h320]; try rfl)
                · refine wp_seg 1 (P := none) (ls' := [some (aR 5 (0)), some (aI (c)), some (aI (1))]) (st' := [aI (1)]) (σ' := σ) rq_65 rfl True.intro (i' := 55) rfl ?_
                  refine wp_if rq_65 rfl (fun (h322 : (1 : Int) = (0 : Int)) => absurd h322 (show ¬ ((1 : Int) = (0 : Int)) from by decide)) (fun _ => ?_)
                  refine wp_seg 2 (P := none) (ls' := [some (aR 5 (0)), some (aI (c)), some (aI (1))]) (st' := [aI (3), aR 5 (0)]) (σ' := σ) rq_65 rfl True.intro (i' := 58) rfl ?_
                  refine wp_call (C := 5) (As := [aR 5 (0), aI (3)]) (rest := []) rq_65 (ev_openPart (3) σ ) rfl rfl (show clOK 65 66 0 0 0 2 5 = true by decide +kernel) rfl (show 0 ≤ 4 by decide) (fun _ => ⟨_, rfl⟩) rfl (c' := 0) (s' := 0) rfl rfl ?_
                  refine wp_seg 10 (P := none) (ls' := [some (aR 5 (0)), some (aI (c)), some (aI (1))]) (st' := [aI (108), aI (c), aI (wr ((wr ((4) * ((zm_openPart (3) σ) 5 (0) 4))) + (3))), aR 7 (185)]) (σ' := (zm_openPart (3) σ)) rq_65 rfl True.intro (i' := 69) rfl ?_
                  refine wp_icmp rq_65 rfl (fun (h323 : ¬ (c) = 108) => ?_) (fun (h323 : ¬ (¬ (c) = 108)) => ?_)
                  · refine wp_seg 1 (P := none) (ls' := [some (aR 5 (0)), some (aI (c)), some (aI (1))]) (st' := [aI (1), aI (wr ((wr ((4) * ((zm_openPart (3) σ) 5 (0) 4))) + (3))), aR 7 (185)]) (σ' := (zm_openPart (3) σ)) rq_65 rfl True.intro (i' := 73) rfl ?_
                    refine wp_call (C := 7) (As := [aR 7 (185), aI (wr ((wr ((4) * ((zm_openPart (3) σ) 5 (0) 4))) + (3))), aI (1)]) (rest := []) rq_65 (ev_set (185) (wr ((wr ((4) * ((zm_openPart (3) σ) 5 (0) 4))) + (3))) (1) (zm_openPart (3) σ) ) rfl rfl (show clOK 65 79 0 0 0 3 7 = true by decide +kernel) rfl (show 0 ≤ 4 by decide) (fun _ => ⟨_, rfl⟩) rfl (c' := 0) (s' := 0) rfl rfl ?_
                    refine wp_goto rq_65 rfl ?_
                    refine wp_seg 1 (P := none) (ls' := [some (aR 5 (0)), some (aI (c)), some (aI (1))]) (st' := [aI (1)]) (σ' := (rset (zm_openPart (3) σ) (185) (wr ((wr ((4) * ((zm_openPart (3) σ) 5 (0) 4))) + (3))) (1))) rq_65 rfl True.intro (i' := 101) rfl ?_
                    refine wp_zret rq_65 rfl rt_65 ?_ ⟨?_, ?_⟩
                    · first | exact Or.inl rfl | exact Or.inr rfl
                    · (rw [zo_accept, if_pos h1, if_neg h2, if_neg h249, if_pos h293, if_neg h294, if_pos h315, if_pos h316, if_neg h317, if_pos h323]; try rfl)
                    · (rw [zm_accept, if_pos h1, if_neg h2, if_neg h249, if_pos h293, if_neg h294, if_pos h315, if_pos h316, if_neg h317, if_pos h323]; try rfl)
                  · refine wp_seg 1 (P := none) (ls' := [some (aR 5 (0)), some (aI (c)), some (aI (1))]) (st' := [aI (0), aI (wr ((wr ((4) * ((zm_openPart (3) σ) 5 (0) 4))) + (3))), aR 7 (185)]) (σ' := (zm_openPart (3) σ)) rq_65 rfl True.intro (i' := 71) rfl ?_
                    refine wp_goto rq_65 rfl ?_
                    refine wp_call (C := 7) (As := [aR 7 (185), aI (wr ((wr ((4) * ((zm_openPart (3) σ) 5 (0) 4))) + (3))), aI (0)]) (rest := []) rq_65 (ev_set (185) (wr ((wr ((4) * ((zm_openPart (3) σ) 5 (0) 4))) + (3))) (0) (zm_openPart (3) σ) ) rfl rfl (show clOK 65 79 0 0 0 3 7 = true by decide +kernel) rfl (show 0 ≤ 4 by decide) (fun _ => ⟨_, rfl⟩) rfl (c' := 0) (s' := 0) rfl rfl ?_
                    refine wp_goto rq_65 rfl ?_
                    refine wp_seg 1 (P := none) (ls' := [some (aR 5 (0)), some (aI (c)), some (aI (1))]) (st' := [aI (1)]) (σ' := (rset (zm_openPart (3) σ) (185) (wr ((wr ((4) * ((zm_openPart (3) σ) 5 (0) 4))) + (3))) (0))) rq_65 rfl True.intro (i' := 101) rfl ?_
                    refine wp_zret rq_65 rfl rt_65 ?_ ⟨?_, ?_⟩
                    · first | exact Or.inl rfl | exact Or.inr rfl
                    · (rw [zo_accept, if_pos h1, if_neg h2, if_neg h249, if_pos h293, if_neg h294, if_pos h315, if_pos h316, if_neg h317, if_neg h323]; try rfl)
                    · (rw [zm_accept, if_pos h1, if_neg h2, if_neg h249, if_pos h293, if_neg h294, if_pos h315, if_pos h316, if_neg h317, if_neg h323]; try rfl)
              · refine wp_seg 2 (P := none) (ls' := [some (aR 5 (0)), some (aI (c)), some (aI (1))]) (st' := [aI (114), aI (c)]) (σ' := σ) rq_65 rfl True.intro (i' := 49) rfl ?_
                refine wp_icmp rq_65 rfl (fun (h324 : ¬ (c) = 114) => ?_) (fun (h324 : ¬ (¬ (c) = 114)) => ?_)
                · refine wp_seg 2 (P := none) (ls' := [some (aR 5 (0)), some (aI (c)), some (aI (1))]) (st' := [aI (59), aI (c)]) (σ' := σ) rq_65 rfl True.intro (i' := 77) rfl ?_
                  refine wp_icmp rq_65 rfl (fun (h325 : ¬ (c) = 59) => ?_) (fun (h325 : ¬ (¬ (c) = 59)) => ?_)
                  · refine wp_seg 1 (P := none) (ls' := [some (aR 5 (0)), some (aI (c)), some (aI (1))]) (st' := [aI (0)]) (σ' := σ) rq_65 rfl True.intro (i' := 99) rfl ?_
                    refine wp_zret rq_65 rfl rt_65 ?_ ⟨?_, ?_⟩
                    · first | exact Or.inl rfl | exact Or.inr rfl
                    · (rw [zo_accept, if_pos h1, if_neg h2, if_neg h249, if_pos h293, if_neg h294, if_pos h315, if_neg h316, if_pos h324, if_pos h325]; try rfl)
                    · (rw [zm_accept, if_pos h1, if_neg h2, if_neg h249, if_pos h293, if_neg h294, if_pos h315, if_neg h316, if_pos h324, if_pos h325]; try rfl)
                  · refine wp_seg 3 (P := none) (ls' := [some (aR 5 (0)), some (aI (c)), some (aI (1))]) (st' := [aI (3), aI (σ 5 (0) 5)]) (σ' := σ) rq_65 rfl True.intro (i' := 81) rfl ?_
                    refine wp_icmp rq_65 rfl (fun (h326 : (σ 5 (0) 5) = 3) => ?_) (fun (h326 : ¬ ((σ 5 (0) 5) = 3)) => ?_)
                    · refine wp_seg 8 (P := none) (ls' := [some (aR 5 (0)), some (aI (c)), some (aI (1))]) (st' := [aI (0), aR 5 (0)]) (σ' := (up σ 5 (0) 4 (wr ((σ 5 (0) 4) + (1))))) rq_65 rfl True.intro (i' := 96) rfl ?_
                      refine wp_call (C := 5) (As := [aR 5 (0), aI (0)]) (rest := []) rq_65 (ev_openPart (0) (up σ 5 (0) 4 (wr ((σ 5 (0) 4) + (1)))) ) rfl rfl (show clOK 65 66 0 0 0 2 5 = true by decide +kernel) rfl (show 0 ≤ 4 by decide) (fun _ => ⟨_, rfl⟩) rfl (c' := 0) (s' := 0) rfl rfl ?_
                      refine wp_goto rq_65 rfl ?_
                      refine wp_seg 1 (P := none) (ls' := [some (aR 5 (0)), some (aI (c)), some (aI (1))]) (st' := [aI (1)]) (σ' := (zm_openPart (0) (up σ 5 (0) 4 (wr ((σ 5 (0) 4) + (1)))))) rq_65 rfl True.intro (i' := 101) rfl ?_
                      refine wp_zret rq_65 rfl rt_65 ?_ ⟨?_, ?_⟩
                      · first | exact Or.inl rfl | exact Or.inr rfl
                      · (rw [zo_accept, if_pos h1, if_neg h2, if_neg h249, if_pos h293, if_neg h294, if_pos h315, if_neg h316, if_pos h324, if_neg h325, if_pos h326]; try rfl)
                      · (rw [zm_accept, if_pos h1, if_neg h2, if_neg h249, if_pos h293, if_neg h294, if_pos h315, if_neg h316, if_pos h324, if_neg h325, if_pos h326]; try rfl)
                    · refine wp_seg 3 (P := none) (ls' := [some (aR 5 (0)), some (aI (c)), some (aI (1))]) (st' := [aI (2), aI (σ 5 (0) 5)]) (σ' := σ) rq_65 rfl True.intro (i' := 85) rfl ?_
                      refine wp_icmp rq_65 rfl (fun (h327 : ¬ (σ 5 (0) 5) = 2) => ?_) (fun (h327 : ¬ (¬ (σ 5 (0) 5) = 2)) => ?_)
                      · refine wp_seg 1 (P := none) (ls' := [some (aR 5 (0)), some (aI (c)), some (aI (1))]) (st' := [aI (0)]) (σ' := σ) rq_65 rfl True.intro (i' := 99) rfl ?_
                        refine wp_zret rq_65 rfl rt_65 ?_ ⟨?_, ?_⟩
                        · first | exact Or.inl rfl | exact Or.inr rfl
                        · (rw [zo_accept, if_pos h1, if_neg h2, if_neg h249, if_pos h293, if_neg h294, if_pos h315, if_neg h316, if_pos h324, if_neg h325, if_neg h326, if_pos h327]; try rfl)
                        · (rw [zm_accept, if_pos h1, if_neg h2, if_neg h249, if_pos h293, if_neg h294, if_pos h315, if_neg h316, if_pos h324, if_neg h325, if_neg h326, if_pos h327]; try rfl)
                      · refine wp_seg 1 (P := none) (ls' := [some (aR 5 (0)), some (aI (c)), some (aI (1))]) (st' := [aI (1)]) (σ' := σ) rq_65 rfl True.intro (i' := 87) rfl ?_
                        refine wp_if rq_65 rfl (fun (h328 : (1 : Int) = (0 : Int)) => absurd h328 (show ¬ ((1 : Int) = (0 : Int)) from by decide)) (fun _ => ?_)
                        refine wp_seg 8 (P := none) (ls' := [some (aR 5 (0)), some (aI (c)), some (aI (1))]) (st' := [aI (0), aR 5 (0)]) (σ' := (up σ 5 (0) 4 (wr ((σ 5 (0) 4) + (1))))) rq_65 rfl True.intro (i' := 96) rfl ?_
                        refine wp_call (C := 5) (As := [aR 5 (0), aI (0)]) (rest := []) rq_65 (ev_openPart (0) (up σ 5 (0) 4 (wr ((σ 5 (0) 4) + (1)))) ) rfl rfl (show clOK 65 66 0 0 0 2 5 = true by decide +kernel) rfl (show 0 ≤ 4 by decide) (fun _ => ⟨_, rfl⟩) rfl (c' := 0) (s' := 0) rfl rfl ?_
                        refine wp_goto rq_65 rfl ?_
                        refine wp_seg 1 (P := none) (ls' := [some (aR 5 (0)), some (aI (c)), some (aI (1))]) (st' := [aI (1)]) (σ' := (zm_openPart (0) (up σ 5 (0) 4 (wr ((σ 5 (0) 4) + (1)))))) rq_65 rfl True.intro (i' := 101) rfl ?_
                        refine wp_zret rq_65 rfl rt_65 ?_ ⟨?_, ?_⟩
                        · first | exact Or.inl rfl | exact Or.inr rfl
                        · (rw [zo_accept, if_pos h1, if_neg h2, if_neg h249, if_pos h293, if_neg h294, if_pos h315, if_neg h316, if_pos h324, if_neg h325, if_neg h326, if_neg h327]; try rfl)
                        · (rw [zm_accept, if_pos h1, if_neg h2, if_neg h249, if_pos h293, if_neg h294, if_pos h315, if_neg h316, if_pos h324, if_neg h325, if_neg h326, if_neg h327]; try rfl)
                · refine wp_seg 3 (P := none) (ls' := [some (aR 5 (0)), some (aI (c)), some (aI (1))]) (st' := [aI (2), aI (σ 5 (0) 5)]) (σ' := σ) rq_65 rfl True.intro (i' := 53) rfl ?_
                  refine wp_icmp rq_65 rfl (fun (h329 : ¬ (σ 5 (0) 5) = 2) => ?_) (fun (h329 : ¬ (¬ (σ 5 (0) 5) = 2)) => ?_)
                  · refine wp_seg 2 (P := none) (ls' := [some (aR 5 (0)), some (aI (c)), some (aI (1))]) (st' := [aI (59), aI (c)]) (σ' := σ) rq_65 rfl True.intro (i' := 77) rfl ?_
                    refine wp_icmp rq_65 rfl (fun (h330 : ¬ (c) = 59) => ?_) (fun (h330 : ¬ (¬ (c) = 59)) => ?_)
                    · refine wp_seg 1 (P := none) (ls' := [some (aR 5 (0)), some (aI (c)), some (aI (1))]) (st' := [aI (0)]) (σ' := σ) rq_65 rfl True.intro (i' := 99) rfl ?_
                      refine wp_zret rq_65 rfl rt_65 ?_ ⟨?_, ?_⟩
                      · first | exact Or.inl rfl | exact Or.inr rfl
                      · (rw [zo_accept, if_pos h1, if_neg h2, if_neg h249, if_pos h293, if_neg h294, if_pos h315, if_neg h316, if_neg h324, if_pos h329, if_pos h330]; try rfl)
                      · (rw [zm_accept, if_pos h1, if_neg h2, if_neg h249, if_pos h293, if_neg h294, if_pos h315, if_neg h316, if_neg h324, if_pos h329, if_pos h330]; try rfl)
                    · refine wp_seg 3 (P := none) (ls' := [some (aR 5 (0)), some (aI (c)), some (aI (1))]) (st' := [aI (3), aI (σ 5 (0) 5)]) (σ' := σ) rq_65 rfl True.intro (i' := 81) rfl ?_
                      refine wp_icmp rq_65 rfl (fun (h331 : (σ 5 (0) 5) = 3) => ?_) (fun (h331 : ¬ ((σ 5 (0) 5) = 3)) => ?_)
                      · refine wp_seg 8 (P := none) (ls' := [some (aR 5 (0)), some (aI (c)), some (aI (1))]) (st' := [aI (0), aR 5 (0)]) (σ' := (up σ 5 (0) 4 (wr ((σ 5 (0) 4) + (1))))) rq_65 rfl True.intro (i' := 96) rfl ?_
                        refine wp_call (C := 5) (As := [aR 5 (0), aI (0)]) (rest := []) rq_65 (ev_openPart (0) (up σ 5 (0) 4 (wr ((σ 5 (0) 4) + (1)))) ) rfl rfl (show clOK 65 66 0 0 0 2 5 = true by decide +kernel) rfl (show 0 ≤ 4 by decide) (fun _ => ⟨_, rfl⟩) rfl (c' := 0) (s' := 0) rfl rfl ?_
                        refine wp_goto rq_65 rfl ?_
                        refine wp_seg 1 (P := none) (ls' := [some (aR 5 (0)), some (aI (c)), some (aI (1))]) (st' := [aI (1)]) (σ' := (zm_openPart (0) (up σ 5 (0) 4 (wr ((σ 5 (0) 4) + (1)))))) rq_65 rfl True.intro (i' := 101) rfl ?_
                        refine wp_zret rq_65 rfl rt_65 ?_ ⟨?_, ?_⟩
                        · first | exact Or.inl rfl | exact Or.inr rfl
                        · (rw [zo_accept, if_pos h1, if_neg h2, if_neg h249, if_pos h293, if_neg h294, if_pos h315, if_neg h316, if_neg h324, if_pos h329, if_neg h330, if_pos h331]; try rfl)
                        · (rw [zm_accept, if_pos h1, if_neg h2, if_neg h249, if_pos h293, if_neg h294, if_pos h315, if_neg h316, if_neg h324, if_pos h329, if_neg h330, if_pos h331]; try rfl)
                      · refine wp_seg 3 (P := none) (ls' := [some (aR 5 (0)), some (aI (c)), some (aI (1))]) (st' := [aI (2), aI (σ 5 (0) 5)]) (σ' := σ) rq_65 rfl True.intro (i' := 85) rfl ?_
                        refine wp_icmp rq_65 rfl (fun (h332 : ¬ (σ 5 (0) 5) = 2) => ?_) (fun (h332 : ¬ (¬ (σ 5 (0) 5) = 2)) => ?_)
                        · refine wp_seg 1 (P := none) (ls' := [some (aR 5 (0)), some (aI (c)), some (aI (1))]) (st' := [aI (0)]) (σ' := σ) rq_65 rfl True.intro (i' := 99) rfl ?_
                          refine wp_zret rq_65 rfl rt_65 ?_ ⟨?_, ?_⟩
                          · first | exact Or.inl rfl | exact Or.inr rfl
                          · (rw [zo_accept, if_pos h1, if_neg h2, if_neg h249, if_pos h293, if_neg h294, if_pos h315, if_neg h316, if_neg h324, if_pos h329, if_neg h330, if_neg h331, if_pos h332]; try rfl)
                          · (rw [zm_accept, if_pos h1, if_neg h2, if_neg h249, if_pos h293, if_neg h294, if_pos h315, if_neg h316, if_neg h324, if_pos h329, if_neg h330, if_neg h331, if_pos h332]; try rfl)
                        · refine wp_seg 1 (P := none) (ls' := [some (aR 5 (0)), some (aI (c)), some (aI (1))]) (st' := [aI (1)]) (σ' := σ) rq_65 rfl True.intro (i' := 87) rfl ?_
                          refine wp_if rq_65 rfl (fun (h333 : (1 : Int) = (0 : Int)) => absurd h333 (show ¬ ((1 : Int) = (0 : Int)) from by decide)) (fun _ => ?_)
                          refine wp_seg 8 (P := none) (ls' := [some (aR 5 (0)), some (aI (c)), some (aI (1))]) (st' := [aI (0), aR 5 (0)]) (σ' := (up σ 5 (0) 4 (wr ((σ 5 (0) 4) + (1))))) rq_65 rfl True.intro (i' := 96) rfl ?_
                          refine wp_call (C := 5) (As := [aR 5 (0), aI (0)]) (rest := []) rq_65 (ev_openPart (0) (up σ 5 (0) 4 (wr ((σ 5 (0) 4) + (1)))) ) rfl rfl (show clOK 65 66 0 0 0 2 5 = true by decide +kernel) rfl (show 0 ≤ 4 by decide) (fun _ => ⟨_, rfl⟩) rfl (c' := 0) (s' := 0) rfl rfl ?_
                          refine wp_goto rq_65 rfl ?_
                          refine wp_seg 1 (P := none) (ls' := [some (aR 5 (0)), some (aI (c)), some (aI (1))]) (st' := [aI (1)]) (σ' := (zm_openPart (0) (up σ 5 (0) 4 (wr ((σ 5 (0) 4) + (1)))))) rq_65 rfl True.intro (i' := 101) rfl ?_
                          refine wp_zret rq_65 rfl rt_65 ?_ ⟨?_, ?_⟩
                          · first | exact Or.inl rfl | exact Or.inr rfl
                          · (rw [zo_accept, if_pos h1, if_neg h2, if_neg h249, if_pos h293, if_neg h294, if_pos h315, if_neg h316, if_neg h324, if_pos h329, if_neg h330, if_neg h331, if_neg h332]; try rfl)
                          · (rw [zm_accept, if_pos h1, if_neg h2, if_neg h249, if_pos h293, if_neg h294, if_pos h315, if_neg h316, if_neg h324, if_pos h329, if_neg h330, if_neg h331, if_neg h332]; try rfl)
                  · refine wp_seg 1 (P := none) (ls' := [some (aR 5 (0)), some (aI (c)), some (aI (1))]) (st' := [aI (1)]) (σ' := σ) rq_65 rfl True.intro (i' := 55) rfl ?_
                    refine wp_if rq_65 rfl (fun (h334 : (1 : Int) = (0 : Int)) => absurd h334 (show ¬ ((1 : Int) = (0 : Int)) from by decide)) (fun _ => ?_)
                    refine wp_seg 2 (P := none) (ls' := [some (aR 5 (0)), some (aI (c)), some (aI (1))]) (st' := [aI (3), aR 5 (0)]) (σ' := σ) rq_65 rfl True.intro (i' := 58) rfl ?_
                    refine wp_call (C := 5) (As := [aR 5 (0), aI (3)]) (rest := []) rq_65 (ev_openPart (3) σ ) rfl rfl (show clOK 65 66 0 0 0 2 5 = true by decide +kernel) rfl (show 0 ≤ 4 by decide) (fun _ => ⟨_, rfl⟩) rfl (c' := 0) (s' := 0) rfl rfl ?_
                    refine wp_seg 10 (P := none) (ls' := [some (aR 5 (0)), some (aI (c)), some (aI (1))]) (st' := [aI (108), aI (c), aI (wr ((wr ((4) * ((zm_openPart (3) σ) 5 (0) 4))) + (3))), aR 7 (185)]) (σ' := (zm_openPart (3) σ)) rq_65 rfl True.intro (i' := 69) rfl ?_
                    refine wp_icmp rq_65 rfl (fun (h335 : ¬ (c) = 108) => ?_) (fun (h335 : ¬ (¬ (c) = 108)) => ?_)
                    · refine wp_seg 1 (P := none) (ls' := [some (aR 5 (0)), some (aI (c)), some (aI (1))]) (st' := [aI (1), aI (wr ((wr ((4) * ((zm_openPart (3) σ) 5 (0) 4))) + (3))), aR 7 (185)]) (σ' := (zm_openPart (3) σ)) rq_65 rfl True.intro (i' := 73) rfl ?_
                      refine wp_call (C := 7) (As := [aR 7 (185), aI (wr ((wr ((4) * ((zm_openPart (3) σ) 5 (0) 4))) + (3))), aI (1)]) (rest := []) rq_65 (ev_set (185) (wr ((wr ((4) * ((zm_openPart (3) σ) 5 (0) 4))) + (3))) (1) (zm_openPart (3) σ) ) rfl rfl (show clOK 65 79 0 0 0 3 7 = true by decide +kernel) rfl (show 0 ≤ 4 by decide) (fun _ => ⟨_, rfl⟩) rfl (c' := 0) (s' := 0) rfl rfl ?_
                      refine wp_goto rq_65 rfl ?_
                      refine wp_seg 1 (P := none) (ls' := [some (aR 5 (0)), some (aI (c)), some (aI (1))]) (st' := [aI (1)]) (σ' := (rset (zm_openPart (3) σ) (185) (wr ((wr ((4) * ((zm_openPart (3) σ) 5 (0) 4))) + (3))) (1))) rq_65 rfl True.intro (i' := 101) rfl ?_
                      refine wp_zret rq_65 rfl rt_65 ?_ ⟨?_, ?_⟩
                      · first | exact Or.inl rfl | exact Or.inr rfl
                      · (rw [zo_accept, if_pos h1, if_neg h2, if_neg h249, if_pos h293, if_neg h294, if_pos h315, if_neg h316, if_neg h324, if_neg h329, if_pos h335]; try rfl)
                      · (rw [zm_accept, if_pos h1, if_neg h2, if_neg h249, if_pos h293, if_neg h294, if_pos h315, if_neg h316, if_neg h324, if_neg h329, if_pos h335]; try rfl)
                    · refine wp_seg 1 (P := none) (ls' := [some (aR 5 (0)), some (aI (c)), some (aI (1))]) (st' := [aI (0), aI (wr ((wr ((4) * ((zm_openPart (3) σ) 5 (0) 4))) + (3))), aR 7 (185)]) (σ' := (zm_openPart (3) σ)) rq_65 rfl True.intro (i' := 71) rfl ?_
                      refine wp_goto rq_65 rfl ?_
                      refine wp_call (C := 7) (As := [aR 7 (185), aI (wr ((wr ((4) * ((zm_openPart (3) σ) 5 (0) 4))) + (3))), aI (0)]) (rest := []) rq_65 (ev_set (185) (wr ((wr ((4) * ((zm_openPart (3) σ) 5 (0) 4))) + (3))) (0) (zm_openPart (3) σ) ) rfl rfl (show clOK 65 79 0 0 0 3 7 = true by decide +kernel) rfl (show 0 ≤ 4 by decide) (fun _ => ⟨_, rfl⟩) rfl (c' := 0) (s' := 0) rfl rfl ?_
                      refine wp_goto rq_65 rfl ?_
                      refine wp_seg 1 (P := none) (ls' := [some (aR 5 (0)), some (aI (c)), some (aI (1))]) (st' := [aI (1)]) (σ' := (rset (zm_openPart (3) σ) (185) (wr ((wr ((4) * ((zm_openPart (3) σ) 5 (0) 4))) + (3))) (0))) rq_65 rfl True.intro (i' := 101) rfl ?_
                      refine wp_zret rq_65 rfl rt_65 ?_ ⟨?_, ?_⟩
                      · first | exact Or.inl rfl | exact Or.inr rfl
                      · (rw [zo_accept, if_pos h1, if_neg h2, if_neg h249, if_pos h293, if_neg h294, if_pos h315, if_neg h316, if_neg h324, if_neg h329, if_neg h335]; try rfl)
                      · (rw [zm_accept, if_pos h1, if_neg h2, if_neg h249, if_pos h293, if_neg h294, if_pos h315, if_neg h316, if_neg h324, if_neg h329, if_neg h335]; try rfl)
            · refine wp_seg 1 (P := none) (ls' := [some (aR 5 (0)), some (aI (c)), some (aI (1))]) (st' := [aI (1)]) (σ' := σ) rq_65 rfl True.intro (i' := 39) rfl ?_
              refine wp_if rq_65 rfl (fun (h336 : (1 : Int) = (0 : Int)) => absurd h336 (show ¬ ((1 : Int) = (0 : Int)) from by decide)) (fun _ => ?_)
              refine wp_seg 2 (P := none) (ls' := [some (aR 5 (0)), some (aI (c)), some (aI (1))]) (st' := [aI (2), aR 5 (0)]) (σ' := σ) rq_65 rfl True.intro (i' := 42) rfl ?_
              refine wp_call (C := 5) (As := [aR 5 (0), aI (2)]) (rest := []) rq_65 (ev_openPart (2) σ ) rfl rfl (show clOK 65 66 0 0 0 2 5 = true by decide +kernel) rfl (show 0 ≤ 4 by decide) (fun _ => ⟨_, rfl⟩) rfl (c' := 0) (s' := 0) rfl rfl ?_
              refine wp_goto rq_65 rfl ?_
              refine wp_seg 1 (P := none) (ls' := [some (aR 5 (0)), some (aI (c)), some (aI (1))]) (st' := [aI (1)]) (σ' := (zm_openPart (2) σ)) rq_65 rfl True.intro (i' := 101) rfl ?_
              refine wp_zret rq_65 rfl rt_65 ?_ ⟨?_, ?_⟩
              · first | exact Or.inl rfl | exact Or.inr rfl
              · (rw [zo_accept, if_pos h1, if_neg h2, if_neg h249, if_pos h293, if_neg h294, if_neg h315]; try rfl)
              · (rw [zm_accept, if_pos h1, if_neg h2, if_neg h249, if_pos h293, if_neg h294, if_neg h315]; try rfl)
        · refine wp_seg 1 (P := none) (ls' := [some (aR 5 (0)), some (aI (c)), some (aI (1))]) (st' := [aI (1)]) (σ' := σ) rq_65 rfl True.intro (i' := 26) rfl ?_
          refine wp_if rq_65 rfl (fun (h337 : (1 : Int) = (0 : Int)) => absurd h337 (show ¬ ((1 : Int) = (0 : Int)) from by decide)) (fun _ => ?_)
          refine wp_seg 2 (P := none) (ls' := [some (aR 5 (0)), some (aI (c)), some (aI (1))]) (st' := [aI (1), aR 5 (0)]) (σ' := σ) rq_65 rfl True.intro (i' := 29) rfl ?_
          refine wp_call (C := 5) (As := [aR 5 (0), aI (1)]) (rest := []) rq_65 (ev_openPart (1) σ ) rfl rfl (show clOK 65 66 0 0 0 2 5 = true by decide +kernel) rfl (show 0 ≤ 4 by decide) (fun _ => ⟨_, rfl⟩) rfl (c' := 0) (s' := 0) rfl rfl ?_
          refine wp_goto rq_65 rfl ?_
          refine wp_seg 1 (P := none) (ls' := [some (aR 5 (0)), some (aI (c)), some (aI (1))]) (st' := [aI (1)]) (σ' := (zm_openPart (1) σ)) rq_65 rfl True.intro (i' := 101) rfl ?_
          refine wp_zret rq_65 rfl rt_65 ?_ ⟨?_, ?_⟩
          · first | exact Or.inl rfl | exact Or.inr rfl
          · (rw [zo_accept, if_pos h1, if_neg h2, if_neg h249, if_neg h293]; try rfl)
          · (rw [zm_accept, if_pos h1, if_neg h2, if_neg h249, if_neg h293]; try rfl)
  · refine wp_seg 2 (P := none) (ls' := [some (aR 5 (0)), some (aI (c)), none]) (st' := [aI (57), aI (c)]) (σ' := σ) rq_65 rfl True.intro (i' := 5) rfl ?_
    refine wp_icmp rq_65 rfl (fun (h338 : 57 < (c)) => ?_) (fun (h338 : ¬ (57 < (c))) => ?_)
    · refine wp_seg 2 (P := none) (ls' := [some (aR 5 (0)), some (aI (c)), none]) (st' := [aI (σ 5 (0) 6)]) (σ' := σ) rq_65 rfl True.intro (i' := 14) rfl ?_
      refine wp_if rq_65 rfl (fun (h339 : (σ 5 (0) 6) ≤ 0) => ?_) (fun (h339 : ¬ ((σ 5 (0) 6) ≤ 0)) => ?_)
      · refine wp_seg 4 (P := none) (ls' := [some (aR 5 (0)), some (aI (c)), some (aI (0))]) (st' := [aI (61), aI (c)]) (σ' := σ) rq_65 rfl True.intro (i' := 21) rfl ?_
        refine wp_icmp rq_65 rfl (fun (h340 : ¬ (c) = 61) => ?_) (fun (h340 : ¬ (¬ (c) = 61)) => ?_)
        · refine wp_seg 2 (P := none) (ls' := [some (aR 5 (0)), some (aI (c)), some (aI (0))]) (st' := [aI (58), aI (c)]) (σ' := σ) rq_65 rfl True.intro (i' := 33) rfl ?_
          refine wp_icmp rq_65 rfl (fun (h341 : ¬ (c) = 58) => ?_) (fun (h341 : ¬ (¬ (c) = 58)) => ?_)
          · refine wp_seg 2 (P := none) (ls' := [some (aR 5 (0)), some (aI (c)), some (aI (0))]) (st' := [aI (108), aI (c)]) (σ' := σ) rq_65 rfl True.intro (i' := 46) rfl ?_
            refine wp_icmp rq_65 rfl (fun (h342 : (c) = 108) => ?_) (fun (h342 : ¬ ((c) = 108)) => ?_)
            · refine wp_seg 3 (P := none) (ls' := [some (aR 5 (0)), some (aI (c)), some (aI (0))]) (st' := [aI (2), aI (σ 5 (0) 5)]) (σ' := σ) rq_65 rfl True.intro (i' := 53) rfl ?_
              refine wp_icmp rq_65 rfl (fun (h343 : ¬ (σ 5 (0) 5) = 2) => ?_) (fun (h343 : ¬ (¬ (σ 5 (0) 5) = 2)) => ?_)
              · refine wp_seg 2 (P := none) (ls' := [some (aR 5 (0)), some (aI (c)), some (aI (0))]) (st' := [aI (59), aI (c)]) (σ' := σ) rq_65 rfl True.intro (i' := 77) rfl ?_
                refine wp_icmp rq_65 rfl (fun (h344 : ¬ (c) = 59) => ?_) (fun (h344 : ¬ (¬ (c) = 59)) => ?_)
                · refine wp_seg 1 (P := none) (ls' := [some (aR 5 (0)), some (aI (c)), some (aI (0))]) (st' := [aI (0)]) (σ' := σ) rq_65 rfl True.intro (i' := 99) rfl ?_
                  refine wp_zret rq_65 rfl rt_65 ?_ ⟨?_, ?_⟩
                  · first | exact Or.inl rfl | exact Or.inr rfl
                  · (rw [zo_accept, if_neg h1, if_pos h338, if_pos h339, if_pos h340, if_pos h341, if_pos h342, if_pos h343, if_pos h344]; try rfl)
                  · (rw [zm_accept, if_neg h1, if_pos h338, if_pos h339, if_pos h340, if_pos h341, if_pos h342, if_pos h343, if_pos h344]; try rfl)
                · refine wp_seg 3 (P := none) (ls' := [some (aR 5 (0)), some (aI (c)), some (aI (0))]) (st' := [aI (3), aI (σ 5 (0) 5)]) (σ' := σ) rq_65 rfl True.intro (i' := 81) rfl ?_
                  refine wp_icmp rq_65 rfl (fun (h345 : (σ 5 (0) 5) = 3) => ?_) (fun (h345 : ¬ ((σ 5 (0) 5) = 3)) => ?_)
                  · refine wp_seg 8 (P := none) (ls' := [some (aR 5 (0)), some (aI (c)), some (aI (0))]) (st' := [aI (0), aR 5 (0)]) (σ' := (up σ 5 (0) 4 (wr ((σ 5 (0) 4) + (1))))) rq_65 rfl True.intro (i' := 96) rfl ?_
                    refine wp_call (C := 5) (As := [aR 5 (0), aI (0)]) (rest := []) rq_65 (ev_openPart (0) (up σ 5 (0) 4 (wr ((σ 5 (0) 4) + (1)))) ) rfl rfl (show clOK 65 66 0 0 0 2 5 = true by decide +kernel) rfl (show 0 ≤ 4 by decide) (fun _ => ⟨_, rfl⟩) rfl (c' := 0) (s' := 0) rfl rfl ?_
                    refine wp_goto rq_65 rfl ?_
                    refine wp_seg 1 (P := none) (ls' := [some (aR 5 (0)), some (aI (c)), some (aI (0))]) (st' := [aI (1)]) (σ' := (zm_openPart (0) (up σ 5 (0) 4 (wr ((σ 5 (0) 4) + (1)))))) rq_65 rfl True.intro (i' := 101) rfl ?_
                    refine wp_zret rq_65 rfl rt_65 ?_ ⟨?_, ?_⟩
                    · first | exact Or.inl rfl | exact Or.inr rfl
                    · (rw [zo_accept, if_neg h1, if_pos h338, if_pos h339, if_pos h340, if_pos h341, if_pos h342, if_pos h343, if_neg h344, if_pos h345]; try rfl)
                    · (rw [zm_accept, if_neg h1, if_pos h338, if_pos h339, if_pos h340, if_pos h341, if_pos h342, if_pos h343, if_neg h344, if_pos h345]; try rfl)
                  · refine wp_seg 3 (P := none) (ls' := [some (aR 5 (0)), some (aI (c)), some (aI (0))]) (st' := [aI (2), aI (σ 5 (0) 5)]) (σ' := σ) rq_65 rfl True.intro (i' := 85) rfl ?_
                    refine wp_icmp rq_65 rfl (fun (h346 : ¬ (σ 5 (0) 5) = 2) => ?_) (fun (h346 : ¬ (¬ (σ 5 (0) 5) = 2)) => ?_)
                    · refine wp_seg 1 (P := none) (ls' := [some (aR 5 (0)), some (aI (c)), some (aI (0))]) (st' := [aI (0)]) (σ' := σ) rq_65 rfl True.intro (i' := 99) rfl ?_
                      refine wp_zret rq_65 rfl rt_65 ?_ ⟨?_, ?_⟩
                      · first | exact Or.inl rfl | exact Or.inr rfl
                      · (rw [zo_accept, if_neg h1, if_pos h338, if_pos h339, if_pos h340, if_pos h341, if_pos h342, if_pos h343, if_neg h344, if_neg h345, if_pos h346]; try rfl)
                      · (rw [zm_accept, if_neg h1, if_pos h338, if_pos h339, if_pos h340, if_pos h341, if_pos h342, if_pos h343, if_neg h344, if_neg h345, if_pos h346]; try rfl)
                    · refine wp_seg 1 (P := none) (ls' := [some (aR 5 (0)), some (aI (c)), some (aI (0))]) (st' := [aI (0)]) (σ' := σ) rq_65 rfl True.intro (i' := 87) rfl ?_
                      refine wp_if rq_65 rfl (fun _ => ?_) (fun (h347 : ¬ ((0 : Int) = (0 : Int))) => absurd (show (0 : Int) = (0 : Int) from by decide) h347)
                      refine wp_seg 1 (P := none) (ls' := [some (aR 5 (0)), some (aI (c)), some (aI (0))]) (st' := [aI (0)]) (σ' := σ) rq_65 rfl True.intro (i' := 99) rfl ?_
                      refine wp_zret rq_65 rfl rt_65 ?_ ⟨?_, ?_⟩
                      · first | exact Or.inl rfl | exact Or.inr rfl
                      · (rw [zo_accept, if_neg h1, if_pos h338, if_pos h339, if_pos h340, if_pos h341, if_pos h342, if_pos h343, if_neg h344, if_neg h345, if_neg h346]; try rfl)
                      · (rw [zm_accept, if_neg h1, if_pos h338, if_pos h339, if_pos h340, if_pos h341, if_pos h342, if_pos h343, if_neg h344, if_neg h345, if_neg h346]; try rfl)
              · refine wp_seg 1 (P := none) (ls' := [some (aR 5 (0)), some (aI (c)), some (aI (0))]) (st' := [aI (0)]) (σ' := σ) rq_65 rfl True.intro (i' := 55) rfl ?_
                refine wp_if rq_65 rfl (fun _ => ?_) (fun (h348 : ¬ ((0 : Int) = (0 : Int))) => absurd (show (0 : Int) = (0 : Int) from by decide) h348)
                refine wp_seg 2 (P := none) (ls' := [some (aR 5 (0)), some (aI (c)), some (aI (0))]) (st' := [aI (59), aI (c)]) (σ' := σ) rq_65 rfl True.intro (i' := 77) rfl ?_
                refine wp_icmp rq_65 rfl (fun (h349 : ¬ (c) = 59) => ?_) (fun (h349 : ¬ (¬ (c) = 59)) => ?_)
                · refine wp_seg 1 (P := none) (ls' := [some (aR 5 (0)), some (aI (c)), some (aI (0))]) (st' := [aI (0)]) (σ' := σ) rq_65 rfl True.intro (i' := 99) rfl ?_
                  refine wp_zret rq_65 rfl rt_65 ?_ ⟨?_, ?_⟩
                  · first | exact Or.inl rfl | exact Or.inr rfl
                  · (rw [zo_accept, if_neg h1, if_pos h338, if_pos h339, if_pos h340, if_pos h341, if_pos h342, if_neg h343, if_pos h349]; try rfl)
                  · (rw [zm_accept, if_neg h1, if_pos h338, if_pos h339, if_pos h340, if_pos h341, if_pos h342, if_neg h343, if_pos h349]; try rfl)
                · refine wp_seg 3 (P := none) (ls' := [some (aR 5 (0)), some (aI (c)), some (aI (0))]) (st' := [aI (3), aI (σ 5 (0) 5)]) (σ' := σ) rq_65 rfl True.intro (i' := 81) rfl ?_
                  refine wp_icmp rq_65 rfl (fun (h350 : (σ 5 (0) 5) = 3) => ?_) (fun (h350 : ¬ ((σ 5 (0) 5) = 3)) => ?_)
                  · refine wp_seg 8 (P := none) (ls' := [some (aR 5 (0)), some (aI (c)), some (aI (0))]) (st' := [aI (0), aR 5 (0)]) (σ' := (up σ 5 (0) 4 (wr ((σ 5 (0) 4) + (1))))) rq_65 rfl True.intro (i' := 96) rfl ?_
                    refine wp_call (C := 5) (As := [aR 5 (0), aI (0)]) (rest := []) rq_65 (ev_openPart (0) (up σ 5 (0) 4 (wr ((σ 5 (0) 4) + (1)))) ) rfl rfl (show clOK 65 66 0 0 0 2 5 = true by decide +kernel) rfl (show 0 ≤ 4 by decide) (fun _ => ⟨_, rfl⟩) rfl (c' := 0) (s' := 0) rfl rfl ?_
                    refine wp_goto rq_65 rfl ?_
                    refine wp_seg 1 (P := none) (ls' := [some (aR 5 (0)), some (aI (c)), some (aI (0))]) (st' := [aI (1)]) (σ' := (zm_openPart (0) (up σ 5 (0) 4 (wr ((σ 5 (0) 4) + (1)))))) rq_65 rfl True.intro (i' := 101) rfl ?_
                    refine wp_zret rq_65 rfl rt_65 ?_ ⟨?_, ?_⟩
                    · first | exact Or.inl rfl | exact Or.inr rfl
                    · (rw [zo_accept, if_neg h1, if_pos h338, if_pos h339, if_pos h340, if_pos h341, if_pos h342, if_neg h343, if_neg h349, if_pos h350]; try rfl)
                    · (rw [zm_accept, if_neg h1, if_pos h338, if_pos h339, if_pos h340, if_pos h341, if_pos h342, if_neg h343, if_neg h349, if_pos h350]; try rfl)
                  · refine wp_seg 3 (P := none) (ls' := [some (aR 5 (0)), some (aI (c)), some (aI (0))]) (st' := [aI (2), aI (σ 5 (0) 5)]) (σ' := σ) rq_65 rfl True.intro (i' := 85) rfl ?_
                    refine wp_icmp rq_65 rfl (fun (h351 : ¬ (σ 5 (0) 5) = 2) => ?_) (fun (h351 : ¬ (¬ (σ 5 (0) 5) = 2)) => ?_)
                    · refine wp_seg 1 (P := none) (ls' := [some (aR 5 (0)), some (aI (c)), some (aI (0))]) (st' := [aI (0)]) (σ' := σ) rq_65 rfl True.intro (i' := 99) rfl ?_
                      refine wp_zret rq_65 rfl rt_65 ?_ ⟨?_, ?_⟩
                      · first | exact Or.inl rfl | exact Or.inr rfl
                      · (rw [zo_accept, if_neg h1, if_pos h338, if_pos h339, if_pos h340, if_pos h341, if_pos h342, if_neg h343, if_neg h349, if_neg h350, if_pos h351]; try rfl)
                      · (rw [zm_accept, if_neg h1, if_pos h338, if_pos h339, if_pos h340, if_pos h341, if_pos h342, if_neg h343, if_neg h349, if_neg h350, if_pos h351]; try rfl)
                    · refine wp_seg 1 (P := none) (ls' := [some (aR 5 (0)), some (aI (c)), some (aI (0))]) (st' := [aI (0)]) (σ' := σ) rq_65 rfl True.intro (i' := 87) rfl ?_
                      refine wp_if rq_65 rfl (fun _ => ?_) (fun (h352 : ¬ ((0 : Int) = (0 : Int))) => absurd (show (0 : Int) = (0 : Int) from by decide) h352)
                      refine wp_seg 1 (P := none) (ls' := [some (aR 5 (0)), some (aI (c)), some (aI (0))]) (st' := [aI (0)]) (σ' := σ) rq_65 rfl True.intro (i' := 99) rfl ?_
                      refine wp_zret rq_65 rfl rt_65 ?_ ⟨?_, ?_⟩
                      · first | exact Or.inl rfl | exact Or.inr rfl
                      · (rw [zo_accept, if_neg h1, if_pos h338, if_pos h339, if_pos h340, if_pos h341, if_pos h342, if_neg h343, if_neg h349, if_neg h350, if_neg h351]; try rfl)
                      · (rw [zm_accept, if_neg h1, if_pos h338, if_pos h339, if_pos h340, if_pos h341, if_pos h342, if_neg h343, if_neg h349, if_neg h350, if_neg h351]; try rfl)
            · refine wp_seg 2 (P := none) (ls' := [some (aR 5 (0)), some (aI (c)), some (aI (0))]) (st' := [aI (114), aI (c)]) (σ' := σ) rq_65 rfl True.intro (i' := 49) rfl ?_
              refine wp_icmp rq_65 rfl (fun (h353 : ¬ (c) = 114) => ?_) (fun (h353 : ¬ (¬ (c) = 114)) => ?_)
              · refine wp_seg 2 (P := none) (ls' := [some (aR 5 (0)), some (aI (c)), some (aI (0))]) (st' := [aI (59), aI (c)]) (σ' := σ) rq_65 rfl True.intro (i' := 77) rfl ?_
                refine wp_icmp rq_65 rfl (fun (h354 : ¬ (c) = 59) => ?_) (fun (h354 : ¬ (¬ (c) = 59)) => ?_)
                · refine wp_seg 1 (P := none) (ls' := [some (aR 5 (0)), some (aI (c)), some (aI (0))]) (st' := [aI (0)]) (σ' := σ) rq_65 rfl True.intro (i' := 99) rfl ?_
                  refine wp_zret rq_65 rfl rt_65 ?_ ⟨?_, ?_⟩
                  · first | exact Or.inl rfl | exact Or.inr rfl
                  · (rw [zo_accept, if_neg h1, if_pos h338, if_pos h339, if_pos h340, if_pos h341, if_neg h342, if_pos h353, if_pos h354]; try rfl)
                  · (rw [zm_accept, if_neg h1, if_pos h338, if_pos h339, if_pos h340, if_pos h341, if_neg h342, if_pos h353, if_pos h354]; try rfl)
                · refine wp_seg 3 (P := none) (ls' := [some (aR 5 (0)), some (aI (c)), some (aI (0))]) (st' := [aI (3), aI (σ 5 (0) 5)]) (σ' := σ) rq_65 rfl True.intro (i' := 81) rfl ?_
                  refine wp_icmp rq_65 rfl (fun (h355 : (σ 5 (0) 5) = 3) => ?_) (fun (h355 : ¬ ((σ 5 (0) 5) = 3)) => ?_)
                  · refine wp_seg 8 (P := none) (ls' := [some (aR 5 (0)), some (aI (c)), some (aI (0))]) (st' := [aI (0), aR 5 (0)]) (σ' := (up σ 5 (0) 4 (wr ((σ 5 (0) 4) + (1))))) rq_65 rfl True.intro (i' := 96) rfl ?_
                    refine wp_call (C := 5) (As := [aR 5 (0), aI (0)]) (rest := []) rq_65 (ev_openPart (0) (up σ 5 (0) 4 (wr ((σ 5 (0) 4) + (1)))) ) rfl rfl (show clOK 65 66 0 0 0 2 5 = true by decide +kernel) rfl (show 0 ≤ 4 by decide) (fun _ => ⟨_, rfl⟩) rfl (c' := 0) (s' := 0) rfl rfl ?_
                    refine wp_goto rq_65 rfl ?_
                    refine wp_seg 1 (P := none) (ls' := [some (aR 5 (0)), some (aI (c)), some (aI (0))]) (st' := [aI (1)]) (σ' := (zm_openPart (0) (up σ 5 (0) 4 (wr ((σ 5 (0) 4) + (1)))))) rq_65 rfl True.intro (i' := 101) rfl ?_
                    refine wp_zret rq_65 rfl rt_65 ?_ ⟨?_, ?_⟩
                    · first | exact Or.inl rfl | exact Or.inr rfl
                    · (rw [zo_accept, if_neg h1, if_pos h338, if_pos h339, if_pos h340, if_pos h341, if_neg h342, if_pos h353, if_neg h354, if_pos h355]; try rfl)
                    · (rw [zm_accept, if_neg h1, if_pos h338, if_pos h339, if_pos h340, if_pos h341, if_neg h342, if_pos h353, if_neg h354, if_pos h355]; try rfl)
                  · refine wp_seg 3 (P := none) (ls' := [some (aR 5 (0)), some (aI (c)), some (aI (0))]) (st' := [aI (2), aI (σ 5 (0) 5)]) (σ' := σ) rq_65 rfl True.intro (i' := 85) rfl ?_
                    refine wp_icmp rq_65 rfl (fun (h356 : ¬ (σ 5 (0) 5) = 2) => ?_) (fun (h356 : ¬ (¬ (σ 5 (0) 5) = 2)) => ?_)
                    · refine wp_seg 1 (P := none) (ls' := [some (aR 5 (0)), some (aI (c)), some (aI (0))]) (st' := [aI (0)]) (σ' := σ) rq_65 rfl True.intro (i' := 99) rfl ?_
                      refine wp_zret rq_65 rfl rt_65 ?_ ⟨?_, ?_⟩
                      · first | exact Or.inl rfl | exact Or.inr rfl
                      · (rw [zo_accept, if_neg h1, if_pos h338, if_pos h339, if_pos h340, if_pos h341, if_neg h342, if_pos h353, if_neg h354, if_neg h355, if_pos h356]; try rfl)
                      · (rw [zm_accept, if_neg h1, if_pos h338, if_pos h339, if_pos h340, if_pos h341, if_neg h342, if_pos h353, if_neg h354, if_neg h355, if_pos h356]; try rfl)
                    · refine wp_seg 1 (P := none) (ls' := [some (aR 5 (0)), some (aI (c)), some (aI (0))]) (st' := [aI (0)]) (σ' := σ) rq_65 rfl True.intro (i' := 87) rfl ?_
                      refine wp_if rq_65 rfl (fun _ => ?_) (fun (h357 : ¬ ((0 : Int) = (0 : Int))) => absurd (show (0 : Int) = (0 : Int) from by decide) h357)
                      refine wp_seg 1 (P := none) (ls' := [some (aR 5 (0)), some (aI (c)), some (aI (0))]) (st' := [aI (0)]) (σ' := σ) rq_65 rfl True.intro (i' := 99) rfl ?_
                      refine wp_zret rq_65 rfl rt_65 ?_ ⟨?_, ?_⟩
                      · first | exact Or.inl rfl | exact Or.inr rfl
                      · (rw [zo_accept, if_neg h1, if_pos h338, if_pos h339, if_pos h340, if_pos h341, if_neg h342, if_pos h353, if_neg h354, if_neg h355, if_neg h356]; try rfl)
                      · (rw [zm_accept, if_neg h1, if_pos h338, if_pos h339, if_pos h340, if_pos h341, if_neg h342, if_pos h353, if_neg h354, if_neg h355, if_neg h356]; try rfl)
              · refine wp_seg 3 (P := none) (ls' := [some (aR 5 (0)), some (aI (c)), some (aI (0))]) (st' := [aI (2), aI (σ 5 (0) 5)]) (σ' := σ) rq_65 rfl True.intro (i' := 53) rfl ?_
                refine wp_icmp rq_65 rfl (fun (h358 : ¬ (σ 5 (0) 5) = 2) => ?_) (fun (h358 : ¬ (¬ (σ 5 (0) 5) = 2)) => ?_)
                · refine wp_seg 2 (P := none) (ls' := [some (aR 5 (0)), some (aI (c)), some (aI (0))]) (st' := [aI (59), aI (c)]) (σ' := σ) rq_65 rfl True.intro (i' := 77) rfl ?_
                  refine wp_icmp rq_65 rfl (fun (h359 : ¬ (c) = 59) => ?_) (fun (h359 : ¬ (¬ (c) = 59)) => ?_)
                  · refine wp_seg 1 (P := none) (ls' := [some (aR 5 (0)), some (aI (c)), some (aI (0))]) (st' := [aI (0)]) (σ' := σ) rq_65 rfl True.intro (i' := 99) rfl ?_
                    refine wp_zret rq_65 rfl rt_65 ?_ ⟨?_, ?_⟩
                    · first | exact Or.inl rfl | exact Or.inr rfl
                    · (rw [zo_accept, if_neg h1, if_pos h338, if_pos h339, if_pos h340, if_pos h341, if_neg h342, if_neg h353, if_pos h358, if_pos h359]; try rfl)
                    · (rw [zm_accept, if_neg h1, if_pos h338, if_pos h339, if_pos h340, if_pos h341, if_neg h342, if_neg h353, if_pos h358, if_pos h359]; try rfl)
                  · refine wp_seg 3 (P := none) (ls' := [some (aR 5 (0)), some (aI (c)), some (aI (0))]) (st' := [aI (3), aI (σ 5 (0) 5)]) (σ' := σ) rq_65 rfl True.intro (i' := 81) rfl ?_
                    refine wp_icmp rq_65 rfl (fun (h360 : (σ 5 (0) 5) = 3) => ?_) (fun (h360 : ¬ ((σ 5 (0) 5) = 3)) => ?_)
                    · refine wp_seg 8 (P := none) (ls' := [some (aR 5 (0)), some (aI (c)), some (aI (0))]) (st' := [aI (0), aR 5 (0)]) (σ' := (up σ 5 (0) 4 (wr ((σ 5 (0) 4) + (1))))) rq_65 rfl True.intro (i' := 96) rfl ?_
                      refine wp_call (C := 5) (As := [aR 5 (0), aI (0)]) (rest := []) rq_65 (ev_openPart (0) (up σ 5 (0) 4 (wr ((σ 5 (0) 4) + (1)))) ) rfl rfl (show clOK 65 66 0 0 0 2 5 = true by decide +kernel) rfl (show 0 ≤ 4 by decide) (fun _ => ⟨_, rfl⟩) rfl (c' := 0) (s' := 0) rfl rfl ?_
                      refine wp_goto rq_65 rfl ?_
                      refine wp_seg 1 (P := none) (ls' := [some (aR 5 (0)), some (aI (c)), some (aI (0))]) (st' := [aI (1)]) (σ' := (zm_openPart (0) (up σ 5 (0) 4 (wr ((σ 5 (0) 4) + (1)))))) rq_65 rfl True.intro (i' := 101) rfl ?_
                      refine wp_zret rq_65 rfl rt_65 ?_ ⟨?_, ?_⟩
                      · first | exact Or.inl rfl | exact Or.inr rfl
                      · (rw [zo_accept, if_neg h1, if_pos h338, if_pos h339, if_pos h340, if_pos h341, if_neg h342, if_neg h353, if_pos h358, if_neg h359, if_pos h360]; try rfl)
                      · (rw [zm_accept, if_neg h1, if_pos h338, if_pos h339, if_pos h340, if_pos h341, if_neg h342, if_neg h353, if_pos h358, if_neg h359, if_pos h360]; try rfl)
                    · refine wp_seg 3 (P := none) (ls' := [some (aR 5 (0)), some (aI (c)), some (aI (0))]) (st' := [aI (2), aI (σ 5 (0) 5)]) (σ' := σ) rq_65 rfl True.intro (i' := 85) rfl ?_
                      refine wp_icmp rq_65 rfl (fun (h361 : ¬ (σ 5 (0) 5) = 2) => ?_) (fun (h361 : ¬ (¬ (σ 5 (0) 5) = 2)) => ?_)
                      · refine wp_seg 1 (P := none) (ls' := [some (aR 5 (0)), some (aI (c)), some (aI (0))]) (st' := [aI (0)]) (σ' := σ) rq_65 rfl True.intro (i' := 99) rfl ?_
                        refine wp_zret rq_65 rfl rt_65 ?_ ⟨?_, ?_⟩
                        · first | exact Or.inl rfl | exact Or.inr rfl
                        · (rw [zo_accept, if_neg h1, if_pos h338, if_pos h339, if_pos h340, if_pos h341, if_neg h342, if_neg h353, if_pos h358, if_neg h359, if_neg h360, if_pos h361]; try rfl)
                        · (rw [zm_accept, if_neg h1, if_pos h338, if_pos h339, if_pos h340, if_pos h341, if_neg h342, if_neg h353, if_pos h358, if_neg h359, if_neg h360, if_pos h361]; try rfl)
                      · refine wp_seg 1 (P := none) (ls' := [some (aR 5 (0)), some (aI (c)), some (aI (0))]) (st' := [aI (0)]) (σ' := σ) rq_65 rfl True.intro (i' := 87) rfl ?_
                        refine wp_if rq_65 rfl (fun _ => ?_) (fun (h362 : ¬ ((0 : Int) = (0 : Int))) => absurd (show (0 : Int) = (0 : Int) from by decide) h362)
                        refine wp_seg 1 (P := none) (ls' := [some (aR 5 (0)), some (aI (c)), some (aI (0))]) (st' := [aI (0)]) (σ' := σ) rq_65 rfl True.intro (i' := 99) rfl ?_
                        refine wp_zret rq_65 rfl rt_65 ?_ ⟨?_, ?_⟩
                        · first | exact Or.inl rfl | exact Or.inr rfl
                        · (rw [zo_accept, if_neg h1, if_pos h338, if_pos h339, if_pos h340, if_pos h341, if_neg h342, if_neg h353, if_pos h358, if_neg h359, if_neg h360, if_neg h361]; try rfl)
                        · (rw [zm_accept, if_neg h1, if_pos h338, if_pos h339, if_pos h340, if_pos h341, if_neg h342, if_neg h353, if_pos h358, if_neg h359, if_neg h360, if_neg h361]; try rfl)
                · refine wp_seg 1 (P := none) (ls' := [some (aR 5 (0)), some (aI (c)), some (aI (0))]) (st' := [aI (0)]) (σ' := σ) rq_65 rfl True.intro (i' := 55) rfl ?_
                  refine wp_if rq_65 rfl (fun _ => ?_) (fun (h363 : ¬ ((0 : Int) = (0 : Int))) => absurd (show (0 : Int) = (0 : Int) from by decide) h363)
                  refine wp_seg 2 (P := none) (ls' := [some (aR 5 (0)), some (aI (c)), some (aI (0))]) (st' := [aI (59), aI (c)]) (σ' := σ) rq_65 rfl True.intro (i' := 77) rfl ?_
                  refine wp_icmp rq_65 rfl (fun (h364 : ¬ (c) = 59) => ?_) (fun (h364 : ¬ (¬ (c) = 59)) => ?_)
                  · refine wp_seg 1 (P := none) (ls' := [some (aR 5 (0)), some (aI (c)), some (aI (0))]) (st' := [aI (0)]) (σ' := σ) rq_65 rfl True.intro (i' := 99) rfl ?_
                    refine wp_zret rq_65 rfl rt_65 ?_ ⟨?_, ?_⟩
                    · first | exact Or.inl rfl | exact Or.inr rfl
                    · (rw [zo_accept, if_neg h1, if_pos h338, if_pos h339, if_pos h340, if_pos h341, if_neg h342, if_neg h353, if_neg h358, if_pos h364]; try rfl)
                    · (rw [zm_accept, if_neg h1, if_pos h338, if_pos h339, if_pos h340, if_pos h341, if_neg h342, if_neg h353, if_neg h358, if_pos h364]; try rfl)
                  · refine wp_seg 3 (P := none) (ls' := [some (aR 5 (0)), some (aI (c)), some (aI (0))]) (st' := [aI (3), aI (σ 5 (0) 5)]) (σ' := σ) rq_65 rfl True.intro (i' := 81) rfl ?_
                    refine wp_icmp rq_65 rfl (fun (h365 : (σ 5 (0) 5) = 3) => ?_) (fun (h365 : ¬ ((σ 5 (0) 5) = 3)) => ?_)
                    · refine wp_seg 8 (P := none) (ls' := [some (aR 5 (0)), some (aI (c)), some (aI (0))]) (st' := [aI (0), aR 5 (0)]) (σ' := (up σ 5 (0) 4 (wr ((σ 5 (0) 4) + (1))))) rq_65 rfl True.intro (i' := 96) rfl ?_
                      refine wp_call (C := 5) (As := [aR 5 (0), aI (0)]) (rest := []) rq_65 (ev_openPart (0) (up σ 5 (0) 4 (wr ((σ 5 (0) 4) + (1)))) ) rfl rfl (show clOK 65 66 0 0 0 2 5 = true by decide +kernel) rfl (show 0 ≤ 4 by decide) (fun _ => ⟨_, rfl⟩) rfl (c' := 0) (s' := 0) rfl rfl ?_
                      refine wp_goto rq_65 rfl ?_
                      refine wp_seg 1 (P := none) (ls' := [some (aR 5 (0)), some (aI (c)), some (aI (0))]) (st' := [aI (1)]) (σ' := (zm_openPart (0) (up σ 5 (0) 4 (wr ((σ 5 (0) 4) + (1)))))) rq_65 rfl True.intro (i' := 101) rfl ?_
                      refine wp_zret rq_65 rfl rt_65 ?_ ⟨?_, ?_⟩
                      · first | exact Or.inl rfl | exact Or.inr rfl
                      · (rw [zo_accept, if_neg h1, if_pos h338, if_pos h339, if_pos h340, if_pos h341, if_neg h342, if_neg h353, if_neg h358, if_neg h364, if_pos h365]; try rfl)
                      · (rw [zm_accept, if_neg h1, if_pos h338, if_pos h339, if_pos h340, if_pos h341, if_neg h342, if_neg h353, if_neg h358, if_neg h364, if_pos h365]; try rfl)
                    · refine wp_seg 3 (P := none) (ls' := [some (aR 5 (0)), some (aI (c)), some (aI (0))]) (st' := [aI (2), aI (σ 5 (0) 5)]) (σ' := σ) rq_65 rfl True.intro (i' := 85) rfl ?_
                      refine wp_icmp rq_65 rfl (fun (h366 : ¬ (σ 5 (0) 5) = 2) => ?_) (fun (h366 : ¬ (¬ (σ 5 (0) 5) = 2)) => ?_)
                      · refine wp_seg 1 (P := none) (ls' := [some (aR 5 (0)), some (aI (c)), some (aI (0))]) (st' := [aI (0)]) (σ' := σ) rq_65 rfl True.intro (i' := 99) rfl ?_
                        refine wp_zret rq_65 rfl rt_65 ?_ ⟨?_, ?_⟩
                        · first | exact Or.inl rfl | exact Or.inr rfl
                        · (rw [zo_accept, if_neg h1, if_pos h338, if_pos h339, if_pos h340, if_pos h341, if_neg h342, if_neg h353, if_neg h358, if_neg h364, if_neg h365, if_pos h366]; try rfl)
                        · (rw [zm_accept, if_neg h1, if_pos h338, if_pos h339, if_pos h340, if_pos h341, if_neg h342, if_neg h353, if_neg h358, if_neg h364, if_neg h365, if_pos h366]; try rfl)
                      · refine wp_seg 1 (P := none) (ls' := [some (aR 5 (0)), some (aI (c)), some (aI (0))]) (st' := [aI (0)]) (σ' := σ) rq_65 rfl True.intro (i' := 87) rfl ?_
                        refine wp_if rq_65 rfl (fun _ => ?_) (fun (h367 : ¬ ((0 : Int) = (0 : Int))) => absurd (show (0 : Int) = (0 : Int) from by decide) h367)
                        refine wp_seg 1 (P := none) (ls' := [some (aR 5 (0)), some (aI (c)), some (aI (0))]) (st' := [aI (0)]) (σ' := σ) rq_65 rfl True.intro (i' := 99) rfl ?_
                        refine wp_zret rq_65 rfl rt_65 ?_ ⟨?_, ?_⟩
                        · first | exact Or.inl rfl | exact Or.inr rfl
                        · (rw [zo_accept, if_neg h1, if_pos h338, if_pos h339, if_pos h340, if_pos h341, if_neg h342, if_neg h353, if_neg h358, if_neg h364, if_neg h365, if_neg h366]; try rfl)
                        · (rw [zm_accept, if_neg h1, if_pos h338, if_pos h339, if_pos h340, if_pos h341, if_neg h342, if_neg h353, if_neg h358, if_neg h364, if_neg h365, if_neg h366]; try rfl)
          · refine wp_seg 3 (P := none) (ls' := [some (aR 5 (0)), some (aI (c)), some (aI (0))]) (st' := [aI (1), aI (σ 5 (0) 5)]) (σ' := σ) rq_65 rfl True.intro (i' := 37) rfl ?_
            refine wp_icmp rq_65 rfl (fun (h368 : ¬ (σ 5 (0) 5) = 1) => ?_) (fun (h368 : ¬ (¬ (σ 5 (0) 5) = 1)) => ?_)
            · refine wp_seg 2 (P := none) (ls' := [some (aR 5 (0)), some (aI (c)), some (aI (0))]) (st' := [aI (108), aI (c)]) (σ' := σ) rq_65 rfl True.intro (i' := 46) rfl ?_
              refine wp_icmp rq_65 rfl (fun (h369 : (c) = 108) => ?_) (fun (h369 : ¬ ((c) = 108)) => ?_)
              · refine wp_seg 3 (P := none) (ls' := [some (aR 5 (0)), some (aI (c)), some (aI (0))]) (st' := [aI (2), aI (σ 5 (0) 5)]) (σ' := σ) rq_65 rfl True.intro (i' := 53) rfl ?_
                refine wp_icmp rq_65 rfl (fun (h370 : ¬ (σ 5 (0) 5) = 2) => ?_) (fun (h370 : ¬ (¬ (σ 5 (0) 5) = 2)) => ?_)
                · refine wp_seg 2 (P := none) (ls' := [some (aR 5 (0)), some (aI (c)), some (aI (0))]) (st' := [aI (59), aI (c)]) (σ' := σ) rq_65 rfl True.intro (i' := 77) rfl ?_
                  refine wp_icmp rq_65 rfl (fun (h371 : ¬ (c) = 59) => ?_) (fun (h371 : ¬ (¬ (c) = 59)) => ?_)
                  · refine wp_seg 1 (P := none) (ls' := [some (aR 5 (0)), some (aI (c)), some (aI (0))]) (st' := [aI (0)]) (σ' := σ) rq_65 rfl True.intro (i' := 99) rfl ?_
                    refine wp_zret rq_65 rfl rt_65 ?_ ⟨?_, ?_⟩
                    · first | exact Or.inl rfl | exact Or.inr rfl
                    · (rw [zo_accept, if_neg h1, if_pos h338, if_pos h339, if_pos h340, if_neg h341, if_pos h368, if_pos h369, if_pos h370, if_pos h371]; try rfl)
                    · (rw [zm_accept, if_neg h1, if_pos h338, if_pos h339, if_pos h340, if_neg h341, if_pos h368, if_pos h369, if_pos h370, if_pos h371]; try rfl)
                  · refine wp_seg 3 (P := none) (ls' := [some (aR 5 (0)), some (aI (c)), some (aI (0))]) (st' := [aI (3), aI (σ 5 (0) 5)]) (σ' := σ) rq_65 rfl True.intro (i' := 81) rfl ?_
                    refine wp_icmp rq_65 rfl (fun (h372 : (σ 5 (0) 5) = 3) => ?_) (fun (h372 : ¬ ((σ 5 (0) 5) = 3)) => ?_)
                    · refine wp_seg 8 (P := none) (ls' := [some (aR 5 (0)), some (aI (c)), some (aI (0))]) (st' := [aI (0), aR 5 (0)]) (σ' := (up σ 5 (0) 4 (wr ((σ 5 (0) 4) + (1))))) rq_65 rfl True.intro (i' := 96) rfl ?_
                      refine wp_call (C := 5) (As := [aR 5 (0), aI (0)]) (rest := []) rq_65 (ev_openPart (0) (up σ 5 (0) 4 (wr ((σ 5 (0) 4) + (1)))) ) rfl rfl (show clOK 65 66 0 0 0 2 5 = true by decide +kernel) rfl (show 0 ≤ 4 by decide) (fun _ => ⟨_, rfl⟩) rfl (c' := 0) (s' := 0) rfl rfl ?_
                      refine wp_goto rq_65 rfl ?_
                      refine wp_seg 1 (P := none) (ls' := [some (aR 5 (0)), some (aI (c)), some (aI (0))]) (st' := [aI (1)]) (σ' := (zm_openPart (0) (up σ 5 (0) 4 (wr ((σ 5 (0) 4) + (1)))))) rq_65 rfl True.intro (i' := 101) rfl ?_
                      refine wp_zret rq_65 rfl rt_65 ?_ ⟨?_, ?_⟩
                      · first | exact Or.inl rfl | exact Or.inr rfl
                      · (rw [zo_accept, if_neg h1, if_pos h338, if_pos h339, if_pos h340, if_neg h341, if_pos h368, if_pos h369, if_pos h370, if_neg h371, if_pos h372]; try rfl)
                      · (rw [zm_accept, if_neg h1, if_pos h338, if_pos h339, if_pos h340, if_neg h341, if_pos h368, if_pos h369, if_pos h370, if_neg h371, if_pos h372]; try rfl)
                    · refine wp_seg 3 (P := none) (ls' := [some (aR 5 (0)), some (aI (c)), some (aI (0))]) (st' := [aI (2), aI (σ 5 (0) 5)]) (σ' := σ) rq_65 rfl True.intro (i' := 85) rfl ?_
                      refine wp_icmp rq_65 rfl (fun (h373 : ¬ (σ 5 (0) 5) = 2) => ?_) (fun (h373 : ¬ (¬ (σ 5 (0) 5) = 2)) => ?_)
                      · refine wp_seg 1 (P := none) (ls' := [some (aR 5 (0)), some (aI (c)), some (aI (0))]) (st' := [aI (0)]) (σ' := σ) rq_65 rfl True.intro (i' := 99) rfl ?_
                        refine wp_zret rq_65 rfl rt_65 ?_ ⟨?_, ?_⟩
                        · first | exact Or.inl rfl | exact Or.inr rfl
                        · (rw [zo_accept, if_neg h1, if_pos h338, if_pos h339, if_pos h340, if_neg h341, if_pos h368, if_pos h369, if_pos h370, if_neg h371, if_neg h372, if_pos h373]; try rfl)
                        · (rw [zm_accept, if_neg h1, if_pos h338, if_pos h339, if_pos h340, if_neg h341, if_pos h368, if_pos h369, if_pos h370, if_neg h371, if_neg h372, if_pos h373]; try rfl)
                      · refine wp_seg 1 (P := none) (ls' := [some (aR 5 (0)), some (aI (c)), some (aI (0))]) (st' := [aI (0)]) (σ' := σ) rq_65 rfl True.intro (i' := 87) rfl ?_
                        refine wp_if rq_65 rfl (fun _ => ?_) (fun (h374 : ¬ ((0 : Int) = (0 : Int))) => absurd (show (0 : Int) = (0 : Int) from by decide) h374)
                        refine wp_seg 1 (P := none) (ls' := [some (aR 5 (0)), some (aI (c)), some (aI (0))]) (st' := [aI (0)]) (σ' := σ) rq_65 rfl True.intro (i' := 99) rfl ?_
                        refine wp_zret rq_65 rfl rt_65 ?_ ⟨?_, ?_⟩
                        · first | exact Or.inl rfl | exact Or.inr rfl
                        · (rw [zo_accept, if_neg h1, if_pos h338, if_pos h339, if_pos h340, if_neg h341, if_pos h368, if_pos h369, if_pos h370, if_neg h371, if_neg h372, if_neg h373]; try rfl)
                        · (rw [zm_accept, if_neg h1, if_pos h338, if_pos h339, if_pos h340, if_neg h341, if_pos h368, if_pos h369, if_pos h370, if_neg h371, if_neg h372, if_neg h373]; try rfl)
                · refine wp_seg 1 (P := none) (ls' := [some (aR 5 (0)), some (aI (c)), some (aI (0))]) (st' := [aI (0)]) (σ' := σ) rq_65 rfl True.intro (i' := 55) rfl ?_
                  refine wp_if rq_65 rfl (fun _ => ?_) (fun (h375 : ¬ ((0 : Int) = (0 : Int))) => absurd (show (0 : Int) = (0 : Int) from by decide) h375)
                  refine wp_seg 2 (P := none) (ls' := [some (aR 5 (0)), some (aI (c)), some (aI (0))]) (st' := [aI (59), aI (c)]) (σ' := σ) rq_65 rfl True.intro (i' := 77) rfl ?_
                  refine wp_icmp rq_65 rfl (fun (h376 : ¬ (c) = 59) => ?_) (fun (h376 : ¬ (¬ (c) = 59)) => ?_)
                  · refine wp_seg 1 (P := none) (ls' := [some (aR 5 (0)), some (aI (c)), some (aI (0))]) (st' := [aI (0)]) (σ' := σ) rq_65 rfl True.intro (i' := 99) rfl ?_
                    refine wp_zret rq_65 rfl rt_65 ?_ ⟨?_, ?_⟩
                    · first | exact Or.inl rfl | exact Or.inr rfl
                    · (rw [zo_accept, if_neg h1, if_pos h338, if_pos h339, if_pos h340, if_neg h341, if_pos h368, if_pos h369, if_neg h370, if_pos h376]; try rfl)
                    · (rw [zm_accept, if_neg h1, if_pos h338, if_pos h339, if_pos h340, if_neg h341, if_pos h368, if_pos h369, if_neg h370, if_pos h376]; try rfl)
                  · refine wp_seg 3 (P := none) (ls' := [some (aR 5 (0)), some (aI (c)), some (aI (0))]) (st' := [aI (3), aI (σ 5 (0) 5)]) (σ' := σ) rq_65 rfl True.intro (i' := 81) rfl ?_
                    refine wp_icmp rq_65 rfl (fun (h377 : (σ 5 (0) 5) = 3) => ?_) (fun (h377 : ¬ ((σ 5 (0) 5) = 3)) => ?_)
                    · refine wp_seg 8 (P := none) (ls' := [some (aR 5 (0)), some (aI (c)), some (aI (0))]) (st' := [aI (0), aR 5 (0)]) (σ' := (up σ 5 (0) 4 (wr ((σ 5 (0) 4) + (1))))) rq_65 rfl True.intro (i' := 96) rfl ?_
                      refine wp_call (C := 5) (As := [aR 5 (0), aI (0)]) (rest := []) rq_65 (ev_openPart (0) (up σ 5 (0) 4 (wr ((σ 5 (0) 4) + (1)))) ) rfl rfl (show clOK 65 66 0 0 0 2 5 = true by decide +kernel) rfl (show 0 ≤ 4 by decide) (fun _ => ⟨_, rfl⟩) rfl (c' := 0) (s' := 0) rfl rfl ?_
                      refine wp_goto rq_65 rfl ?_
                      refine wp_seg 1 (P := none) (ls' := [some (aR 5 (0)), some (aI (c)), some (aI (0))]) (st' := [aI (1)]) (σ' := (zm_openPart (0) (up σ 5 (0) 4 (wr ((σ 5 (0) 4) + (1)))))) rq_65 rfl True.intro (i' := 101) rfl ?_
                      refine wp_zret rq_65 rfl rt_65 ?_ ⟨?_, ?_⟩
                      · first | exact Or.inl rfl | exact Or.inr rfl
                      · (rw [zo_accept, if_neg h1, if_pos h338, if_pos h339, if_pos h340, if_neg h341, if_pos h368, if_pos h369, if_neg h370, if_neg h376, if_pos h377]; try rfl)
                      · (rw [zm_accept, if_neg h1, if_pos h338, if_pos h339, if_pos h340, if_neg h341, if_pos h368, if_pos h369, if_neg h370, if_neg h376, if_pos h377]; try rfl)
                    · refine wp_seg 3 (P := none) (ls' := [some (aR 5 (0)), some (aI (c)), some (aI (0))]) (st' := [aI (2), aI (σ 5 (0) 5)]) (σ' := σ) rq_65 rfl True.intro (i' := 85) rfl ?_
                      refine wp_icmp rq_65 rfl (fun (h378 : ¬ (σ 5 (0) 5) = 2) => ?_) (fun (h378 : ¬ (¬ (σ 5 (0) 5) = 2)) => ?_)
                      · refine wp_seg 1 (P := none) (ls' := [some (aR 5 (0)), some (aI (c)), some (aI (0))]) (st' := [aI (0)]) (σ' := σ) rq_65 rfl True.intro (i' := 99) rfl ?_
                        refine wp_zret rq_65 rfl rt_65 ?_ ⟨?_, ?_⟩
                        · first | exact Or.inl rfl | exact Or.inr rfl
                        · (rw [zo_accept, if_neg h1, if_pos h338, if_pos h339, if_pos h340, if_neg h341, if_pos h368, if_pos h369, if_neg h370, if_neg h376, if_neg h377, if_pos h378]; try rfl)
                        · (rw [zm_accept, if_neg h1, if_pos h338, if_pos h339, if_pos h340, if_neg h341, if_pos h368, if_pos h369, if_neg h370, if_neg h376, if_neg h377, if_pos h378]; try rfl)
                      · refine wp_seg 1 (P := none) (ls' := [some (aR 5 (0)), some (aI (c)), some (aI (0))]) (st' := [aI (0)]) (σ' := σ) rq_65 rfl True.intro (i' := 87) rfl ?_
                        refine wp_if rq_65 rfl (fun _ => ?_) (fun (h379 : ¬ ((0 : Int) = (0 : Int))) => absurd (show (0 : Int) = (0 : Int) from by decide) h379)
                        refine wp_seg 1 (P := none) (ls' := [some (aR 5 (0)), some (aI (c)), some (aI (0))]) (st' := [aI (0)]) (σ' := σ) rq_65 rfl True.intro (i' := 99) rfl ?_
                        refine wp_zret rq_65 rfl rt_65 ?_ ⟨?_, ?_⟩
                        · first | exact Or.inl rfl | exact Or.inr rfl
                        · (rw [zo_accept, if_neg h1, if_pos h338, if_pos h339, if_pos h340, if_neg h341, if_pos h368, if_pos h369, if_neg h370, if_neg h376, if_neg h377, if_neg h378]; try rfl)
                        · (rw [zm_accept, if_neg h1, if_pos h338, if_pos h339, if_pos h340, if_neg h341, if_pos h368, if_pos h369, if_neg h370, if_neg h376, if_neg h377, if_neg h378]; try rfl)
              · refine wp_seg 2 (P := none) (ls' := [some (aR 5 (0)), some (aI (c)), some (aI (0))]) (st' := [aI (114), aI (c)]) (σ' := σ) rq_65 rfl True.intro (i' := 49) rfl ?_
                refine wp_icmp rq_65 rfl (fun (h380 : ¬ (c) = 114) => ?_) (fun (h380 : ¬ (¬ (c) = 114)) => ?_)
                · refine wp_seg 2 (P := none) (ls' := [some (aR 5 (0)), some (aI (c)), some (aI (0))]) (st' := [aI (59), aI (c)]) (σ' := σ) rq_65 rfl True.intro (i' := 77) rfl ?_
                  refine wp_icmp rq_65 rfl (fun (h381 : ¬ (c) = 59) => ?_) (fun (h381 : ¬ (¬ (c) = 59)) => ?_)
                  · refine wp_seg 1 (P := none) (ls' := [some (aR 5 (0)), some (aI (c)), some (aI (0))]) (st' := [aI (0)]) (σ' := σ) rq_65 rfl True.intro (i' := 99) rfl ?_
                    refine wp_zret rq_65 rfl rt_65 ?_ ⟨?_, ?_⟩
                    · first | exact Or.inl rfl | exact Or.inr rfl
                    · (rw [zo_accept, if_neg h1, if_pos h338, if_pos h339, if_pos h340, if_neg h341, if_pos h368, if_neg h369, if_pos h380, if_pos h381]; try rfl)
                    · (rw [zm_accept, if_neg h1, if_pos h338, if_pos h339, if_pos h340, if_neg h341, if_pos h368, if_neg h369, if_pos h380, if_pos h381]; try rfl)
                  · refine wp_seg 3 (P := none) (ls' := [some (aR 5 (0)), some (aI (c)), some (aI (0))]) (st' := [aI (3), aI (σ 5 (0) 5)]) (σ' := σ) rq_65 rfl True.intro (i' := 81) rfl ?_
                    refine wp_icmp rq_65 rfl (fun (h382 : (σ 5 (0) 5) = 3) => ?_) (fun (h382 : ¬ ((σ 5 (0) 5) = 3)) => ?_)
                    · refine wp_seg 8 (P := none) (ls' := [some (aR 5 (0)), some (aI (c)), some (aI (0))]) (st' := [aI (0), aR 5 (0)]) (σ' := (up σ 5 (0) 4 (wr ((σ 5 (0) 4) + (1))))) rq_65 rfl True.intro (i' := 96) rfl ?_
                      refine wp_call (C := 5) (As := [aR 5 (0), aI (0)]) (rest := []) rq_65 (ev_openPart (0) (up σ 5 (0) 4 (wr ((σ 5 (0) 4) + (1)))) ) rfl rfl (show clOK 65 66 0 0 0 2 5 = true by decide +kernel) rfl (show 0 ≤ 4 by decide) (fun _ => ⟨_, rfl⟩) rfl (c' := 0) (s' := 0) rfl rfl ?_
                      refine wp_goto rq_65 rfl ?_
                      refine wp_seg 1 (P := none) (ls' := [some (aR 5 (0)), some (aI (c)), some (aI (0))]) (st' := [aI (1)]) (σ' := (zm_openPart (0) (up σ 5 (0) 4 (wr ((σ 5 (0) 4) + (1)))))) rq_65 rfl True.intro (i' := 101) rfl ?_
                      refine wp_zret rq_65 rfl rt_65 ?_ ⟨?_, ?_⟩
                      · first | exact Or.inl rfl | exact Or.inr rfl
                      · (rw [zo_accept, if_neg h1, if_pos h338, if_pos h339, if_pos h340, if_neg h341, if_pos h368, if_neg h369, if_pos h380, if_neg h381, if_pos h382]; try rfl)
                      · (rw [zm_accept, if_neg h1, if_pos h338, if_pos h339, if_pos h340, if_neg h341, if_pos h368, if_neg h369, if_pos h380, if_neg h381, if_pos h382]; try rfl)
                    · refine wp_seg 3 (P := none) (ls' := [some (aR 5 (0)), some (aI (c)), some (aI (0))]) (st' := [aI (2), aI (σ 5 (0) 5)]) (σ' := σ) rq_65 rfl True.intro (i' := 85) rfl ?_
                      refine wp_icmp rq_65 rfl (fun (h383 : ¬ (σ 5 (0) 5) = 2) => ?_) (fun (h383 : ¬ (¬ (σ 5 (0) 5) = 2)) => ?_)
                      · refine wp_seg 1 (P := none) (ls' := [some (aR 5 (0)), some (aI (c)), some (aI (0))]) (st' := [aI (0)]) (σ' := σ) rq_65 rfl True.intro (i' := 99) rfl ?_
                        refine wp_zret rq_65 rfl rt_65 ?_ ⟨?_, ?_⟩
                        · first | exact Or.inl rfl | exact Or.inr rfl
                        · (rw [zo_accept, if_neg h1, if_pos h338, if_pos h339, if_pos h340, if_neg h341, if_pos h368, if_neg h369, if_pos h380, if_neg h381, if_neg h382, if_pos h383]; try rfl)
                        · (rw [zm_accept, if_neg h1, if_pos h338, if_pos h339, if_pos h340, if_neg h341, if_pos h368, if_neg h369, if_pos h380, if_neg h381, if_neg h382, if_pos h383]; try rfl)
                      · refine wp_seg 1 (P := none) (ls' := [some (aR 5 (0)), some (aI (c)), some (aI (0))]) (st' := [aI (0)]) (σ' := σ) rq_65 rfl True.intro (i' := 87) rfl ?_
                        refine wp_if rq_65 rfl (fun _ => ?_) (fun (h384 : ¬ ((0 : Int) = (0 : Int))) => absurd (show (0 : Int) = (0 : Int) from by decide) h384)
                        refine wp_seg 1 (P := none) (ls' := [some (aR 5 (0)), some (aI (c)), some (aI (0))]) (st' := [aI (0)]) (σ' := σ) rq_65 rfl True.intro (i' := 99) rfl ?_
                        refine wp_zret rq_65 rfl rt_65 ?_ ⟨?_, ?_⟩
                        · first | exact Or.inl rfl | exact Or.inr rfl
                        · (rw [zo_accept, if_neg h1, if_pos h338, if_pos h339, if_pos h340, if_neg h341, if_pos h368, if_neg h369, if_pos h380, if_neg h381, if_neg h382, if_neg h383]; try rfl)
                        · (rw [zm_accept, if_neg h1, if_pos h338, if_pos h339, if_pos h340, if_neg h341, if_pos h368, if_neg h369, if_pos h380, if_neg h381, if_neg h382, if_neg h383]; try rfl)
                · refine wp_seg 3 (P := none) (ls' := [some (aR 5 (0)), some (aI (c)), some (aI (0))]) (st' := [aI (2), aI (σ 5 (0) 5)]) (σ' := σ) rq_65 rfl True.intro (i' := 53) rfl ?_
                  refine wp_icmp rq_65 rfl (fun (h385 : ¬ (σ 5 (0) 5) = 2) => ?_) (fun (h385 : ¬ (¬ (σ 5 (0) 5) = 2)) => ?_)
                  · refine wp_seg 2 (P := none) (ls' := [some (aR 5 (0)), some (aI (c)), some (aI (0))]) (st' := [aI (59), aI (c)]) (σ' := σ) rq_65 rfl True.intro (i' := 77) rfl ?_
                    refine wp_icmp rq_65 rfl (fun (h386 : ¬ (c) = 59) => ?_) (fun (h386 : ¬ (¬ (c) = 59)) => ?_)
                    · refine wp_seg 1 (P := none) (ls' := [some (aR 5 (0)), some (aI (c)), some (aI (0))]) (st' := [aI (0)]) (σ' := σ) rq_65 rfl True.intro (i' := 99) rfl ?_
                      refine wp_zret rq_65 rfl rt_65 ?_ ⟨?_, ?_⟩
                      · first | exact Or.inl rfl | exact Or.inr rfl
                      · (rw [zo_accept, if_neg h1, if_pos h338, if_pos h339, if_pos h340, if_neg h341, if_pos h368, if_neg h369, if_neg h380, if_pos h385, if_pos h386]; try rfl)
                      · (rw [zm_accept, if_neg h1, if_pos h338, if_pos h339, if_pos h340, if_neg h341, if_pos h368, if_neg h369, if_neg h380, if_pos h385, if_pos h386]; try rfl)
                    · refine wp_seg 3 (P := none) (ls' := [some (aR 5 (0)), some (aI (c)), some (aI (0))]) (st' := [aI (3), aI (σ 5 (0) 5)]) (σ' := σ) rq_65 rfl True.intro (i' := 81) rfl ?_
                      refine wp_icmp rq_65 rfl (fun (h387 : (σ 5 (0) 5) = 3) => ?_) (fun (h387 : ¬ ((σ 5 (0) 5) = 3)) => ?_)
                      · refine wp_seg 8 (P := none) (ls' := [some (aR 5 (0)), some (aI (c)), some (aI (0))]) (st' := [aI (0), aR 5 (0)]) (σ' := (up σ 5 (0) 4 (wr ((σ 5 (0) 4) + (1))))) rq_65 rfl True.intro (i' := 96) rfl ?_
                        refine wp_call (C := 5) (As := [aR 5 (0), aI (0)]) (rest := []) rq_65 (ev_openPart (0) (up σ 5 (0) 4 (wr ((σ 5 (0) 4) + (1)))) ) rfl rfl (show clOK 65 66 0 0 0 2 5 = true by decide +kernel) rfl (show 0 ≤ 4 by decide) (fun _ => ⟨_, rfl⟩) rfl (c' := 0) (s' := 0) rfl rfl ?_
                        refine wp_goto rq_65 rfl ?_
                        refine wp_seg 1 (P := none) (ls' := [some (aR 5 (0)), some (aI (c)), some (aI (0))]) (st' := [aI (1)]) (σ' := (zm_openPart (0) (up σ 5 (0) 4 (wr ((σ 5 (0) 4) + (1)))))) rq_65 rfl True.intro (i' := 101) rfl ?_
                        refine wp_zret rq_65 rfl rt_65 ?_ ⟨?_, ?_⟩
                        · first | exact Or.inl rfl | exact Or.inr rfl
                        · (rw [zo_accept, if_neg h1, if_pos h338, if_pos h339, if_pos h340, if_neg h341, if_pos h368, if_neg h369, if_neg h380, if_pos h385, if_neg h386, if_pos h387]; try rfl)
                        · (rw [zm_accept, if_neg h1, if_pos h338, if_pos h339, if_pos h340, if_neg h341, if_pos h368, if_neg h369, if_neg h380, if_pos h385, if_neg h386, if_pos h387]; try rfl)
                      · refine wp_seg 3 (P := none) (ls' := [some (aR 5 (0)), some (aI (c)), some (aI (0))]) (st' := [aI (2), aI (σ 5 (0) 5)]) (σ' := σ) rq_65 rfl True.intro (i' := 85) rfl ?_
                        refine wp_icmp rq_65 rfl (fun (h388 : ¬ (σ 5 (0) 5) = 2) => ?_) (fun (h388 : ¬ (¬ (σ 5 (0) 5) = 2)) => ?_)
                        · refine wp_seg 1 (P := none) (ls' := [some (aR 5 (0)), some (aI (c)), some (aI (0))]) (st' := [aI (0)]) (σ' := σ) rq_65 rfl True.intro (i' := 99) rfl ?_
                          refine wp_zret rq_65 rfl rt_65 ?_ ⟨?_, ?_⟩
                          · first | exact Or.inl rfl | exact Or.inr rfl
                          · (rw [zo_accept, if_neg h1, if_pos h338, if_pos h339, if_pos h340, if_neg h341, if_pos h368, if_neg h369, if_neg h380, if_pos h385, if_neg h386, if_neg h387, if_pos h388]; try rfl)
                          · (rw [zm_accept, if_neg h1, if_pos h338, if_pos h339, if_pos h340, if_neg h341, if_pos h368, if_neg h369, if_neg h380, if_pos h385, if_neg h386, if_neg h387, if_pos h388]; try rfl)
                        · refine wp_seg 1 (P := none) (ls' := [some (aR 5 (0)), some (aI (c)), some (aI (0))]) (st' := [aI (0)]) (σ' := σ) rq_65 rfl True.intro (i' := 87) rfl ?_
                          refine wp_if rq_65 rfl (fun _ => ?_) (fun (h389 : ¬ ((0 : Int) = (0 : Int))) => absurd (show (0 : Int) = (0 : Int) from by decide) h389)
                          refine wp_seg 1 (P := none) (ls' := [some (aR 5 (0)), some (aI (c)), some (aI (0))]) (st' := [aI (0)]) (σ' := σ) rq_65 rfl True.intro (i' := 99) rfl ?_
                          refine wp_zret rq_65 rfl rt_65 ?_ ⟨?_, ?_⟩
                          · first | exact Or.inl rfl | exact Or.inr rfl
                          · (rw [zo_accept, if_neg h1, if_pos h338, if_pos h339, if_pos h340, if_neg h341, if_pos h368, if_neg h369, if_neg h380, if_pos h385, if_neg h386, if_neg h387, if_neg h388]; try rfl)
                          · (rw [zm_accept, if_neg h1, if_pos h338, if_pos h339, if_pos h340, if_neg h341, if_pos h368, if_neg h369, if_neg h380, if_pos h385, if_neg h386, if_neg h387, if_neg h388]; try rfl)
                  · refine wp_seg 1 (P := none) (ls' := [some (aR 5 (0)), some (aI (c)), some (aI (0))]) (st' := [aI (0)]) (σ' := σ) rq_65 rfl True.intro (i' := 55) rfl ?_
                    refine wp_if rq_65 rfl (fun _ => ?_) (fun (h390 : ¬ ((0 : Int) = (0 : Int))) => absurd (show (0 : Int) = (0 : Int) from by decide) h390)
                    refine wp_seg 2 (P := none) (ls' := [some (aR 5 (0)), some (aI (c)), some (aI (0))]) (st' := [aI (59), aI (c)]) (σ' := σ) rq_65 rfl True.intro (i' := 77) rfl ?_
                    refine wp_icmp rq_65 rfl (fun (h391 : ¬ (c) = 59) => ?_) (fun (h391 : ¬ (¬ (c) = 59)) => ?_)
                    · refine wp_seg 1 (P := none) (ls' := [some (aR 5 (0)), some (aI (c)), some (aI (0))]) (st' := [aI (0)]) (σ' := σ) rq_65 rfl True.intro (i' := 99) rfl ?_
                      refine wp_zret rq_65 rfl rt_65 ?_ ⟨?_, ?_⟩
                      · first | exact Or.inl rfl | exact Or.inr rfl
                      · (rw [zo_accept, if_neg h1, if_pos h338, if_pos h339, if_pos h340, if_neg h341, if_pos h368, if_neg h369, if_neg h380, if_neg h385, if_pos h391]; try rfl)
                      · (rw [zm_accept, if_neg h1, if_pos h338, if_pos h339, if_pos h340, if_neg h341, if_pos h368, if_neg h369, if_neg h380, if_neg h385, if_pos h391]; try rfl)
                    · refine wp_seg 3 (P := none) (ls' := [some (aR 5 (0)), some (aI (c)), some (aI (0))]) (st' := [aI (3), aI (σ 5 (0) 5)]) (σ' := σ) rq_65 rfl True.intro (i' := 81) rfl ?_
                      refine wp_icmp rq_65 rfl (fun (h392 : (σ 5 (0) 5) = 3) => ?_) (fun (h392 : ¬ ((σ 5 (0) 5) = 3)) => ?_)
                      · refine wp_seg 8 (P := none) (ls' := [some (aR 5 (0)), some (aI (c)), some (aI (0))]) (st' := [aI (0), aR 5 (0)]) (σ' := (up σ 5 (0) 4 (wr ((σ 5 (0) 4) + (1))))) rq_65 rfl True.intro (i' := 96) rfl ?_
                        refine wp_call (C := 5) (As := [aR 5 (0), aI (0)]) (rest := []) rq_65 (ev_openPart (0) (up σ 5 (0) 4 (wr ((σ 5 (0) 4) + (1)))) ) rfl rfl (show clOK 65 66 0 0 0 2 5 = true by decide +kernel) rfl (show 0 ≤ 4 by decide) (fun _ => ⟨_, rfl⟩) rfl (c' := 0) (s' := 0) rfl rfl ?_
                        refine wp_goto rq_65 rfl ?_
                        refine wp_seg 1 (P := none) (ls' := [some (aR 5 (0)), some (aI (c)), some (aI (0))]) (st' := [aI (1)]) (σ' := (zm_openPart (0) (up σ 5 (0) 4 (wr ((σ 5 (0) 4) + (1)))))) rq_65 rfl True.intro (i' := 101) rfl ?_
                        refine wp_zret rq_65 rfl rt_65 ?_ ⟨?_, ?_⟩
                        · first | exact Or.inl rfl | exact Or.inr rfl
                        · (rw [zo_accept, if_neg h1, if_pos h338, if_pos h339, if_pos h340, if_neg h341, if_pos h368, if_neg h369, if_neg h380, if_neg h385, if_neg h391, if_pos h392]; try rfl)
                        · (rw [zm_accept, if_neg h1, if_pos h338, if_pos h339, if_pos h340, if_neg h341, if_pos h368, if_neg h369, if_neg h380, if_neg h385, if_neg h391, if_pos h392]; try rfl)
                      · refine wp_seg 3 (P := none) (ls' := [some (aR 5 (0)), some (aI (c)), some (aI (0))]) (st' := [aI (2), aI (σ 5 (0) 5)]) (σ' := σ) rq_65 rfl True.intro (i' := 85) rfl ?_
                        refine wp_icmp rq_65 rfl (fun (h393 : ¬ (σ 5 (0) 5) = 2) => ?_) (fun (h393 : ¬ (¬ (σ 5 (0) 5) = 2)) => ?_)
                        · refine wp_seg 1 (P := none) (ls' := [some (aR 5 (0)), some (aI (c)), some (aI (0))]) (st' := [aI (0)]) (σ' := σ) rq_65 rfl True.intro (i' := 99) rfl ?_
                          refine wp_zret rq_65 rfl rt_65 ?_ ⟨?_, ?_⟩
                          · first | exact Or.inl rfl | exact Or.inr rfl
                          · (rw [zo_accept, if_neg h1, if_pos h338, if_pos h339, if_pos h340, if_neg h341, if_pos h368, if_neg h369, if_neg h380, if_neg h385, if_neg h391, if_neg h392, if_pos h393]; try rfl)
                          · (rw [zm_accept, if_neg h1, if_pos h338, if_pos h339, if_pos h340, if_neg h341, if_pos h368, if_neg h369, if_neg h380, if_neg h385, if_neg h391, if_neg h392, if_pos h393]; try rfl)
                        · refine wp_seg 1 (P := none) (ls' := [some (aR 5 (0)), some (aI (c)), some (aI (0))]) (st' := [aI (0)]) (σ' := σ) rq_65 rfl True.intro (i' := 87) rfl ?_
                          refine wp_if rq_65 rfl (fun _ => ?_) (fun (h394 : ¬ ((0 : Int) = (0 : Int))) => absurd (show (0 : Int) = (0 : Int) from by decide) h394)
                          refine wp_seg 1 (P := none) (ls' := [some (aR 5 (0)), some (aI (c)), some (aI (0))]) (st' := [aI (0)]) (σ' := σ) rq_65 rfl True.intro (i' := 99) rfl ?_
                          refine wp_zret rq_65 rfl rt_65 ?_ ⟨?_, ?_⟩
                          · first | exact Or.inl rfl | exact Or.inr rfl
                          · (rw [zo_accept, if_neg h1, if_pos h338, if_pos h339, if_pos h340, if_neg h341, if_pos h368, if_neg h369, if_neg h380, if_neg h385, if_neg h391, if_neg h392, if_neg h393]; try rfl)
                          · (rw [zm_accept, if_neg h1, if_pos h338, if_pos h339, if_pos h340, if_neg h341, if_pos h368, if_neg h369, if_neg h380, if_neg h385, if_neg h391, if_neg h392, if_neg h393]; try rfl)
            · refine wp_seg 1 (P := none) (ls' := [some (aR 5 (0)), some (aI (c)), some (aI (0))]) (st' := [aI (0)]) (σ' := σ) rq_65 rfl True.intro (i' := 39) rfl ?_
              refine wp_if rq_65 rfl (fun _ => ?_) (fun (h395 : ¬ ((0 : Int) = (0 : Int))) => absurd (show (0 : Int) = (0 : Int) from by decide) h395)
              refine wp_seg 2 (P := none) (ls' := [some (aR 5 (0)), some (aI (c)), some (aI (0))]) (st' := [aI (108), aI (c)]) (σ' := σ) rq_65 rfl True.intro (i' := 46) rfl ?_
              refine wp_icmp rq_65 rfl (fun (h396 : (c) = 108) => ?_) (fun (h396 : ¬ ((c) = 108)) => ?_)
              · refine wp_seg 3 (P := none) (ls' := [some (aR 5 (0)), some (aI (c)), some (aI (0))]) (st' := [aI (2), aI (σ 5 (0) 5)]) (σ' := σ) rq_65 rfl True.intro (i' := 53) rfl ?_
                refine wp_icmp rq_65 rfl (fun (h397 : ¬ (σ 5 (0) 5) = 2) => ?_) (fun (h397 : ¬ (¬ (σ 5 (0) 5) = 2)) => ?_)
                · refine wp_seg 2 (P := none) (ls' := [some (aR 5 (0)), some (aI (c)), some (aI (0))]) (st' := [aI (59), aI (c)]) (σ' := σ) rq_65 rfl True.intro (i' := 77) rfl ?_
                  refine wp_icmp rq_65 rfl (fun (h398 : ¬ (c) = 59) => ?_) (fun (h398 : ¬ (¬ (c) = 59)) => ?_)
                  · refine wp_seg 1 (P := none) (ls' := [some (aR 5 (0)), some (aI (c)), some (aI (0))]) (st' := [aI (0)]) (σ' := σ) rq_65 rfl True.intro (i' := 99) rfl ?_
                    refine wp_zret rq_65 rfl rt_65 ?_ ⟨?_, ?_⟩
                    · first | exact Or.inl rfl | exact Or.inr rfl
                    · (rw [zo_accept, if_neg h1, if_pos h338, if_pos h339, if_pos h340, if_neg h341, if_neg h368, if_pos h396, if_pos h397, if_pos h398]; try rfl)
                    · (rw [zm_accept, if_neg h1, if_pos h338, if_pos h339, if_pos h340, if_neg h341, if_neg h368, if_pos h396, if_pos h397, if_pos h398]; try rfl)
                  · refine wp_seg 3 (P := none) (ls' := [some (aR 5 (0)), some (aI (c)), some (aI (0))]) (st' := [aI (3), aI (σ 5 (0) 5)]) (σ' := σ) rq_65 rfl True.intro (i' := 81) rfl ?_
                    refine wp_icmp rq_65 rfl (fun (h399 : (σ 5 (0) 5) = 3) => ?_) (fun (h399 : ¬ ((σ 5 (0) 5) = 3)) => ?_)
                    · refine wp_seg 8 (P := none) (ls' := [some (aR 5 (0)), some (aI (c)), some (aI (0))]) (st' := [aI (0), aR 5 (0)]) (σ' := (up σ 5 (0) 4 (wr ((σ 5 (0) 4) + (1))))) rq_65 rfl True.intro (i' := 96) rfl ?_
                      refine wp_call (C := 5) (As := [aR 5 (0), aI (0)]) (rest := []) rq_65 (ev_openPart (0) (up σ 5 (0) 4 (wr ((σ 5 (0) 4) + (1)))) ) rfl rfl (show clOK 65 66 0 0 0 2 5 = true by decide +kernel) rfl (show 0 ≤ 4 by decide) (fun _ => ⟨_, rfl⟩) rfl (c' := 0) (s' := 0) rfl rfl ?_
                      refine wp_goto rq_65 rfl ?_
                      refine wp_seg 1 (P := none) (ls' := [some (aR 5 (0)), some (aI (c)), some (aI (0))]) (st' := [aI (1)]) (σ' := (zm_openPart (0) (up σ 5 (0) 4 (wr ((σ 5 (0) 4) + (1)))))) rq_65 rfl True.intro (i' := 101) rfl ?_
                      refine wp_zret rq_65 rfl rt_65 ?_ ⟨?_, ?_⟩
                      · first | exact Or.inl rfl | exact Or.inr rfl
                      · (rw [zo_accept, if_neg h1, if_pos h338, if_pos h339, if_pos h340, if_neg h341, if_neg h368, if_pos h396, if_pos h397, if_neg h398, if_pos h399]; try rfl)
                      · (rw [zm_accept, if_neg h1, if_pos h338, if_pos h339, if_pos h340, if_neg h341, if_neg h368, if_pos h396, if_pos h397, if_neg h398, if_pos h399]; try rfl)
                    · refine wp_seg 3 (P := none) (ls' := [some (aR 5 (0)), some (aI (c)), some (aI (0))]) (st' := [aI (2), aI (σ 5 (0) 5)]) (σ' := σ) rq_65 rfl True.intro (i' := 85) rfl ?_
                      refine wp_icmp rq_65 rfl (fun (h400 : ¬ (σ 5 (0) 5) = 2) => ?_) (fun (h400 : ¬ (¬ (σ 5 (0) 5) = 2)) => ?_)
                      · refine wp_seg 1 (P := none) (ls' := [some (aR 5 (0)), some (aI (c)), some (aI (0))]) (st' := [aI (0)]) (σ' := σ) rq_65 rfl True.intro (i' := 99) rfl ?_
                        refine wp_zret rq_65 rfl rt_65 ?_ ⟨?_, ?_⟩
                        · first | exact Or.inl rfl | exact Or.inr rfl
                        · (rw [zo_accept, if_neg h1, if_pos h338, if_pos h339, if_pos h340, if_neg h341, if_neg h368, if_pos h396, if_pos h397, if_neg h398, if_neg h399, if_pos h400]; try rfl)
                        · (rw [zm_accept, if_neg h1, if_pos h338, if_pos h339, if_pos h340, if_neg h341, if_neg h368, if_pos h396, if_pos h397, if_neg h398, if_neg h399, if_pos h400]; try rfl)
                      · refine wp_seg 1 (P := none) (ls' := [some (aR 5 (0)), some (aI (c)), some (aI (0))]) (st' := [aI (0)]) (σ' := σ) rq_65 rfl True.intro (i' := 87) rfl ?_
                        refine wp_if rq_65 rfl (fun _ => ?_) (fun (h401 : ¬ ((0 : Int) = (0 : Int))) => absurd (show (0 : Int) = (0 : Int) from by decide) h401)
                        refine wp_seg 1 (P := none) (ls' := [some (aR 5 (0)), some (aI (c)), some (aI (0))]) (st' := [aI (0)]) (σ' := σ) rq_65 rfl True.intro (i' := 99) rfl ?_
                        refine wp_zret rq_65 rfl rt_65 ?_ ⟨?_, ?_⟩
                        · first | exact Or.inl rfl | exact Or.inr rfl
                        · (rw [zo_accept, if_neg h1, if_pos h338, if_pos h339, if_pos h340, if_neg h341, if_neg h368, if_pos h396, if_pos h397, if_neg h398, if_neg h399, if_neg h400]; try rfl)
                        · (rw [zm_accept, if_neg h1, if_pos h338, if_pos h339, if_pos h340, if_neg h341, if_neg h368, if_pos h396, if_pos h397, if_neg h398, if_neg h399, if_neg h400]; try rfl)
                · refine wp_seg 1 (P := none) (ls' := [some (aR 5 (0)), some (aI (c)), some (aI (0))]) (st' := [aI (0)]) (σ' := σ) rq_65 rfl True.intro (i' := 55) rfl ?_
                  refine wp_if rq_65 rfl (fun _ => ?_) (fun (h402 : ¬ ((0 : Int) = (0 : Int))) => absurd (show (0 : Int) = (0 : Int) from by decide) h402)
                  refine wp_seg 2 (P := none) (ls' := [some (aR 5 (0)), some (aI (c)), some (aI (0))]) (st' := [aI (59), aI (c)]) (σ' := σ) rq_65 rfl True.intro (i' := 77) rfl ?_
                  refine wp_icmp rq_65 rfl (fun (h403 : ¬ (c) = 59) => ?_) (fun (h403 : ¬ (¬ (c) = 59)) => ?_)
                  · refine wp_seg 1 (P := none) (ls' := [some (aR 5 (0)), some (aI (c)), some (aI (0))]) (st' := [aI (0)]) (σ' := σ) rq_65 rfl True.intro (i' := 99) rfl ?_
                    refine wp_zret rq_65 rfl rt_65 ?_ ⟨?_, ?_⟩
                    · first | exact Or.inl rfl | exact Or.inr rfl
                    · (rw [zo_accept, if_neg h1, if_pos h338, if_pos h339, if_pos h340, if_neg h341, if_neg h368, if_pos h396, if_neg h397, if_pos h403]; try rfl)
                    · (rw [zm_accept, if_neg h1, if_pos h338, if_pos h339, if_pos h340, if_neg h341, if_neg h368, if_pos h396, if_neg h397, if_pos h403]; try rfl)
                  · refine wp_seg 3 (P := none) (ls' := [some (aR 5 (0)), some (aI (c)), some (aI (0))]) (st' := [aI (3), aI (σ 5 (0) 5)]) (σ' := σ) rq_65 rfl True.intro (i' := 81) rfl ?_
                    refine wp_icmp rq_65 rfl (fun (h404 : (σ 5 (0) 5) = 3) => ?_) (fun (h404 : ¬ ((σ 5 (0) 5) = 3)) => ?_)
                    · refine wp_seg 8 (P := none) (ls' := [some (aR 5 (0)), some (aI (c)), some (aI (0))]) (st' := [aI (0), aR 5 (0)]) (σ' := (up σ 5 (0) 4 (wr ((σ 5 (0) 4) + (1))))) rq_65 rfl True.intro (i' := 96) rfl ?_
                      refine wp_call (C := 5) (As := [aR 5 (0), aI (0)]) (rest := []) rq_65 (ev_openPart (0) (up σ 5 (0) 4 (wr ((σ 5 (0) 4) + (1)))) ) rfl rfl (show clOK 65 66 0 0 0 2 5 = true by decide +kernel) rfl (show 0 ≤ 4 by decide) (fun _ => ⟨_, rfl⟩) rfl (c' := 0) (s' := 0) rfl rfl ?_
                      refine wp_goto rq_65 rfl ?_
                      refine wp_seg 1 (P := none) (ls' := [some (aR 5 (0)), some (aI (c)), some (aI (0))]) (st' := [aI (1)]) (σ' := (zm_openPart (0) (up σ 5 (0) 4 (wr ((σ 5 (0) 4) + (1)))))) rq_65 rfl True.intro (i' := 101) rfl ?_
                      refine wp_zret rq_65 rfl rt_65 ?_ ⟨?_, ?_⟩
                      · first | exact Or.inl rfl | exact Or.inr rfl
                      · (rw [zo_accept, if_neg h1, if_pos h338, if_pos h339, if_pos h340, if_neg h341, if_neg h368, if_pos h396, if_neg h397, if_neg h403, if_pos h404]; try rfl)
                      · (rw [zm_accept, if_neg h1, if_pos h338, if_pos h339, if_pos h340, if_neg h341, if_neg h368, if_pos h396, if_neg h397, if_neg h403, if_pos h404]; try rfl)
                    · refine wp_seg 3 (P := none) (ls' := [some (aR 5 (0)), some (aI (c)), some (aI (0))]) (st' := [aI (2), aI (σ 5 (0) 5)]) (σ' := σ) rq_65 rfl True.intro (i' := 85) rfl ?_
                      refine wp_icmp rq_65 rfl (fun (h405 : ¬ (σ 5 (0) 5) = 2) => ?_) (fun (h405 : ¬ (¬ (σ 5 (0) 5) = 2)) => ?_)
                      · refine wp_seg 1 (P := none) (ls' := [some (aR 5 (0)), some (aI (c)), some (aI (0))]) (st' := [aI (0)]) (σ' := σ) rq_65 rfl True.intro (i' := 99) rfl ?_
                        refine wp_zret rq_65 rfl rt_65 ?_ ⟨?_, ?_⟩
                        · first | exact Or.inl rfl | exact Or.inr rfl
                        · (rw [zo_accept, if_neg h1, if_pos h338, if_pos h339, if_pos h340, if_neg h341, if_neg h368, if_pos h396, if_neg h397, if_neg h403, if_neg h404, if_pos h405]; try rfl)
                        · (rw [zm_accept, if_neg h1, if_pos h338, if_pos h339, if_pos h340, if_neg h341, if_neg h368, if_pos h396, if_neg h397, if_neg h403, if_neg h404, if_pos h405]; try rfl)
                      · refine wp_seg 1 (P := none) (ls' := [some (aR 5 (0)), some (aI (c)), some (aI (0))]) (st' := [aI (0)]) (σ' := σ) rq_65 rfl True.intro (i' := 87) rfl ?_
                        refine wp_if rq_65 rfl (fun _ => ?_) (fun (h406 : ¬ ((0 : Int) = (0 : Int))) => absurd (show (0 : Int) = (0 : Int) from by decide) h406)
                        refine wp_seg 1 (P := none) (ls' := [some (aR 5 (0)), some (aI (c)), some (aI (0))]) (st' := [aI (0)]) (σ' := σ) rq_65 rfl True.intro (i' := 99) rfl ?_
                        refine wp_zret rq_65 rfl rt_65 ?_ ⟨?_, ?_⟩
                        · first | exact Or.inl rfl | exact Or.inr rfl
                        · (rw [zo_accept, if_neg h1, if_pos h338, if_pos h339, if_pos h340, if_neg h341, if_neg h368, if_pos h396, if_neg h397, if_neg h403, if_neg h404, if_neg h405]; try rfl)
                        · (rw [zm_accept, if_neg h1, if_pos h338, if_pos h339, if_pos h340, if_neg h341, if_neg h368, if_pos h396, if_neg h397, if_neg h403, if_neg h404, if_neg h405]; try rfl)
              · refine wp_seg 2 (P := none) (ls' := [some (aR 5 (0)), some (aI (c)), some (aI (0))]) (st' := [aI (114), aI (c)]) (σ' := σ) rq_65 rfl True.intro (i' := 49) rfl ?_
                refine wp_icmp rq_65 rfl (fun (h407 : ¬ (c) = 114) => ?_) (fun (h407 : ¬ (¬ (c) = 114)) => ?_)
                · refine wp_seg 2 (P := none) (ls' := [some (aR 5 (0)), some (aI (c)), some (aI (0))]) (st' := [aI (59), aI (c)]) (σ' := σ) rq_65 rfl True.intro (i' := 77) rfl ?_
                  refine wp_icmp rq_65 rfl (fun (h408 : ¬ (c) = 59) => ?_) (fun (h408 : ¬ (¬ (c) = 59)) => ?_)
                  · refine wp_seg 1 (P := none) (ls' := [some (aR 5 (0)), some (aI (c)), some (aI (0))]) (st' := [aI (0)]) (σ' := σ) rq_65 rfl True.intro (i' := 99) rfl ?_
                    refine wp_zret rq_65 rfl rt_65 ?_ ⟨?_, ?_⟩
                    · first | exact Or.inl rfl | exact Or.inr rfl
                    · (rw [zo_accept, if_neg h1, if_pos h338, if_pos h339, if_pos h340, if_neg h341, if_neg h368, if_neg h396, if_pos h407, if_pos h408]; try rfl)
                    · (rw [zm_accept, if_neg h1, if_pos h338, if_pos h339, if_pos h340, if_neg h341, if_neg h368, if_neg h396, if_pos h407, if_pos h408]; try rfl)
                  · refine wp_seg 3 (P := none) (ls' := [some (aR 5 (0)), some (aI (c)), some (aI (0))]) (st' := [aI (3), aI (σ 5 (0) 5)]) (σ' := σ) rq_65 rfl True.intro (i' := 81) rfl ?_
                    refine wp_icmp rq_65 rfl (fun (h409 : (σ 5 (0) 5) = 3) => ?_) (fun (h409 : ¬ ((σ 5 (0) 5) = 3)) => ?_)
                    · refine wp_seg 8 (P := none) (ls' := [some (aR 5 (0)), some (aI (c)), some (aI (0))]) (st' := [aI (0), aR 5 (0)]) (σ' := (up σ 5 (0) 4 (wr ((σ 5 (0) 4) + (1))))) rq_65 rfl True.intro (i' := 96) rfl ?_
                      refine wp_call (C := 5) (As := [aR 5 (0), aI (0)]) (rest := []) rq_65 (ev_openPart (0) (up σ 5 (0) 4 (wr ((σ 5 (0) 4) + (1)))) ) rfl rfl (show clOK 65 66 0 0 0 2 5 = true by decide +kernel) rfl (show 0 ≤ 4 by decide) (fun _ => ⟨_, rfl⟩) rfl (c' := 0) (s' := 0) rfl rfl ?_
                      refine wp_goto rq_65 rfl ?_
                      refine wp_seg 1 (P := none) (ls' := [some (aR 5 (0)), some (aI (c)), some (aI (0))]) (st' := [aI (1)]) (σ' := (zm_openPart (0) (up σ 5 (0) 4 (wr ((σ 5 (0) 4) + (1)))))) rq_65 rfl True.intro (i' := 101) rfl ?_
                      refine wp_zret rq_65 rfl rt_65 ?_ ⟨?_, ?_⟩
                      · first | exact Or.inl rfl | exact Or.inr rfl
                      · (rw [zo_accept, if_neg h1, if_pos h338, if_pos h339, if_pos h340, if_neg h341, if_neg h368, if_neg h396, if_pos h407, if_neg h408, if_pos h409]; try rfl)
                      · (rw [zm_accept, if_neg h1, if_pos h338, if_pos h339, if_pos h340, if_neg h341, if_neg h368, if_neg h396, if_pos h407, if_neg h408, if_pos h409]; try rfl)
                    · refine wp_seg 3 (P := none) (ls' := [some (aR 5 (0)), some (aI (c)), some (aI (0))]) (st' := [aI (2), aI (σ 5 (0) 5)]) (σ' := σ) rq_65 rfl True.intro (i' := 85) rfl ?_
                      refine wp_icmp rq_65 rfl (fun (h410 : ¬ (σ 5 (0) 5) = 2) => ?_) (fun (h410 : ¬ (¬ (σ 5 (0) 5) = 2)) => ?_)
                      · refine wp_seg 1 (P := none) (ls' := [some (aR 5 (0)), some (aI (c)), some (aI (0))]) (st' := [aI (0)]) (σ' := σ) rq_65 rfl True.intro (i' := 99) rfl ?_
                        refine wp_zret rq_65 rfl rt_65 ?_ ⟨?_, ?_⟩
                        · first | exact Or.inl rfl | exact Or.inr rfl
                        · (rw [zo_accept, if_neg h1, if_pos h338, if_pos h339, if_pos h340, if_neg h341, if_neg h368, if_neg h396, if_pos h407, if_neg h408, if_neg h409, if_pos h410]; try rfl)
                        · (rw [zm_accept, if_neg h1, if_pos h338, if_pos h339, if_pos h340, if_neg h341, if_neg h368, if_neg h396, if_pos h407, if_neg h408, if_neg h409, if_pos h410]; try rfl)
                      · refine wp_seg 1 (P := none) (ls' := [some (aR 5 (0)), some (aI (c)), some (aI (0))]) (st' := [aI (0)]) (σ' := σ) rq_65 rfl True.intro (i' := 87) rfl ?_
                        refine wp_if rq_65 rfl (fun _ => ?_) (fun (h411 : ¬ ((0 : Int) = (0 : Int))) => absurd (show (0 : Int) = (0 : Int) from by decide) h411)
                        refine wp_seg 1 (P := none) (ls' := [some (aR 5 (0)), some (aI (c)), some (aI (0))]) (st' := [aI (0)]) (σ' := σ) rq_65 rfl True.intro (i' := 99) rfl ?_
                        refine wp_zret rq_65 rfl rt_65 ?_ ⟨?_, ?_⟩
                        · first | exact Or.inl rfl | exact Or.inr rfl
                        · (rw [zo_accept, if_neg h1, if_pos h338, if_pos h339, if_pos h340, if_neg h341, if_neg h368, if_neg h396, if_pos h407, if_neg h408, if_neg h409, if_neg h410]; try rfl)
                        · (rw [zm_accept, if_neg h1, if_pos h338, if_pos h339, if_pos h340, if_neg h341, if_neg h368, if_neg h396, if_pos h407, if_neg h408, if_neg h409, if_neg h410]; try rfl)
                · refine wp_seg 3 (P := none) (ls' := [some (aR 5 (0)), some (aI (c)), some (aI (0))]) (st' := [aI (2), aI (σ 5 (0) 5)]) (σ' := σ) rq_65 rfl True.intro (i' := 53) rfl ?_
                  refine wp_icmp rq_65 rfl (fun (h412 : ¬ (σ 5 (0) 5) = 2) => ?_) (fun (h412 : ¬ (¬ (σ 5 (0) 5) = 2)) => ?_)
                  · refine wp_seg 2 (P := none) (ls' := [some (aR 5 (0)), some (aI (c)), some (aI (0))]) (st' := [aI (59), aI (c)]) (σ' := σ) rq_65 rfl True.intro (i' := 77) rfl ?_
                    refine wp_icmp rq_65 rfl (fun (h413 : ¬ (c) = 59) => ?_) (fun (h413 : ¬ (¬ (c) = 59)) => ?_)
                    · refine wp_seg 1 (P := none) (ls' := [some (aR 5 (0)), some (aI (c)), some (aI (0))]) (st' := [aI (0)]) (σ' := σ) rq_65 rfl True.intro (i' := 99) rfl ?_
                      refine wp_zret rq_65 rfl rt_65 ?_ ⟨?_, ?_⟩
                      · first | exact Or.inl rfl | exact Or.inr rfl
                      · (rw [zo_accept, if_neg h1, if_pos h338, if_pos h339, if_pos h340, if_neg h341, if_neg h368, if_neg h396, if_neg h407, if_pos h412, if_pos h413]; try rfl)
                      · (rw [zm_accept, if_neg h1, if_pos h338, if_pos h339, if_pos h340, if_neg h341, if_neg h368, if_neg h396, if_neg h407, if_pos h412, if_pos h413]; try rfl)
                    · refine wp_seg 3 (P := none) (ls' := [some (aR 5 (0)), some (aI (c)), some (aI (0))]) (st' := [aI (3), aI (σ 5 (0) 5)]) (σ' := σ) rq_65 rfl True.intro (i' := 81) rfl ?_
                      refine wp_icmp rq_65 rfl (fun (h414 : (σ 5 (0) 5) = 3) => ?_) (fun (h414 : ¬ ((σ 5 (0) 5) = 3)) => ?_)
                      · refine wp_seg 8 (P := none) (ls' := [some (aR 5 (0)), some (aI (c)), some (aI (0))]) (st' := [aI (0), aR 5 (0)]) (σ' := (up σ 5 (0) 4 (wr ((σ 5 (0) 4) + (1))))) rq_65 rfl True.intro (i' := 96) rfl ?_
                        refine wp_call (C := 5) (As := [aR 5 (0), aI (0)]) (rest := []) rq_65 (ev_openPart (0) (up σ 5 (0) 4 (wr ((σ 5 (0) 4) + (1)))) ) rfl rfl (show clOK 65 66 0 0 0 2 5 = true by decide +kernel) rfl (show 0 ≤ 4 by decide) (fun _ => ⟨_, rfl⟩) rfl (c' := 0) (s' := 0) rfl rfl ?_
                        refine wp_goto rq_65 rfl ?_
                        refine wp_seg 1 (P := none) (ls' := [some (aR 5 (0)), some (aI (c)), some (aI (0))]) (st' := [aI (1)]) (σ' := (zm_openPart (0) (up σ 5 (0) 4 (wr ((σ 5 (0) 4) + (1)))))) rq_65 rfl True.intro (i' := 101) rfl ?_
                        refine wp_zret rq_65 rfl rt_65 ?_ ⟨?_, ?_⟩
                        · first | exact Or.inl rfl | exact Or.inr rfl
                        · (rw [zo_accept, if_neg h1, if_pos h338, if_pos h339, if_pos h340, if_neg h341, if_neg h368, if_neg h396, if_neg h407, if_pos h412, if_neg h413, if_pos h414]; try rfl)
                        · (rw [zm_accept, if_neg h1, if_pos h338, if_pos h339, if_pos h340, if_neg h341, if_neg h368, if_neg h396, if_neg h407, if_pos h412, if_neg h413, if_pos h414]; try rfl)
                      · refine wp_seg 3 (P := none) (ls' := [some (aR 5 (0)), some (aI (c)), some (aI (0))]) (st' := [aI (2), aI (σ 5 (0) 5)]) (σ' := σ) rq_65 rfl True.intro (i' := 85) rfl ?_
                        refine wp_icmp rq_65 rfl (fun (h415 : ¬ (σ 5 (0) 5) = 2) => ?_) (fun (h415 : ¬ (¬ (σ 5 (0) 5) = 2)) => ?_)
                        · refine wp_seg 1 (P := none) (ls' := [some (aR 5 (0)), some (aI (c)), some (aI (0))]) (st' := [aI (0)]) (σ' := σ) rq_65 rfl True.intro (i' := 99) rfl ?_
                          refine wp_zret rq_65 rfl rt_65 ?_ ⟨?_, ?_⟩
                          · first | exact Or.inl rfl | exact Or.inr rfl
                          · (rw [zo_accept, if_neg h1, if_pos h338, if_pos h339, if_pos h340, if_neg h341, if_neg h368, if_neg h396, if_neg h407, if_pos h412, if_neg h413, if_neg h414, if_pos h415]; try rfl)
                          · (rw [zm_accept, if_neg h1, if_pos h338, if_pos h339, if_pos h340, if_neg h341, if_neg h368, if_neg h396, if_neg h407, if_pos h412, if_neg h413, if_neg h414, if_pos h415]; try rfl)
                        · refine wp_seg 1 (P := none) (ls' := [some (aR 5 (0)), some (aI (c)), some (aI (0))]) (st' := [aI (0)]) (σ' := σ) rq_65 rfl True.intro (i' := 87) rfl ?_
                          refine wp_if rq_65 rfl (fun _ => ?_) (fun (h416 : ¬ ((0 : Int) = (0 : Int))) => absurd (show (0 : Int) = (0 : Int) from by decide) h416)
                          refine wp_seg 1 (P := none) (ls' := [some (aR 5 (0)), some (aI (c)), some (aI (0))]) (st' := [aI (0)]) (σ' := σ) rq_65 rfl True.intro (i' := 99) rfl ?_
                          refine wp_zret rq_65 rfl rt_65 ?_ ⟨?_, ?_⟩
                          · first | exact Or.inl rfl | exact Or.inr rfl
                          · (rw [zo_accept, if_neg h1, if_pos h338, if_pos h339, if_pos h340, if_neg h341, if_neg h368, if_neg h396, if_neg h407, if_pos h412, if_neg h413, if_neg h414, if_neg h415]; try rfl)
                          · (rw [zm_accept, if_neg h1, if_pos h338, if_pos h339, if_pos h340, if_neg h341, if_neg h368, if_neg h396, if_neg h407, if_pos h412, if_neg h413, if_neg h414, if_neg h415]; try rfl)
                  · refine wp_seg 1 (P := none) (ls' := [some (aR 5 (0)), some (aI (c)), some (aI (0))]) (st' := [aI (0)]) (σ' := σ) rq_65 rfl True.intro (i' := 55) rfl ?_
                    refine wp_if rq_65 rfl (fun _ => ?_) (fun (h417 : ¬ ((0 : Int) = (0 : Int))) => absurd (show (0 : Int) = (0 : Int) from by decide) h417)
                    refine wp_seg 2 (P := none) (ls' := [some (aR 5 (0)), some (aI (c)), some (aI (0))]) (st' := [aI (59), aI (c)]) (σ' := σ) rq_65 rfl True.intro (i' := 77) rfl ?_
                    refine wp_icmp rq_65 rfl (fun (h418 : ¬ (c) = 59) => ?_) (fun (h418 : ¬ (¬ (c) = 59)) => ?_)
                    · refine wp_seg 1 (P := none) (ls' := [some (aR 5 (0)), some (aI (c)), some (aI (0))]) (st' := [aI (0)]) (σ' := σ) rq_65 rfl True.intro (i' := 99) rfl ?_
                      refine wp_zret rq_65 rfl rt_65 ?_ ⟨?_, ?_⟩
                      · first | exact Or.inl rfl | exact Or.inr rfl
                      · (rw [zo_accept, if_neg h1, if_pos h338, if_pos h339, if_pos h340, if_neg h341, if_neg h368, if_neg h396, if_neg h407, if_neg h412, if_pos h418]; try rfl)
                      · (rw [zm_accept, if_neg h1, if_pos h338, if_pos h339, if_pos h340, if_neg h341, if_neg h368, if_neg h396, if_neg h407, if_neg h412, if_pos h418]; try rfl)
                    · refine wp_seg 3 (P := none) (ls' := [some (aR 5 (0)), some (aI (c)), some (aI (0))]) (st' := [aI (3), aI (σ 5 (0) 5)]) (σ' := σ) rq_65 rfl True.intro (i' := 81) rfl ?_
                      refine wp_icmp rq_65 rfl (fun (h419 : (σ 5 (0) 5) = 3) => ?_) (fun (h419 : ¬ ((σ 5 (0) 5) = 3)) => ?_)
                      · refine wp_seg 8 (P := none) (ls' := [some (aR 5 (0)), some (aI (c)), some (aI (0))]) (st' := [aI (0), aR 5 (0)]) (σ' := (up σ 5 (0) 4 (wr ((σ 5 (0) 4) + (1))))) rq_65 rfl True.intro (i' := 96) rfl ?_
                        refine wp_call (C := 5) (As := [aR 5 (0), aI (0)]) (rest := []) rq_65 (ev_openPart (0) (up σ 5 (0) 4 (wr ((σ 5 (0) 4) + (1)))) ) rfl rfl (show clOK 65 66 0 0 0 2 5 = true by decide +kernel) rfl (show 0 ≤ 4 by decide) (fun _ => ⟨_, rfl⟩) rfl (c' := 0) (s' := 0) rfl rfl ?_
                        refine wp_goto rq_65 rfl ?_
                        refine wp_seg 1 (P := none) (ls' := [some (aR 5 (0)), some (aI (c)), some (aI (0))]) (st' := [aI (1)]) (σ' := (zm_openPart (0) (up σ 5 (0) 4 (wr ((σ 5 (0) 4) + (1)))))) rq_65 rfl True.intro (i' := 101) rfl ?_
                        refine wp_zret rq_65 rfl rt_65 ?_ ⟨?_, ?_⟩
                        · first | exact Or.inl rfl | exact Or.inr rfl
                        · (rw [zo_accept, if_neg h1, if_pos h338, if_pos h339, if_pos h340, if_neg h341, if_neg h368, if_neg h396, if_neg h407, if_neg h412, if_neg h418, if_pos h419]; try rfl)
                        · (rw [zm_accept, if_neg h1, if_pos h338, if_pos h339, if_pos h340, if_neg h341, if_neg h368, if_neg h396, if_neg h407, if_neg h412, if_neg h418, if_pos h419]; try rfl)
                      · refine wp_seg 3 (P := none) (ls' := [some (aR 5 (0)), some (aI (c)), some (aI (0))]) (st' := [aI (2), aI (σ 5 (0) 5)]) (σ' := σ) rq_65 rfl True.intro (i' := 85) rfl ?_
                        refine wp_icmp rq_65 rfl (fun (h420 : ¬ (σ 5 (0) 5) = 2) => ?_) (fun (h420 : ¬ (¬ (σ 5 (0) 5) = 2)) => ?_)
                        · refine wp_seg 1 (P := none) (ls' := [some (aR 5 (0)), some (aI (c)), some (aI (0))]) (st' := [aI (0)]) (σ' := σ) rq_65 rfl True.intro (i' := 99) rfl ?_
                          refine wp_zret rq_65 rfl rt_65 ?_ ⟨?_, ?_⟩
                          · first | exact Or.inl rfl | exact Or.inr rfl
                          · (rw [zo_accept, if_neg h1, if_pos h338, if_pos h339, if_pos h340, if_neg h341, if_neg h368, if_neg h396, if_neg h407, if_neg h412, if_neg h418, if_neg h419, if_pos h420]; try rfl)
                          · (rw [zm_accept, if_neg h1, if_pos h338, if_pos h339, if_pos h340, if_neg h341, if_neg h368, if_neg h396, if_neg h407, if_neg h412, if_neg h418, if_neg h419, if_pos h420]; try rfl)
                        · refine wp_seg 1 (P := none) (ls' := [some (aR 5 (0)), some (aI (c)), some (aI (0))]) (st' := [aI (0)]) (σ' := σ) rq_65 rfl True.intro (i' := 87) rfl ?_
                          refine wp_if rq_65 rfl (fun _ => ?_) (fun (h421 : ¬ ((0 : Int) = (0 : Int))) => absurd (show (0 : Int) = (0 : Int) from by decide) h421)
                          refine wp_seg 1 (P := none) (ls' := [some (aR 5 (0)), some (aI (c)), some (aI (0))]) (st' := [aI (0)]) (σ' := σ) rq_65 rfl True.intro (i' := 99) rfl ?_
                          refine wp_zret rq_65 rfl rt_65 ?_ ⟨?_, ?_⟩
                          · first | exact Or.inl rfl | exact Or.inr rfl
                          · (rw [zo_accept, if_neg h1, if_pos h338, if_pos h339, if_pos h340, if_neg h341, if_neg h368, if_neg h396, if_neg h407, if_neg h412, if_neg h418, if_neg h419, if_neg h420]; try rfl)
                          · (rw [zm_accept, if_neg h1, if_pos h338, if_pos h339, if_pos h340, if_neg h341, if_neg h368, if_neg h396, if_neg h407, if_neg h412, if_neg h418, if_neg h419, if_neg h420]; try rfl)
        · refine wp_seg 2 (P := none) (ls' := [some (aR 5 (0)), some (aI (c)), some (aI (0))]) (st' := [aI (σ 5 (0) 5)]) (σ' := σ) rq_65 rfl True.intro (i' := 24) rfl ?_
          refine wp_if rq_65 rfl (fun (h422 : ¬ (σ 5 (0) 5) = 0) => ?_) (fun (h422 : ¬ (¬ (σ 5 (0) 5) = 0)) => ?_)
          · refine wp_seg 2 (P := none) (ls' := [some (aR 5 (0)), some (aI (c)), some (aI (0))]) (st' := [aI (58), aI (c)]) (σ' := σ) rq_65 rfl True.intro (i' := 33) rfl ?_
            refine wp_icmp rq_65 rfl (fun (h423 : ¬ (c) = 58) => ?_) (fun (h423 : ¬ (¬ (c) = 58)) => ?_)
            · refine wp_seg 2 (P := none) (ls' := [some (aR 5 (0)), some (aI (c)), some (aI (0))]) (st' := [aI (108), aI (c)]) (σ' := σ) rq_65 rfl True.intro (i' := 46) rfl ?_
              refine wp_icmp rq_65 rfl (fun (h424 : (c) = 108) => ?_) (fun (h424 : ¬ ((c) = 108)) => ?_)
              · refine wp_seg 3 (P := none) (ls' := [some (aR 5 (0)), some (aI (c)), some (aI (0))]) (st' := [aI (2), aI (σ 5 (0) 5)]) (σ' := σ) rq_65 rfl True.intro (i' := 53) rfl ?_
                refine wp_icmp rq_65 rfl (fun (h425 : ¬ (σ 5 (0) 5) = 2) => ?_) (fun (h425 : ¬ (¬ (σ 5 (0) 5) = 2)) => ?_)
                · refine wp_seg 2 (P := none) (ls' := [some (aR 5 (0)), some (aI (c)), some (aI (0))]) (st' := [aI (59), aI (c)]) (σ' := σ) rq_65 rfl True.intro (i' := 77) rfl ?_
                  refine wp_icmp rq_65 rfl (fun (h426 : ¬ (c) = 59) => ?_) (fun (h426 : ¬ (¬ (c) = 59)) => ?_)
                  · refine wp_seg 1 (P := none) (ls' := [some (aR 5 (0)), some (aI (c)), some (aI (0))]) (st' := [aI (0)]) (σ' := σ) rq_65 rfl True.intro (i' := 99) rfl ?_
                    refine wp_zret rq_65 rfl rt_65 ?_ ⟨?_, ?_⟩
                    · first | exact Or.inl rfl | exact Or.inr rfl
                    · (rw [zo_accept, if_neg h1, if_pos h338, if_pos h339, if_neg h340, if_pos h422, if_pos h423, if_pos h424, if_pos h425, if_pos h426]; try rfl)
                    · (rw [zm_accept, if_neg h1, if_pos h338, if_pos h339, if_neg h340, if_pos h422, if_pos h423, if_pos h424, if_pos h425, if_pos h426]; try rfl)
                  · refine wp_seg 3 (P := none) (ls' := [some (aR 5 (0)), some (aI (c)), some (aI (0))]) (st' := [aI (3), aI (σ 5 (0) 5)]) (σ' := σ) rq_65 rfl True.intro (i' := 81) rfl ?_
                    refine wp_icmp rq_65 rfl (fun (h427 : (σ 5 (0) 5) = 3) => ?_) (fun (h427 : ¬ ((σ 5 (0) 5) = 3)) => ?_)
                    · refine wp_seg 8 (P := none) (ls' := [some (aR 5 (0)), some (aI (c)), some (aI (0))]) (st' := [aI (0), aR 5 (0)]) (σ' := (up σ 5 (0) 4 (wr ((σ 5 (0) 4) + (1))))) rq_65 rfl True.intro (i' := 96) rfl ?_
                      refine wp_call (C := 5) (As := [aR 5 (0), aI (0)]) (rest := []) rq_65 (ev_openPart (0) (up σ 5 (0) 4 (wr ((σ 5 (0) 4) + (1)))) ) rfl rfl (show clOK 65 66 0 0 0 2 5 = true by decide +kernel) rfl (show 0 ≤ 4 by decide) (fun _ => ⟨_, rfl⟩) rfl (c' := 0) (s' := 0) rfl rfl ?_
                      refine wp_goto rq_65 rfl ?_
                      refine wp_seg 1 (P := none) (ls' := [some (aR 5 (0)), some (aI (c)), some (aI (0))]) (st' := [aI (1)]) (σ' := (zm_openPart (0) (up σ 5 (0) 4 (wr ((σ 5 (0) 4) + (1)))))) rq_65 rfl True.intro (i' := 101) rfl ?_
                      refine wp_zret rq_65 rfl rt_65 ?_ ⟨?_, ?_⟩
                      · first | exact Or.inl rfl | exact Or.inr rfl
                      · (rw [zo_accept, if_neg h1, if_pos h338, if_pos h339, if_neg h340, if_pos h422, if_pos h423, if_pos h424, if_pos h425, if_neg h426, if_pos h427]; try rfl)
                      · (rw [zm_accept, if_neg h1, if_pos h338, if_pos h339, if_neg h340, if_pos h422, if_pos h423, if_pos h424, if_pos h425, if_neg h426, if_pos h427]; try rfl)
                    · refine wp_seg 3 (P := none) (ls' := [some (aR 5 (0)), some (aI (c)), some (aI (0))]) (st' := [aI (2), aI (σ 5 (0) 5)]) (σ' := σ) rq_65 rfl True.intro (i' := 85) rfl ?_
                      refine wp_icmp rq_65 rfl (fun (h428 : ¬ (σ 5 (0) 5) = 2) => ?_) (fun (h428 : ¬ (¬ (σ 5 (0) 5) = 2)) => ?_)
                      · refine wp_seg 1 (P := none) (ls' := [some (aR 5 (0)), some (aI (c)), some (aI (0))]) (st' := [aI (0)]) (σ' := σ) rq_65 rfl True.intro (i' := 99) rfl ?_
                        refine wp_zret rq_65 rfl rt_65 ?_ ⟨?_, ?_⟩
                        · first | exact Or.inl rfl | exact Or.inr rfl
                        · (rw [zo_accept, if_neg h1, if_pos h338, if_pos h339, if_neg h340, if_pos h422, if_pos h423, if_pos h424, if_pos h425, if_neg h426, if_neg h427, if_pos h428]; try rfl)
                        · (rw [zm_accept, if_neg h1, if_pos h338, if_pos h339, if_neg h340, if_pos h422, if_pos h423, if_pos h424, if_pos h425, if_neg h426, if_neg h427, if_pos h428]; try rfl)
                      · refine wp_seg 1 (P := none) (ls' := [some (aR 5 (0)), some (aI (c)), some (aI (0))]) (st' := [aI (0)]) (σ' := σ) rq_65 rfl True.intro (i' := 87) rfl ?_
                        refine wp_if rq_65 rfl (fun _ => ?_) (fun (h429 : ¬ ((0 : Int) = (0 : Int))) => absurd (show (0 : Int) = (0 : Int) from by decide) h429)
                        refine wp_seg 1 (P := none) (ls' := [some (aR 5 (0)), some (aI (c)), some (aI (0))]) (st' := [aI (0)]) (σ' := σ) rq_65 rfl True.intro (i' := 99) rfl ?_
                        refine wp_zret rq_65 rfl rt_65 ?_ ⟨?_, ?_⟩
                        · first | exact Or.inl rfl | exact Or.inr rfl
                        · (rw [zo_accept, if_neg h1, if_pos h338, if_pos h339, if_neg h340, if_pos h422, if_pos h423, if_pos h424, if_pos h425, if_neg h426, if_neg h427, if_neg h428]; try rfl)
                        · (rw [zm_accept, if_neg h1, if_pos h338, if_pos h339, if_neg h340, if_pos h422, if_pos h423, if_pos h424, if_pos h425, if_neg h426, if_neg h427, if_neg h428]; try rfl)
                · refine wp_seg 1 (P := none) (ls' := [some (aR 5 (0)), some (aI (c)), some (aI (0))]) (st' := [aI (0)]) (σ' := σ) rq_65 rfl True.intro (i' := 55) rfl ?_
                  refine wp_if rq_65 rfl (fun _ => ?_) (fun (h430 : ¬ ((0 : Int) = (0 : Int))) => absurd (show (0 : Int) = (0 : Int) from by decide) h430)
                  refine wp_seg 2 (P := none) (ls' := [some (aR 5 (0)), some (aI (c)), some (aI (0))]) (st' := [aI (59), aI (c)]) (σ' := σ) rq_65 rfl True.intro (i' := 77) rfl ?_
                  refine wp_icmp rq_65 rfl (fun (h431 : ¬ (c) = 59) => ?_) (fun (h431 : ¬ (¬ (c) = 59)) => ?_)
                  · refine wp_seg 1 (P := none) (ls' := [some (aR 5 (0)), some (aI (c)), some (aI (0))]) (st' := [aI (0)]) (σ' := σ) rq_65 rfl True.intro (i' := 99) rfl ?_
                    refine wp_zret rq_65 rfl rt_65 ?_ ⟨?_, ?_⟩
                    · first | exact Or.inl rfl | exact Or.inr rfl
                    · (rw [zo_accept, if_neg h1, if_pos h338, if_pos h339, if_neg h340, if_pos h422, if_pos h423, if_pos h424, if_neg h425, if_pos h431]; try rfl)
                    · (rw [zm_accept, if_neg h1, if_pos h338, if_pos h339, if_neg h340, if_pos h422, if_pos h423, if_pos h424, if_neg h425, if_pos h431]; try rfl)
                  · refine wp_seg 3 (P := none) (ls' := [some (aR 5 (0)), some (aI (c)), some (aI (0))]) (st' := [aI (3), aI (σ 5 (0) 5)]) (σ' := σ) rq_65 rfl True.intro (i' := 81) rfl ?_
                    refine wp_icmp rq_65 rfl (fun (h432 : (σ 5 (0) 5) = 3) => ?_) (fun (h432 : ¬ ((σ 5 (0) 5) = 3)) => ?_)
                    · refine wp_seg 8 (P := none) (ls' := [some (aR 5 (0)), some (aI (c)), some (aI (0))]) (st' := [aI (0), aR 5 (0)]) (σ' := (up σ 5 (0) 4 (wr ((σ 5 (0) 4) + (1))))) rq_65 rfl True.intro (i' := 96) rfl ?_
                      refine wp_call (C := 5) (As := [aR 5 (0), aI (0)]) (rest := []) rq_65 (ev_openPart (0) (up σ 5 (0) 4 (wr ((σ 5 (0) 4) + (1)))) ) rfl rfl (show clOK 65 66 0 0 0 2 5 = true by decide +kernel) rfl (show 0 ≤ 4 by decide) (fun _ => ⟨_, rfl⟩) rfl (c' := 0) (s' := 0) rfl rfl ?_
                      refine wp_goto rq_65 rfl ?_
                      refine wp_seg 1 (P := none) (ls' := [some (aR 5 (0)), some (aI (c)), some (aI (0))]) (st' := [aI (1)]) (σ' := (zm_openPart (0) (up σ 5 (0) 4 (wr ((σ 5 (0) 4) + (1)))))) rq_65 rfl True.intro (i' := 101) rfl ?_
                      refine wp_zret rq_65 rfl rt_65 ?_ ⟨?_, ?_⟩
                      · first | exact Or.inl rfl | exact Or.inr rfl
                      · (rw [zo_accept, if_neg h1, if_pos h338, if_pos h339, if_neg h340, if_pos h422, if_pos h423, if_pos h424, if_neg h425, if_neg h431, if_pos h432]; try rfl)
                      · (rw [zm_accept, if_neg h1, if_pos h338, if_pos h339, if_neg h340, if_pos h422, if_pos h423, if_pos h424, if_neg h425, if_neg h431, if_pos h432]; try rfl)
                    · refine wp_seg 3 (P := none) (ls' := [some (aR 5 (0)), some (aI (c)), some (aI (0))]) (st' := [aI (2), aI (σ 5 (0) 5)]) (σ' := σ) rq_65 rfl True.intro (i' := 85) rfl ?_
                      refine wp_icmp rq_65 rfl (fun (h433 : ¬ (σ 5 (0) 5) = 2) => ?_) (fun (h433 : ¬ (¬ (σ 5 (0) 5) = 2)) => ?_)
                      · refine wp_seg 1 (P := none) (ls' := [some (aR 5 (0)), some (aI (c)), some (aI (0))]) (st' := [aI (0)]) (σ' := σ) rq_65 rfl True.intro (i' := 99) rfl ?_
                        refine wp_zret rq_65 rfl rt_65 ?_ ⟨?_, ?_⟩
                        · first | exact Or.inl rfl | exact Or.inr rfl
                        · (rw [zo_accept, if_neg h1, if_pos h338, if_pos h339, if_neg h340, if_pos h422, if_pos h423, if_pos h424, if_neg h425, if_neg h431, if_neg h432, if_pos h433]; try rfl)
                        · (rw [zm_accept, if_neg h1, if_pos h338, if_pos h339, if_neg h340, if_pos h422, if_pos h423, if_pos h424, if_neg h425, if_neg h431, if_neg h432, if_pos h433]; try rfl)
                      · refine wp_seg 1 (P := none) (ls' := [some (aR 5 (0)), some (aI (c)), some (aI (0))]) (st' := [aI (0)]) (σ' := σ) rq_65 rfl True.intro (i' := 87) rfl ?_
                        refine wp_if rq_65 rfl (fun _ => ?_) (fun (h434 : ¬ ((0 : Int) = (0 : Int))) => absurd (show (0 : Int) = (0 : Int) from by decide) h434)
                        refine wp_seg 1 (P := none) (ls' := [some (aR 5 (0)), some (aI (c)), some (aI (0))]) (st' := [aI (0)]) (σ' := σ) rq_65 rfl True.intro (i' := 99) rfl ?_
                        refine wp_zret rq_65 rfl rt_65 ?_ ⟨?_, ?_⟩
                        · first | exact Or.inl rfl | exact Or.inr rfl
                        · (rw [zo_accept, if_neg h1, if_pos h338, if_pos h339, if_neg h340, if_pos h422, if_pos h423, if_pos h424, if_neg h425, if_neg h431, if_neg h432, if_neg h433]; try rfl)
                        · (rw [zm_accept, if_neg h1, if_pos h338, if_pos h339, if_neg h340, if_pos h422, if_pos h423, if_pos h424, if_neg h425, if_neg h431, if_neg h432, if_neg h433]; try rfl)
              · refine wp_seg 2 (P := none) (ls' := [some (aR 5 (0)), some (aI (c)), some (aI (0))]) (st' := [aI (114), aI (c)]) (σ' := σ) rq_65 rfl True.intro (i' := 49) rfl ?_
                refine wp_icmp rq_65 rfl (fun (h435 : ¬ (c) = 114) => ?_) (fun (h435 : ¬ (¬ (c) = 114)) => ?_)
                · refine wp_seg 2 (P := none) (ls' := [some (aR 5 (0)), some (aI (c)), some (aI (0))]) (st' := [aI (59), aI (c)]) (σ' := σ) rq_65 rfl True.intro (i' := 77) rfl ?_
                  refine wp_icmp rq_65 rfl (fun (h436 : ¬ (c) = 59) => ?_) (fun (h436 : ¬ (¬ (c) = 59)) => ?_)
                  · refine wp_seg 1 (P := none) (ls' := [some (aR 5 (0)), some (aI (c)), some (aI (0))]) (st' := [aI (0)]) (σ' := σ) rq_65 rfl True.intro (i' := 99) rfl ?_
                    refine wp_zret rq_65 rfl rt_65 ?_ ⟨?_, ?_⟩
                    · first | exact Or.inl rfl | exact Or.inr rfl
                    · (rw [zo_accept, if_neg h1, if_pos h338, if_pos h339, if_neg h340, if_pos h422, if_pos h423, if_neg h424, if_pos h435, if_pos h436]; try rfl)
                    · (rw [zm_accept, if_neg h1, if_pos h338, if_pos h339, if_neg h340, if_pos h422, if_pos h423, if_neg h424, if_pos h435, if_pos h436]; try rfl)
                  · refine wp_seg 3 (P := none) (ls' := [some (aR 5 (0)), some (aI (c)), some (aI (0))]) (st' := [aI (3), aI (σ 5 (0) 5)]) (σ' := σ) rq_65 rfl True.intro (i' := 81) rfl ?_
                    refine wp_icmp rq_65 rfl (fun (h437 : (σ 5 (0) 5) = 3) => ?_) (fun (h437 : ¬ ((σ 5 (0) 5) = 3)) => ?_)
                    · refine wp_seg 8 (P := none) (ls' := [some (aR 5 (0)), some (aI (c)), some (aI (0))]) (st' := [aI (0), aR 5 (0)]) (σ' := (up σ 5 (0) 4 (wr ((σ 5 (0) 4) + (1))))) rq_65 rfl True.intro (i' := 96) rfl ?_
                      refine wp_call (C := 5) (As := [aR 5 (0), aI (0)]) (rest := []) rq_65 (ev_openPart (0) (up σ 5 (0) 4 (wr ((σ 5 (0) 4) + (1)))) ) rfl rfl (show clOK 65 66 0 0 0 2 5 = true by decide +kernel) rfl (show 0 ≤ 4 by decide) (fun _ => ⟨_, rfl⟩) rfl (c' := 0) (s' := 0) rfl rfl ?_
                      refine wp_goto rq_65 rfl ?_
                      refine wp_seg 1 (P := none) (ls' := [some (aR 5 (0)), some (aI (c)), some (aI (0))]) (st' := [aI (1)]) (σ' := (zm_openPart (0) (up σ 5 (0) 4 (wr ((σ 5 (0) 4) + (1)))))) rq_65 rfl True.intro (i' := 101) rfl ?_
                      refine wp_zret rq_65 rfl rt_65 ?_ ⟨?_, ?_⟩
                      · first | exact Or.inl rfl | exact Or.inr rfl
                      · (rw [zo_accept, if_neg h1, if_pos h338, if_pos h339, if_neg h340, if_pos h422, if_pos h423, if_neg h424, if_pos h435, if_neg h436, if_pos h437]; try rfl)
                      · (rw [zm_accept, if_neg h1, if_pos h338, if_pos h339, if_neg h340, if_pos h422, if_pos h423, if_neg h424, if_pos h435, if_neg h436, if_pos h437]; try rfl)
                    · refine wp_seg 3 (P := none) (ls' := [some (aR 5 (0)), some (aI (c)), some (aI (0))]) (st' := [aI (2), aI (σ 5 (0) 5)]) (σ' := σ) rq_65 rfl True.intro (i' := 85) rfl ?_
                      refine wp_icmp rq_65 rfl (fun (h438 : ¬ (σ 5 (0) 5) = 2) => ?_) (fun (h438 : ¬ (¬ (σ 5 (0) 5) = 2)) => ?_)
                      · refine wp_seg 1 (P := none) (ls' := [some (aR 5 (0)), some (aI (c)), some (aI (0))]) (st' := [aI (0)]) (σ' := σ) rq_65 rfl True.intro (i' := 99) rfl ?_
                        refine wp_zret rq_65 rfl rt_65 ?_ ⟨?_, ?_⟩
                        · first | exact Or.inl rfl | exact Or.inr rfl
                        · (rw [zo_accept, if_neg h1, if_pos h338, if_pos h339, if_neg h340, if_pos h422, if_pos h423, if_neg h424, if_pos h435, if_neg h436, if_neg h437, if_pos h438]; try rfl)
                        · (rw [zm_accept, if_neg h1, if_pos h338, if_pos h339, if_neg h340, if_pos h422, if_pos h423, if_neg h424, if_pos h435, if_neg h436, if_neg h437, if_pos h438]; try rfl)
                      · refine wp_seg 1 (P := none) (ls' := [some (aR 5 (0)), some (aI (c)), some (aI (0))]) (st' := [aI (0)]) (σ' := σ) rq_65 rfl True.intro (i' := 87) rfl ?_
                        refine wp_if rq_65 rfl (fun _ => ?_) (fun (h439 : ¬ ((0 : Int) = (0 : Int))) => absurd (show (0 : Int) = (0 : Int) from by decide) h439)
                        refine wp_seg 1 (P := none) (ls' := [some (aR 5 (0)), some (aI (c)), some (aI (0))]) (st' := [aI (0)]) (σ' := σ) rq_65 rfl True.intro (i' := 99) rfl ?_
                        refine wp_zret rq_65 rfl rt_65 ?_ ⟨?_, ?_⟩
                        · first | exact Or.inl rfl | exact Or.inr rfl
                        · (rw [zo_accept, if_neg h1, if_pos h338, if_pos h339, if_neg h340, if_pos h422, if_pos h423, if_neg h424, if_pos h435, if_neg h436, if_neg h437, if_neg h438]; try rfl)
                        · (rw [zm_accept, if_neg h1, if_pos h338, if_pos h339, if_neg h340, if_pos h422, if_pos h423, if_neg h424, if_pos h435, if_neg h436, if_neg h437, if_neg h438]; try rfl)
                · refine wp_seg 3 (P := none) (ls' := [some (aR 5 (0)), some (aI (c)), some (aI (0))]) (st' := [aI (2), aI (σ 5 (0) 5)]) (σ' := σ) rq_65 rfl True.intro (i' := 53) rfl ?_
                  refine wp_icmp rq_65 rfl (fun (h440 : ¬ (σ 5 (0) 5) = 2) => ?_) (fun (h440 : ¬ (¬ (σ 5 (0) 5) = 2)) => ?_)
                  · refine wp_seg 2 (P := none) (ls' := [some (aR 5 (0)), some (aI (c)), some (aI (0))]) (st' := [aI (59), aI (c)]) (σ' := σ) rq_65 rfl True.intro (i' := 77) rfl ?_
                    refine wp_icmp rq_65 rfl (fun (h441 : ¬ (c) = 59) => ?_) (fun (h441 : ¬ (¬ (c) = 59)) => ?_)
                    · refine wp_seg 1 (P := none) (ls' := [some (aR 5 (0)), some (aI (c)), some (aI (0))]) (st' := [aI (0)]) (σ' := σ) rq_65 rfl True.intro (i' := 99) rfl ?_
                      refine wp_zret rq_65 rfl rt_65 ?_ ⟨?_, ?_⟩
                      · first | exact Or.inl rfl | exact Or.inr rfl
                      · (rw [zo_accept, if_neg h1, if_pos h338, if_pos h339, if_neg h340, if_pos h422, if_pos h423, if_neg h424, if_neg h435, if_pos h440, if_pos h441]; try rfl)
                      · (rw [zm_accept, if_neg h1, if_pos h338, if_pos h339, if_neg h340, if_pos h422, if_pos h423, if_neg h424, if_neg h435, if_pos h440, if_pos h441]; try rfl)
                    · refine wp_seg 3 (P := none) (ls' := [some (aR 5 (0)), some (aI (c)), some (aI (0))]) (st' := [aI (3), aI (σ 5 (0) 5)]) (σ' := σ) rq_65 rfl True.intro (i' := 81) rfl ?_
                      refine wp_icmp rq_65 rfl (fun (h442 : (σ 5 (0) 5) = 3) => ?_) (fun (h442 : ¬ ((σ 5 (0) 5) = 3)) => ?_)
                      · refine wp_seg 8 (P := none) (ls' := [some (aR 5 (0)), some (aI (c)), some (aI (0))]) (st' := [aI (0), aR 5 (0)]) (σ' := (up σ 5 (0) 4 (wr ((σ 5 (0) 4) + (1))))) rq_65 rfl True.intro (i' := 96) rfl ?_
                        refine wp_call (C := 5) (As := [aR 5 (0), aI (0)]) (rest := []) rq_65 (ev_openPart (0) (up σ 5 (0) 4 (wr ((σ 5 (0) 4) + (1)))) ) rfl rfl (show clOK 65 66 0 0 0 2 5 = true by decide +kernel) rfl (show 0 ≤ 4 by decide) (fun _ => ⟨_, rfl⟩) rfl (c' := 0) (s' := 0) rfl rfl ?_
                        refine wp_goto rq_65 rfl ?_
                        refine wp_seg 1 (P := none) (ls' := [some (aR 5 (0)), some (aI (c)), some (aI (0))]) (st' := [aI (1)]) (σ' := (zm_openPart (0) (up σ 5 (0) 4 (wr ((σ 5 (0) 4) + (1)))))) rq_65 rfl True.intro (i' := 101) rfl ?_
                        refine wp_zret rq_65 rfl rt_65 ?_ ⟨?_, ?_⟩
                        · first | exact Or.inl rfl | exact Or.inr rfl
                        · (rw [zo_accept, if_neg h1, if_pos h338, if_pos h339, if_neg h340, if_pos h422, if_pos h423, if_neg h424, if_neg h435, if_pos h440, if_neg h441, if_pos h442]; try rfl)
                        · (rw [zm_accept, if_neg h1, if_pos h338, if_pos h339, if_neg h340, if_pos h422, if_pos h423, if_neg h424, if_neg h435, if_pos h440, if_neg h441, if_pos h442]; try rfl)
                      · refine wp_seg 3 (P := none) (ls' := [some (aR 5 (0)), some (aI (c)), some (aI (0))]) (st' := [aI (2), aI (σ 5 (0) 5)]) (σ' := σ) rq_65 rfl True.intro (i' := 85) rfl ?_
                        refine wp_icmp rq_65 rfl (fun (h443 : ¬ (σ 5 (0) 5) = 2) => ?_) (fun (h443 : ¬ (¬ (σ 5 (0) 5) = 2)) => ?_)
                        · refine wp_seg 1 (P := none) (ls' := [some (aR 5 (0)), some (aI (c)), some (aI (0))]) (st' := [aI (0)]) (σ' := σ) rq_65 rfl True.intro (i' := 99) rfl ?_
                          refine wp_zret rq_65 rfl rt_65 ?_ ⟨?_, ?_⟩
                          · first | exact Or.inl rfl | exact Or.inr rfl
                          · (rw [zo_accept, if_neg h1, if_pos h338, if_pos h339, if_neg h340, if_pos h422, if_pos h423, if_neg h424, if_neg h435, if_pos h440, if_neg h441, if_neg h442, if_pos h443]; try rfl)
                          · (rw [zm_accept, if_neg h1, if_pos h338, if_pos h339, if_neg h340, if_pos h422, if_pos h423, if_neg h424, if_neg h435, if_pos h440, if_neg h441, if_neg h442, if_pos h443]; try rfl)
                        · refine wp_seg 1 (P := none) (ls' := [some (aR 5 (0)), some (aI (c)), some (aI (0))]) (st' := [aI (0)]) (σ' := σ) rq_65 rfl True.intro (i' := 87) rfl ?_
                          refine wp_if rq_65 rfl (fun _ => ?_) (fun (h444 : ¬ ((0 : Int) = (0 : Int))) => absurd (show (0 : Int) = (0 : Int) from by decide) h444)
                          refine wp_seg 1 (P := none) (ls' := [some (aR 5 (0)), some (aI (c)), some (aI (0))]) (st' := [aI (0)]) (σ' := σ) rq_65 rfl True.intro (i' := 99) rfl ?_
                          refine wp_zret rq_65 rfl rt_65 ?_ ⟨?_, ?_⟩
                          · first | exact Or.inl rfl | exact Or.inr rfl
                          · (rw [zo_accept, if_neg h1, if_pos h338, if_pos h339, if_neg h340, if_pos h422, if_pos h423, if_neg h424, if_neg h435, if_pos h440, if_neg h441, if_neg h442, if_neg h443]; try rfl)
                          · (rw [zm_accept, if_neg h1, if_pos h338, if_pos h339, if_neg h340, if_pos h422, if_pos h423, if_neg h424, if_neg h435, if_pos h440, if_neg h441, if_neg h442, if_neg h443]; try rfl)
                  · refine wp_seg 1 (P := none) (ls' := [some (aR 5 (0)), some (aI (c)), some (aI (0))]) (st' := [aI (0)]) (σ' := σ) rq_65 rfl True.intro (i' := 55) rfl ?_
                    refine wp_if rq_65 rfl (fun _ => ?_) (fun (h445 : ¬ ((0 : Int) = (0 : Int))) => absurd (show (0 : Int) = (0 : Int) from by decide) h445)
                    refine wp_seg 2 (P := none) (ls' := [some (aR 5 (0)), some (aI (c)), some (aI (0))]) (st' := [aI (59), aI (c)]) (σ' := σ) rq_65 rfl True.intro (i' := 77) rfl ?_
                    refine wp_icmp rq_65 rfl (fun (h446 : ¬ (c) = 59) => ?_) (fun (h446 : ¬ (¬ (c) = 59)) => ?_)
                    · refine wp_seg 1 (P := none) (ls' := [some (aR 5 (0)), some (aI (c)), some (aI (0))]) (st' := [aI (0)]) (σ' := σ) rq_65 rfl True.intro (i' := 99) rfl ?_
                      refine wp_zret rq_65 rfl rt_65 ?_ ⟨?_, ?_⟩
                      · first | exact Or.inl rfl | exact Or.inr rfl
                      · (rw [zo_accept, if_neg h1, if_pos h338, if_pos h339, if_neg h340, if_pos h422, if_pos h423, if_neg h424, if_neg h435, if_neg h440, if_pos h446]; try rfl)
                      · (rw [zm_accept, if_neg h1, if_pos h338, if_pos h339, if_neg h340, if_pos h422, if_pos h423, if_neg h424, if_neg h435, if_neg h440, if_pos h446]; try rfl)
                    · refine wp_seg 3 (P := none) (ls' := [some (aR 5 (0)), some (aI (c)), some (aI (0))]) (st' := [aI (3), aI (σ 5 (0) 5)]) (σ' := σ) rq_65 rfl True.intro (i' := 81) rfl ?_
                      refine wp_icmp rq_65 rfl (fun (h447 : (σ 5 (0) 5) = 3) => ?_) (fun (h447 : ¬ ((σ 5 (0) 5) = 3)) => ?_)
                      · refine wp_seg 8 (P := none) (ls' := [some (aR 5 (0)), some (aI (c)), some (aI (0))]) (st' := [aI (0), aR 5 (0)]) (σ' := (up σ 5 (0) 4 (wr ((σ 5 (0) 4) + (1))))) rq_65 rfl True.intro (i' := 96) rfl ?_
                        refine wp_call (C := 5) (As := [aR 5 (0), aI (0)]) (rest := []) rq_65 (ev_openPart (0) (up σ 5 (0) 4 (wr ((σ 5 (0) 4) + (1)))) ) rfl rfl (show clOK 65 66 0 0 0 2 5 = true by decide +kernel) rfl (show 0 ≤ 4 by decide) (fun _ => ⟨_, rfl⟩) rfl (c' := 0) (s' := 0) rfl rfl ?_
                        refine wp_goto rq_65 rfl ?_
                        refine wp_seg 1 (P := none) (ls' := [some (aR 5 (0)), some (aI (c)), some (aI (0))]) (st' := [aI (1)]) (σ' := (zm_openPart (0) (up σ 5 (0) 4 (wr ((σ 5 (0) 4) + (1)))))) rq_65 rfl True.intro (i' := 101) rfl ?_
                        refine wp_zret rq_65 rfl rt_65 ?_ ⟨?_, ?_⟩
                        · first | exact Or.inl rfl | exact Or.inr rfl
                        · (rw [zo_accept, if_neg h1, if_pos h338, if_pos h339, if_neg h340, if_pos h422, if_pos h423, if_neg h424, if_neg h435, if_neg h440, if_neg h446, if_pos h447]; try rfl)
                        · (rw [zm_accept, if_neg h1, if_pos h338, if_pos h339, if_neg h340, if_pos h422, if_pos h423, if_neg h424, if_neg h435, if_neg h440, if_neg h446, if_pos h447]; try rfl)
                      · refine wp_seg 3 (P := none) (ls' := [some (aR 5 (0)), some (aI (c)), some (aI (0))]) (st' := [aI (2), aI (σ 5 (0) 5)]) (σ' := σ) rq_65 rfl True.intro (i' := 85) rfl ?_
                        refine wp_icmp rq_65 rfl (fun (h448 : ¬ (σ 5 (0) 5) = 2) => ?_) (fun (h448 : ¬ (¬ (σ 5 (0) 5) = 2)) => ?_)
                        · refine wp_seg 1 (P := none) (ls' := [some (aR 5 (0)), some (aI (c)), some (aI (0))]) (st' := [aI (0)]) (σ' := σ) rq_65 rfl True.intro (i' := 99) rfl ?_
                          refine wp_zret rq_65 rfl rt_65 ?_ ⟨?_, ?_⟩
                          · first | exact Or.inl rfl | exact Or.inr rfl
                          · (rw [zo_accept, if_neg h1, if_pos h338, if_pos h339, if_neg h340, if_pos h422, if_pos h423, if_neg h424, if_neg h435, if_neg h440, if_neg h446, if_neg h447, if_pos h448]; try rfl)
                          · (rw [zm_accept, if_neg h1, if_pos h338, if_pos h339, if_neg h340, if_pos h422, if_pos h423, if_neg h424, if_neg h435, if_neg h440, if_neg h446, if_neg h447, if_pos h448]; try rfl)
                        · refine wp_seg 1 (P := none) (ls' := [some (aR 5 (0)), some (aI (c)), some (aI (0))]) (st' := [aI (0)]) (σ' := σ) rq_65 rfl True.intro (i' := 87) rfl ?_
                          refine wp_if rq_65 rfl (fun _ => ?_) (fun (h449 : ¬ ((0 : Int) = (0 : Int))) => absurd (show (0 : Int) = (0 : Int) from by decide) h449)
                          refine wp_seg 1 (P := none) (ls' := [some (aR 5 (0)), some (aI (c)), some (aI (0))]) (st' := [aI (0)]) (σ' := σ) rq_65 rfl True.intro (i' := 99) rfl ?_
                          refine wp_zret rq_65 rfl rt_65 ?_ ⟨?_, ?_⟩
                          · first | exact Or.inl rfl | exact Or.inr rfl
                          · (rw [zo_accept, if_neg h1, if_pos h338, if_pos h339, if_neg h340, if_pos h422, if_pos h423, if_neg h424, if_neg h435, if_neg h440, if_neg h446, if_neg h447, if_neg h448]; try rfl)
                          · (rw [zm_accept, if_neg h1, if_pos h338, if_pos h339, if_neg h340, if_pos h422, if_pos h423, if_neg h424, if_neg h435, if_neg h440, if_neg h446, if_neg h447, if_neg h448]; try rfl)
            · refine wp_seg 3 (P := none) (ls' := [some (aR 5 (0)), some (aI (c)), some (aI (0))]) (st' := [aI (1), aI (σ 5 (0) 5)]) (σ' := σ) rq_65 rfl True.intro (i' := 37) rfl ?_
              refine wp_icmp rq_65 rfl (fun (h450 : ¬ (σ 5 (0) 5) = 1) => ?_) (fun (h450 : ¬ (¬ (σ 5 (0) 5) = 1)) => ?_)
              · refine wp_seg 2 (P := none) (ls' := [some (aR 5 (0)), some (aI (c)), some (aI (0))]) (st' := [aI (108), aI (c)]) (σ' := σ) rq_65 rfl True.intro (i' := 46) rfl ?_
                refine wp_icmp rq_65 rfl (fun (h451 : (c) = 108) => ?_) (fun (h451 : ¬ ((c) = 108)) => ?_)
                · refine wp_seg 3 (P := none) (ls' := [some (aR 5 (0)), some (aI (c)), some (aI (0))]) (st' := [aI (2), aI (σ 5 (0) 5)]) (σ' := σ) rq_65 rfl True.intro (i' := 53) rfl ?_
                  refine wp_icmp rq_65 rfl (fun (h452 : ¬ (σ 5 (0) 5) = 2) => ?_) (fun (h452 : ¬ (¬ (σ 5 (0) 5) = 2)) => ?_)
                  · refine wp_seg 2 (P := none) (ls' := [some (aR 5 (0)), some (aI (c)), some (aI (0))]) (st' := [aI (59), aI (c)]) (σ' := σ) rq_65 rfl True.intro (i' := 77) rfl ?_
                    refine wp_icmp rq_65 rfl (fun (h453 : ¬ (c) = 59) => ?_) (fun (h453 : ¬ (¬ (c) = 59)) => ?_)
                    · refine wp_seg 1 (P := none) (ls' := [some (aR 5 (0)), some (aI (c)), some (aI (0))]) (st' := [aI (0)]) (σ' := σ) rq_65 rfl True.intro (i' := 99) rfl ?_
                      refine wp_zret rq_65 rfl rt_65 ?_ ⟨?_, ?_⟩
                      · first | exact Or.inl rfl | exact Or.inr rfl
                      · (rw [zo_accept, if_neg h1, if_pos h338, if_pos h339, if_neg h340, if_pos h422, if_neg h423, if_pos h450, if_pos h451, if_pos h452, if_pos h453]; try rfl)
                      · (rw [zm_accept, if_neg h1, if_pos h338, if_pos h339, if_neg h340, if_pos h422, if_neg h423, if_pos h450, if_pos h451, if_pos h452, if_pos h453]; try rfl)
                    · refine wp_seg 3 (P := none) (ls' := [some (aR 5 (0)), some (aI (c)), some (aI (0))]) (st' := [aI (3), aI (σ 5 (0) 5)]) (σ' := σ) rq_65 rfl True.intro (i' := 81) rfl ?_
                      refine wp_icmp rq_65 rfl (fun (h454 : (σ 5 (0) 5) = 3) => ?_) (fun (h454 : ¬ ((σ 5 (0) 5) = 3)) => ?_)
                      · refine wp_seg 8 (P := none) (ls' := [some (aR 5 (0)), some (aI (c)), some (aI (0))]) (st' := [aI (0), aR 5 (0)]) (σ' := (up σ 5 (0) 4 (wr ((σ 5 (0) 4) + (1))))) rq_65 rfl True.intro (i' := 96) rfl ?_
                        refine wp_call (C := 5) (As := [aR 5 (0), aI (0)]) (rest := []) rq_65 (ev_openPart (0) (up σ 5 (0) 4 (wr ((σ 5 (0) 4) + (1)))) ) rfl rfl (show clOK 65 66 0 0 0 2 5 = true by decide +kernel) rfl (show 0 ≤ 4 by decide) (fun _ => ⟨_, rfl⟩) rfl (c' := 0) (s' := 0) rfl rfl ?_
                        refine wp_goto rq_65 rfl ?_
                        refine wp_seg 1 (P := none) (ls' := [some (aR 5 (0)), some (aI (c)), some (aI (0))]) (st' := [aI (1)]) (σ' := (zm_openPart (0) (up σ 5 (0) 4 (wr ((σ 5 (0) 4) + (1)))))) rq_65 rfl True.intro (i' := 101) rfl ?_
                        refine wp_zret rq_65 rfl rt_65 ?_ ⟨?_, ?_⟩
                        · first | exact Or.inl rfl | exact Or.inr rfl
                        · (rw [zo_accept, if_neg h1, if_pos h338, if_pos h339, if_neg h340, if_pos h422, if_neg h423, if_pos h450, if_pos h451, if_pos h452, if_neg h453, if_pos h454]; try rfl)
                        · (rw [zm_accept, if_neg h1, if_pos h338, if_pos h339, if_neg h340, if_pos h422, if_neg h423, if_pos h450, if_pos h451, if_pos h452, if_neg h453, if_pos h454]; try rfl)
                      · refine wp_seg 3 (P := none) (ls' := [some (aR 5 (0)), some (aI (c)), some (aI (0))]) (st' := [aI (2), aI (σ 5 (0) 5)]) (σ' := σ) rq_65 rfl True.intro (i' := 85) rfl ?_
                        refine wp_icmp rq_65 rfl (fun (h455 : ¬ (σ 5 (0) 5) = 2) => ?_) (fun (h455 : ¬ (¬ (σ 5 (0) 5) = 2)) => ?_)
                        · refine wp_seg 1 (P := none) (ls' := [some (aR 5 (0)), some (aI (c)), some (aI (0))]) (st' := [aI (0)]) (σ' := σ) rq_65 rfl True.intro (i' := 99) rfl ?_
                          refine wp_zret rq_65 rfl rt_65 ?_ ⟨?_, ?_⟩
                          · first | exact Or.inl rfl | exact Or.inr rfl
                          · (rw [zo_accept, if_neg h1, if_pos h338, if_pos h339, if_neg h340, if_pos h422, if_neg h423, if_pos h450, if_pos h451, if_pos h452, if_neg h453, if_neg h454, if_pos h455]; try rfl)
                          · (rw [zm_accept, if_neg h1, if_pos h338, if_pos h339, if_neg h340, if_pos h422, if_neg h423, if_pos h450, if_pos h451, if_pos h452, if_neg h453, if_neg h454, if_pos h455]; try rfl)
                        · refine wp_seg 1 (P := none) (ls' := [some (aR 5 (0)), some (aI (c)), some (aI (0))]) (st' := [aI (0)]) (σ' := σ) rq_65 rfl True.intro (i' := 87) rfl ?_
                          refine wp_if rq_65 rfl (fun _ => ?_) (fun (h456 : ¬ ((0 : Int) = (0 : Int))) => absurd (show (0 : Int) = (0 : Int) from by decide) h456)
                          refine wp_seg 1 (P := none) (ls' := [some (aR 5 (0)), some (aI (c)), some (aI (0))]) (st' := [aI (0)]) (σ' := σ) rq_65 rfl True.intro (i' := 99) rfl ?_
                          refine wp_zret rq_65 rfl rt_65 ?_ ⟨?_, ?_⟩
                          · first | exact Or.inl rfl | exact Or.inr rfl
                          · (rw [zo_accept, if_neg h1, if_pos h338, if_pos h339, if_neg h340, if_pos h422, if_neg h423, if_pos h450, if_pos h451, if_pos h452, if_neg h453, if_neg h454, if_neg h455]; try rfl)
                          · (rw [zm_accept, if_neg h1, if_pos h338, if_pos h339, if_neg h340, if_pos h422, if_neg h423, if_pos h450, if_pos h451, if_pos h452, if_neg h453, if_neg h454, if_neg h455]; try rfl)
                  · refine wp_seg 1 (P := none) (ls' := [some (aR 5 (0)), some (aI (c)), some (aI (0))]) (st' := [aI (0)]) (σ' := σ) rq_65 rfl True.intro (i' := 55) rfl ?_
                    refine wp_if rq_65 rfl (fun _ => ?_) (fun (h457 : ¬ ((0 : Int) = (0 : Int))) => absurd (show (0 : Int) = (0 : Int) from by decide) h457)
                    refine wp_seg 2 (P := none) (ls' := [some (aR 5 (0)), some (aI (c)), some (aI (0))]) (st' := [aI (59), aI (c)]) (σ' := σ) rq_65 rfl True.intro (i' := 77) rfl ?_
                    refine wp_icmp rq_65 rfl (fun (h458 : ¬ (c) = 59) => ?_) (fun (h458 : ¬ (¬ (c) = 59)) => ?_)
                    · refine wp_seg 1 (P := none) (ls' := [some (aR 5 (0)), some (aI (c)), some (aI (0))]) (st' := [aI (0)]) (σ' := σ) rq_65 rfl True.intro (i' := 99) rfl ?_
                      refine wp_zret rq_65 rfl rt_65 ?_ ⟨?_, ?_⟩
                      · first | exact Or.inl rfl | exact Or.inr rfl
                      · (rw [zo_accept, if_neg h1, if_pos h338, if_pos h339, if_neg h340, if_pos h422, if_neg h423, if_pos h450, if_pos h451, if_neg h452, if_pos h458]; try rfl)
                      · (rw [zm_accept, if_neg h1, if_pos h338, if_pos h339, if_neg h340, if_pos h422, if_neg h423, if_pos h450, if_pos h451, if_neg h452, if_pos h458]; try rfl)
                    · refine wp_seg 3 (P := none) (ls' := [some (aR 5 (0)), some (aI (c)), some (aI (0))]) (st' := [aI (3), aI (σ 5 (0) 5)]) (σ' := σ) rq_65 rfl True.intro (i' := 81) rfl ?_
                      refine wp_icmp rq_65 rfl (fun (h459 : (σ 5 (0) 5) = 3) => ?_) (fun (h459 : ¬ ((σ 5 (0) 5) = 3)) => ?_)
                      · refine wp_seg 8 (P := none) (ls' := [some (aR 5 (0)), some (aI (c)), some (aI (0))]) (st' := [aI (0), aR 5 (0)]) (σ' := (up σ 5 (0) 4 (wr ((σ 5 (0) 4) + (1))))) rq_65 rfl True.intro (i' := 96) rfl ?_
                        refine wp_call (C := 5) (As := [aR 5 (0), aI (0)]) (rest := []) rq_65 (ev_openPart (0) (up σ 5 (0) 4 (wr ((σ 5 (0) 4) + (1)))) ) rfl rfl (show clOK 65 66 0 0 0 2 5 = true by decide +kernel) rfl (show 0 ≤ 4 by decide) (fun _ => ⟨_, rfl⟩) rfl (c' := 0) (s' := 0) rfl rfl ?_
                        refine wp_goto rq_65 rfl ?_
                        refine wp_seg 1 (P := none) (ls' := [some (aR 5 (0)), some (aI (c)), some (aI (0))]) (st' := [aI (1)]) (σ' := (zm_openPart (0) (up σ 5 (0) 4 (wr ((σ 5 (0) 4) + (1)))))) rq_65 rfl True.intro (i' := 101) rfl ?_
                        refine wp_zret rq_65 rfl rt_65 ?_ ⟨?_, ?_⟩
                        · first | exact Or.inl rfl | exact Or.inr rfl
                        · (rw [zo_accept, if_neg h1, if_pos h338, if_pos h339, if_neg h340, if_pos h422, if_neg h423, if_pos h450, if_pos h451, if_neg h452, if_neg h458, if_pos h459]; try rfl)
                        · (rw [zm_accept, if_neg h1, if_pos h338, if_pos h339, if_neg h340, if_pos h422, if_neg h423, if_pos h450, if_pos h451, if_neg h452, if_neg h458, if_pos h459]; try rfl)
                      · refine wp_seg 3 (P := none) (ls' := [some (aR 5 (0)), some (aI (c)), some (aI (0))]) (st' := [aI (2), aI (σ 5 (0) 5)]) (σ' := σ) rq_65 rfl True.intro (i' := 85) rfl ?_
                        refine wp_icmp rq_65 rfl (fun (h460 : ¬ (σ 5 (0) 5) = 2) => ?_) (fun (h460 : ¬ (¬ (σ 5 (0) 5) = 2)) => ?_)
                        · refine wp_seg 1 (P := none) (ls' := [some (aR 5 (0)), some (aI (c)), some (aI (0))]) (st' := [aI (0)]) (σ' := σ) rq_65 rfl True.intro (i' := 99) rfl ?_
                          refine wp_zret rq_65 rfl rt_65 ?_ ⟨?_, ?_⟩
                          · first | exact Or.inl rfl | exact Or.inr rfl
                          · (rw [zo_accept, if_neg h1, if_pos h338, if_pos h339, if_neg h340, if_pos h422, if_neg h423, if_pos h450, if_pos h451, if_neg h452, if_neg h458, if_neg h459, if_pos h460]; try rfl)
                          · (rw [zm_accept, if_neg h1, if_pos h338, if_pos h339, if_neg h340, if_pos h422, if_neg h423, if_pos h450, if_pos h451, if_neg h452, if_neg h458, if_neg h459, if_pos h460]; try rfl)
                        · refine wp_seg 1 (P := none) (ls' := [some (aR 5 (0)), some (aI (c)), some (aI (0))]) (st' := [aI (0)]) (σ' := σ) rq_65 rfl True.intro (i' := 87) rfl ?_
                          refine wp_if rq_65 rfl (fun _ => ?_) (fun (h461 : ¬ ((0 : Int) = (0 : Int))) => absurd (show (0 : Int) = (0 : Int) from by decide) h461)
                          refine wp_seg 1 (P := none) (ls' := [some (aR 5 (0)), some (aI (c)), some (aI (0))]) (st' := [aI (0)]) (σ' := σ) rq_65 rfl True.intro (i' := 99) rfl ?_
                          refine wp_zret rq_65 rfl rt_65 ?_ ⟨?_, ?_⟩
                          · first | exact Or.inl rfl | exact Or.inr rfl
                          · (rw [zo_accept, if_neg h1, if_pos h338, if_pos h339, if_neg h340, if_pos h422, if_neg h423, if_pos h450, if_pos h451, if_neg h452, if_neg h458, if_neg h459, if_neg h460]; try rfl)
                          · (rw [zm_accept, if_neg h1, if_pos h338, if_pos h339, if_neg h340, if_pos h422, if_neg h423, if_pos h450, if_pos h451, if_neg h452, if_neg h458, if_neg h459, if_neg h460]; try rfl)
                · refine wp_seg 2 (P := none) (ls' := [some (aR 5 (0)), some (aI (c)), some (aI (0))]) (st' := [aI (114), aI (c)]) (σ' := σ) rq_65 rfl True.intro (i' := 49) rfl ?_
                  refine wp_icmp rq_65 rfl (fun (h462 : ¬ (c) = 114) => ?_) (fun (h462 : ¬ (¬ (c) = 114)) => ?_)
                  · refine wp_seg 2 (P := none) (ls' := [some (aR 5 (0)), some (aI (c)), some (aI (0))]) (st' := [aI (59), aI (c)]) (σ' := σ) rq_65 rfl True.intro (i' := 77) rfl ?_
                    refine wp_icmp rq_65 rfl (fun (h463 : ¬ (c) = 59) => ?_) (fun (h463 : ¬ (¬ (c) = 59)) => ?_)
                    · refine wp_seg 1 (P := none) (ls' := [some (aR 5 (0)), some (aI (c)), some (aI (0))]) (st' := [aI (0)]) (σ' := σ) rq_65 rfl True.intro (i' := 99) rfl ?_
                      refine wp_zret rq_65 rfl rt_65 ?_ ⟨?_, ?_⟩
                      · first | exact Or.inl rfl | exact Or.inr rfl
                      · (rw [zo_accept, if_neg h1, if_pos h338, if_pos h339, if_neg h340, if_pos h422, if_neg h423, if_pos h450, if_neg h451, if_pos h462, if_pos h463]; try rfl)
                      · (rw [zm_accept, if_neg h1, if_pos h338, if_pos h339, if_neg h340, if_pos h422, if_neg h423, if_pos h450, if_neg h451, if_pos h462, if_pos h463]; try rfl)
                    · refine wp_seg 3 (P := none) (ls' := [some (aR 5 (0)), some (aI (c)), some (aI (0))]) (st' := [aI (3), aI (σ 5 (0) 5)]) (σ' := σ) rq_65 rfl True.intro (i' := 81) rfl ?_
                      refine wp_icmp rq_65 rfl (fun (h464 : (σ 5 (0) 5) = 3) => ?_) (fun (h464 : ¬ ((σ 5 (0) 5) = 3)) => ?_)
                      · refine wp_seg 8 (P := none) (ls' := [some (aR 5 (0)), some (aI (c)), some (aI (0))]) (st' := [aI (0), aR 5 (0)]) (σ' := (up σ 5 (0) 4 (wr ((σ 5 (0) 4) + (1))))) rq_65 rfl True.intro (i' := 96) rfl ?_
                        refine wp_call (C := 5) (As := [aR 5 (0), aI (0)]) (rest := []) rq_65 (ev_openPart (0) (up σ 5 (0) 4 (wr ((σ 5 (0) 4) + (1)))) ) rfl rfl (show clOK 65 66 0 0 0 2 5 = true by decide +kernel) rfl (show 0 ≤ 4 by decide) (fun _ => ⟨_, rfl⟩) rfl (c' := 0) (s' := 0) rfl rfl ?_
                        refine wp_goto rq_65 rfl ?_
                        refine wp_seg 1 (P := none) (ls' := [some (aR 5 (0)), some (aI (c)), some (aI (0))]) (st' := [aI (1)]) (σ' := (zm_openPart (0) (up σ 5 (0) 4 (wr ((σ 5 (0) 4) + (1)))))) rq_65 rfl True.intro (i' := 101) rfl ?_
                        refine wp_zret rq_65 rfl rt_65 ?_ ⟨?_, ?_⟩
                        · first | exact Or.inl rfl | exact Or.inr rfl
                        · (rw [zo_accept, if_neg h1, if_pos h338, if_pos h339, if_neg h340, if_pos h422, if_neg h423, if_pos h450, if_neg h451, if_pos h462, if_neg h463, if_pos h464]; try rfl)
                        · (rw [zm_accept, if_neg h1, if_pos h338, if_pos h339, if_neg h340, if_pos h422, if_neg h423, if_pos h450, if_neg h451, if_pos h462, if_neg h463, if_pos h464]; try rfl)
                      · refine wp_seg 3 (P := none) (ls' := [some (aR 5 (0)), some (aI (c)), some (aI (0))]) (st' := [aI (2), aI (σ 5 (0) 5)]) (σ' := σ) rq_65 rfl True.intro (i' := 85) rfl ?_
                        refine wp_icmp rq_65 rfl (fun (h465 : ¬ (σ 5 (0) 5) = 2) => ?_) (fun (h465 : ¬ (¬ (σ 5 (0) 5) = 2)) => ?_)
                        · refine wp_seg 1 (P := none) (ls' := [some (aR 5 (0)), some (aI (c)), some (aI (0))]) (st' := [aI (0)]) (σ' := σ) rq_65 rfl True.intro (i' := 99) rfl ?_
                          refine wp_zret rq_65 rfl rt_65 ?_ ⟨?_, ?_⟩
                          · first | exact Or.inl rfl | exact Or.inr rfl
                          · (rw [zo_accept, if_neg h1, if_pos h338, if_pos h339, if_neg h340, if_pos h422, if_neg h423, if_pos h450, if_neg h451, if_pos h462, if_neg h463, if_neg h464, if_pos h465]; try rfl)
                          · (rw [zm_accept, if_neg h1, if_pos h338, if_pos h339, if_neg h340, if_pos h422, if_neg h423, if_pos h450, if_neg h451, if_pos h462, if_neg h463, if_neg h464, if_pos h465]; try rfl)
                        · refine wp_seg 1 (P := none) (ls' := [some (aR 5 (0)), some (aI (c)), some (aI (0))]) (st' := [aI (0)]) (σ' := σ) rq_65 rfl True.intro (i' := 87) rfl ?_
                          refine wp_if rq_65 rfl (fun _ => ?_) (fun (h466 : ¬ ((0 : Int) = (0 : Int))) => absurd (show (0 : Int) = (0 : Int) from by decide) h466)
                          refine wp_seg 1 (P := none) (ls' := [some (aR 5 (0)), some (aI (c)), some (aI (0))]) (st' := [aI (0)]) (σ' := σ) rq_65 rfl True.intro (i' := 99) rfl ?_
                          refine wp_zret rq_65 rfl rt_65 ?_ ⟨?_, ?_⟩
                          · first | exact Or.inl rfl | exact Or.inr rfl
                          · (rw [zo_accept, if_neg h1, if_pos h338, if_pos h339, if_neg h340, if_pos h422, if_neg h423, if_pos h450, if_neg h451, if_pos h462, if_neg h463, if_neg h464, if_neg h465]; try rfl)
                          · (rw [zm_accept, if_neg h1, if_pos h338, if_pos h339, if_neg h340, if_pos h422, if_neg h423, if_pos h450, if_neg h451, if_pos h462, if_neg h463, if_neg h464, if_neg h465]; try rfl)
                  · refine wp_seg 3 (P := none) (ls' := [some (aR 5 (0)), some (aI (c)), some (aI (0))]) (st' := [aI (2), aI (σ 5 (0) 5)]) (σ' := σ) rq_65 rfl True.intro (i' := 53) rfl ?_
                    refine wp_icmp rq_65 rfl (fun (h467 : ¬ (σ 5 (0) 5) = 2) => ?_) (fun (h467 : ¬ (¬ (σ 5 (0) 5) = 2)) => ?_)
                    · refine wp_seg 2 (P := none) (ls' := [some (aR 5 (0)), some (aI (c)), some (aI (0))]) (st' := [aI (59), aI (c)]) (σ' := σ) rq_65 rfl True.intro (i' := 77) rfl ?_
                      refine wp_icmp rq_65 rfl (fun (h468 : ¬ (c) = 59) => ?_) (fun (h468 : ¬ (¬ (c) = 59)) => ?_)
                      · refine wp_seg 1 (P := none) (ls' := [some (aR 5 (0)), some (aI (c)), some (aI (0))]) (st' := [aI (0)]) (σ' := σ) rq_65 rfl True.intro (i' := 99) rfl ?_
                        refine wp_zret rq_65 rfl rt_65 ?_ ⟨?_, ?_⟩
                        · first | exact Or.inl rfl | exact Or.inr rfl
                        · (rw [zo_accept, if_neg h1, if_pos h338, if_pos h339, if_neg h340, if_pos h422, if_neg h423, if_pos h450, if_neg h451, if_neg h462, if_pos h467, if_pos h468]; try rfl)
                        · (rw [zm_accept, if_neg h1, if_pos h338, if_pos h339, if_neg h340, if_pos h422, if_neg h423, if_pos h450, if_neg h451, if_neg h462, if_pos h467, if_pos h468]; try rfl)
                      · refine wp_seg 3 (P := none) (ls' := [some (aR 5 (0)), some (aI (c)), some (aI (0))]) (st' := [aI (3), aI (σ 5 (0) 5)]) (σ' := σ) rq_65 rfl True.intro (i' := 81) rfl ?_
                        refine wp_icmp rq_65 rfl (fun (h469 : (σ 5 (0) 5) = 3) => ?_) (fun (h469 : ¬ ((σ 5 (0) 5) = 3)) => ?_)
                        · refine wp_seg 8 (P := none) (ls' := [some (aR 5 (0)), some (aI (c)), some (aI (0))]) (st' := [aI (0), aR 5 (0)]) (σ' := (up σ 5 (0) 4 (wr ((σ 5 (0) 4) + (1))))) rq_65 rfl True.intro (i' := 96) rfl ?_
                          refine wp_call (C := 5) (As := [aR 5 (0), aI (0)]) (rest := []) rq_65 (ev_openPart (0) (up σ 5 (0) 4 (wr ((σ 5 (0) 4) + (1)))) ) rfl rfl (show clOK 65 66 0 0 0 2 5 = true by decide +kernel) rfl (show 0 ≤ 4 by decide) (fun _ => ⟨_, rfl⟩) rfl (c' := 0) (s' := 0) rfl rfl ?_
                          refine wp_goto rq_65 rfl ?_
                          refine wp_seg 1 (P := none) (ls' := [some (aR 5 (0)), some (aI (c)), some (aI (0))]) (st' := [aI (1)]) (σ' := (zm_openPart (0) (up σ 5 (0) 4 (wr ((σ 5 (0) 4) + (1)))))) rq_65 rfl True.intro (i' := 101) rfl ?_
                          refine wp_zret rq_65 rfl rt_65 ?_ ⟨?_, ?_⟩
                          · first | exact Or.inl rfl | exact Or.inr rfl
                          · (rw [zo_accept, if_neg h1, if_pos h338, if_pos h339, if_neg h340, if_pos h422, if_neg h423, if_pos h450, if_neg h451, if_neg h462, if_pos h467, if_neg h468, if_pos h469]; try rfl)
                          · (rw [zm_accept, if_neg h1, if_pos h338, if_pos h339, if_neg h340, if_pos h422, if_neg h423, if_pos h450, if_neg h451, if_neg h462, if_pos h467, if_neg h468, if_pos h469]; try rfl)
                        · refine wp_seg 3 (P := none) (ls' := [some (aR 5 (0)), some (aI (c)), some (aI (0))]) (st' := [aI (2), aI (σ 5 (0) 5)]) (σ' := σ) rq_65 rfl True.intro (i' := 85) rfl ?_
                          refine wp_icmp rq_65 rfl (fun (h470 : ¬ (σ 5 (0) 5) = 2) => ?_) (fun (h470 : ¬ (¬ (σ 5 (0) 5) = 2)) => ?_)
                          · refine wp_seg 1 (P := none) (ls' := [some (aR 5 (0)), some (aI (c)), some (aI (0))]) (st' := [aI (0)]) (σ' := σ) rq_65 rfl True.intro (i' := 99) rfl ?_
                            refine wp_zret rq_65 rfl rt_65 ?_ ⟨?_, ?_⟩
                            · first | exact Or.inl rfl | exact Or.inr rfl
                            · (rw [zo_accept, if_neg h1, if_pos h338, if_pos h339, if_neg h340, if_pos h422, if_neg h423, if_pos h450, if_neg h451, if_neg h462, if_pos h467, if_neg h468, if_neg h469, if_pos h470]; try rfl)
                            · (rw [zm_accept, if_neg h1, if_pos h338, if_pos h339, if_neg h340, if_pos h422, if_neg h423, if_pos h450, if_neg h451, if_neg h462, if_pos h467, if_neg h468, if_neg h469, if_pos h470]; try rfl)
                          · refine wp_seg 1 (P := none) (ls' := [some (aR 5 (0)), some (aI (c)), some (aI (0))]) (st' := [aI (0)]) (σ' := σ) rq_65 rfl True.intro (i' := 87) rfl ?_
                            refine wp_if rq_65 rfl (fun _ => ?_) (fun (h471 : ¬ ((0 : Int) = (0 : Int))) => absurd (show (0 : Int) = (0 : Int) from by decide) h471)
                            refine wp_seg 1 (P := none) (ls' := [some (aR 5 (0)), some (aI (c)), some (aI (0))]) (st' := [aI (0)]) (σ' := σ) rq_65 rfl True.intro (i' := 99) rfl ?_
                            refine wp_zret rq_65 rfl rt_65 ?_ ⟨?_, ?_⟩
                            · first | exact Or.inl rfl | exact Or.inr rfl
                            · (rw [zo_accept, if_neg h1, if_pos h338, if_pos h339, if_neg h340, if_pos h422, if_neg h423, if_pos h450, if_neg h451, if_neg h462, if_pos h467, if_neg h468, if_neg h469, if_neg h470]; try rfl)
                            · (rw [zm_accept, if_neg h1, if_pos h338, if_pos h339, if_neg h340, if_pos h422, if_neg h423, if_pos h450, if_neg h451, if_neg h462, if_pos h467, if_neg h468, if_neg h469, if_neg h470]; try rfl)
                    · refine wp_seg 1 (P := none) (ls' := [some (aR 5 (0)), some (aI (c)), some (aI (0))]) (st' := [aI (0)]) (σ' := σ) rq_65 rfl True.intro (i' := 55) rfl ?_
                      refine wp_if rq_65 rfl (fun _ => ?_) (fun (h472 : ¬ ((0 : Int) = (0 : Int))) => absurd (show (0 : Int) = (0 : Int) from by decide) h472)
                      refine wp_seg 2 (P := none) (ls' := [some (aR 5 (0)), some (aI (c)), some (aI (0))]) (st' := [aI (59), aI (c)]) (σ' := σ) rq_65 rfl True.intro (i' := 77) rfl ?_
                      refine wp_icmp rq_65 rfl (fun (h473 : ¬ (c) = 59) => ?_) (fun (h473 : ¬ (¬ (c) = 59)) => ?_)
                      · refine wp_seg 1 (P := none) (ls' := [some (aR 5 (0)), some (aI (c)), some (aI (0))]) (st' := [aI (0)]) (σ' := σ) rq_65 rfl True.intro (i' := 99) rfl ?_
                        refine wp_zret rq_65 rfl rt_65 ?_ ⟨?_, ?_⟩
                        · first | exact Or.inl rfl | exact Or.inr rfl
                        · (rw [zo_accept, if_neg h1, if_pos h338, if_pos h339, if_neg h340, if_pos h422, if_neg h423, if_pos h450, if_neg h451, if_neg h462, if_neg h467, if_pos h473]; try rfl)
                        · (rw [zm_accept, if_neg h1, if_pos h338, if_pos h339, if_neg h340, if_pos h422, if_neg h423, if_pos h450, if_neg h451, if_neg h462, if_neg h467, if_pos h473]; try rfl)
                      · refine wp_seg 3 (P := none) (ls' := [some (aR 5 (0)), some (aI (c)), some (aI (0))]) (st' := [aI (3), aI (σ 5 (0) 5)]) (σ' := σ) rq_65 rfl True.intro (i' := 81) rfl ?_
                        refine wp_icmp rq_65 rfl (fun (h474 : (σ 5 (0) 5) = 3) => ?_) (fun (h474 : ¬ ((σ 5 (0) 5) = 3)) => ?_)
                        · refine wp_seg 8 (P := none) (ls' := [some (aR 5 (0)), some (aI (c)), some (aI (0))]) (st' := [aI (0), aR 5 (0)]) (σ' := (up σ 5 (0) 4 (wr ((σ 5 (0) 4) + (1))))) rq_65 rfl True.intro (i' := 96) rfl ?_
                          refine wp_call (C := 5) (As := [aR 5 (0), aI (0)]) (rest := []) rq_65 (ev_openPart (0) (up σ 5 (0) 4 (wr ((σ 5 (0) 4) + (1)))) ) rfl rfl (show clOK 65 66 0 0 0 2 5 = true by decide +kernel) rfl (show 0 ≤ 4 by decide) (fun _ => ⟨_, rfl⟩) rfl (c' := 0) (s' := 0) rfl rfl ?_
                          refine wp_goto rq_65 rfl ?_
                          refine wp_seg 1 (P := none) (ls' := [some (aR 5 (0)), some (aI (c)), some (aI (0))]) (st' := [aI (1)]) (σ' := (zm_openPart (0) (up σ 5 (0) 4 (wr ((σ 5 (0) 4) + (1)))))) rq_65 rfl True.intro (i' := 101) rfl ?_
                          refine wp_zret rq_65 rfl rt_65 ?_ ⟨?_, ?_⟩
                          · first | exact Or.inl rfl | exact Or.inr rfl
                          · (rw [zo_accept, if_neg h1, if_pos h338, if_pos h339, if_neg h340, if_pos h422, if_neg h423, if_pos h450, if_neg h451, if_neg h462, if_neg h467, if_neg h473, if_pos h474]; try rfl)
                          · (rw [zm_accept, if_neg h1, if_pos h338, if_pos h339, if_neg h340, if_pos h422, if_neg h423, if_pos h450, if_neg h451, if_neg h462, if_neg h467, if_neg h473, if_pos h474]; try rfl)
                        · refine wp_seg 3 (P := none) (ls' := [some (aR 5 (0)), some (aI (c)), some (aI (0))]) (st' := [aI (2), aI (σ 5 (0) 5)]) (σ' := σ) rq_65 rfl True.intro (i' := 85) rfl ?_
                          refine wp_icmp rq_65 rfl (fun (h475 : ¬ (σ 5 (0) 5) = 2) => ?_) (fun (h475 : ¬ (¬ (σ 5 (0) 5) = 2)) => ?_)
                          · refine wp_seg 1 (P := none) (ls' := [some (aR 5 (0)), some (aI (c)), some (aI (0))]) (st' := [aI (0)]) (σ' := σ) rq_65 rfl True.intro (i' := 99) rfl ?_
                            refine wp_zret rq_65 rfl rt_65 ?_ ⟨?_, ?_⟩
                            · first | exact Or.inl rfl | exact Or.inr rfl
                            · (rw [zo_accept, if_neg h1, if_pos h338, if_pos h339, if_neg h340, if_pos h422, if_neg h423, if_pos h450, if_neg h451, if_neg h462, if_neg h467, if_neg h473, if_neg h474, if_pos h475]; try rfl)
                            · (rw [zm_accept, if_neg h1, if_pos h338, if_pos h339, if_neg h340, if_pos h422, if_neg h423, if_pos h450, if_neg h451, if_neg h462, if_neg h467, if_neg h473, if_neg h474, if_pos h475]; try rfl)
                          · refine wp_seg 1 (P := none) (ls' := [some (aR 5 (0)), some (aI (c)), some (aI (0))]) (st' := [aI (0)]) (σ' := σ) rq_65 rfl True.intro (i' := 87) rfl ?_
                            refine wp_if rq_65 rfl (fun _ => ?_) (fun (h476 : ¬ ((0 : Int) = (0 : Int))) => absurd (show (0 : Int) = (0 : Int) from by decide) h476)
                            refine wp_seg 1 (P := none) (ls' := [some (aR 5 (0)), some (aI (c)), some (aI (0))]) (st' := [aI (0)]) (σ' := σ) rq_65 rfl True.intro (i' := 99) rfl ?_
                            refine wp_zret rq_65 rfl rt_65 ?_ ⟨?_, ?_⟩
                            · first | exact Or.inl rfl | exact Or.inr rfl
                            · (rw [zo_accept, if_neg h1, if_pos h338, if_pos h339, if_neg h340, if_pos h422, if_neg h423, if_pos h450, if_neg h451, if_neg h462, if_neg h467, if_neg h473, if_neg h474, if_neg h475]; try rfl)
                            · (rw [zm_accept, if_neg h1, if_pos h338, if_pos h339, if_neg h340, if_pos h422, if_neg h423, if_pos h450, if_neg h451, if_neg h462, if_neg h467, if_neg h473, if_neg h474, if_neg h475]; try rfl)
              · refine wp_seg 1 (P := none) (ls' := [some (aR 5 (0)), some (aI (c)), some (aI (0))]) (st' := [aI (0)]) (σ' := σ) rq_65 rfl True.intro (i' := 39) rfl ?_
                refine wp_if rq_65 rfl (fun _ => ?_) (fun (h477 : ¬ ((0 : Int) = (0 : Int))) => absurd (show (0 : Int) = (0 : Int) from by decide) h477)
                refine wp_seg 2 (P := none) (ls' := [some (aR 5 (0)), some (aI (c)), some (aI (0))]) (st' := [aI (108), aI (c)]) (σ' := σ) rq_65 rfl True.intro (i' := 46) rfl ?_
                refine wp_icmp rq_65 rfl (fun (h478 : (c) = 108) => ?_) (fun (h478 : ¬ ((c) = 108)) => ?_)
                · refine wp_seg 3 (P := none) (ls' := [some (aR 5 (0)), some (aI (c)), some (aI (0))]) (st' := [aI (2), aI (σ 5 (0) 5)]) (σ' := σ) rq_65 rfl True.intro (i' := 53) rfl ?_
                  refine wp_icmp rq_65 rfl (fun (h479 : ¬ (σ 5 (0) 5) = 2) => ?_) (fun (h479 : ¬ (¬ (σ 5 (0) 5) = 2)) => ?_)
                  · refine wp_seg 2 (P := none) (ls' := [some (aR 5 (0)), some (aI (c)), some (aI (0))]) (st' := [aI (59), aI (c)]) (σ' := σ) rq_65 rfl True.intro (i' := 77) rfl ?_
                    refine wp_icmp rq_65 rfl (fun (h480 : ¬ (c) = 59) => ?_) (fun (h480 : ¬ (¬ (c) = 59)) => ?_)
                    · refine wp_seg 1 (P := none) (ls' := [some (aR 5 (0)), some (aI (c)), some (aI (0))]) (st' := [aI (0)]) (σ' := σ) rq_65 rfl True.intro (i' := 99) rfl ?_
                      refine wp_zret rq_65 rfl rt_65 ?_ ⟨?_, ?_⟩
                      · first | exact Or.inl rfl | exact Or.inr rfl
                      · (rw [zo_accept, if_neg h1, if_pos h338, if_pos h339, if_neg h340, if_pos h422, if_neg h423, if_neg h450, if_pos h478, if_pos h479, if_pos h480]; try rfl)
                      · (rw [zm_accept, if_neg h1, if_pos h338, if_pos h339, if_neg h340, if_pos h422, if_neg h423, if_neg h450, if_pos h478, if_pos h479, if_pos h480]; try rfl)
                    · refine wp_seg 3 (P := none) (ls' := [some (aR 5 (0)), some (aI (c)), some (aI (0))]) (st' := [aI (3), aI (σ 5 (0) 5)]) (σ' := σ) rq_65 rfl True.intro (i' := 81) rfl ?_
                      refine wp_icmp rq_65 rfl (fun (h481 : (σ 5 (0) 5) = 3) => ?_) (fun (h481 : ¬ ((σ 5 (0) 5) = 3)) => ?_)
                      · refine wp_seg 8 (P := none) (ls' := [some (aR 5 (0)), some (aI (c)), some (aI (0))]) (st' := [aI (0), aR 5 (0)]) (σ' := (up σ 5 (0) 4 (wr ((σ 5 (0) 4) + (1))))) rq_65 rfl True.intro (i' := 96) rfl ?_
                        refine wp_call (C := 5) (As := [aR 5 (0), aI (0)]) (rest := []) rq_65 (ev_openPart (0) (up σ 5 (0) 4 (wr ((σ 5 (0) 4) + (1)))) ) rfl rfl (show clOK 65 66 0 0 0 2 5 = true by decide +kernel) rfl (show 0 ≤ 4 by decide) (fun _ => ⟨_, rfl⟩) rfl (c' := 0) (s' := 0) rfl rfl ?_
                        refine wp_goto rq_65 rfl ?_
                        refine wp_seg 1 (P := none) (ls' := [some (aR 5 (0)), some (aI (c)), some (aI (0))]) (st' := [aI (1)]) (σ' := (zm_openPart (0) (up σ 5 (0) 4 (wr ((σ 5 (0) 4) + (1)))))) rq_65 rfl True.intro (i' := 101) rfl ?_
                        refine wp_zret rq_65 rfl rt_65 ?_ ⟨?_, ?_⟩
                        · first | exact Or.inl rfl | exact Or.inr rfl
                        · (rw [zo_accept, if_neg h1, if_pos h338, if_pos h339, if_neg h340, if_pos h422, if_neg h423, if_neg h450, if_pos h478, if_pos h479, if_neg h480, if_pos h481]; try rfl)
                        · (rw [zm_accept, if_neg h1, if_pos h338, if_pos h339, if_neg h340, if_pos h422, if_neg h423, if_neg h450, if_pos h478, if_pos h479, if_neg h480, if_pos h481]; try rfl)
                      · refine wp_seg 3 (P := none) (ls' := [some (aR 5 (0)), some (aI (c)), some (aI (0))]) (st' := [aI (2), aI (σ 5 (0) 5)]) (σ' := σ) rq_65 rfl True.intro (i' := 85) rfl ?_
                        refine wp_icmp rq_65 rfl (fun (h482 : ¬ (σ 5 (0) 5) = 2) => ?_) (fun (h482 : ¬ (¬ (σ 5 (0) 5) = 2)) => ?_)
                        · refine wp_seg 1 (P := none) (ls' := [some (aR 5 (0)), some (aI (c)), some (aI (0))]) (st' := [aI (0)]) (σ' := σ) rq_65 rfl True.intro (i' := 99) rfl ?_
                          refine wp_zret rq_65 rfl rt_65 ?_ ⟨?_, ?_⟩
                          · first | exact Or.inl rfl | exact Or.inr rfl
                          · (rw [zo_accept, if_neg h1, if_pos h338, if_pos h339, if_neg h340, if_pos h422, if_neg h423, if_neg h450, if_pos h478, if_pos h479, if_neg h480, if_neg h481, if_pos h482]; try rfl)
                          · (rw [zm_accept, if_neg h1, if_pos h338, if_pos h339, if_neg h340, if_pos h422, if_neg h423, if_neg h450, if_pos h478, if_pos h479, if_neg h480, if_neg h481, if_pos h482]; try rfl)
                        · refine wp_seg 1 (P := none) (ls' := [some (aR 5 (0)), some (aI (c)), some (aI (0))]) (st' := [aI (0)]) (σ' := σ) rq_65 rfl True.intro (i' := 87) rfl ?_
                          refine wp_if rq_65 rfl (fun _ => ?_) (fun (h483 : ¬ ((0 : Int) = (0 : Int))) => absurd (show (0 : Int) = (0 : Int) from by decide) h483)
                          refine wp_seg 1 (P := none) (ls' := [some (aR 5 (0)), some (aI (c)), some (aI (0))]) (st' := [aI (0)]) (σ' := σ) rq_65 rfl True.intro (i' := 99) rfl ?_
                          refine wp_zret rq_65 rfl rt_65 ?_ ⟨?_, ?_⟩
                          · first | exact Or.inl rfl | exact Or.inr rfl
                          · (rw [zo_accept, if_neg h1, if_pos h338, if_pos h339, if_neg h340, if_pos h422, if_neg h423, if_neg h450, if_pos h478, if_pos h479, if_neg h480, if_neg h481, if_neg h482]; try rfl)
                          · (rw [zm_accept, if_neg h1, if_pos h338, if_pos h339, if_neg h340, if_pos h422, if_neg h423, if_neg h450, if_pos h478, if_pos h479, if_neg h480, if_neg h481, if_neg h482]; try rfl)
                  · refine wp_seg 1 (P := none) (ls' := [some (aR 5 (0)), some (aI (c)), some (aI (0))]) (st' := [aI (0)]) (σ' := σ) rq_65 rfl True.intro (i' := 55) rfl ?_
                    refine wp_if rq_65 rfl (fun _ => ?_) (fun (h484 : ¬ ((0 : Int) = (0 : Int))) => absurd (show (0 : Int) = (0 : Int) from by decide) h484)
                    refine wp_seg 2 (P := none) (ls' := [some (aR 5 (0)), some (aI (c)), some (aI (0))]) (st' := [aI (59), aI (c)]) (σ' := σ) rq_65 rfl True.intro (i' := 77) rfl ?_
                    refine wp_icmp rq_65 rfl (fun (h485 : ¬ (c) = 59) => ?_) (fun (h485 : ¬ (¬ (c) = 59)) => ?_)
                    · refine wp_seg 1 (P := none) (ls' := [some (aR 5 (0)), some (aI (c)), some (aI (0))]) (st' := [aI (0)]) (σ' := σ) rq_65 rfl True.intro (i' := 99) rfl ?_
                      refine wp_zret rq_65 rfl rt_65 ?_ ⟨?_, ?_⟩
                      · first | exact Or.inl rfl | exact Or.inr rfl
                      · (rw [zo_accept, if_neg h1, if_pos h338, if_pos h339, if_neg h340, if_pos h422, if_neg h423, if_neg h450, if_pos h478, if_neg h479, if_pos h485]; try rfl)
                      · (rw [zm_accept, if_neg h1, if_pos h338, if_pos h339, if_neg h340, if_pos h422, if_neg h423, if_neg h450, if_pos h478, if_neg h479, if_pos h485]; try rfl)
                    · refine wp_seg 3 (P := none) (ls' := [some (aR 5 (0)), some (aI (c)), some (aI (0))]) (st' := [aI (3), aI (σ 5 (0) 5)]) (σ' := σ) rq_65 rfl True.intro (i' := 81) rfl ?_
                      refine wp_icmp rq_65 rfl (fun (h486 : (σ 5 (0) 5) = 3) => ?_) (fun (h486 : ¬ ((σ 5 (0) 5) = 3)) => ?_)
                      · refine wp_seg 8 (P := none) (ls' := [some (aR 5 (0)), some (aI (c)), some (aI (0))]) (st' := [aI (0), aR 5 (0)]) (σ' := (up σ 5 (0) 4 (wr ((σ 5 (0) 4) + (1))))) rq_65 rfl True.intro (i' := 96) rfl ?_
                        refine wp_call (C := 5) (As := [aR 5 (0), aI (0)]) (rest := []) rq_65 (ev_openPart (0) (up σ 5 (0) 4 (wr ((σ 5 (0) 4) + (1)))) ) rfl rfl (show clOK 65 66 0 0 0 2 5 = true by decide +kernel) rfl (show 0 ≤ 4 by decide) (fun _ => ⟨_, rfl⟩) rfl (c' := 0) (s' := 0) rfl rfl ?_
                        refine wp_goto rq_65 rfl ?_
                        refine wp_seg 1 (P := none) (ls' := [some (aR 5 (0)), some (aI (c)), some (aI (0))]) (st' := [aI (1)]) (σ' := (zm_openPart (0) (up σ 5 (0) 4 (wr ((σ 5 (0) 4) + (1)))))) rq_65 rfl True.intro (i' := 101) rfl ?_
                        refine wp_zret rq_65 rfl rt_65 ?_ ⟨?_, ?_⟩
                        · first | exact Or.inl rfl | exact Or.inr rfl
                        · (rw [zo_accept, if_neg h1, if_pos h338, if_pos h339, if_neg h340, if_pos h422, if_neg h423, if_neg h450, if_pos h478, if_neg h479, if_neg h485, if_pos h486]; try rfl)
                        · (rw [zm_accept, if_neg h1, if_pos h338, if_pos h339, if_neg h340, if_pos h422, if_neg h423, if_neg h450, if_pos h478, if_neg h479, if_neg h485, if_pos h486]; try rfl)
                      · refine wp_seg 3 (P := none) (ls' := [some (aR 5 (0)), some (aI (c)), some (aI (0))]) (st' := [aI (2), aI (σ 5 (0) 5)]) (σ' := σ) rq_65 rfl True.intro (i' := 85) rfl ?_
                        refine wp_icmp rq_65 rfl (fun (h487 : ¬ (σ 5 (0) 5) = 2) => ?_) (fun (h487 : ¬ (¬ (σ 5 (0) 5) = 2)) => ?_)
                        · refine wp_seg 1 (P := none) (ls' := [some (aR 5 (0)), some (aI (c)), some (aI (0))]) (st' := [aI (0)]) (σ' := σ) rq_65 rfl True.intro (i' := 99) rfl ?_
                          refine wp_zret rq_65 rfl rt_65 ?_ ⟨?_, ?_⟩
                          · first | exact Or.inl rfl | exact Or.inr rfl
                          · (rw [zo_accept, if_neg h1, if_pos h338, if_pos h339, if_neg h340, if_pos h422, if_neg h423, if_neg h450, if_pos h478, if_neg h479, if_neg h485, if_neg h486, if_pos h487]; try rfl)
                          · (rw [zm_accept, if_neg h1, if_pos h338, if_pos h339, if_neg h340, if_pos h422, if_neg h423, if_neg h450, if_pos h478, if_neg h479, if_neg h485, if_neg h486, if_pos h487]; try rfl)
                        · refine wp_seg 1 (P := none) (ls' := [some (aR 5 (0)), some (aI (c)), some (aI (0))]) (st' := [aI (0)]) (σ' := σ) rq_65 rfl True.intro (i' := 87) rfl ?_
                          refine wp_if rq_65 rfl (fun _ => ?_) (fun (h488 : ¬ ((0 : Int) = (0 : Int))) => absurd (show (0 : Int) = (0 : Int) from by decide) h488)
                          refine wp_seg 1 (P := none) (ls' := [some (aR 5 (0)), some (aI (c)), some (aI (0))]) (st' := [aI (0)]) (σ' := σ) rq_65 rfl True.intro (i' := 99) rfl ?_
                          refine wp_zret rq_65 rfl rt_65 ?_ ⟨?_, ?_⟩
                          · first | exact Or.inl rfl | exact Or.inr rfl
                          · (rw [zo_accept, if_neg h1, if_pos h338, if_pos h339, if_neg h340, if_pos h422, if_neg h423, if_neg h450, if_pos h478, if_neg h479, if_neg h485, if_neg h486, if_neg h487]; try rfl)
                          · (rw [zm_accept, if_neg h1, if_pos h338, if_pos h339, if_neg h340, if_pos h422, if_neg h423, if_neg h450, if_pos h478, if_neg h479, if_neg h485, if_neg h486, if_neg h487]; try rfl)
                · refine wp_seg 2 (P := none) (ls' := [some (aR 5 (0)), some (aI (c)), some (aI (0))]) (st' := [aI (114), aI (c)]) (σ' := σ) rq_65 rfl True.intro (i' := 49) rfl ?_
                  refine wp_icmp rq_65 rfl (fun (h489 : ¬ (c) = 114) => ?_) (fun (h489 : ¬ (¬ (c) = 114)) => ?_)
                  · refine wp_seg 2 (P := none) (ls' := [some (aR 5 (0)), some (aI (c)), some (aI (0))]) (st' := [aI (59), aI (c)]) (σ' := σ) rq_65 rfl True.intro (i' := 77) rfl ?_
                    refine wp_icmp rq_65 rfl (fun (h490 : ¬ (c) = 59) => ?_) (fun (h490 : ¬ (¬ (c) = 59)) => ?_)
                    · refine wp_seg 1 (P := none) (ls' := [some (aR 5 (0)), some (aI (c)), some (aI (0))]) (st' := [aI (0)]) (σ' := σ) rq_65 rfl True.intro (i' := 99) rfl ?_
                      refine wp_zret rq_65 rfl rt_65 ?_ ⟨?_, ?_⟩
                      · first | exact Or.inl rfl | exact Or.inr rfl
                      · (rw [zo_accept, if_neg h1, if_pos h338, if_pos h339, if_neg h340, if_pos h422, if_neg h423, if_neg h450, if_neg h478, if_pos h489, if_pos h490]; try rfl)
                      · (rw [zm_accept, if_neg h1, if_pos h338, if_pos h339, if_neg h340, if_pos h422, if_neg h423, if_neg h450, if_neg h478, if_pos h489, if_pos h490]; try rfl)
                    · refine wp_seg 3 (P := none) (ls' := [some (aR 5 (0)), some (aI (c)), some (aI (0))]) (st' := [aI (3), aI (σ 5 (0) 5)]) (σ' := σ) rq_65 rfl True.intro (i' := 81) rfl ?_
                      refine wp_icmp rq_65 rfl (fun (h491 : (σ 5 (0) 5) = 3) => ?_) (fun (h491 : ¬ ((σ 5 (0) 5) = 3)) => ?_)
                      · refine wp_seg 8 (P := none) (ls' := [some (aR 5 (0)), some (aI (c)), some (aI (0))]) (st' := [aI (0), aR 5 (0)]) (σ' := (up σ 5 (0) 4 (wr ((σ 5 (0) 4) + (1))))) rq_65 rfl True.intro (i' := 96) rfl ?_
                        refine wp_call (C := 5) (As := [aR 5 (0), aI (0)]) (rest := []) rq_65 (ev_openPart (0) (up σ 5 (0) 4 (wr ((σ 5 (0) 4) + (1)))) ) rfl rfl (show clOK 65 66 0 0 0 2 5 = true by decide +kernel) rfl (show 0 ≤ 4 by decide) (fun _ => ⟨_, rfl⟩) rfl (c' := 0) (s' := 0) rfl rfl ?_
                        refine wp_goto rq_65 rfl ?_
                        refine wp_seg 1 (P := none) (ls' := [some (aR 5 (0)), some (aI (c)), some (aI (0))]) (st' := [aI (1)]) (σ' := (zm_openPart (0) (up σ 5 (0) 4 (wr ((σ 5 (0) 4) + (1)))))) rq_65 rfl True.intro (i' := 101) rfl ?_
                        refine wp_zret rq_65 rfl rt_65 ?_ ⟨?_, ?_⟩
                        · first | exact Or.inl rfl | exact Or.inr rfl
                        · (rw [zo_accept, if_neg h1, if_pos h338, if_pos h339, if_neg h340, if_pos h422, if_neg h423, if_neg h450, if_neg h478, if_pos h489, if_neg h490, if_pos h491]; try rfl)
                        · (rw [zm_accept, if_neg h1, if_pos h338, if_pos h339, if_neg h340, if_pos h422, if_neg h423, if_neg h450, if_neg h478, if_pos h489, if_neg h490, if_pos h491]; try rfl)
                      · refine wp_seg 3 (P := none) (ls' := [some (aR 5 (0)), some (aI (c)), some (aI (0))]) (st' := [aI (2), aI (σ 5 (0) 5)]) (σ' := σ) rq_65 rfl True.intro (i' := 85) rfl ?_
                        refine wp_icmp rq_65 rfl (fun (h492 : ¬ (σ 5 (0) 5) = 2) => ?_) (fun (h492 : ¬ (¬ (σ 5 (0) 5) = 2)) => ?_)
                        · refine wp_seg 1 (P := none) (ls' := [some (aR 5 (0)), some (aI (c)), some (aI (0))]) (st' := [aI (0)]) (σ' := σ) rq_65 rfl True.intro (i' := 99) rfl ?_
                          refine wp_zret rq_65 rfl rt_65 ?_ ⟨?_, ?_⟩
                          · first | exact Or.inl rfl | exact Or.inr rfl
                          · (rw [zo_accept, if_neg h1, if_pos h338, if_pos h339, if_neg h340, if_pos h422, if_neg h423, if_neg h450, if_neg h478, if_pos h489, if_neg h490, if_neg h491, if_pos h492]; try rfl)
                          · (rw [zm_accept, if_neg h1, if_pos h338, if_pos h339, if_neg h340, if_pos h422, if_neg h423, if_neg h450, if_neg h478, if_pos h489, if_neg h490, if_neg h491, if_pos h492]; try rfl)
                        · refine wp_seg 1 (P := none) (ls' := [some (aR 5 (0)), some (aI (c)), some (aI (0))]) (st' := [aI (0)]) (σ' := σ) rq_65 rfl True.intro (i' := 87) rfl ?_
                          refine wp_if rq_65 rfl (fun _ => ?_) (fun (h493 : ¬ ((0 : Int) = (0 : Int))) => absurd (show (0 : Int) = (0 : Int) from by decide) h493)
                          refine wp_seg 1 (P := none) (ls' := [some (aR 5 (0)), some (aI (c)), some (aI (0))]) (st' := [aI (0)]) (σ' := σ) rq_65 rfl True.intro (i' := 99) rfl ?_
                          refine wp_zret rq_65 rfl rt_65 ?_ ⟨?_, ?_⟩
                          · first | exact Or.inl rfl | exact Or.inr rfl
                          · (rw [zo_accept, if_neg h1, if_pos h338, if_pos h339, if_neg h340, if_pos h422, if_neg h423, if_neg h450, if_neg h478, if_pos h489, if_neg h490, if_neg h491, if_neg h492]; try rfl)
                          · (rw [zm_accept, if_neg h1, if_pos h338, if_pos h339, if_neg h340, if_pos h422, if_neg h423, if_neg h450, if_neg h478, if_pos h489, if_neg h490, if_neg h491, if_neg h492]; try rfl)
                  · refine wp_seg 3 (P := none) (ls' := [some (aR 5 (0)), some (aI (c)), some (aI (0))]) (st' := [aI (2), aI (σ 5 (0) 5)]) (σ' := σ) rq_65 rfl True.intro (i' := 53) rfl ?_
                    refine wp_icmp rq_65 rfl (fun (h494 : ¬ (σ 5 (0) 5) = 2) => ?_) (fun (h494 : ¬ (¬ (σ 5 (0) 5) = 2)) => ?_)
                    · refine wp_seg 2 (P := none) (ls' := [some (aR 5 (0)), some (aI (c)), some (aI (0))]) (st' := [aI (59), aI (c)]) (σ' := σ) rq_65 rfl True.intro (i' := 77) rfl ?_
                      refine wp_icmp rq_65 rfl (fun (h495 : ¬ (c) = 59) => ?_) (fun (h495 : ¬ (¬ (c) = 59)) => ?_)
                      · refine wp_seg 1 (P := none) (ls' := [some (aR 5 (0)), some (aI (c)), some (aI (0))]) (st' := [aI (0)]) (σ' := σ) rq_65 rfl True.intro (i' := 99) rfl ?_
                        refine wp_zret rq_65 rfl rt_65 ?_ ⟨?_, ?_⟩
                        · first | exact Or.inl rfl | exact Or.inr rfl
                        · (rw [zo_accept, if_neg h1, if_pos h338, if_pos h339, if_neg h340, if_pos h422, if_neg h423, if_neg h450, if_neg h478, if_neg h489, if_pos h494, if_pos h495]; try rfl)
                        · (rw [zm_accept, if_neg h1, if_pos h338, if_pos h339, if_neg h340, if_pos h422, if_neg h423, if_neg h450, if_neg h478, if_neg h489, if_pos h494, if_pos h495]; try rfl)
                      · refine wp_seg 3 (P := none) (ls' := [some (aR 5 (0)), some (aI (c)), some (aI (0))]) (st' := [aI (3), aI (σ 5 (0) 5)]) (σ' := σ) rq_65 rfl True.intro (i' := 81) rfl ?_
                        refine wp_icmp rq_65 rfl (fun (h496 : (σ 5 (0) 5) = 3) => ?_) (fun (h496 : ¬ ((σ 5 (0) 5) = 3)) => ?_)
                        · refine wp_seg 8 (P := none) (ls' := [some (aR 5 (0)), some (aI (c)), some (aI (0))]) (st' := [aI (0), aR 5 (0)]) (σ' := (up σ 5 (0) 4 (wr ((σ 5 (0) 4) + (1))))) rq_65 rfl True.intro (i' := 96) rfl ?_
                          refine wp_call (C := 5) (As := [aR 5 (0), aI (0)]) (rest := []) rq_65 (ev_openPart (0) (up σ 5 (0) 4 (wr ((σ 5 (0) 4) + (1)))) ) rfl rfl (show clOK 65 66 0 0 0 2 5 = true by decide +kernel) rfl (show 0 ≤ 4 by decide) (fun _ => ⟨_, rfl⟩) rfl (c' := 0) (s' := 0) rfl rfl ?_
                          refine wp_goto rq_65 rfl ?_
                          refine wp_seg 1 (P := none) (ls' := [some (aR 5 (0)), some (aI (c)), some (aI (0))]) (st' := [aI (1)]) (σ' := (zm_openPart (0) (up σ 5 (0) 4 (wr ((σ 5 (0) 4) + (1)))))) rq_65 rfl True.intro (i' := 101) rfl ?_
                          refine wp_zret rq_65 rfl rt_65 ?_ ⟨?_, ?_⟩
                          · first | exact Or.inl rfl | exact Or.inr rfl
                          · (rw [zo_accept, if_neg h1, if_pos h338, if_pos h339, if_neg h340, if_pos h422, if_neg h423, if_neg h450, if_neg h478, if_neg h489, if_pos h494, if_neg h495, if_pos h496]; try rfl)
                          · (rw [zm_accept, if_neg h1, if_pos h338, if_pos h339, if_neg h340, if_pos h422, if_neg h423, if_neg h450, if_neg h478, if_neg h489, if_pos h494, if_neg h495, if_pos h496]; try rfl)
                        · refine wp_seg 3 (P := none) (ls' := [some (aR 5 (0)), some (aI (c)), some (aI (0))]) (st' := [aI (2), aI (σ 5 (0) 5)]) (σ' := σ) rq_65 rfl True.intro (i' := 85) rfl ?_
                          refine wp_icmp rq_65 rfl (fun (h497 : ¬ (σ 5 (0) 5) = 2) => ?_) (fun (h497 : ¬ (¬ (σ 5 (0) 5) = 2)) => ?_)
                          · refine wp_seg 1 (P := none) (ls' := [some (aR 5 (0)), some (aI (c)), some (aI (0))]) (st' := [aI (0)]) (σ' := σ) rq_65 rfl True.intro (i' := 99) rfl ?_
                            refine wp_zret rq_65 rfl rt_65 ?_ ⟨?_, ?_⟩
                            · first | exact Or.inl rfl | exact Or.inr rfl
                            · (rw [zo_accept, if_neg h1, if_pos h338, if_pos h339, if_neg h340, if_pos h422, if_neg h423, if_neg h450, if_neg h478, if_neg h489, if_pos h494, if_neg h495, if_neg h496, if_pos h497]; try rfl)
                            · (rw [zm_accept, if_neg h1, if_pos h338, if_pos h339, if_neg h340, if_pos h422, if_neg h423, if_neg h450, if_neg h478, if_neg h489, if_pos h494, if_neg h495, if_neg h496, if_pos h497]; try rfl)
                          · refine wp_seg 1 (P := none) (ls' := [some (aR 5 (0)), some (aI (c)), some (aI (0))]) (st' := [aI (0)]) (σ' := σ) rq_65 rfl True.intro (i' := 87) rfl ?_
                            refine wp_if rq_65 rfl (fun _ => ?_) (fun (h498 : ¬ ((0 : Int) = (0 : Int))) => absurd (show (0 : Int) = (0 : Int) from by decide) h498)
                            refine wp_seg 1 (P := none) (ls' := [some (aR 5 (0)), some (aI (c)), some (aI (0))]) (st' := [aI (0)]) (σ' := σ) rq_65 rfl True.intro (i' := 99) rfl ?_
                            refine wp_zret rq_65 rfl rt_65 ?_ ⟨?_, ?_⟩
                            · first | exact Or.inl rfl | exact Or.inr rfl
                            · (rw [zo_accept, if_neg h1, if_pos h338, if_pos h339, if_neg h340, if_pos h422, if_neg h423, if_neg h450, if_neg h478, if_neg h489, if_pos h494, if_neg h495, if_neg h496, if_neg h497]; try rfl)
                            · (rw [zm_accept, if_neg h1, if_pos h338, if_pos h339, if_neg h340, if_pos h422, if_neg h423, if_neg h450, if_neg h478, if_neg h489, if_pos h494, if_neg h495, if_neg h496, if_neg h497]; try rfl)
                    · refine wp_seg 1 (P := none) (ls' := [some (aR 5 (0)), some (aI (c)), some (aI (0))]) (st' := [aI (0)]) (σ' := σ) rq_65 rfl True.intro (i' := 55) rfl ?_
                      refine wp_if rq_65 rfl (fun _ => ?_) (fun (h499 : ¬ ((0 : Int) = (0 : Int))) => absurd (show (0 : Int) = (0 : Int) from by decide) h499)
                      refine wp_seg 2 (P := none) (ls' := [some (aR 5 (0)), some (aI (c)), some (aI (0))]) (st' := [aI (59), aI (c)]) (σ' := σ) rq_65 rfl True.intro (i' := 77) rfl ?_
                      refine wp_icmp rq_65 rfl (fun (h500 : ¬ (c) = 59) => ?_) (fun (h500 : ¬ (¬ (c) = 59)) => ?_)
                      · refine wp_seg 1 (P := none) (ls' := [some (aR 5 (0)), some (aI (c)), some (aI (0))]) (st' := [aI (0)]) (σ' := σ) rq_65 rfl True.intro (i' := 99) rfl ?_
                        refine wp_zret rq_65 rfl rt_65 ?_ ⟨?_, ?_⟩
                        · first | exact Or.inl rfl | exact Or.inr rfl
                        · (rw [zo_accept, if_neg h1, if_pos h338, if_pos h339, if_neg h340, if_pos h422, if_neg h423, if_neg h450, if_neg h478, if_neg h489, if_neg h494, if_pos h500]; try rfl)
                        · (rw [zm_accept, if_neg h1, if_pos h338, if_pos h339, if_neg h340, if_pos h422, if_neg h423, if_neg h450, if_neg h478, if_neg h489, if_neg h494, if_pos h500]; try rfl)
                      · refine wp_seg 3 (P := none) (ls' := [some (aR 5 (0)), some (aI (c)), some (aI (0))]) (st' := [aI (3), aI (σ 5 (0) 5)]) (σ' := σ) rq_65 rfl True.intro (i' := 81) rfl ?_
                        refine wp_icmp rq_65 rfl (fun (h501 : (σ 5 (0) 5) = 3) => ?_) (fun (h501 : ¬ ((σ 5 (0) 5) = 3)) => ?_)
                        · refine wp_seg 8 (P := none) (ls' := [some (aR 5 (0)), some (aI (c)), some (aI (0))]) (st' := [aI (0), aR 5 (0)]) (σ' := (up σ 5 (0) 4 (wr ((σ 5 (0) 4) + (1))))) rq_65 rfl True.intro (i' := 96) rfl ?_
                          refine wp_call (C := 5) (As := [aR 5 (0), aI (0)]) (rest := []) rq_65 (ev_openPart (0) (up σ 5 (0) 4 (wr ((σ 5 (0) 4) + (1)))) ) rfl rfl (show clOK 65 66 0 0 0 2 5 = true by decide +kernel) rfl (show 0 ≤ 4 by decide) (fun _ => ⟨_, rfl⟩) rfl (c' := 0) (s' := 0) rfl rfl ?_
                          refine wp_goto rq_65 rfl ?_
                          refine wp_seg 1 (P := none) (ls' := [some (aR 5 (0)), some (aI (c)), some (aI (0))]) (st' := [aI (1)]) (σ' := (zm_openPart (0) (up σ 5 (0) 4 (wr ((σ 5 (0) 4) + (1)))))) rq_65 rfl True.intro (i' := 101) rfl ?_
                          refine wp_zret rq_65 rfl rt_65 ?_ ⟨?_, ?_⟩
                          · first | exact Or.inl rfl | exact Or.inr rfl
                          · (rw [zo_accept, if_neg h1, if_pos h338, if_pos h339, if_neg h340, if_pos h422, if_neg h423, if_neg h450, if_neg h478, if_neg h489, if_neg h494, if_neg h500, if_pos h501]; try rfl)
                          · (rw [zm_accept, if_neg h1, if_pos h338, if_pos h339, if_neg h340, if_pos h422, if_neg h423, if_neg h450, if_neg h478, if_neg h489, if_neg h494, if_neg h500, if_pos h501]; try rfl)
                        · refine wp_seg 3 (P := none) (ls' := [some (aR 5 (0)), some (aI (c)), some (aI (0))]) (st' := [aI (2), aI (σ 5 (0) 5)]) (σ' := σ) rq_65 rfl True.intro (i' := 85) rfl ?_
                          refine wp_icmp rq_65 rfl (fun (h502 : ¬ (σ 5 (0) 5) = 2) => ?_) (fun (h502 : ¬ (¬ (σ 5 (0) 5) = 2)) => ?_)
                          · refine wp_seg 1 (P := none) (ls' := [some (aR 5 (0)), some (aI (c)), some (aI (0))]) (st' := [aI (0)]) (σ' := σ) rq_65 rfl True.intro (i' := 99) rfl ?_
                            refine wp_zret rq_65 rfl rt_65 ?_ ⟨?_, ?_⟩
                            · first | exact Or.inl rfl | exact Or.inr rfl
                            · (rw [zo_accept, if_neg h1, if_pos h338, if_pos h339, if_neg h340, if_pos h422, if_neg h423, if_neg h450, if_neg h478, if_neg h489, if_neg h494, if_neg h500, if_neg h501, if_pos h502]; try rfl)
                            · (rw [zm_accept, if_neg h1, if_pos h338, if_pos h339, if_neg h340, if_pos h422, if_neg h423, if_neg h450, if_neg h478, if_neg h489, if_neg h494, if_neg h500, if_neg h501, if_pos h502]; try rfl)
                          · refine wp_seg 1 (P := none) (ls' := [some (aR 5 (0)), some (aI (c)), some (aI (0))]) (st' := [aI (0)]) (σ' := σ) rq_65 rfl True.intro (i' := 87) rfl ?_
                            refine wp_if rq_65 rfl (fun _ => ?_) (fun (h503 : ¬ ((0 : Int) = (0 : Int))) => absurd (show (0 : Int) = (0 : Int) from by decide) h503)
                            refine wp_seg 1 (P := none) (ls' := [some (aR 5 (0)), some (aI (c)), some (aI (0))]) (st' := [aI (0)]) (σ' := σ) rq_65 rfl True.intro (i' := 99) rfl ?_
                            refine wp_zret rq_65 rfl rt_65 ?_ ⟨?_, ?_⟩
                            · first | exact Or.inl rfl | exact Or.inr rfl
                            · (rw [zo_accept, if_neg h1, if_pos h338, if_pos h339, if_neg h340, if_pos h422, if_neg h423, if_neg h450, if_neg h478, if_neg h489, if_neg h494, if_neg h500, if_neg h501, if_neg h502]; try rfl)
                            · (rw [zm_accept, if_neg h1, if_pos h338, if_pos h339, if_neg h340, if_pos h422, if_neg h423, if_neg h450, if_neg h478, if_neg h489, if_neg h494, if_neg h500, if_neg h501, if_neg h502]; try rfl)
          · refine wp_seg 1 (P := none) (ls' := [some (aR 5 (0)), some (aI (c)), some (aI (0))]) (st' := [aI (0)]) (σ' := σ) rq_65 rfl True.intro (i' := 26) rfl ?_
            refine wp_if rq_65 rfl (fun _ => ?_) (fun (h504 : ¬ ((0 : Int) = (0 : Int))) => absurd (show (0 : Int) = (0 : Int) from by decide) h504)
            refine wp_seg 2 (P := none) (ls' := [some (aR 5 (0)), some (aI (c)), some (aI (0))]) (st' := [aI (58), aI (c)]) (σ' := σ) rq_65 rfl True.intro (i' := 33) rfl ?_
            refine wp_icmp rq_65 rfl (fun (h505 : ¬ (c) = 58) => ?_) (fun (h505 : ¬ (¬ (c) = 58)) => ?_)
            · refine wp_seg 2 (P := none) (ls' := [some (aR 5 (0)), some (aI (c)), some (aI (0))]) (st' := [aI (108), aI (c)]) (σ' := σ) rq_65 rfl True.intro (i' := 46) rfl ?_
              refine wp_icmp rq_65 rfl (fun (h506 : (c) = 108) => ?_) (fun (h506 : ¬ ((c) = 108)) => ?_)
              · refine wp_seg 3 (P := none) (ls' := [some (aR 5 (0)), some (aI (c)), some (aI (0))]) (st' := [aI (2), aI (σ 5 (0) 5)]) (σ' := σ) rq_65 rfl True.intro (i' := 53) rfl ?_
                refine wp_icmp rq_65 rfl (fun (h507 : ¬ (σ 5 (0) 5) = 2) => ?_) (fun (h507 : ¬ (¬ (σ 5 (0) 5) = 2)) => ?_)
                · refine wp_seg 2 (P := none) (ls' := [some (aR 5 (0)), some (aI (c)), some (aI (0))]) (st' := [aI (59), aI (c)]) (σ' := σ) rq_65 rfl True.intro (i' := 77) rfl ?_
                  refine wp_icmp rq_65 rfl (fun (h508 : ¬ (c) = 59) => ?_) (fun (h508 : ¬ (¬ (c) = 59)) => ?_)
                  · refine wp_seg 1 (P := none) (ls' := [some (aR 5 (0)), some (aI (c)), some (aI (0))]) (st' := [aI (0)]) (σ' := σ) rq_65 rfl True.intro (i' := 99) rfl ?_
                    refine wp_zret rq_65 rfl rt_65 ?_ ⟨?_, ?_⟩
                    · first | exact Or.inl rfl | exact Or.inr rfl
                    · (rw [zo_accept, if_neg h1, if_pos h338, if_pos h339, if_neg h340, if_neg h422, if_pos h505, if_pos h506, if_pos h507, if_pos h508]; try rfl)
                    · (rw [zm_accept, if_neg h1, if_pos h338, if_pos h339, if_neg h340, if_neg h422, if_pos h505, if_pos h506, if_pos h507, if_pos h508]; try rfl)
                  · refine wp_seg 3 (P := none) (ls' := [some (aR 5 (0)), some (aI (c)), some (aI (0))]) (st' := [aI (3), aI (σ 5 (0) 5)]) (σ' := σ) rq_65 rfl True.intro (i' := 81) rfl ?_
                    refine wp_icmp rq_65 rfl (fun (h509 : (σ 5 (0) 5) = 3) => ?_) (fun (h509 : ¬ ((σ 5 (0) 5) = 3)) => ?_)
                    · refine wp_seg 8 (P := none) (ls' := [some (aR 5 (0)), some (aI (c)), some (aI (0))]) (st' := [aI (0), aR 5 (0)]) (σ' := (up σ 5 (0) 4 (wr ((σ 5 (0) 4) + (1))))) rq_65 rfl True.intro (i' := 96) rfl ?_
                      refine wp_call (C := 5) (As := [aR 5 (0), aI (0)]) (rest := []) rq_65 (ev_openPart (0) (up σ 5 (0) 4 (wr ((σ 5 (0) 4) + (1)))) ) rfl rfl (show clOK 65 66 0 0 0 2 5 = true by decide +kernel) rfl (show 0 ≤ 4 by decide) (fun _ => ⟨_, rfl⟩) rfl (c' := 0) (s' := 0) rfl rfl ?_
                      refine wp_goto rq_65 rfl ?_
                      refine wp_seg 1 (P := none) (ls' := [some (aR 5 (0)), some (aI (c)), some (aI (0))]) (st' := [aI (1)]) (σ' := (zm_openPart (0) (up σ 5 (0) 4 (wr ((σ 5 (0) 4) + (1)))))) rq_65 rfl True.intro (i' := 101) rfl ?_
                      refine wp_zret rq_65 rfl rt_65 ?_ ⟨?_, ?_⟩
                      · first | exact Or.inl rfl | exact Or.inr rfl
                      · (rw [zo_accept, if_neg h1, if_pos h338, if_pos h339, if_neg h340, if_neg h422, if_pos h505, if_pos h506, if_pos h507, if_neg h508, if_pos h509]; try rfl)
                      · (rw [zm_accept, if_neg h1, if_pos h338, if_pos h339, if_neg h340, if_neg h422, if_pos h505, if_pos h506, if_pos h507, if_neg h508, if_pos h509]; try rfl)
                    · refine wp_seg 3 (P := none) (ls' := [some (aR 5 (0)), some (aI (c)), some (aI (0))]) (st' := [aI (2), aI (σ 5 (0) 5)]) (σ' := σ) rq_65 rfl True.intro (i' := 85) rfl ?_
                      refine wp_icmp rq_65 rfl (fun (h510 : ¬ (σ 5 (0) 5) = 2) => ?_) (fun (h510 : ¬ (¬ (σ 5 (0) 5) = 2)) => ?_)
                      · refine wp_seg 1 (P := none) (ls' := [some (aR 5 (0)), some (aI (c)), some (aI (0))]) (st' := [aI (0)]) (σ' := σ) rq_65 rfl True.intro (i' := 99) rfl ?_
                        refine wp_zret rq_65 rfl rt_65 ?_ ⟨?_, ?_⟩
                        · first | exact Or.inl rfl | exact Or.inr rfl
                        · (rw [zo_accept, if_neg h1, if_pos h338, if_pos h339, if_neg h340, if_neg h422, if_pos h505, if_pos h506, if_pos h507, if_neg h508, if_neg h509, if_pos h510]; try rfl)
                        · (rw [zm_accept, if_neg h1, if_pos h338, if_pos h339, if_neg h340, if_neg h422, if_pos h505, if_pos h506, if_pos h507, if_neg h508, if_neg h509, if_pos h510]; try rfl)
                      · refine wp_seg 1 (P := none) (ls' := [some (aR 5 (0)), some (aI (c)), some (aI (0))]) (st' := [aI (0)]) (σ' := σ) rq_65 rfl True.intro (i' := 87) rfl ?_
                        refine wp_if rq_65 rfl (fun _ => ?_) (fun (h511 : ¬ ((0 : Int) = (0 : Int))) => absurd (show (0 : Int) = (0 : Int) from by decide) h511)
                        refine wp_seg 1 (P := none) (ls' := [some (aR 5 (0)), some (aI (c)), some (aI (0))]) (st' := [aI (0)]) (σ' := σ) rq_65 rfl True.intro (i' := 99) rfl ?_
                        refine wp_zret rq_65 rfl rt_65 ?_ ⟨?_, ?_⟩
                        · first | exact Or.inl rfl | exact Or.inr rfl
                        · (rw [zo_accept, if_neg h1, if_pos h338, if_pos h339, if_neg h340, if_neg h422, if_pos h505, if_pos h506, if_pos h507, if_neg h508, if_neg h509, if_neg h510]; try rfl)
                        · (rw [zm_accept, if_neg h1, if_pos h338, if_pos h339, if_neg h340, if_neg h422, if_pos h505, if_pos h506, if_pos h507, if_neg h508, if_neg h509, if_neg h510]; try rfl)
                · refine wp_seg 1 (P := none) (ls' := [some (aR 5 (0)), some (aI (c)), some (aI (0))]) (st' := [aI (0)]) (σ' := σ) rq_65 rfl True.intro (i' := 55) rfl ?_
                  refine wp_if rq_65 rfl (fun _ => ?_) (fun (h512 : ¬ ((0 : Int) = (0 : Int))) => absurd (show (0 : Int) = (0 : Int) from by decide) h512)
                  refine wp_seg 2 (P := none) (ls' := [some (aR 5 (0)), some (aI (c)), some (aI (0))]) (st' := [aI (59), aI (c)]) (σ' := σ) rq_65 rfl True.intro (i' := 77) rfl ?_
                  refine wp_icmp rq_65 rfl (fun (h513 : ¬ (c) = 59) => ?_) (fun (h513 : ¬ (¬ (c) = 59)) => ?_)
                  · refine wp_seg 1 (P := none) (ls' := [some (aR 5 (0)), some (aI (c)), some (aI (0))]) (st' := [aI (0)]) (σ' := σ) rq_65 rfl True.intro (i' := 99) rfl ?_
                    refine wp_zret rq_65 rfl rt_65 ?_ ⟨?_, ?_⟩
                    · first | exact Or.inl rfl | exact Or.inr rfl
                    · (rw [zo_accept, if_neg h1, if_pos h338, if_pos h339, if_neg h340, if_neg h422, if_pos h505, if_pos h506, if_neg h507, if_pos h513]; try rfl)
                    · (rw [zm_accept, if_neg h1, if_pos h338, if_pos h339, if_neg h340, if_neg h422, if_pos h505, if_pos h506, if_neg h507, if_pos h513]; try rfl)
                  · refine wp_seg 3 (P := none) (ls' := [some (aR 5 (0)), some (aI (c)), some (aI (0))]) (st' := [aI (3), aI (σ 5 (0) 5)]) (σ' := σ) rq_65 rfl True.intro (i' := 81) rfl ?_
                    refine wp_icmp rq_65 rfl (fun (h514 : (σ 5 (0) 5) = 3) => ?_) (fun (h514 : ¬ ((σ 5 (0) 5) = 3)) => ?_)
                    · refine wp_seg 8 (P := none) (ls' := [some (aR 5 (0)), some (aI (c)), some (aI (0))]) (st' := [aI (0), aR 5 (0)]) (σ' := (up σ 5 (0) 4 (wr ((σ 5 (0) 4) + (1))))) rq_65 rfl True.intro (i' := 96) rfl ?_
                      refine wp_call (C := 5) (As := [aR 5 (0), aI (0)]) (rest := []) rq_65 (ev_openPart (0) (up σ 5 (0) 4 (wr ((σ 5 (0) 4) + (1)))) ) rfl rfl (show clOK 65 66 0 0 0 2 5 = true by decide +kernel) rfl (show 0 ≤ 4 by decide) (fun _ => ⟨_, rfl⟩) rfl (c' := 0) (s' := 0) rfl rfl ?_
                      refine wp_goto rq_65 rfl ?_
                      refine wp_seg 1 (P := none) (ls' := [some (aR 5 (0)), some (aI (c)), some (aI (0))]) (st' := [aI (1)]) (σ' := (zm_openPart (0) (up σ 5 (0) 4 (wr ((σ 5 (0) 4) + (1)))))) rq_65 rfl True.intro (i' := 101) rfl ?_
                      refine wp_zret rq_65 rfl rt_65 ?_ ⟨?_, ?_⟩
                      · first | exact Or.inl rfl | exact Or.inr rfl
                      · (rw [zo_accept, if_neg h1, if_pos h338, if_pos h339, if_neg h340, if_neg h422, if_pos h505, if_pos h506, if_neg h507, if_neg h513, if_pos h514]; try rfl)
                      · (rw [zm_accept, if_neg h1, if_pos h338, if_pos h339, if_neg h340, if_neg h422, if_pos h505, if_pos h506, if_neg h507, if_neg h513, if_pos h514]; try rfl)
                    · refine wp_seg 3 (P := none) (ls' := [some (aR 5 (0)), some (aI (c)), some (aI (0))]) (st' := [aI (2), aI (σ 5 (0) 5)]) (σ' := σ) rq_65 rfl True.intro (i' := 85) rfl ?_
                      refine wp_icmp rq_65 rfl (fun (h515 : ¬ (σ 5 (0) 5) = 2) => ?_) (fun (h515 : ¬ (¬ (σ 5 (0) 5) = 2)) => ?_)
                      · refine wp_seg 1 (P := none) (ls' := [some (aR 5 (0)), some (aI (c)), some (aI (0))]) (st' := [aI (0)]) (σ' := σ) rq_65 rfl True.intro (i' := 99) rfl ?_
                        refine wp_zret rq_65 rfl rt_65 ?_ ⟨?_, ?_⟩
                        · first | exact Or.inl rfl | exact Or.inr rfl
                        · (rw [zo_accept, if_neg h1, if_pos h338, if_pos h339, if_neg h340, if_neg h422, if_pos h505, if_pos h506, if_neg h507, if_neg h513, if_neg h514, if_pos h515]; try rfl)
                        · (rw [zm_accept, if_neg h1, if_pos h338, if_pos h339, if_neg h340, if_neg h422, if_pos h505, if_pos h506, if_neg h507, if_neg h513, if_neg h514, if_pos h515]; try rfl)
                      · refine wp_seg 1 (P := none) (ls' := [some (aR 5 (0)), some (aI (c)), some (aI (0))]) (st' := [aI (0)]) (σ' := σ) rq_65 rfl True.intro (i' := 87) rfl ?_
                        refine wp_if rq_65 rfl (fun _ => ?_) (fun (h516 : ¬ ((0 : Int) = (0 : Int))) => absurd (show (0 : Int) = (0 : Int) from by decide) h516)
                        refine wp_seg 1 (P := none) (ls' := [some (aR 5 (0)), some (aI (c)), some (aI (0))]) (st' := [aI (0)]) (σ' := σ) rq_65 rfl True.intro (i' := 99) rfl ?_
                        refine wp_zret rq_65 rfl rt_65 ?_ ⟨?_, ?_⟩
                        · first | exact Or.inl rfl | exact Or.inr rfl
                        · (rw [zo_accept, if_neg h1, if_pos h338, if_pos h339, if_neg h340, if_neg h422, if_pos h505, if_pos h506, if_neg h507, if_neg h513, if_neg h514, if_neg h515]; try rfl)
                        · (rw [zm_accept, if_neg h1, if_pos h338, if_pos h339, if_neg h340, if_neg h422, if_pos h505, if_pos h506, if_neg h507, if_neg h513, if_neg h514, if_neg h515]; try rfl)
              · refine wp_seg 2 (P := none) (ls' := [some (aR 5 (0)), some (aI (c)), some (aI (0))]) (st' := [aI (114), aI (c)]) (σ' := σ) rq_65 rfl True.intro (i' := 49) rfl ?_
                refine wp_icmp rq_65 rfl (fun (h517 : ¬ (c) = 114) => ?_) (fun (h517 : ¬ (¬ (c) = 114)) => ?_)
                · refine wp_seg 2 (P := none) (ls' := [some (aR 5 (0)), some (aI (c)), some (aI (0))]) (st' := [aI (59), aI (c)]) (σ' := σ) rq_65 rfl True.intro (i' := 77) rfl ?_
                  refine wp_icmp rq_65 rfl (fun (h518 : ¬ (c) = 59) => ?_) (fun (h518 : ¬ (¬ (c) = 59)) => ?_)
                  · refine wp_seg 1 (P := none) (ls' := [some (aR 5 (0)), some (aI (c)), some (aI (0))]) (st' := [aI (0)]) (σ' := σ) rq_65 rfl True.intro (i' := 99) rfl ?_
                    refine wp_zret rq_65 rfl rt_65 ?_ ⟨?_, ?_⟩
                    · first | exact Or.inl rfl | exact Or.inr rfl
                    · (rw [zo_accept, if_neg h1, if_pos h338, if_pos h339, if_neg h340, if_neg h422, if_pos h505, if_neg h506, if_pos h517, if_pos h518]; try rfl)
                    · (rw [zm_accept, if_neg h1, if_pos h338, if_pos h339, if_neg h340, if_neg h422, if_pos h505, if_neg h506, if_pos h517, if_pos h518]; try rfl)
                  · refine wp_seg 3 (P := none) (ls' := [some (aR 5 (0)), some (aI (c)), some (aI (0))]) (st' := [aI (3), aI (σ 5 (0) 5)]) (σ' := σ) rq_65 rfl True.intro (i' := 81) rfl ?_
                    refine wp_icmp rq_65 rfl (fun (h519 : (σ 5 (0) 5) = 3) => ?_) (fun (h519 : ¬ ((σ 5 (0) 5) = 3)) => ?_)
                    · refine wp_seg 8 (P := none) (ls' := [some (aR 5 (0)), some (aI (c)), some (aI (0))]) (st' := [aI (0), aR 5 (0)]) (σ' := (up σ 5 (0) 4 (wr ((σ 5 (0) 4) + (1))))) rq_65 rfl True.intro (i' := 96) rfl ?_
                      refine wp_call (C := 5) (As := [aR 5 (0), aI (0)]) (rest := []) rq_65 (ev_openPart (0) (up σ 5 (0) 4 (wr ((σ 5 (0) 4) + (1)))) ) rfl rfl (show clOK 65 66 0 0 0 2 5 = true by decide +kernel) rfl (show 0 ≤ 4 by decide) (fun _ => ⟨_, rfl⟩) rfl (c' := 0) (s' := 0) rfl rfl ?_
                      refine wp_goto rq_65 rfl ?_
                      refine wp_seg 1 (P := none) (ls' := [some (aR 5 (0)), some (aI (c)), some (aI (0))]) (st' := [aI (1)]) (σ' := (zm_openPart (0) (up σ 5 (0) 4 (wr ((σ 5 (0) 4) + (1)))))) rq_65 rfl True.intro (i' := 101) rfl ?_
                      refine wp_zret rq_65 rfl rt_65 ?_ ⟨?_, ?_⟩
                      · first | exact Or.inl rfl | exact Or.inr rfl
                      · (rw [zo_accept, if_neg h1, if_pos h338, if_pos h339, if_neg h340, if_neg h422, if_pos h505, if_neg h506, if_pos h517, if_neg h518, if_pos h519]; try rfl)
                      · (rw [zm_accept, if_neg h1, if_pos h338, if_pos h339, if_neg h340, if_neg h422, if_pos h505, if_neg h506, if_pos h517, if_neg h518, if_pos h519]; try rfl)
                    · refine wp_seg 3 (P := none) (ls' := [some (aR 5 (0)), some (aI (c)), some (aI (0))]) (st' := [aI (2), aI (σ 5 (0) 5)]) (σ' := σ) rq_65 rfl True.intro (i' := 85) rfl ?_
                      refine wp_icmp rq_65 rfl (fun (h520 : ¬ (σ 5 (0) 5) = 2) => ?_) (fun (h520 : ¬ (¬ (σ 5 (0) 5) = 2)) => ?_)
                      · refine wp_seg 1 (P := none) (ls' := [some (aR 5 (0)), some (aI (c)), some (aI (0))]) (st' := [aI (0)]) (σ' := σ) rq_65 rfl True.intro (i' := 99) rfl ?_
                        refine wp_zret rq_65 rfl rt_65 ?_ ⟨?_, ?_⟩
                        · first | exact Or.inl rfl | exact Or.inr rfl
                        · (rw [zo_accept, if_neg h1, if_pos h338, if_pos h339, if_neg h340, if_neg h422, if_pos h505, if_neg h506, if_pos h517, if_neg h518, if_neg h519, if_pos h520]; try rfl)
                        · (rw [zm_accept, if_neg h1, if_pos h338, if_pos h339, if_neg h340, if_neg h422, if_pos h505, if_neg h506, if_pos h517, if_neg h518, if_neg h519, if_pos h520]; try rfl)
                      · refine wp_seg 1 (P := none) (ls' := [some (aR 5 (0)), some (aI (c)), some (aI (0))]) (st' := [aI (0)]) (σ' := σ) rq_65 rfl True.intro (i' := 87) rfl ?_
                        refine wp_if rq_65 rfl (fun _ => ?_) (fun (h521 : ¬ ((0 : Int) = (0 : Int))) => absurd (show (0 : Int) = (0 : Int) from by decide) h521)
                        refine wp_seg 1 (P := none) (ls' := [some (aR 5 (0)), some (aI (c)), some (aI (0))]) (st' := [aI (0)]) (σ' := σ) rq_65 rfl True.intro (i' := 99) rfl ?_
                        refine wp_zret rq_65 rfl rt_65 ?_ ⟨?_, ?_⟩
                        · first | exact Or.inl rfl | exact Or.inr rfl
                        · (rw [zo_accept, if_neg h1, if_pos h338, if_pos h339, if_neg h340, if_neg h422, if_pos h505, if_neg h506, if_pos h517, if_neg h518, if_neg h519, if_neg h520]; try rfl)
                        · (rw [zm_accept, if_neg h1, if_pos h338, if_pos h339, if_neg h340, if_neg h422, if_pos h505, if_neg h506, if_pos h517, if_neg h518, if_neg h519, if_neg h520]; try rfl)
                · refine wp_seg 3 (P := none) (ls' := [some (aR 5 (0)), some (aI (c)), some (aI (0))]) (st' := [aI (2), aI (σ 5 (0) 5)]) (σ' := σ) rq_65 rfl True.intro (i' := 53) rfl ?_
                  refine wp_icmp rq_65 rfl (fun (h522 : ¬ (σ 5 (0) 5) = 2) => ?_) (fun (h522 : ¬ (¬ (σ 5 (0) 5) = 2)) => ?_)
                  · refine wp_seg 2 (P := none) (ls' := [some (aR 5 (0)), some (aI (c)), some (aI (0))]) (st' := [aI (59), aI (c)]) (σ' := σ) rq_65 rfl True.intro (i' := 77) rfl ?_
                    refine wp_icmp rq_65 rfl (fun (h523 : ¬ (c) = 59) => ?_) (fun (h523 : ¬ (¬ (c) = 59)) => ?_)
                    · refine wp_seg 1 (P := none) (ls' := [some (aR 5 (0)), some (aI (c)), some (aI (0))]) (st' := [aI (0)]) (σ' := σ) rq_65 rfl True.intro (i' := 99) rfl ?_
                      refine wp_zret rq_65 rfl rt_65 ?_ ⟨?_, ?_⟩
                      · first | exact Or.inl rfl | exact Or.inr rfl
                      · (rw [zo_accept, if_neg h1, if_pos h338, if_pos h339, if_neg h340, if_neg h422, if_pos h505, if_neg h506, if_neg h517, if_pos h522, if_pos h523]; try rfl)
                      · (rw [zm_accept, if_neg h1, if_pos h338, if_pos h339, if_neg h340, if_neg h422, if_pos h505, if_neg h506, if_neg h517, if_pos h522, if_pos h523]; try rfl)
                    · refine wp_seg 3 (P := none) (ls' := [some (aR 5 (0)), some (aI (c)), some (aI (0))]) (st' := [aI (3), aI (σ 5 (0) 5)]) (σ' := σ) rq_65 rfl True.intro (i' := 81) rfl ?_
                      refine wp_icmp rq_65 rfl (fun (h524 : (σ 5 (0) 5) = 3) => ?_) (fun (h524 : ¬ ((σ 5 (0) 5) = 3)) => ?_)
                      · refine wp_seg 8 (P := none) (ls' := [some (aR 5 (0)), some (aI (c)), some (aI (0))]) (st' := [aI (0), aR 5 (0)]) (σ' := (up σ 5 (0) 4 (wr ((σ 5 (0) 4) + (1))))) rq_65 rfl True.intro (i' := 96) rfl ?_
                        refine wp_call (C := 5) (As := [aR 5 (0), aI (0)]) (rest := []) rq_65 (ev_openPart (0) (up σ 5 (0) 4 (wr ((σ 5 (0) 4) + (1)))) ) rfl rfl (show clOK 65 66 0 0 0 2 5 = true by decide +kernel) rfl (show 0 ≤ 4 by decide) (fun _ => ⟨_, rfl⟩) rfl (c' := 0) (s' := 0) rfl rfl ?_
                        refine wp_goto rq_65 rfl ?_
                        refine wp_seg 1 (P := none) (ls' := [some (aR 5 (0)), some (aI (c)), some (aI (0))]) (st' := [aI (1)]) (σ' := (zm_openPart (0) (up σ 5 (0) 4 (wr ((σ 5 (0) 4) + (1)))))) rq_65 rfl True.intro (i' := 101) rfl ?_
                        refine wp_zret rq_65 rfl rt_65 ?_ ⟨?_, ?_⟩
                        · first | exact Or.inl rfl | exact Or.inr rfl
                        · (rw [zo_accept, if_neg h1, if_pos h338, if_pos h339, if_neg h340, if_neg h422, if_pos h505, if_neg h506, if_neg h517, if_pos h522, if_neg h523, if_pos h524]; try rfl)
                        · (rw [zm_accept, if_neg h1, if_pos h338, if_pos h339, if_neg h340, if_neg h422, if_pos h505, if_neg h506, if_neg h517, if_pos h522, if_neg h523, if_pos h524]; try rfl)
                      · refine wp_seg 3 (P := none) (ls' := [some (aR 5 (0)), some (aI (c)), some (aI (0))]) (st' := [aI (2), aI (σ 5 (0) 5)]) (σ' := σ) rq_65 rfl True.intro (i' := 85) rfl ?_
                        refine wp_icmp rq_65 rfl (fun (h525 : ¬ (σ 5 (0) 5) = 2) => ?_) (fun (h525 : ¬ (¬ (σ 5 (0) 5) = 2)) => ?_)
                        · refine wp_seg 1 (P := none) (ls' := [some (aR 5 (0)), some (aI (c)), some (aI (0))]) (st' := [aI (0)]) (σ' := σ) rq_65 rfl True.intro (i' := 99) rfl ?_
                          refine wp_zret rq_65 rfl rt_65 ?_ ⟨?_, ?_⟩
                          · first | exact Or.inl rfl | exact Or.inr rfl
                          · (rw [zo_accept, if_neg h1, if_pos h338, if_pos h339, if_neg h340, if_neg h422, if_pos h505, if_neg h506, if_neg h517, if_pos h522, if_neg h523, if_neg h524, if_pos h525]; try rfl)
                          · (rw [zm_accept, if_neg h1, if_pos h338, if_pos h339, if_neg h340, if_neg h422, if_pos h505, if_neg h506, if_neg h517, if_pos h522, if_neg h523, if_neg h524, if_pos h525]; try rfl)
                        · refine wp_seg 1 (P := none) (ls' := [some (aR 5 (0)), some (aI (c)), some (aI (0))]) (st' := [aI (0)]) (σ' := σ) rq_65 rfl True.intro (i' := 87) rfl ?_
                          refine wp_if rq_65 rfl (fun _ => ?_) (fun (h526 : ¬ ((0 : Int) = (0 : Int))) => absurd (show (0 : Int) = (0 : Int) from by decide) h526)
                          refine wp_seg 1 (P := none) (ls' := [some (aR 5 (0)), some (aI (c)), some (aI (0))]) (st' := [aI (0)]) (σ' := σ) rq_65 rfl True.intro (i' := 99) rfl ?_
                          refine wp_zret rq_65 rfl rt_65 ?_ ⟨?_, ?_⟩
                          · first | exact Or.inl rfl | exact Or.inr rfl
                          · (rw [zo_accept, if_neg h1, if_pos h338, if_pos h339, if_neg h340, if_neg h422, if_pos h505, if_neg h506, if_neg h517, if_pos h522, if_neg h523, if_neg h524, if_neg h525]; try rfl)
                          · (rw [zm_accept, if_neg h1, if_pos h338, if_pos h339, if_neg h340, if_neg h422, if_pos h505, if_neg h506, if_neg h517, if_pos h522, if_neg h523, if_neg h524, if_neg h525]; try rfl)
                  · refine wp_seg 1 (P := none) (ls' := [some (aR 5 (0)), some (aI (c)), some (aI (0))]) (st' := [aI (0)]) (σ' := σ) rq_65 rfl True.intro (i' := 55) rfl ?_
                    refine wp_if rq_65 rfl (fun _ => ?_) (fun (h527 : ¬ ((0 : Int) = (0 : Int))) => absurd (show (0 : Int) = (0 : Int) from by decide) h527)
                    refine wp_seg 2 (P := none) (ls' := [some (aR 5 (0)), some (aI (c)), some (aI (0))]) (st' := [aI (59), aI (c)]) (σ' := σ) rq_65 rfl True.intro (i' := 77) rfl ?_
                    refine wp_icmp rq_65 rfl (fun (h528 : ¬ (c) = 59) => ?_) (fun (h528 : ¬ (¬ (c) = 59)) => ?_)
                    · refine wp_seg 1 (P := none) (ls' := [some (aR 5 (0)), some (aI (c)), some (aI (0))]) (st' := [aI (0)]) (σ' := σ) rq_65 rfl True.intro (i' := 99) rfl ?_
                      refine wp_zret rq_65 rfl rt_65 ?_ ⟨?_, ?_⟩
                      · first | exact Or.inl rfl | exact Or.inr rfl
                      · (rw [zo_accept, if_neg h1, if_pos h338, if_pos h339, if_neg h340, if_neg h422, if_pos h505, if_neg h506, if_neg h517, if_neg h522, if_pos h528]; try rfl)
                      · (rw [zm_accept, if_neg h1, if_pos h338, if_pos h339, if_neg h340, if_neg h422, if_pos h505, if_neg h506, if_neg h517, if_neg h522, if_pos h528]; try rfl)
                    · refine wp_seg 3 (P := none) (ls' := [some (aR 5 (0)), some (aI (c)), some (aI (0))]) (st' := [aI (3), aI (σ 5 (0) 5)]) (σ' := σ) rq_65 rfl True.intro (i' := 81) rfl ?_
                      refine wp_icmp rq_65 rfl (fun (h529 : (σ 5 (0) 5) = 3) => ?_) (fun (h529 : ¬ ((σ 5 (0) 5) = 3)) => ?_)
                      · refine wp_seg 8 (P := none) (ls' := [some (aR 5 (0)), some (aI (c)), some (aI (0))]) (st' := [aI (0), aR 5 (0)]) (σ' := (up σ 5 (0) 4 (wr ((σ 5 (0) 4) + (1))))) rq_65 rfl True.intro (i' := 96) rfl ?_
                        refine wp_call (C := 5) (As := [aR 5 (0), aI (0)]) (rest := []) rq_65 (ev_openPart (0) (up σ 5 (0) 4 (wr ((σ 5 (0) 4) + (1)))) ) rfl rfl (show clOK 65 66 0 0 0 2 5 = true by decide +kernel) rfl (show 0 ≤ 4 by decide) (fun _ => ⟨_, rfl⟩) rfl (c' := 0) (s' := 0) rfl rfl ?_
                        refine wp_goto rq_65 rfl ?_
                        refine wp_seg 1 (P := none) (ls' := [some (aR 5 (0)), some (aI (c)), some (aI (0))]) (st' := [aI (1)]) (σ' := (zm_openPart (0) (up σ 5 (0) 4 (wr ((σ 5 (0) 4) + (1)))))) rq_65 rfl True.intro (i' := 101) rfl ?_
                        refine wp_zret rq_65 rfl rt_65 ?_ ⟨?_, ?_⟩
                        · first | exact Or.inl rfl | exact Or.inr rfl
                        · (rw [zo_accept, if_neg h1, if_pos h338, if_pos h339, if_neg h340, if_neg h422, if_pos h505, if_neg h506, if_neg h517, if_neg h522, if_neg h528, if_pos h529]; try rfl)
                        · (rw [zm_accept, if_neg h1, if_pos h338, if_pos h339, if_neg h340, if_neg h422, if_pos h505, if_neg h506, if_neg h517, if_neg h522, if_neg h528, if_pos h529]; try rfl)
                      · refine wp_seg 3 (P := none) (ls' := [some (aR 5 (0)), some (aI (c)), some (aI (0))]) (st' := [aI (2), aI (σ 5 (0) 5)]) (σ' := σ) rq_65 rfl True.intro (i' := 85) rfl ?_
                        refine wp_icmp rq_65 rfl (fun (h530 : ¬ (σ 5 (0) 5) = 2) => ?_) (fun (h530 : ¬ (¬ (σ 5 (0) 5) = 2)) => ?_)
                        · refine wp_seg 1 (P := none) (ls' := [some (aR 5 (0)), some (aI (c)), some (aI (0))]) (st' := [aI (0)]) (σ' := σ) rq_65 rfl True.intro (i' := 99) rfl ?_
                          refine wp_zret rq_65 rfl rt_65 ?_ ⟨?_, ?_⟩
                          · first | exact Or.inl rfl | exact Or.inr rfl
                          · (rw [zo_accept, if_neg h1, if_pos h338, if_pos h339, if_neg h340, if_neg h422, if_pos h505, if_neg h506, if_neg h517, if_neg h522, if_neg h528, if_neg h529, if_pos h530]; try rfl)
                          · (rw [zm_accept, if_neg h1, if_pos h338, if_pos h339, if_neg h340, if_neg h422, if_pos h505, if_neg h506, if_neg h517, if_neg h522, if_neg h528, if_neg h529, if_pos h530]; try rfl)
                        · refine wp_seg 1 (P := none) (ls' := [some (aR 5 (0)), some (aI (c)), some (aI (0))]) (st' := [aI (0)]) (σ' := σ) rq_65 rfl True.intro (i' := 87) rfl ?_
                          refine wp_if rq_65 rfl (fun _ => ?_) (fun (h531 : ¬ ((0 : Int) = (0 : Int))) => absurd (show (0 : Int) = (0 : Int) from by decide) h531)
                          refine wp_seg 1 (P := none) (ls' := [some (aR 5 (0)), some (aI (c)), some (aI (0))]) (st' := [aI (0)]) (σ' := σ) rq_65 rfl True.intro (i' := 99) rfl ?_
                          refine wp_zret rq_65 rfl rt_65 ?_ ⟨?_, ?_⟩
                          · first | exact Or.inl rfl | exact Or.inr rfl
                          · (rw [zo_accept, if_neg h1, if_pos h338, if_pos h339, if_neg h340, if_neg h422, if_pos h505, if_neg h506, if_neg h517, if_neg h522, if_neg h528, if_neg h529, if_neg h530]; try rfl)
                          · (rw [zm_accept, if_neg h1, if_pos h338, if_pos h339, if_neg h340, if_neg h422, if_pos h505, if_neg h506, if_neg h517, if_neg h522, if_neg h528, if_neg h529, if_neg h530]; try rfl)
            · refine wp_seg 3 (P := none) (ls' := [some (aR 5 (0)), some (aI (c)), some (aI (0))]) (st' := [aI (1), aI (σ 5 (0) 5)]) (σ' := σ) rq_65 rfl True.intro (i' := 37) rfl ?_
              refine wp_icmp rq_65 rfl (fun (h532 : ¬ (σ 5 (0) 5) = 1) => ?_) (fun (h532 : ¬ (¬ (σ 5 (0) 5) = 1)) => ?_)
              · refine wp_seg 2 (P := none) (ls' := [some (aR 5 (0)), some (aI (c)), some (aI (0))]) (st' := [aI (108), aI (c)]) (σ' := σ) rq_65 rfl True.intro (i' := 46) rfl ?_
                refine wp_icmp rq_65 rfl (fun (h533 : (c) = 108) => ?_) (fun (h533 : ¬ ((c) = 108)) => ?_)
                · refine wp_seg 3 (P := none) (ls' := [some (aR 5 (0)), some (aI (c)), some (aI (0))]) (st' := [aI (2), aI (σ 5 (0) 5)]) (σ' := σ) rq_65 rfl True.intro (i' := 53) rfl ?_
                  refine wp_icmp rq_65 rfl (fun (h534 : ¬ (σ 5 (0) 5) = 2) => ?_) (fun (h534 : ¬ (¬ (σ 5 (0) 5) = 2)) => ?_)
                  · refine wp_seg 2 (P := none) (ls' := [some (aR 5 (0)), some (aI (c)), some (aI (0))]) (st' := [aI (59), aI (c)]) (σ' := σ) rq_65 rfl True.intro (i' := 77) rfl ?_
                    refine wp_icmp rq_65 rfl (fun (h535 : ¬ (c) = 59) => ?_) (fun (h535 : ¬ (¬ (c) = 59)) => ?_)
                    · refine wp_seg 1 (P := none) (ls' := [some (aR 5 (0)), some (aI (c)), some (aI (0))]) (st' := [aI (0)]) (σ' := σ) rq_65 rfl True.intro (i' := 99) rfl ?_
                      refine wp_zret rq_65 rfl rt_65 ?_ ⟨?_, ?_⟩
                      · first | exact Or.inl rfl | exact Or.inr rfl
                      · (rw [zo_accept, if_neg h1, if_pos h338, if_pos h339, if_neg h340, if_neg h422, if_neg h505, if_pos h532, if_pos h533, if_pos h534, if_pos h535]; try rfl)
                      · (rw [zm_accept, if_neg h1, if_pos h338, if_pos h339, if_neg h340, if_neg h422, if_neg h505, if_pos h532, if_pos h533, if_pos h534, if_pos h535]; try rfl)
                    · refine wp_seg 3 (P := none) (ls' := [some (aR 5 (0)), some (aI (c)), some (aI (0))]) (st' := [aI (3), aI (σ 5 (0) 5)]) (σ' := σ) rq_65 rfl True.intro (i' := 81) rfl ?_
                      refine wp_icmp rq_65 rfl (fun (h536 : (σ 5 (0) 5) = 3) => ?_) (fun (h536 : ¬ ((σ 5 (0) 5) = 3)) => ?_)
                      · refine wp_seg 8 (P := none) (ls' := [some (aR 5 (0)), some (aI (c)), some (aI (0))]) (st' := [aI (0), aR 5 (0)]) (σ' := (up σ 5 (0) 4 (wr ((σ 5 (0) 4) + (1))))) rq_65 rfl True.intro (i' := 96) rfl ?_
                        refine wp_call (C := 5) (As := [aR 5 (0), aI (0)]) (rest := []) rq_65 (ev_openPart (0) (up σ 5 (0) 4 (wr ((σ 5 (0) 4) + (1)))) ) rfl rfl (show clOK 65 66 0 0 0 2 5 = true by decide +kernel) rfl (show 0 ≤ 4 by decide) (fun _ => ⟨_, rfl⟩) rfl (c' := 0) (s' := 0) rfl rfl ?_
                        refine wp_goto rq_65 rfl ?_
                        refine wp_seg 1 (P := none) (ls' := [some (aR 5 (0)), some (aI (c)), some (aI (0))]) (st' := [aI (1)]) (σ' := (zm_openPart (0) (up σ 5 (0) 4 (wr ((σ 5 (0) 4) + (1)))))) rq_65 rfl True.intro (i' := 101) rfl ?_
                        refine wp_zret rq_65 rfl rt_65 ?_ ⟨?_, ?_⟩
                        · first | exact Or.inl rfl | exact Or.inr rfl
                        · (rw [zo_accept, if_neg h1, if_pos h338, if_pos h339, if_neg h340, if_neg h422, if_neg h505, if_pos h532, if_pos h533, if_pos h534, if_neg h535, if_pos h536]; try rfl)
                        · (rw [zm_accept, if_neg h1, if_pos h338, if_pos h339, if_neg h340, if_neg h422, if_neg h505, if_pos h532, if_pos h533, if_pos h534, if_neg h535, if_pos h536]; try rfl)
                      · refine wp_seg 3 (P := none) (ls' := [some (aR 5 (0)), some (aI (c)), some (aI (0))]) (st' := [aI (2), aI (σ 5 (0) 5)]) (σ' := σ) rq_65 rfl True.intro (i' := 85) rfl ?_
                        refine wp_icmp rq_65 rfl (fun (h537 : ¬ (σ 5 (0) 5) = 2) => ?_) (fun (h537 : ¬ (¬ (σ 5 (0) 5) = 2)) => ?_)
                        · refine wp_seg 1 (P := none) (ls' := [some (aR 5 (0)), some (aI (c)), some (aI (0))]) (st' := [aI (0)]) (σ' := σ) rq_65 rfl True.intro (i' := 99) rfl ?_
                          refine wp_zret rq_65 rfl rt_65 ?_ ⟨?_, ?_⟩
                          · first | exact Or.inl rfl | exact Or.inr rfl
                          · (rw [zo_accept, if_neg h1, if_pos h338, if_pos h339, if_neg h340, if_neg h422, if_neg h505, if_pos h532, if_pos h533, if_pos h534, if_neg h535, if_neg h536, if_pos h537]; try rfl)
                          · (rw [zm_accept, if_neg h1, if_pos h338, if_pos h339, if_neg h340, if_neg h422, if_neg h505, if_pos h532, if_pos h533, if_pos h534, if_neg h535, if_neg h536, if_pos h537]; try rfl)
                        · refine wp_seg 1 (P := none) (ls' := [some (aR 5 (0)), some (aI (c)), some (aI (0))]) (st' := [aI (0)]) (σ' := σ) rq_65 rfl True.intro (i' := 87) rfl ?_
                          refine wp_if rq_65 rfl (fun _ => ?_) (fun (h538 : ¬ ((0 : Int) = (0 : Int))) => absurd (show (0 : Int) = (0 : Int) from by decide) h538)
                          refine wp_seg 1 (P := none) (ls' := [some (aR 5 (0)), some (aI (c)), some (aI (0))]) (st' := [aI (0)]) (σ' := σ) rq_65 rfl True.intro (i' := 99) rfl ?_
                          refine wp_zret rq_65 rfl rt_65 ?_ ⟨?_, ?_⟩
                          · first | exact Or.inl rfl | exact Or.inr rfl
                          · (rw [zo_accept, if_neg h1, if_pos h338, if_pos h339, if_neg h340, if_neg h422, if_neg h505, if_pos h532, if_pos h533, if_pos h534, if_neg h535, if_neg h536, if_neg h537]; try rfl)
                          · (rw [zm_accept, if_neg h1, if_pos h338, if_pos h339, if_neg h340, if_neg h422, if_neg h505, if_pos h532, if_pos h533, if_pos h534, if_neg h535, if_neg h536, if_neg h537]; try rfl)
                  · refine wp_seg 1 (P := none) (ls' := [some (aR 5 (0)), some (aI (c)), some (aI (0))]) (st' := [aI (0)]) (σ' := σ) rq_65 rfl True.intro (i' := 55) rfl ?_
                    refine wp_if rq_65 rfl (fun _ => ?_) (fun (h539 : ¬ ((0 : Int) = (0 : Int))) => absurd (show (0 : Int) = (0 : Int) from by decide) h539)
                    refine wp_seg 2 (P := none) (ls' := [some (aR 5 (0)), some (aI (c)), some (aI (0))]) (st' := [aI (59), aI (c)]) (σ' := σ) rq_65 rfl True.intro (i' := 77) rfl ?_
                    refine wp_icmp rq_65 rfl (fun (h540 : ¬ (c) = 59) => ?_) (fun (h540 : ¬ (¬ (c) = 59)) => ?_)
                    · refine wp_seg 1 (P := none) (ls' := [some (aR 5 (0)), some (aI (c)), some (aI (0))]) (st' := [aI (0)]) (σ' := σ) rq_65 rfl True.intro (i' := 99) rfl ?_
                      refine wp_zret rq_65 rfl rt_65 ?_ ⟨?_, ?_⟩
                      · first | exact Or.inl rfl | exact Or.inr rfl
                      · (rw [zo_accept, if_neg h1, if_pos h338, if_pos h339, if_neg h340, if_neg h422, if_neg h505, if_pos h532, if_pos h533, if_neg h534, if_pos h540]; try rfl)
                      · (rw [zm_accept, if_neg h1, if_pos h338, if_pos h339, if_neg h340, if_neg h422, if_neg h505, if_pos h532, if_pos h533, if_neg h534, if_pos h540]; try rfl)
                    · refine wp_seg 3 (P := none) (ls' := [some (aR 5 (0)), some (aI (c)), some (aI (0))]) (st' := [aI (3), aI (σ 5 (0) 5)]) (σ' := σ) rq_65 rfl True.intro (i' := 81) rfl ?_
                      refine wp_icmp rq_65 rfl (fun (h541 : (σ 5 (0) 5) = 3) => ?_) (fun (h541 : ¬ ((σ 5 (0) 5) = 3)) => ?_)
                      · refine wp_seg 8 (P := none) (ls' := [some (aR 5 (0)), some (aI (c)), some (aI (0))]) (st' := [aI (0), aR 5 (0)]) (σ' := (up σ 5 (0) 4 (wr ((σ 5 (0) 4) + (1))))) rq_65 rfl True.intro (i' := 96) rfl ?_
                        refine wp_call (C := 5) (As := [aR 5 (0), aI (0)]) (rest := []) rq_65 (ev_openPart (0) (up σ 5 (0) 4 (wr ((σ 5 (0) 4) + (1)))) ) rfl rfl (show clOK 65 66 0 0 0 2 5 = true by decide +kernel) rfl (show 0 ≤ 4 by decide) (fun _ => ⟨_, rfl⟩) rfl (c' := 0) (s' := 0) rfl rfl ?_
                        refine wp_goto rq_65 rfl ?_
                        refine wp_seg 1 (P := none) (ls' := [some (aR 5 (0)), some (aI (c)), some (aI (0))]) (st' := [aI (1)]) (σ' := (zm_openPart (0) (up σ 5 (0) 4 (wr ((σ 5 (0) 4) + (1)))))) rq_65 rfl True.intro (i' := 101) rfl ?_
                        refine wp_zret rq_65 rfl rt_65 ?_ ⟨?_, ?_⟩
                        · first | exact Or.inl rfl | exact Or.inr rfl
                        · (rw [zo_accept, if_neg h1, if_pos h338, if_pos h339, if_neg h340, if_neg h422, if_neg h505, if_pos h532, if_pos h533, if_neg h534, if_neg h540, if_pos h541]; try rfl)
                        · (rw [zm_accept, if_neg h1, if_pos h338, if_pos h339, if_neg h340, if_neg h422, if_neg h505, if_pos h532, if_pos h533, if_neg h534, if_neg h540, if_pos h541]; try rfl)
                      · refine wp_seg 3 (P := none) (ls' := [some (aR 5 (0)), some (aI (c)), some (aI (0))]) (st' := [aI (2), aI (σ 5 (0) 5)]) (σ' := σ) rq_65 rfl True.intro (i' := 85) rfl ?_
                        refine wp_icmp rq_65 rfl (fun (h542 : ¬ (σ 5 (0) 5) = 2) => ?_) (fun (h542 : ¬ (¬ (σ 5 (0) 5) = 2)) => ?_)
                        · refine wp_seg 1 (P := none) (ls' := [some (aR 5 (0)), some (aI (c)), some (aI (0))]) (st' := [aI (0)]) (σ' := σ) rq_65 rfl True.intro (i' := 99) rfl ?_
                          refine wp_zret rq_65 rfl rt_65 ?_ ⟨?_, ?_⟩
                          · first | exact Or.inl rfl | exact Or.inr rfl
                          · (rw [zo_accept, if_neg h1, if_pos h338, if_pos h339, if_neg h340, if_neg h422, if_neg h505, if_pos h532, if_pos h533, if_neg h534, if_neg h540, if_neg h541, if_pos h542]; try rfl)
                          · (rw [zm_accept, if_neg h1, if_pos h338, if_pos h339, if_neg h340, if_neg h422, if_neg h505, if_pos h532, if_pos h533, if_neg h534, if_neg h540, if_neg h541, if_pos h542]; try rfl)
                        · refine wp_seg 1 (P := none) (ls' := [some (aR 5 (0)), some (aI (c)), some (aI (0))]) (st' := [aI (0)]) (σ' := σ) rq_65 rfl True.intro (i' := 87) rfl ?_
                          refine wp_if rq_65 rfl (fun _ => ?_) (fun (h543 : ¬ ((0 : Int) = (0 : Int))) => absurd (show (0 : Int) = (0 : Int) from by decide) h543)
                          refine wp_seg 1 (P := none) (ls' := [some (aR 5 (0)), some (aI (c)), some (aI (0))]) (st' := [aI (0)]) (σ' := σ) rq_65 rfl True.intro (i' := 99) rfl ?_
                          refine wp_zret rq_65 rfl rt_65 ?_ ⟨?_, ?_⟩
                          · first | exact Or.inl rfl | exact Or.inr rfl
                          · (rw [zo_accept, if_neg h1, if_pos h338, if_pos h339, if_neg h340, if_neg h422, if_neg h505, if_pos h532, if_pos h533, if_neg h534, if_neg h540, if_neg h541, if_neg h542]; try rfl)
                          · (rw [zm_accept, if_neg h1, if_pos h338, if_pos h339, if_neg h340, if_neg h422, if_neg h505, if_pos h532, if_pos h533, if_neg h534, if_neg h540, if_neg h541, if_neg h542]; try rfl)
                · refine wp_seg 2 (P := none) (ls' := [some (aR 5 (0)), some (aI (c)), some (aI (0))]) (st' := [aI (114), aI (c)]) (σ' := σ) rq_65 rfl True.intro (i' := 49) rfl ?_
                  refine wp_icmp rq_65 rfl (fun (h544 : ¬ (c) = 114) => ?_) (fun (h544 : ¬ (¬ (c) = 114)) => ?_)
                  · refine wp_seg 2 (P := none) (ls' := [some (aR 5 (0)), some (aI (c)), some (aI (0))]) (st' := [aI (59), aI (c)]) (σ' := σ) rq_65 rfl True.intro (i' := 77) rfl ?_
                    refine wp_icmp rq_65 rfl (fun (h545 : ¬ (c) = 59) => ?_) (fun (h545 : ¬ (¬ (c) = 59)) => ?_)
                    · refine wp_seg 1 (P := none) (ls' := [some (aR 5 (0)), some (aI (c)), some (aI (0))]) (st' := [aI (0)]) (σ' := σ) rq_65 rfl True.intro (i' := 99) rfl ?_
                      refine wp_zret rq_65 rfl rt_65 ?_ ⟨?_, ?_⟩
                      · first | exact Or.inl rfl | exact Or.inr rfl
                      · (rw [zo_accept, if_neg h1, if_pos h338, if_pos h339, if_neg h340, if_neg h422, if_neg h505, if_pos h532, if_neg h533, if_pos h544, if_pos h545]; try rfl)
                      · (rw [zm_accept, if_neg h1, if_pos h338, if_pos h339, if_neg h340, if_neg h422, if_neg h505, if_pos h532, if_neg h533, if_pos h544, if_pos h545]; try rfl)
                    · refine wp_seg 3 (P := none) (ls' := [some (aR 5 (0)), some (aI (c)), some (aI (0))]) (st' := [aI (3), aI (σ 5 (0) 5)]) (σ' := σ) rq_65 rfl True.intro (i' := 81) rfl ?_
                      refine wp_icmp rq_65 rfl (fun (h546 : (σ 5 (0) 5) = 3) => ?_) (fun (h546 : ¬ ((σ 5 (0) 5) = 3)) => ?_)
                      · refine wp_seg 8 (P := none) (ls' := [some (aR 5 (0)), some (aI (c)), some (aI (0))]) (st' := [aI (0), aR 5 (0)]) (σ' := (up σ 5 (0) 4 (wr ((σ 5 (0) 4) + (1))))) rq_65 rfl True.intro (i' := 96) rfl ?_
                        refine wp_call (C := 5) (As := [aR 5 (0), aI (0)]) (rest := []) rq_65 (ev_openPart (0) (up σ 5 (0) 4 (wr ((σ 5 (0) 4) + (1)))) ) rfl rfl (show clOK 65 66 0 0 0 2 5 = true by decide +kernel) rfl (show 0 ≤ 4 by decide) (fun _ => ⟨_, rfl⟩) rfl (c' := 0) (s' := 0) rfl rfl ?_
                        refine wp_goto rq_65 rfl ?_
                        refine wp_seg 1 (P := none) (ls' := [some (aR 5 (0)), some (aI (c)), some (aI (0))]) (st' := [aI (1)]) (σ' := (zm_openPart (0) (up σ 5 (0) 4 (wr ((σ 5 (0) 4) + (1)))))) rq_65 rfl True.intro (i' := 101) rfl ?_
                        refine wp_zret rq_65 rfl rt_65 ?_ ⟨?_, ?_⟩
                        · first | exact Or.inl rfl | exact Or.inr rfl
                        · (rw [zo_accept, if_neg h1, if_pos h338, if_pos h339, if_neg h340, if_neg h422, if_neg h505, if_pos h532, if_neg h533, if_pos h544, if_neg h545, if_pos h546]; try rfl)
                        · (rw [zm_accept, if_neg h1, if_pos h338, if_pos h339, if_neg h340, if_neg h422, if_neg h505, if_pos h532, if_neg h533, if_pos h544, if_neg h545, if_pos h546]; try rfl)
                      · refine wp_seg 3 (P := none) (ls' := [some (aR 5 (0)), some (aI (c)), some (aI (0))]) (st' := [aI (2), aI (σ 5 (0) 5)]) (σ' := σ) rq_65 rfl True.intro (i' := 85) rfl ?_
                        refine wp_icmp rq_65 rfl (fun (h547 : ¬ (σ 5 (0) 5) = 2) => ?_) (fun (h547 : ¬ (¬ (σ 5 (0) 5) = 2)) => ?_)
                        · refine wp_seg 1 (P := none) (ls' := [some (aR 5 (0)), some (aI (c)), some (aI (0))]) (st' := [aI (0)]) (σ' := σ) rq_65 rfl True.intro (i' := 99) rfl ?_
                          refine wp_zret rq_65 rfl rt_65 ?_ ⟨?_, ?_⟩
                          · first | exact Or.inl rfl | exact Or.inr rfl
                          · (rw [zo_accept, if_neg h1, if_pos h338, if_pos h339, if_neg h340, if_neg h422, if_neg h505, if_pos h532, if_neg h533, if_pos h544, if_neg h545, if_neg h546, if_pos h547]; try rfl)
                          · (rw [zm_accept, if_neg h1, if_pos h338, if_pos h339, if_neg h340, if_neg h422, if_neg h505, if_pos h532, if_neg h533, if_pos h544, if_neg h545, if_neg h546, if_pos h547]; try rfl)
                        · refine wp_seg 1 (P := none) (ls' := [some (aR 5 (0)), some (aI (c)), some (aI (0))]) (st' := [aI (0)]) (σ' := σ) rq_65 rfl True.intro (i' := 87) rfl ?_
                          refine wp_if rq_65 rfl (fun _ => ?_) (fun (h548 : ¬ ((0 : Int) = (0 : Int))) => absurd (show (0 : Int) = (0 : Int) from by decide) h548)
                          refine wp_seg 1 (P := none) (ls' := [some (aR 5 (0)), some (aI (c)), some (aI (0))]) (st' := [aI (0)]) (σ' := σ) rq_65 rfl True.intro (i' := 99) rfl ?_
                          refine wp_zret rq_65 rfl rt_65 ?_ ⟨?_, ?_⟩
                          · first | exact Or.inl rfl | exact Or.inr rfl
                          · (rw [zo_accept, if_neg h1, if_pos h338, if_pos h339, if_neg h340, if_neg h422, if_neg h505, if_pos h532, if_neg h533, if_pos h544, if_neg h545, if_neg h546, if_neg h547]; try rfl)
                          · (rw [zm_accept, if_neg h1, if_pos h338, if_pos h339, if_neg h340, if_neg h422, if_neg h505, if_pos h532, if_neg h533, if_pos h544, if_neg h545, if_neg h546, if_neg h547]; try rfl)
                  · refine wp_seg 3 (P := none) (ls' := [some (aR 5 (0)), some (aI (c)), some (aI (0))]) (st' := [aI (2), aI (σ 5 (0) 5)]) (σ' := σ) rq_65 rfl True.intro (i' := 53) rfl ?_
                    refine wp_icmp rq_65 rfl (fun (h549 : ¬ (σ 5 (0) 5) = 2) => ?_) (fun (h549 : ¬ (¬ (σ 5 (0) 5) = 2)) => ?_)
                    · refine wp_seg 2 (P := none) (ls' := [some (aR 5 (0)), some (aI (c)), some (aI (0))]) (st' := [aI (59), aI (c)]) (σ' := σ) rq_65 rfl True.intro (i' := 77) rfl ?_
                      refine wp_icmp rq_65 rfl (fun (h550 : ¬ (c) = 59) => ?_) (fun (h550 : ¬ (¬ (c) = 59)) => ?_)
                      · refine wp_seg 1 (P := none) (ls' := [some (aR 5 (0)), some (aI (c)), some (aI (0))]) (st' := [aI (0)]) (σ' := σ) rq_65 rfl True.intro (i' := 99) rfl ?_
                        refine wp_zret rq_65 rfl rt_65 ?_ ⟨?_, ?_⟩
                        · first | exact Or.inl rfl | exact Or.inr rfl
                        · (rw [zo_accept, if_neg h1, if_pos h338, if_pos h339, if_neg h340, if_neg h422, if_neg h505, if_pos h532, if_neg h533, if_neg h544, if_pos h549, if_pos h550]; try rfl)
                        · (rw [zm_accept, if_neg h1, if_pos h338, if_pos h339, if_neg h340, if_neg h422, if_neg h505, if_pos h532, if_neg h533, if_neg h544, if_pos h549, if_pos h550]; try rfl)
                      · refine wp_seg 3 (P := none) (ls' := [some (aR 5 (0)), some (aI (c)), some (aI (0))]) (st' := [aI (3), aI (σ 5 (0) 5)]) (σ' := σ) rq_65 rfl True.intro (i' := 81) rfl ?_
                        refine wp_icmp rq_65 rfl (fun (h551 : (σ 5 (0) 5) = 3) => ?_) (fun (h551 : ¬ ((σ 5 (0) 5) = 3)) => ?_)
                        · refine wp_seg 8 (P := none) (ls' := [some (aR 5 (0)), some (aI (c)), some (aI (0))]) (st' := [aI (0), aR 5 (0)]) (σ' := (up σ 5 (0) 4 (wr ((σ 5 (0) 4) + (1))))) rq_65 rfl True.intro (i' := 96) rfl ?_
                          refine wp_call (C := 5) (As := [aR 5 (0), aI (0)]) (rest := []) rq_65 (ev_openPart (0) (up σ 5 (0) 4 (wr ((σ 5 (0) 4) + (1)))) ) rfl rfl (show clOK 65 66 0 0 0 2 5 = true by decide +kernel) rfl (show 0 ≤ 4 by decide) (fun _ => ⟨_, rfl⟩) rfl (c' := 0) (s' := 0) rfl rfl ?_
                          refine wp_goto rq_65 rfl ?_
                          refine wp_seg 1 (P := none) (ls' := [some (aR 5 (0)), some (aI (c)), some (aI (0))]) (st' := [aI (1)]) (σ' := (zm_openPart (0) (up σ 5 (0) 4 (wr ((σ 5 (0) 4) + (1)))))) rq_65 rfl True.intro (i' := 101) rfl ?_
                          refine wp_zret rq_65 rfl rt_65 ?_ ⟨?_, ?_⟩
                          · first | exact Or.inl rfl | exact Or.inr rfl
                          · (rw [zo_accept, if_neg h1, if_pos h338, if_pos h339, if_neg h340, if_neg h422, if_neg h505, if_pos h532, if_neg h533, if_neg h544, if_pos h549, if_neg h550, if_pos h551]; try rfl)
                          · (rw [zm_accept, if_neg h1, if_pos h338, if_pos h339, if_neg h340, if_neg h422, if_neg h505, if_pos h532, if_neg h533, if_neg h544, if_pos h549, if_neg h550, if_pos h551]; try rfl)
                        · refine wp_seg 3 (P := none) (ls' := [some (aR 5 (0)), some (aI (c)), some (aI (0))]) (st' := [aI (2), aI (σ 5 (0) 5)]) (σ' := σ) rq_65 rfl True.intro (i' := 85) rfl ?_
                          refine wp_icmp rq_65 rfl (fun (h552 : ¬ (σ 5 (0) 5) = 2) => ?_) (fun (h552 : ¬ (¬ (σ 5 (0) 5) = 2)) => ?_)
                          · refine wp_seg 1 (P := none) (ls' := [some (aR 5 (0)), some (aI (c)), some (aI (0))]) (st' := [aI (0)]) (σ' := σ) rq_65 rfl True.intro (i' := 99) rfl ?_
                            refine wp_zret rq_65 rfl rt_65 ?_ ⟨?_, ?_⟩
                            · first | exact Or.inl rfl | exact Or.inr rfl
                            · (rw [zo_accept, if_neg h1, if_pos h338, if_pos h339, if_neg h340, if_neg h422, if_neg h505, if_pos h532, if_neg h533, if_neg h544, if_pos h549, if_neg h550, if_neg h551, if_pos h552]; try rfl)
                            · (rw [zm_accept, if_neg h1, if_pos h338, if_pos h339, if_neg h340, if_neg h422, if_neg h505, if_pos h532, if_neg h533, if_neg h544, if_pos h549, if_neg h550, if_neg h551, if_pos h552]; try rfl)
                          · refine wp_seg 1 (P := none) (ls' := [some (aR 5 (0)), some (aI (c)), some (aI (0))]) (st' := [aI (0)]) (σ' := σ) rq_65 rfl True.intro (i' := 87) rfl ?_
                            refine wp_if rq_65 rfl (fun _ => ?_) (fun (h553 : ¬ ((0 : Int) = (0 : Int))) => absurd (show (0 : Int) = (0 : Int) from by decide) h553)
                            refine wp_seg 1 (P := none) (ls' := [some (aR 5 (0)), some (aI (c)), some (aI (0))]) (st' := [aI (0)]) (σ' := σ) rq_65 rfl True.intro (i' := 99) rfl ?_
                            refine wp_zret rq_65 rfl rt_65 ?_ ⟨?_, ?_⟩
                            · first | exact Or.inl rfl | exact Or.inr rfl
                            · (rw [zo_accept, if_neg h1, if_pos h338, if_pos h339, if_neg h340, if_neg h422, if_neg h505, if_pos h532, if_neg h533, if_neg h544, if_pos h549, if_neg h550, if_neg h551, if_neg h552]; try rfl)
                            · (rw [zm_accept, if_neg h1, if_pos h338, if_pos h339, if_neg h340, if_neg h422, if_neg h505, if_pos h532, if_neg h533, if_neg h544, if_pos h549, if_neg h550, if_neg h551, if_neg h552]; try rfl)
                    · refine wp_seg 1 (P := none) (ls' := [some (aR 5 (0)), some (aI (c)), some (aI (0))]) (st' := [aI (0)]) (σ' := σ) rq_65 rfl True.intro (i' := 55) rfl ?_
                      refine wp_if rq_65 rfl (fun _ => ?_) (fun (h554 : ¬ ((0 : Int) = (0 : Int))) => absurd (show (0 : Int) = (0 : Int) from by decide) h554)
                      refine wp_seg 2 (P := none) (ls' := [some (aR 5 (0)), some (aI (c)), some (aI (0))]) (st' := [aI (59), aI (c)]) (σ' := σ) rq_65 rfl True.intro (i' := 77) rfl ?_
                      refine wp_icmp rq_65 rfl (fun (h555 : ¬ (c) = 59) => ?_) (fun (h555 : ¬ (¬ (c) = 59)) => ?_)
                      · refine wp_seg 1 (P := none) (ls' := [some (aR 5 (0)), some (aI (c)), some (aI (0))]) (st' := [aI (0)]) (σ' := σ) rq_65 rfl True.intro (i' := 99) rfl ?_
                        refine wp_zret rq_65 rfl rt_65 ?_ ⟨?_, ?_⟩
                        · first | exact Or.inl rfl | exact Or.inr rfl
                        · (rw [zo_accept, if_neg h1, if_pos h338, if_pos h339, if_neg h340, if_neg h422, if_neg h505, if_pos h532, if_neg h533, if_neg h544, if_neg h549, if_pos h555]; try rfl)
                        · (rw [zm_accept, if_neg h1, if_pos h338, if_pos h339, if_neg h340, if_neg h422, if_neg h505, if_pos h532, if_neg h533, if_neg h544, if_neg h549, if_pos h555]; try rfl)
                      · refine wp_seg 3 (P := none) (ls' := [some (aR 5 (0)), some (aI (c)), some (aI (0))]) (st' := [aI (3), aI (σ 5 (0) 5)]) (σ' := σ) rq_65 rfl True.intro (i' := 81) rfl ?_
                        refine wp_icmp rq_65 rfl (fun (h556 : (σ 5 (0) 5) = 3) => ?_) (fun (h556 : ¬ ((σ 5 (0) 5) = 3)) => ?_)
                        · refine wp_seg 8 (P := none) (ls' := [some (aR 5 (0)), some (aI (c)), some (aI (0))]) (st' := [aI (0), aR 5 (0)]) (σ' := (up σ 5 (0) 4 (wr ((σ 5 (0) 4) + (1))))) rq_65 rfl True.intro (i' := 96) rfl ?_
                          refine wp_call (C := 5) (As := [aR 5 (0), aI (0)]) (rest := []) rq_65 (ev_openPart (0) (up σ 5 (0) 4 (wr ((σ 5 (0) 4) + (1)))) ) rfl rfl (show clOK 65 66 0 0 0 2 5 = true by decide +kernel) rfl (show 0 ≤ 4 by decide) (fun _ => ⟨_, rfl⟩) rfl (c' := 0) (s' := 0) rfl rfl ?_
                          refine wp_goto rq_65 rfl ?_
                          refine wp_seg 1 (P := none) (ls' := [some (aR 5 (0)), some (aI (c)), some (aI (0))]) (st' := [aI (1)]) (σ' := (zm_openPart (0) (up σ 5 (0) 4 (wr ((σ 5 (0) 4) + (1)))))) rq_65 rfl True.intro (i' := 101) rfl ?_
                          refine wp_zret rq_65 rfl rt_65 ?_ ⟨?_, ?_⟩
                          · first | exact Or.inl rfl | exact Or.inr rfl
                          · (rw [zo_accept, if_neg h1, if_pos h338, if_pos h339, if_neg h340, if_neg h422, if_neg h505, if_pos h532, if_neg h533, if_neg h544, if_neg h549, if_neg h555, if_pos h556]; try rfl)
                          · (rw [zm_accept, if_neg h1, if_pos h338, if_pos h339, if_neg h340, if_neg h422, if_neg h505, if_pos h532, if_neg h533, if_neg h544, if_neg h549, if_neg h555, if_pos h556]; try rfl)
                        · refine wp_seg 3 (P := none) (ls' := [some (aR 5 (0)), some (aI (c)), some (aI (0))]) (st' := [aI (2), aI (σ 5 (0) 5)]) (σ' := σ) rq_65 rfl True.intro (i' := 85) rfl ?_
                          refine wp_icmp rq_65 rfl (fun (h557 : ¬ (σ 5 (0) 5) = 2) => ?_) (fun (h557 : ¬ (¬ (σ 5 (0) 5) = 2)) => ?_)
                          · refine wp_seg 1 (P := none) (ls' := [some (aR 5 (0)), some (aI (c)), some (aI (0))]) (st' := [aI (0)]) (σ' := σ) rq_65 rfl True.intro (i' := 99) rfl ?_
                            refine wp_zret rq_65 rfl rt_65 ?_ ⟨?_, ?_⟩
                            · first | exact Or.inl rfl | exact Or.inr rfl
                            · (rw [zo_accept, if_neg h1, if_pos h338, if_pos h339, if_neg h340, if_neg h422, if_neg h505, if_pos h532, if_neg h533, if_neg h544, if_neg h549, if_neg h555, if_neg h556, if_pos h557]; try rfl)
                            · (rw [zm_accept, if_neg h1, if_pos h338, if_pos h339, if_neg h340, if_neg h422, if_neg h505, if_pos h532, if_neg h533, if_neg h544, if_neg h549, if_neg h555, if_neg h556, if_pos h557]; try rfl)
                          · refine wp_seg 1 (P := none) (ls' := [some (aR 5 (0)), some (aI (c)), some (aI (0))]) (st' := [aI (0)]) (σ' := σ) rq_65 rfl True.intro (i' := 87) rfl ?_
                            refine wp_if rq_65 rfl (fun _ => ?_) (fun (h558 : ¬ ((0 : Int) = (0 : Int))) => absurd (show (0 : Int) = (0 : Int) from by decide) h558)
                            refine wp_seg 1 (P := none) (ls' := [some (aR 5 (0)), some (aI (c)), some (aI (0))]) (st' := [aI (0)]) (σ' := σ) rq_65 rfl True.intro (i' := 99) rfl ?_
                            refine wp_zret rq_65 rfl rt_65 ?_ ⟨?_, ?_⟩
                            · first | exact Or.inl rfl | exact Or.inr rfl
                            · (rw [zo_accept, if_neg h1, if_pos h338, if_pos h339, if_neg h340, if_neg h422, if_neg h505, if_pos h532, if_neg h533, if_neg h544, if_neg h549, if_neg h555, if_neg h556, if_neg h557]; try rfl)
                            · (rw [zm_accept, if_neg h1, if_pos h338, if_pos h339, if_neg h340, if_neg h422, if_neg h505, if_pos h532, if_neg h533, if_neg h544, if_neg h549, if_neg h555, if_neg h556, if_neg h557]; try rfl)
              · refine wp_seg 1 (P := none) (ls' := [some (aR 5 (0)), some (aI (c)), some (aI (0))]) (st' := [aI (0)]) (σ' := σ) rq_65 rfl True.intro (i' := 39) rfl ?_
                refine wp_if rq_65 rfl (fun _ => ?_) (fun (h559 : ¬ ((0 : Int) = (0 : Int))) => absurd (show (0 : Int) = (0 : Int) from by decide) h559)
                refine wp_seg 2 (P := none) (ls' := [some (aR 5 (0)), some (aI (c)), some (aI (0))]) (st' := [aI (108), aI (c)]) (σ' := σ) rq_65 rfl True.intro (i' := 46) rfl ?_
                refine wp_icmp rq_65 rfl (fun (h560 : (c) = 108) => ?_) (fun (h560 : ¬ ((c) = 108)) => ?_)
                · refine wp_seg 3 (P := none) (ls' := [some (aR 5 (0)), some (aI (c)), some (aI (0))]) (st' := [aI (2), aI (σ 5 (0) 5)]) (σ' := σ) rq_65 rfl True.intro (i' := 53) rfl ?_
                  refine wp_icmp rq_65 rfl (fun (h561 : ¬ (σ 5 (0) 5) = 2) => ?_) (fun (h561 : ¬ (¬ (σ 5 (0) 5) = 2)) => ?_)
                  · refine wp_seg 2 (P := none) (ls' := [some (aR 5 (0)), some (aI (c)), some (aI (0))]) (st' := [aI (59), aI (c)]) (σ' := σ) rq_65 rfl True.intro (i' := 77) rfl ?_
                    refine wp_icmp rq_65 rfl (fun (h562 : ¬ (c) = 59) => ?_) (fun (h562 : ¬ (¬ (c) = 59)) => ?_)
                    · refine wp_seg 1 (P := none) (ls' := [some (aR 5 (0)), some (aI (c)), some (aI (0))]) (st' := [aI (0)]) (σ' := σ) rq_65 rfl True.intro (i' := 99) rfl ?_
                      refine wp_zret rq_65 rfl rt_65 ?_ ⟨?_, ?_⟩
                      · first | exact Or.inl rfl | exact Or.inr rfl
                      · (rw [zo_accept, if_neg h1, if_pos h338, if_pos h339, if_neg h340, if_neg h422, if_neg h505, if_neg h532, if_pos h560, if_pos h561, if_pos h562]; try rfl)
                      · (rw [zm_accept, if_neg h1, if_pos h338, if_pos h339, if_neg h340, if_neg h422, if_neg h505, if_neg h532, if_pos h560, if_pos h561, if_pos h562]; try rfl)
                    · refine wp_seg 3 (P := none) (ls' := [some (aR 5 (0)), some (aI (c)), some (aI (0))]) (st' := [aI (3), aI (σ 5 (0) 5)]) (σ' := σ) rq_65 rfl True.intro (i' := 81) rfl ?_
                      refine wp_icmp rq_65 rfl (fun (h563 : (σ 5 (0) 5) = 3) => ?_) (fun (h563 : ¬ ((σ 5 (0) 5) = 3)) => ?_)
                      · refine wp_seg 8 (P := none) (ls' := [some (aR 5 (0)), some (aI (c)), some (aI (0))]) (st' := [aI (0), aR 5 (0)]) (σ' := (up σ 5 (0) 4 (wr ((σ 5 (0) 4) + (1))))) rq_65 rfl True.intro (i' := 96) rfl ?_
                        refine wp_call (C := 5) (As := [aR 5 (0), aI (0)]) (rest := []) rq_65 (ev_openPart (0) (up σ 5 (0) 4 (wr ((σ 5 (0) 4) + (1)))) ) rfl rfl (show clOK 65 66 0 0 0 2 5 = true by decide +kernel) rfl (show 0 ≤ 4 by decide) (fun _ => ⟨_, rfl⟩) rfl (c' := 0) (s' := 0) rfl rfl ?_
                        refine wp_goto rq_65 rfl ?_
                        refine wp_seg 1 (P := none) (ls' := [some (aR 5 (0)), some (aI (c)), some (aI (0))]) (st' := [aI (1)]) (σ' := (zm_openPart (0) (up σ 5 (0) 4 (wr ((σ 5 (0) 4) + (1)))))) rq_65 rfl True.intro (i' := 101) rfl ?_
                        refine wp_zret rq_65 rfl rt_65 ?_ ⟨?_, ?_⟩
                        · first | exact Or.inl rfl | exact Or.inr rfl
                        · (rw [zo_accept, if_neg h1, if_pos h338, if_pos h339, if_neg h340, if_neg h422, if_neg h505, if_neg h532, if_pos h560, if_pos h561, if_neg h562, if_pos h563]; try rfl)
                        · (rw [zm_accept, if_neg h1, if_pos h338, if_pos h339, if_neg h340, if_neg h422, if_neg h505, if_neg h532, if_pos h560, if_pos h561, if_neg h562, if_pos h563]; try rfl)
                      · refine wp_seg 3 (P := none) (ls' := [some (aR 5 (0)), some (aI (c)), some (aI (0))]) (st' := [aI (2), aI (σ 5 (0) 5)]) (σ' := σ) rq_65 rfl True.intro (i' := 85) rfl ?_
                        refine wp_icmp rq_65 rfl (fun (h564 : ¬ (σ 5 (0) 5) = 2) => ?_) (fun (h564 : ¬ (¬ (σ 5 (0) 5) = 2)) => ?_)
                        · refine wp_seg 1 (P := none) (ls' := [some (aR 5 (0)), some (aI (c)), some (aI (0))]) (st' := [aI (0)]) (σ' := σ) rq_65 rfl True.intro (i' := 99) rfl ?_
                          refine wp_zret rq_65 rfl rt_65 ?_ ⟨?_, ?_⟩
                          · first | exact Or.inl rfl | exact Or.inr rfl
                          · (rw [zo_accept, if_neg h1, if_pos h338, if_pos h339, if_neg h340, if_neg h422, if_neg h505, if_neg h532, if_pos h560, if_pos h561, if_neg h562, if_neg h563, if_pos h564]; try rfl)
                          · (rw [zm_accept, if_neg h1, if_pos h338, if_pos h339, if_neg h340, if_neg h422, if_neg h505, if_neg h532, if_pos h560, if_pos h561, if_neg h562, if_neg h563, if_pos h564]; try rfl)
                        · refine wp_seg 1 (P := none) (ls' := [some (aR 5 (0)), some (aI (c)), some (aI (0))]) (st' := [aI (0)]) (σ' := σ) rq_65 rfl True.intro (i' := 87) rfl ?_
                          refine wp_if rq_65 rfl (fun _ => ?_) (fun (h565 : ¬ ((0 : Int) = (0 : Int))) => absurd (show (0 : Int) = (0 : Int) from by decide) h565)
                          refine wp_seg 1 (P := none) (ls' := [some (aR 5 (0)), some (aI (c)), some (aI (0))]) (st' := [aI (0)]) (σ' := σ) rq_65 rfl True.intro (i' := 99) rfl ?_
                          refine wp_zret rq_65 rfl rt_65 ?_ ⟨?_, ?_⟩
                          · first | exact Or.inl rfl | exact Or.inr rfl
                          · (rw [zo_accept, if_neg h1, if_pos h338, if_pos h339, if_neg h340, if_neg h422, if_neg h505, if_neg h532, if_pos h560, if_pos h561, if_neg h562, if_neg h563, if_neg h564]; try rfl)
                          · (rw [zm_accept, if_neg h1, if_pos h338, if_pos h339, if_neg h340, if_neg h422, if_neg h505, if_neg h532, if_pos h560, if_pos h561, if_neg h562, if_neg h563, if_neg h564]; try rfl)
                  · refine wp_seg 1 (P := none) (ls' := [some (aR 5 (0)), some (aI (c)), some (aI (0))]) (st' := [aI (0)]) (σ' := σ) rq_65 rfl True.intro (i' := 55) rfl ?_
                    refine wp_if rq_65 rfl (fun _ => ?_) (fun (h566 : ¬ ((0 : Int) = (0 : Int))) => absurd (show (0 : Int) = (0 : Int) from by decide) h566)
                    refine wp_seg 2 (P := none) (ls' := [some (aR 5 (0)), some (aI (c)), some (aI (0))]) (st' := [aI (59), aI (c)]) (σ' := σ) rq_65 rfl True.intro (i' := 77) rfl ?_
                    refine wp_icmp rq_65 rfl (fun (h567 : ¬ (c) = 59) => ?_) (fun (h567 : ¬ (¬ (c) = 59)) => ?_)
                    · refine wp_seg 1 (P := none) (ls' := [some (aR 5 (0)), some (aI (c)), some (aI (0))]) (st' := [aI (0)]) (σ' := σ) rq_65 rfl True.intro (i' := 99) rfl ?_
                      refine wp_zret rq_65 rfl rt_65 ?_ ⟨?_, ?_⟩
                      · first | exact Or.inl rfl | exact Or.inr rfl
                      · (rw [zo_accept, if_neg h1, if_pos h338, if_pos h339, if_neg h340, if_neg h422, if_neg h505, if_neg h532, if_pos h560, if_neg h561, if_pos h567]; try rfl)
                      · (rw [zm_accept, if_neg h1, if_pos h338, if_pos h339, if_neg h340, if_neg h422, if_neg h505, if_neg h532, if_pos h560, if_neg h561, if_pos h567]; try rfl)
                    · refine wp_seg 3 (P := none) (ls' := [some (aR 5 (0)), some (aI (c)), some (aI (0))]) (st' := [aI (3), aI (σ 5 (0) 5)]) (σ' := σ) rq_65 rfl True.intro (i' := 81) rfl ?_
                      refine wp_icmp rq_65 rfl (fun (h568 : (σ 5 (0) 5) = 3) => ?_) (fun (h568 : ¬ ((σ 5 (0) 5) = 3)) => ?_)
                      · refine wp_seg 8 (P := none) (ls' := [some (aR 5 (0)), some (aI (c)), some (aI (0))]) (st' := [aI (0), aR 5 (0)]) (σ' := (up σ 5 (0) 4 (wr ((σ 5 (0) 4) + (1))))) rq_65 rfl True.intro (i' := 96) rfl ?_
                        refine wp_call (C := 5) (As := [aR 5 (0), aI (0)]) (rest := []) rq_65 (ev_openPart (0) (up σ 5 (0) 4 (wr ((σ 5 (0) 4) + (1)))) ) rfl rfl (show clOK 65 66 0 0 0 2 5 = true by decide +kernel) rfl (show 0 ≤ 4 by decide) (fun _ => ⟨_, rfl⟩) rfl (c' := 0) (s' := 0) rfl rfl ?_
                        refine wp_goto rq_65 rfl ?_
                        refine wp_seg 1 (P := none) (ls' := [some (aR 5 (0)), some (aI (c)), some (aI (0))]) (st' := [aI (1)]) (σ' := (zm_openPart (0) (up σ 5 (0) 4 (wr ((σ 5 (0) 4) + (1)))))) rq_65 rfl True.intro (i' := 101) rfl ?_
                        refine wp_zret rq_65 rfl rt_65 ?_ ⟨?_, ?_⟩
                        · first | exact Or.inl rfl | exact Or.inr rfl
                        · (rw [zo_accept, if_neg h1, if_pos h338, if_pos h339, if_neg h340, if_neg h422, if_neg h505, if_neg h532, if_pos h560, if_neg h561, if_neg h567, if_pos h568]; try rfl)
                        · (rw [zm_accept, if_neg h1, if_pos h338, if_pos h339, if_neg h340, if_neg h422, if_neg h505, if_neg h532, if_pos h560, if_neg h561, if_neg h567, if_pos h568]; try rfl)
                      · refine wp_seg 3 (P := none) (ls' := [some (aR 5 (0)), some (aI (c)), some (aI (0))]) (st' := [aI (2), aI (σ 5 (0) 5)]) (σ' := σ) rq_65 rfl True.intro (i' := 85) rfl ?_
                        refine wp_icmp rq_65 rfl (fun (h569 : ¬ (σ 5 (0) 5) = 2) => ?_) (fun (h569 : ¬ (¬ (σ 5 (0) 5) = 2)) => ?_)
                        · refine wp_seg 1 (P := none) (ls' := [some (aR 5 (0)), some (aI (c)), some (aI (0))]) (st' := [aI (0)]) (σ' := σ) rq_65 rfl True.intro (i' := 99) rfl ?_
                          refine wp_zret rq_65 rfl rt_65 ?_ ⟨?_, ?_⟩
                          · first | exact Or.inl rfl | exact Or.inr rfl
                          · (rw [zo_accept, if_neg h1, if_pos h338, if_pos h339, if_neg h340, if_neg h422, if_neg h505, if_neg h532, if_pos h560, if_neg h561, if_neg h567, if_neg h568, if_pos h569]; try rfl)
                          · (rw [zm_accept, if_neg h1, if_pos h338, if_pos h339, if_neg h340, if_neg h422, if_neg h505, if_neg h532, if_pos h560, if_neg h561, if_neg h567, if_neg h568, if_pos h569]; try rfl)
                        · refine wp_seg 1 (P := none) (ls' := [some (aR 5 (0)), some (aI (c)), some (aI (0))]) (st' := [aI (0)]) (σ' := σ) rq_65 rfl True.intro (i' := 87) rfl ?_
                          refine wp_if rq_65 rfl (fun _ => ?_) (fun (h570 : ¬ ((0 : Int) = (0 : Int))) => absurd (show (0 : Int) = (0 : Int) from by decide) h570)
                          refine wp_seg 1 (P := none) (ls' := [some (aR 5 (0)), some (aI (c)), some (aI (0))]) (st' := [aI (0)]) (σ' := σ) rq_65 rfl True.intro (i' := 99) rfl ?_
                          refine wp_zret rq_65 rfl rt_65 ?_ ⟨?_, ?_⟩
                          · first | exact Or.inl rfl | exact Or.inr rfl
                          · (rw [zo_accept, if_neg h1, if_pos h338, if_pos h339, if_neg h340, if_neg h422, if_neg h505, if_neg h532, if_pos h560, if_neg h561, if_neg h567, if_neg h568, if_neg h569]; try rfl)
                          · (rw [zm_accept, if_neg h1, if_pos h338, if_pos h339, if_neg h340, if_neg h422, if_neg h505, if_neg h532, if_pos h560, if_neg h561, if_neg h567, if_neg h568, if_neg h569]; try rfl)
                · refine wp_seg 2 (P := none) (ls' := [some (aR 5 (0)), some (aI (c)), some (aI (0))]) (st' := [aI (114), aI (c)]) (σ' := σ) rq_65 rfl True.intro (i' := 49) rfl ?_
                  refine wp_icmp rq_65 rfl (fun (h571 : ¬ (c) = 114) => ?_) (fun (h571 : ¬ (¬ (c) = 114)) => ?_)
                  · refine wp_seg 2 (P := none) (ls' := [some (aR 5 (0)), some (aI (c)), some (aI (0))]) (st' := [aI (59), aI (c)]) (σ' := σ) rq_65 rfl True.intro (i' := 77) rfl ?_
                    refine wp_icmp rq_65 rfl (fun (h572 : ¬ (c) = 59) => ?_) (fun (h572 : ¬ (¬ (c) = 59)) => ?_)
                    · refine wp_seg 1 (P := none) (ls' := [some (aR 5 (0)), some (aI (c)), some (aI (0))]) (st' := [aI (0)]) (σ' := σ) rq_65 rfl True.intro (i' := 99) rfl ?_
                      refine wp_zret rq_65 rfl rt_65 ?_ ⟨?_, ?_⟩
                      · first | exact Or.inl rfl | exact Or.inr rfl
                      · (rw [zo_accept, if_neg h1, if_pos h338, if_pos h339, if_neg h340, if_neg h422, if_neg h505, if_neg h532, if_neg h560, if_pos h571, if_pos h572]; try rfl)
                      · (rw [zm_accept, if_neg h1, if_pos h338, if_pos h339, if_neg h340, if_neg h422, if_neg h505, if_neg h532, if_neg h560, if_pos h571, if_pos h572]; try rfl)
                    · refine wp_seg 3 (P := none) (ls' := [some (aR 5 (0)), some (aI (c)), some (aI (0))]) (st' := [aI (3), aI (σ 5 (0) 5)]) (σ' := σ) rq_65 rfl True.intro (i' := 81) rfl ?_
                      refine wp_icmp rq_65 rfl (fun (h573 : (σ 5 (0) 5) = 3) => ?_) (fun (h573 : ¬ ((σ 5 (0) 5) = 3)) => ?_)
                      · refine wp_seg 8 (P := none) (ls' := [some (aR 5 (0)), some (aI (c)), some (aI (0))]) (st' := [aI (0), aR 5 (0)]) (σ' := (up σ 5 (0) 4 (wr ((σ 5 (0) 4) + (1))))) rq_65 rfl True.intro (i' := 96) rfl ?_
                        refine wp_call (C := 5) (As := [aR 5 (0), aI (0)]) (rest := []) rq_65 (ev_openPart (0) (up σ 5 (0) 4 (wr ((σ 5 (0) 4) + (1)))) ) rfl rfl (show clOK 65 66 0 0 0 2 5 = true by decide +kernel) rfl (show 0 ≤ 4 by decide) (fun _ => ⟨_, rfl⟩) rfl (c' := 0) (s' := 0) rfl rfl ?_
                        refine wp_goto rq_65 rfl ?_
                        refine wp_seg 1 (P := none) (ls' := [some (aR 5 (0)), some (aI (c)), some (aI (0))]) (st' := [aI (1)]) (σ' := (zm_openPart (0) (up σ 5 (0) 4 (wr ((σ 5 (0) 4) + (1)))))) rq_65 rfl True.intro (i' := 101) rfl ?_
                        refine wp_zret rq_65 rfl rt_65 ?_ ⟨?_, ?_⟩
                        · first | exact Or.inl rfl | exact Or.inr rfl
                        · (rw [zo_accept, if_neg h1, if_pos h338, if_pos h339, if_neg h340, if_neg h422, if_neg h505, if_neg h532, if_neg h560, if_pos h571, if_neg h572, if_pos h573]; try rfl)
                        · (rw [zm_accept, if_neg h1, if_pos h338, if_pos h339, if_neg h340, if_neg h422, if_neg h505, if_neg h532, if_neg h560, if_pos h571, if_neg h572, if_pos h573]; try rfl)
                      · refine wp_seg 3 (P := none) (ls' := [some (aR 5 (0)), some (aI (c)), some (aI (0))]) (st' := [aI (2), aI (σ 5 (0) 5)]) (σ' := σ) rq_65 rfl True.intro (i' := 85) rfl ?_
                        refine wp_icmp rq_65 rfl (fun (h574 : ¬ (σ 5 (0) 5) = 2) => ?_) (fun (h574 : ¬ (¬ (σ 5 (0) 5) = 2)) => ?_)
                        · refine wp_seg 1 (P := none) (ls' := [some (aR 5 (0)), some (aI (c)), some (aI (0))]) (st' := [aI (0)]) (σ' := σ) rq_65 rfl True.intro (i' := 99) rfl ?_
                          refine wp_zret rq_65 rfl rt_65 ?_ ⟨?_, ?_⟩
                          · first | exact Or.inl rfl | exact Or.inr rfl
                          · (rw [zo_accept, if_neg h1, if_pos h338, if_pos h339, if_neg h340, if_neg h422, if_neg h505, if_neg h532, if_neg h560, if_pos h571, if_neg h572, if_neg h573, if_pos h574]; try rfl)
                          · (rw [zm_accept, if_neg h1, if_pos h338, if_pos h339, if_neg h340, if_neg h422, if_neg h505, if_neg h532, if_neg h560, if_pos h571, if_neg h572, if_neg h573, if_pos h574]; try rfl)
                        · refine wp_seg 1 (P := none) (ls' := [some (aR 5 (0)), some (aI (c)), some (aI (0))]) (st' := [aI (0)]) (σ' := σ) rq_65 rfl True.intro (i' := 87) rfl ?_
                          refine wp_if rq_65 rfl (fun _ => ?_) (fun (h575 : ¬ ((0 : Int) = (0 : Int))) => absurd (show (0 : Int) = (0 : Int) from by decide) h575)
                          refine wp_seg 1 (P := none) (ls' := [some (aR 5 (0)), some (aI (c)), some (aI (0))]) (st' := [aI (0)]) (σ' := σ) rq_65 rfl True.intro (i' := 99) rfl ?_
                          refine wp_zret rq_65 rfl rt_65 ?_ ⟨?_, ?_⟩
                          · first | exact Or.inl rfl | exact Or.inr rfl
                          · (rw [zo_accept, if_neg h1, if_pos h338, if_pos h339, if_neg h340, if_neg h422, if_neg h505, if_neg h532, if_neg h560, if_pos h571, if_neg h572, if_neg h573, if_neg h574]; try rfl)
                          · (rw [zm_accept, if_neg h1, if_pos h338, if_pos h339, if_neg h340, if_neg h422, if_neg h505, if_neg h532, if_neg h560, if_pos h571, if_neg h572, if_neg h573, if_neg h574]; try rfl)
                  · refine wp_seg 3 (P := none) (ls' := [some (aR 5 (0)), some (aI (c)), some (aI (0))]) (st' := [aI (2), aI (σ 5 (0) 5)]) (σ' := σ) rq_65 rfl True.intro (i' := 53) rfl ?_
                    refine wp_icmp rq_65 rfl (fun (h576 : ¬ (σ 5 (0) 5) = 2) => ?_) (fun (h576 : ¬ (¬ (σ 5 (0) 5) = 2)) => ?_)
                    · refine wp_seg 2 (P := none) (ls' := [some (aR 5 (0)), some (aI (c)), some (aI (0))]) (st' := [aI (59), aI (c)]) (σ' := σ) rq_65 rfl True.intro (i' := 77) rfl ?_
                      refine wp_icmp rq_65 rfl (fun (h577 : ¬ (c) = 59) => ?_) (fun (h577 : ¬ (¬ (c) = 59)) => ?_)
                      · refine wp_seg 1 (P := none) (ls' := [some (aR 5 (0)), some (aI (c)), some (aI (0))]) (st' := [aI (0)]) (σ' := σ) rq_65 rfl True.intro (i' := 99) rfl ?_
                        refine wp_zret rq_65 rfl rt_65 ?_ ⟨?_, ?_⟩
                        · first | exact Or.inl rfl | exact Or.inr rfl
                        · (rw [zo_accept, if_neg h1, if_pos h338, if_pos h339, if_neg h340, if_neg h422, if_neg h505, if_neg h532, if_neg h560, if_neg h571, if_pos h576, if_pos h577]; try rfl)
                        · (rw [zm_accept, if_neg h1, if_pos h338, if_pos h339, if_neg h340, if_neg h422, if_neg h505, if_neg h532, if_neg h560, if_neg h571, if_pos h576, if_pos h577]; try rfl)
                      · refine wp_seg 3 (P := none) (ls' := [some (aR 5 (0)), some (aI (c)), some (aI (0))]) (st' := [aI (3), aI (σ 5 (0) 5)]) (σ' := σ) rq_65 rfl True.intro (i' := 81) rfl ?_
                        refine wp_icmp rq_65 rfl (fun (h578 : (σ 5 (0) 5) = 3) => ?_) (fun (h578 : ¬ ((σ 5 (0) 5) = 3)) => ?_)
                        · refine wp_seg 8 (P := none) (ls' := [some (aR 5 (0)), some (aI (c)), some (aI (0))]) (st' := [aI (0), aR 5 (0)]) (σ' := (up σ 5 (0) 4 (wr ((σ 5 (0) 4) + (1))))) rq_65 rfl True.intro (i' := 96) rfl ?_
                          refine wp_call (C := 5) (As := [aR 5 (0), aI (0)]) (rest := []) rq_65 (ev_openPart (0) (up σ 5 (0) 4 (wr ((σ 5 (0) 4) + (1)))) ) rfl rfl (show clOK 65 66 0 0 0 2 5 = true by decide +kernel) rfl (show 0 ≤ 4 by decide) (fun _ => ⟨_, rfl⟩) rfl (c' := 0) (s' := 0) rfl rfl ?_
                          refine wp_goto rq_65 rfl ?_
                          refine wp_seg 1 (P := none) (ls' := [some (aR 5 (0)), some (aI (c)), some (aI (0))]) (st' := [aI (1)]) (σ' := (zm_openPart (0) (up σ 5 (0) 4 (wr ((σ 5 (0) 4) + (1)))))) rq_65 rfl True.intro (i' := 101) rfl ?_
                          refine wp_zret rq_65 rfl rt_65 ?_ ⟨?_, ?_⟩
                          · first | exact Or.inl rfl | exact Or.inr rfl
                          · (rw [zo_accept, if_neg h1, if_pos h338, if_pos h339, if_neg h340, if_neg h422, if_neg h505, if_neg h532, if_neg h560, if_neg h571, if_pos h576, if_neg h577, if_pos h578]; try rfl)
                          · (rw [zm_accept, if_neg h1, if_pos h338, if_pos h339, if_neg h340, if_neg h422, if_neg h505, if_neg h532, if_neg h560, if_neg h571, if_pos h576, if_neg h577, if_pos h578]; try rfl)
                        · refine wp_seg 3 (P := none) (ls' := [some (aR 5 (0)), some (aI (c)), some (aI (0))]) (st' := [aI (2), aI (σ 5 (0) 5)]) (σ' := σ) rq_65 rfl True.intro (i' := 85) rfl ?_
                          refine wp_icmp rq_65 rfl (fun (h579 : ¬ (σ 5 (0) 5) = 2) => ?_) (fun (h579 : ¬ (¬ (σ 5 (0) 5) = 2)) => ?_)
                          · refine wp_seg 1 (P := none) (ls' := [some (aR 5 (0)), some (aI (c)), some (aI (0))]) (st' := [aI (0)]) (σ' := σ) rq_65 rfl True.intro (i' := 99) rfl ?_
                            refine wp_zret rq_65 rfl rt_65 ?_ ⟨?_, ?_⟩
                            · first | exact Or.inl rfl | exact Or.inr rfl
                            · (rw [zo_accept, if_neg h1, if_pos h338, if_pos h339, if_neg h340, if_neg h422, if_neg h505, if_neg h532, if_neg h560, if_neg h571, if_pos h576, if_neg h577, if_neg h578, if_pos h579]; try rfl)
                            · (rw [zm_accept, if_neg h1, if_pos h338, if_pos h339, if_neg h340, if_neg h422, if_neg h505, if_neg h532, if_neg h560, if_neg h571, if_pos h576, if_neg h577, if_neg h578, if_pos h579]; try rfl)
                          · refine wp_seg 1 (P := none) (ls' := [some (aR 5 (0)), some (aI (c)), some (aI (0))]) (st' := [aI (0)]) (σ' := σ) rq_65 rfl True.intro (i' := 87) rfl ?_
                            refine wp_if rq_65 rfl (fun _ => ?_) (fun (h580 : ¬ ((0 : Int) = (0 : Int))) => absurd (show (0 : Int) = (0 : Int) from by decide) h580)
                            refine wp_seg 1 (P := none) (ls' := [some (aR 5 (0)), some (aI (c)), some (aI (0))]) (st' := [aI (0)]) (σ' := σ) rq_65 rfl True.intro (i' := 99) rfl ?_
                            refine wp_zret rq_65 rfl rt_65 ?_ ⟨?_, ?_⟩
                            · first | exact Or.inl rfl | exact Or.inr rfl
                            · (rw [zo_accept, if_neg h1, if_pos h338, if_pos h339, if_neg h340, if_neg h422, if_neg h505, if_neg h532, if_neg h560, if_neg h571, if_pos h576, if_neg h577, if_neg h578, if_neg h579]; try rfl)
                            · (rw [zm_accept, if_neg h1, if_pos h338, if_pos h339, if_neg h340, if_neg h422, if_neg h505, if_neg h532, if_neg h560, if_neg h571, if_pos h576, if_neg h577, if_neg h578, if_neg h579]; try rfl)
                    · refine wp_seg 1 (P := none) (ls' := [some (aR 5 (0)), some (aI (c)), some (aI (0))]) (st' := [aI (0)]) (σ' := σ) rq_65 rfl True.intro (i' := 55) rfl ?_
                      refine wp_if rq_65 rfl (fun _ => ?_) (fun (h581 : ¬ ((0 : Int) = (0 : Int))) => absurd (show (0 : Int) = (0 : Int) from by decide) h581)
                      refine wp_seg 2 (P := none) (ls' := [some (aR 5 (0)), some (aI (c)), some (aI (0))]) (st' := [aI (59), aI (c)]) (σ' := σ) rq_65 rfl True.intro (i' := 77) rfl ?_
                      refine wp_icmp rq_65 rfl (fun (h582 : ¬ (c) = 59) => ?_) (fun (h582 : ¬ (¬ (c) = 59)) => ?_)
                      · refine wp_seg 1 (P := none) (ls' := [some (aR 5 (0)), some (aI (c)), some (aI (0))]) (st' := [aI (0)]) (σ' := σ) rq_65 rfl True.intro (i' := 99) rfl ?_
                        refine wp_zret rq_65 rfl rt_65 ?_ ⟨?_, ?_⟩
                        · first | exact Or.inl rfl | exact Or.inr rfl
                        · (rw [zo_accept, if_neg h1, if_pos h338, if_pos h339, if_neg h340, if_neg h422, if_neg h505, if_neg h532, if_neg h560, if_neg h571, if_neg h576, if_pos h582]; try rfl)
                        · (rw [zm_accept, if_neg h1, if_pos h338, if_pos h339, if_neg h340, if_neg h422, if_neg h505, if_neg h532, if_neg h560, if_neg h571, if_neg h576, if_pos h582]; try rfl)
                      · refine wp_seg 3 (P := none) (ls' := [some (aR 5 (0)), some (aI (c)), some (aI (0))]) (st' := [aI (3), aI (σ 5 (0) 5)]) (σ' := σ) rq_65 rfl True.intro (i' := 81) rfl ?_
                        refine wp_icmp rq_65 rfl (fun (h583 : (σ 5 (0) 5) = 3) => ?_) (fun (h583 : ¬ ((σ 5 (0) 5) = 3)) => ?_)
                        · refine wp_seg 8 (P := none) (ls' := [some (aR 5 (0)), some (aI (c)), some (aI (0))]) (st' := [aI (0), aR 5 (0)]) (σ' := (up σ 5 (0) 4 (wr ((σ 5 (0) 4) + (1))))) rq_65 rfl True.intro (i' := 96) rfl ?_
                          refine wp_call (C := 5) (As := [aR 5 (0), aI (0)]) (rest := []) rq_65 (ev_openPart (0) (up σ 5 (0) 4 (wr ((σ 5 (0) 4) + (1)))) ) rfl rfl (show clOK 65 66 0 0 0 2 5 = true by decide +kernel) rfl (show 0 ≤ 4 by decide) (fun _ => ⟨_, rfl⟩) rfl (c' := 0) (s' := 0) rfl rfl ?_
                          refine wp_goto rq_65 rfl ?_
                          refine wp_seg 1 (P := none) (ls' := [some (aR 5 (0)), some (aI (c)), some (aI (0))]) (st' := [aI (1)]) (σ' := (zm_openPart (0) (up σ 5 (0) 4 (wr ((σ 5 (0) 4) + (1)))))) rq_65 rfl True.intro (i' := 101) rfl ?_
                          refine wp_zret rq_65 rfl rt_65 ?_ ⟨?_, ?_⟩
                          · first | exact Or.inl rfl | exact Or.inr rfl
                          · (rw [zo_accept, if_neg h1, if_pos h338, if_pos h339, if_neg h340, if_neg h422, if_neg h505, if_neg h532, if_neg h560, if_neg h571, if_neg h576, if_neg h582, if_pos h583]; try rfl)
                          · (rw [zm_accept, if_neg h1, if_pos h338, if_pos h339, if_neg h340, if_neg h422, if_neg h505, if_neg h532, if_neg h560, if_neg h571, if_neg h576, if_neg h582, if_pos h583]; try rfl)
                        · refine wp_seg 3 (P := none) (ls' := [some (aR 5 (0)), some (aI (c)), some (aI (0))]) (st' := [aI (2), aI (σ 5 (0) 5)]) (σ' := σ) rq_65 rfl True.intro (i' := 85) rfl ?_
                          refine wp_icmp rq_65 rfl (fun (h584 : ¬ (σ 5 (0) 5) = 2) => ?_) (fun (h584 : ¬ (¬ (σ 5 (0) 5) = 2)) => ?_)
                          · refine wp_seg 1 (P := none) (ls' := [some (aR 5 (0)), some (aI (c)), some (aI (0))]) (st' := [aI (0)]) (σ' := σ) rq_65 rfl True.intro (i' := 99) rfl ?_
                            refine wp_zret rq_65 rfl rt_65 ?_ ⟨?_, ?_⟩
                            · first | exact Or.inl rfl | exact Or.inr rfl
                            · (rw [zo_accept, if_neg h1, if_pos h338, if_pos h339, if_neg h340, if_neg h422, if_neg h505, if_neg h532, if_neg h560, if_neg h571, if_neg h576, if_neg h582, if_neg h583, if_pos h584]; try rfl)
                            · (rw [zm_accept, if_neg h1, if_pos h338, if_pos h339, if_neg h340, if_neg h422, if_neg h505, if_neg h532, if_neg h560, if_neg h571, if_neg h576, if_neg h582, if_neg h583, if_pos h584]; try rfl)
                          · refine wp_seg 1 (P := none) (ls' := [some (aR 5 (0)), some (aI (c)), some (aI (0))]) (st' := [aI (0)]) (σ' := σ) rq_65 rfl True.intro (i' := 87) rfl ?_
                            refine wp_if rq_65 rfl (fun _ => ?_) (fun (h585 : ¬ ((0 : Int) = (0 : Int))) => absurd (show (0 : Int) = (0 : Int) from by decide) h585)
                            refine wp_seg 1 (P := none) (ls' := [some (aR 5 (0)), some (aI (c)), some (aI (0))]) (st' := [aI (0)]) (σ' := σ) rq_65 rfl True.intro (i' := 99) rfl ?_
                            refine wp_zret rq_65 rfl rt_65 ?_ ⟨?_, ?_⟩
                            · first | exact Or.inl rfl | exact Or.inr rfl
                            · (rw [zo_accept, if_neg h1, if_pos h338, if_pos h339, if_neg h340, if_neg h422, if_neg h505, if_neg h532, if_neg h560, if_neg h571, if_neg h576, if_neg h582, if_neg h583, if_neg h584]; try rfl)
                            · (rw [zm_accept, if_neg h1, if_pos h338, if_pos h339, if_neg h340, if_neg h422, if_neg h505, if_neg h532, if_neg h560, if_neg h571, if_neg h576, if_neg h582, if_neg h583, if_neg h584]; try rfl)
      · refine wp_seg 1 (P := none) (ls' := [some (aR 5 (0)), some (aI (c)), none]) (st' := [aI (1)]) (σ' := σ) rq_65 rfl True.intro (i' := 16) rfl ?_
        refine wp_goto rq_65 rfl ?_
        refine wp_seg 3 (P := none) (ls' := [some (aR 5 (0)), some (aI (c)), some (aI (1))]) (st' := [aI (61), aI (c)]) (σ' := σ) rq_65 rfl True.intro (i' := 21) rfl ?_
        refine wp_icmp rq_65 rfl (fun (h586 : ¬ (c) = 61) => ?_) (fun (h586 : ¬ (¬ (c) = 61)) => ?_)
        · refine wp_seg 2 (P := none) (ls' := [some (aR 5 (0)), some (aI (c)), some (aI (1))]) (st' := [aI (58), aI (c)]) (σ' := σ) rq_65 rfl True.intro (i' := 33) rfl ?_
          refine wp_icmp rq_65 rfl (fun (h587 : ¬ (c) = 58) => ?_) (fun (h587 : ¬ (¬ (c) = 58)) => ?_)
          · refine wp_seg 2 (P := none) (ls' := [some (aR 5 (0)), some (aI (c)), some (aI (1))]) (st' := [aI (108), aI (c)]) (σ' := σ) rq_65 rfl True.intro (i' := 46) rfl ?_
            refine wp_icmp rq_65 rfl (fun (h588 : (c) = 108) => ?_) (fun (h588 : ¬ ((c) = 108)) => ?_)
            · refine wp_seg 3 (P := none) (ls' := [some (aR 5 (0)), some (aI (c)), some (aI (1))]) (st' := [aI (2), aI (σ 5 (0) 5)]) (σ' := σ) rq_65 rfl True.intro (i' := 53) rfl ?_
              refine wp_icmp rq_65 rfl (fun (h589 : ¬ (σ 5 (0) 5) = 2) => ?_) (fun (h589 : ¬ (¬ (σ 5 (0) 5) = 2)) => ?_)
              · refine wp_seg 2 (P := none) (ls' := [some (aR 5 (0)), some (aI (c)), some (aI (1))]) (st' := [aI (59), aI (c)]) (σ' := σ) rq_65 rfl True.intro (i' := 77) rfl ?_
                refine wp_icmp rq_65 rfl (fun (h590 : ¬ (c) = 59) => ?_) (fun (h590 : ¬ (¬ (c) = 59)) => ?_)
                · refine wp_seg 1 (P := none) (ls' := [some (aR 5 (0)), some (aI (c)), some (aI (1))]) (st' := [aI (0)]) (σ' := σ) rq_65 rfl True.intro (i' := 99) rfl ?_
                  refine wp_zret rq_65 rfl rt_65 ?_ ⟨?_, ?_⟩
                  · first | exact Or.inl rfl | exact Or.inr rfl
                  · (rw [zo_accept, if_neg h1, if_pos h338, if_neg h339, if_pos h586, if_pos h587, if_pos h588, if_pos h589, if_pos h590]; try rfl)
                  · (rw [zm_accept, if_neg h1, if_pos h338, if_neg h339, if_pos h586, if_pos h587, if_pos h588, if_pos h589, if_pos h590]; try rfl)
                · refine wp_seg 3 (P := none) (ls' := [some (aR 5 (0)), some (aI (c)), some (aI (1))]) (st' := [aI (3), aI (σ 5 (0) 5)]) (σ' := σ) rq_65 rfl True.intro (i' := 81) rfl ?_
                  refine wp_icmp rq_65 rfl (fun (h591 : (σ 5 (0) 5) = 3) => ?_) (fun (h591 : ¬ ((σ 5 (0) 5) = 3)) => ?_)
                  · refine wp_seg 8 (P := none) (ls' := [some (aR 5 (0)), some (aI (c)), some (aI (1))]) (st' := [aI (0), aR 5 (0)]) (σ' := (up σ 5 (0) 4 (wr ((σ 5 (0) 4) + (1))))) rq_65 rfl True.intro (i' := 96) rfl ?_
                    refine wp_call (C := 5) (As := [aR 5 (0), aI (0)]) (rest := []) rq_65 (ev_openPart (0) (up σ 5 (0) 4 (wr ((σ 5 (0) 4) + (1)))) ) rfl rfl (show clOK 65 66 0 0 0 2 5 = true by decide +kernel) rfl (show 0 ≤ 4 by decide) (fun _ => ⟨_, rfl⟩) rfl (c' := 0) (s' := 0) rfl rfl ?_
                    refine wp_goto rq_65 rfl ?_
                    refine wp_seg 1 (P := none) (ls' := [some (aR 5 (0)), some (aI (c)), some (aI (1))]) (st' := [aI (1)]) (σ' := (zm_openPart (0) (up σ 5 (0) 4 (wr ((σ 5 (0) 4) + (1)))))) rq_65 rfl True.intro (i' := 101) rfl ?_
                    refine wp_zret rq_65 rfl rt_65 ?_ ⟨?_, ?_⟩
                    · first | exact Or.inl rfl | exact Or.inr rfl
                    · (rw [zo_accept, if_neg h1, if_pos h338, if_neg h339, if_pos h586, if_pos h587, if_pos h588, if_pos h589, if_neg h590, if_pos h591]; try rfl)
                    · (rw [zm_accept, if_neg h1, if_pos h338, if_neg h339, if_pos h586, if_pos h587, if_pos h588, if_pos h589, if_neg h590, if_pos h591]; try rfl)
                  · refine wp_seg 3 (P := none) (ls' := [some (aR 5 (0)), some (aI (c)), some (aI (1))]) (st' := [aI (2), aI (σ 5 (0) 5)]) (σ' := σ) rq_65 rfl True.intro (i' := 85) rfl ?_
                    refine wp_icmp rq_65 rfl (fun (h592 : ¬ (σ 5 (0) 5) = 2) => ?_) (fun (h592 : ¬ (¬ (σ 5 (0) 5) = 2)) => ?_)
                    · refine wp_seg 1 (P := none) (ls' := [some (aR 5 (0)), some (aI (c)), some (aI (1))]) (st' := [aI (0)]) (σ' := σ) rq_65 rfl True.intro (i' := 99) rfl ?_
                      refine wp_zret rq_65 rfl rt_65 ?_ ⟨?_, ?_⟩
                      · first | exact Or.inl rfl | exact Or.inr rfl
                      · (rw [zo_accept, if_neg h1, if_pos h338, if_neg h339, if_pos h586, if_pos h587, if_pos h588, if_pos h589, if_neg h590, if_neg h591, if_pos h592]; try rfl)
                      · (rw [zm_accept, if_neg h1, if_pos h338, if_neg h339, if_pos h586, if_pos h587, if_pos h588, if_pos h589, if_neg h590, if_neg h591, if_pos h592]; try rfl)
                    · refine wp_seg 1 (P := none) (ls' := [some (aR 5 (0)), some (aI (c)), some (aI (1))]) (st' := [aI (1)]) (σ' := σ) rq_65 rfl True.intro (i' := 87) rfl ?_
                      refine wp_if rq_65 rfl (fun (h593 : (1 : Int) = (0 : Int)) => absurd h593 (show ¬ ((1 : Int) = (0 : Int)) from by decide)) (fun _ => ?_)
                      refine wp_seg 8 (P := none) (ls' := [some (aR 5 (0)), some (aI (c)), some (aI (1))]) (st' := [aI (0), aR 5 (0)]) (σ' := (up σ 5 (0) 4 (wr ((σ 5 (0) 4) + (1))))) rq_65 rfl True.intro (i' := 96) rfl ?_
                      refine wp_call (C := 5) (As := [aR 5 (0), aI (0)]) (rest := []) rq_65 (ev_openPart (0) (up σ 5 (0) 4 (wr ((σ 5 (0) 4) + (1)))) ) rfl rfl (show clOK 65 66 0 0 0 2 5 = true by decide +kernel) rfl (show 0 ≤ 4 by decide) (fun _ => ⟨_, rfl⟩) rfl (c' := 0) (s' := 0) rfl rfl ?_
                      refine wp_goto rq_65 rfl ?_
                      refine wp_seg 1 (P := none) (ls' := [some (aR 5 (0)), some (aI (c)), some (aI (1))]) (st' := [aI (1)]) (σ' := (zm_openPart (0) (up σ 5 (0) 4 (wr ((σ 5 (0) 4) + (1)))))) rq_65 rfl True.intro (i' := 101) rfl ?_
                      refine wp_zret rq_65 rfl rt_65 ?_ ⟨?_, ?_⟩
                      · first | exact Or.inl rfl | exact Or.inr rfl
                      · (rw [zo_accept, if_neg h1, if_pos h338, if_neg h339, if_pos h586, if_pos h587, if_pos h588, if_pos h589, if_neg h590, if_neg h591, if_neg h592]; try rfl)
                      · (rw [zm_accept, if_neg h1, if_pos h338, if_neg h339, if_pos h586, if_pos h587, if_pos h588, if_pos h589, if_neg h590, if_neg h591, if_neg h592]; try rfl)
              · refine wp_seg 1 (P := none) (ls' := [some (aR 5 (0)), some (aI (c)), some (aI (1))]) (st' := [aI (1)]) (σ' := σ) rq_65 rfl True.intro (i' := 55) rfl ?_
                refine wp_if rq_65 rfl (fun (h594 : (1 : Int) = (0 : Int)) => absurd h594 (show ¬ ((1 : Int) = (0 : Int)) from by decide)) (fun _ => ?_)
                refine wp_seg 2 (P := none) (ls' := [some (aR 5 (0)), some (aI (c)), some (aI (1))]) (st' := [aI (3), aR 5 (0)]) (σ' := σ) rq_65 rfl True.intro (i' := 58) rfl ?_
                refine wp_call (C := 5) (As := [aR 5 (0), aI (3)]) (rest := []) rq_65 (ev_openPart (3) σ ) rfl rfl (show clOK 65 66 0 0 0 2 5 = true by decide +kernel) rfl (show 0 ≤ 4 by decide) (fun _ => ⟨_, rfl⟩) rfl (c' := 0) (s' := 0) rfl rfl ?_
                refine wp_seg 10 (P := none) (ls' := [some (aR 5 (0)), some (aI (c)), some (aI (1))]) (st' := [aI (108), aI (c), aI (wr ((wr ((4) * ((zm_openPart (3) σ) 5 (0) 4))) + (3))), aR 7 (185)]) (σ' := (zm_openPart (3) σ)) rq_65 rfl True.intro (i' := 69) rfl ?_
                refine wp_icmp rq_65 rfl (fun (h595 : ¬ (c) = 108) => ?_) (fun (h595 : ¬ (¬ (c) = 108)) => ?_)
                · refine wp_seg 1 (P := none) (ls' := [some (aR 5 (0)), some (aI (c)), some (aI (1))]) (st' := [aI (1), aI (wr ((wr ((4) * ((zm_openPart (3) σ) 5 (0) 4))) + (3))), aR 7 (185)]) (σ' := (zm_openPart (3) σ)) rq_65 rfl True.intro (i' := 73) rfl ?_
                  refine wp_call (C := 7) (As := [aR 7 (185), aI (wr ((wr ((4) * ((zm_openPart (3) σ) 5 (0) 4))) + (3))), aI (1)]) (rest := []) rq_65 (ev_set (185) (wr ((wr ((4) * ((zm_openPart (3) σ) 5 (0) 4))) + (3))) (1) (zm_openPart (3) σ) ) rfl rfl (show clOK 65 79 0 0 0 3 7 = true by decide +kernel) rfl (show 0 ≤ 4 by decide) (fun _ => ⟨_, rfl⟩) rfl (c' := 0) (s' := 0) rfl rfl ?_
                  refine wp_goto rq_65 rfl ?_
                  refine wp_seg 1 (P := none) (ls' := [some (aR 5 (0)), some (aI (c)), some (aI (1))]) (st' := [aI (1)]) (σ' := (rset (zm_openPart (3) σ) (185) (wr ((wr ((4) * ((zm_openPart (3) σ) 5 (0) 4))) + (3))) (1))) rq_65 rfl True.intro (i' := 101) rfl ?_
                  refine wp_zret rq_65 rfl rt_65 ?_ ⟨?_, ?_⟩
                  · first | exact Or.inl rfl | exact Or.inr rfl
                  · (rw [zo_accept, if_neg h1, if_pos h338, if_neg h339, if_pos h586, if_pos h587, if_pos h588, if_neg h589, if_pos h595]; try rfl)
                  · (rw [zm_accept, if_neg h1, if_pos h338, if_neg h339, if_pos h586, if_pos h587, if_pos h588, if_neg h589, if_pos h595]; try rfl)
                · refine wp_seg 1 (P := none) (ls' := [some (aR 5 (0)), some (aI (c)), some (aI (1))]) (st' := [aI (0), aI (wr ((wr ((4) * ((zm_openPart (3) σ) 5 (0) 4))) + (3))), aR 7 (185)]) (σ' := (zm_openPart (3) σ)) rq_65 rfl True.intro (i' := 71) rfl ?_
                  refine wp_goto rq_65 rfl ?_
                  refine wp_call (C := 7) (As := [aR 7 (185), aI (wr ((wr ((4) * ((zm_openPart (3) σ) 5 (0) 4))) + (3))), aI (0)]) (rest := []) rq_65 (ev_set (185) (wr ((wr ((4) * ((zm_openPart (3) σ) 5 (0) 4))) + (3))) (0) (zm_openPart (3) σ) ) rfl rfl (show clOK 65 79 0 0 0 3 7 = true by decide +kernel) rfl (show 0 ≤ 4 by decide) (fun _ => ⟨_, rfl⟩) rfl (c' := 0) (s' := 0) rfl rfl ?_
                  refine wp_goto rq_65 rfl ?_
                  refine wp_seg 1 (P := none) (ls' := [some (aR 5 (0)), some (aI (c)), some (aI (1))]) (st' := [aI (1)]) (σ' := (rset (zm_openPart (3) σ) (185) (wr ((wr ((4) * ((zm_openPart (3) σ) 5 (0) 4))) + (3))) (0))) rq_65 rfl True.intro (i' := 101) rfl ?_
                  refine wp_zret rq_65 rfl rt_65 ?_ ⟨?_, ?_⟩
                  · first | exact Or.inl rfl | exact Or.inr rfl
                  · (rw [zo_accept, if_neg h1, if_pos h338, if_neg h339, if_pos h586, if_pos h587, if_pos h588, if_neg h589, if_neg h595]; try rfl)
                  · (rw [zm_accept, if_neg h1, if_pos h338, if_neg h339, if_pos h586, if_pos h587, if_pos h588, if_neg h589, if_neg h595]; try rfl)
            · refine wp_seg 2 (P := none) (ls' := [some (aR 5 (0)), some (aI (c)), some (aI (1))]) (st' := [aI (114), aI (c)]) (σ' := σ) rq_65 rfl True.intro (i' := 49) rfl ?_
              refine wp_icmp rq_65 rfl (fun (h596 : ¬ (c) = 114) => ?_) (fun (h596 : ¬ (¬ (c) = 114)) => ?_)
              · refine wp_seg 2 (P := none) (ls' := [some (aR 5 (0)), some (aI (c)), some (aI (1))]) (st' := [aI (59), aI (c)]) (σ' := σ) rq_65 rfl True.intro (i' := 77) rfl ?_
                refine wp_icmp rq_65 rfl (fun (h597 : ¬ (c) = 59) => ?_) (fun (h597 : ¬ (¬ (c) = 59)) => ?_)
                · refine wp_seg 1 (P := none) (ls' := [some (aR 5 (0)), some (aI (c)), some (aI (1))]) (st' := [aI (0)]) (σ' := σ) rq_65 rfl True.intro (i' := 99) rfl ?_
                  refine wp_zret rq_65 rfl rt_65 ?_ ⟨?_, ?_⟩
                  · first | exact Or.inl rfl | exact Or.inr rfl
                  · (rw [zo_accept, if_neg h1, if_pos h338, if_neg h339, if_pos h586, if_pos h587, if_neg h588, if_pos h596, if_pos h597]; try rfl)
                  · (rw [zm_accept, if_neg h1, if_pos h338, if_neg h339, if_pos h586, if_pos h587, if_neg h588, if_pos h596, if_pos h597]; try rfl)
                · refine wp_seg 3 (P := none) (ls' := [some (aR 5 (0)), some (aI (c)), some (aI (1))]) (st' := [aI (3), aI (σ 5 (0) 5)]) (σ' := σ) rq_65 rfl True.intro (i' := 81) rfl ?_
                  refine wp_icmp rq_65 rfl (fun (h598 : (σ 5 (0) 5) = 3) => ?_) (fun (h598 : ¬ ((σ 5 (0) 5) = 3)) => ?_)
                  · refine wp_seg 8 (P := none) (ls' := [some (aR 5 (0)), some (aI (c)), some (aI (1))]) (st' := [aI (0), aR 5 (0)]) (σ' := (up σ 5 (0) 4 (wr ((σ 5 (0) 4) + (1))))) rq_65 rfl True.intro (i' := 96) rfl ?_
                    refine wp_call (C := 5) (As := [aR 5 (0), aI (0)]) (rest := []) rq_65 (ev_openPart (0) (up σ 5 (0) 4 (wr ((σ 5 (0) 4) + (1)))) ) rfl rfl (show clOK 65 66 0 0 0 2 5 = true by decide +kernel) rfl (show 0 ≤ 4 by decide) (fun _ => ⟨_, rfl⟩) rfl (c' := 0) (s' := 0) rfl rfl ?_
                    refine wp_goto rq_65 rfl ?_
                    refine wp_seg 1 (P := none) (ls' := [some (aR 5 (0)), some (aI (c)), some (aI (1))]) (st' := [aI (1)]) (σ' := (zm_openPart (0) (up σ 5 (0) 4 (wr ((σ 5 (0) 4) + (1)))))) rq_65 rfl True.intro (i' := 101) rfl ?_
                    refine wp_zret rq_65 rfl rt_65 ?_ ⟨?_, ?_⟩
                    · first | exact Or.inl rfl | exact Or.inr rfl
                    · (rw [zo_accept, if_neg h1, if_pos h338, if_neg h339, if_pos h586, if_pos h587, if_neg h588, if_pos h596, if_neg h597, if_pos h598]; try rfl)
                    · (rw [zm_accept, if_neg h1, if_pos h338, if_neg h339, if_pos h586, if_pos h587, if_neg h588, if_pos h596, if_neg h597, if_pos h598]; try rfl)
                  · refine wp_seg 3 (P := none) (ls' := [some (aR 5 (0)), some (aI (c)), some (aI (1))]) (st' := [aI (2), aI (σ 5 (0) 5)]) (σ' := σ) rq_65 rfl True.intro (i' := 85) rfl ?_
                    refine wp_icmp rq_65 rfl (fun (h599 : ¬ (σ 5 (0) 5) = 2) => ?_) (fun (h599 : ¬ (¬ (σ 5 (0) 5) = 2)) => ?_)
                    · refine wp_seg 1 (P := none) (ls' := [some (aR 5 (0)), some (aI (c)), some (aI (1))]) (st' := [aI (0)]) (σ' := σ) rq_65 rfl True.intro (i' := 99) rfl ?_
                      refine wp_zret rq_65 rfl rt_65 ?_ ⟨?_, ?_⟩
                      · first | exact Or.inl rfl | exact Or.inr rfl
                      · (rw [zo_accept, if_neg h1, if_pos h338, if_neg h339, if_pos h586, if_pos h587, if_neg h588, if_pos h596, if_neg h597, if_neg h598, if_pos h599]; try rfl)
                      · (rw [zm_accept, if_neg h1, if_pos h338, if_neg h339, if_pos h586, if_pos h587, if_neg h588, if_pos h596, if_neg h597, if_neg h598, if_pos h599]; try rfl)
                    · refine wp_seg 1 (P := none) (ls' := [some (aR 5 (0)), some (aI (c)), some (aI (1))]) (st' := [aI (1)]) (σ' := σ) rq_65 rfl True.intro (i' := 87) rfl ?_
                      refine wp_if rq_65 rfl (fun (h600 : (1 : Int) = (0 : Int)) => absurd h600 (show ¬ ((1 : Int) = (0 : Int)) from by decide)) (fun _ => ?_)
                      refine wp_seg 8 (P := none) (ls' := [some (aR 5 (0)), some (aI (c)), some (aI (1))]) (st' := [aI (0), aR 5 (0)]) (σ' := (up σ 5 (0) 4 (wr ((σ 5 (0) 4) + (1))))) rq_65 rfl True.intro (i' := 96) rfl ?_
                      refine wp_call (C := 5) (As := [aR 5 (0), aI (0)]) (rest := []) rq_65 (ev_openPart (0) (up σ 5 (0) 4 (wr ((σ 5 (0) 4) + (1)))) ) rfl rfl (show clOK 65 66 0 0 0 2 5 = true by decide +kernel) rfl (show 0 ≤ 4 by decide) (fun _ => ⟨_, rfl⟩) rfl (c' := 0) (s' := 0) rfl rfl ?_
                      refine wp_goto rq_65 rfl ?_
                      refine wp_seg 1 (P := none) (ls' := [some (aR 5 (0)), some (aI (c)), some (aI (1))]) (st' := [aI (1)]) (σ' := (zm_openPart (0) (up σ 5 (0) 4 (wr ((σ 5 (0) 4) + (1)))))) rq_65 rfl True.intro (i' := 101) rfl ?_
                      refine wp_zret rq_65 rfl rt_65 ?_ ⟨?_, ?_⟩
                      · first | exact Or.inl rfl | exact Or.inr rfl
                      · (rw [zo_accept, if_neg h1, if_pos h338, if_neg h339, if_pos h586, if_pos h587, if_neg h588, if_pos h596, if_neg h597, if_neg h598, if_neg h599]; try rfl)
                      · (rw [zm_accept, if_neg h1, if_pos h338, if_neg h339, if_pos h586, if_pos h587, if_neg h588, if_pos h596, if_neg h597, if_neg h598, if_neg h599]; try rfl)
              · refine wp_seg 3 (P := none) (ls' := [some (aR 5 (0)), some (aI (c)), some (aI (1))]) (st' := [aI (2), aI (σ 5 (0) 5)]) (σ' := σ) rq_65 rfl True.intro (i' := 53) rfl ?_
                refine wp_icmp rq_65 rfl (fun (h601 : ¬ (σ 5 (0) 5) = 2) => ?_) (fun (h601 : ¬ (¬ (σ 5 (0) 5) = 2)) => ?_)
                · refine wp_seg 2 (P := none) (ls' := [some (aR 5 (0)), some (aI (c)), some (aI (1))]) (st' := [aI (59), aI (c)]) (σ' := σ) rq_65 rfl True.intro (i' := 77) rfl ?_
                  refine wp_icmp rq_65 rfl (fun (h602 : ¬ (c) = 59) => ?_) (fun (h602 : ¬ (¬ (c) = 59)) => ?_)
                  · refine wp_seg 1 (P := none) (ls' := [some (aR 5 (0)), some (aI (c)), some (aI (1))]) (st' := [aI (0)]) (σ' := σ) rq_65 rfl True.intro (i' := 99) rfl ?_
                    refine wp_zret rq_65 rfl rt_65 ?_ ⟨?_, ?_⟩
                    · first | exact Or.inl rfl | exact Or.inr rfl
                    · (rw [zo_accept, if_neg h1, if_pos h338, if_neg h339, if_pos h586, if_pos h587, if_neg h588, if_neg h596, if_pos h601, if_pos h602]; try rfl)
                    · (rw [zm_accept, if_neg h1, if_pos h338, if_neg h339, if_pos h586, if_pos h587, if_neg h588, if_neg h596, if_pos h601, if_pos h602]; try rfl)
                  · refine wp_seg 3 (P := none) (ls' := [some (aR 5 (0)), some (aI (c)), some (aI (1))]) (st' := [aI (3), aI (σ 5 (0) 5)]) (σ' := σ) rq_65 rfl True.intro (i' := 81) rfl ?_
                    refine wp_icmp rq_65 rfl (fun (h603 : (σ 5 (0) 5) = 3) => ?_) (fun (h603 : ¬ ((σ 5 (0) 5) = 3)) => ?_)
                    · refine wp_seg 8 (P := none) (ls' := [some (aR 5 (0)), some (aI (c)), some (aI (1))]) (st' := [aI (0), aR 5 (0)]) (σ' := (up σ 5 (0) 4 (wr ((σ 5 (0) 4) + (1))))) rq_65 rfl True.intro (i' := 96) rfl ?_
                      refine wp_call (C := 5) (As := [aR 5 (0), aI (0)]) (rest := []) rq_65 (ev_openPart (0) (up σ 5 (0) 4 (wr ((σ 5 (0) 4) + (1)))) ) rfl rfl (show clOK 65 66 0 0 0 2 5 = true by decide +kernel) rfl (show 0 ≤ 4 by decide) (fun _ => ⟨_, rfl⟩) rfl (c' := 0) (s' := 0) rfl rfl ?_
                      refine wp_goto rq_65 rfl ?_
                      refine wp_seg 1 (P := none) (ls' := [some (aR 5 (0)), some (aI (c)), some (aI (1))]) (st' := [aI (1)]) (σ' := (zm_openPart (0) (up σ 5 (0) 4 (wr ((σ 5 (0) 4) + (1)))))) rq_65 rfl True.intro (i' := 101) rfl ?_
                      refine wp_zret rq_65 rfl rt_65 ?_ ⟨?_, ?_⟩
                      · first | exact Or.inl rfl | exact Or.inr rfl
                      · (rw [zo_accept, if_neg h1, if_pos h338, if_neg h339, if_pos h586, if_pos h587, if_neg h588, if_neg h596, if_pos h601, if_neg h602, if_pos h603]; try rfl)
                      · (rw [zm_accept, if_neg h1, if_pos h338, if_neg h339, if_pos h586, if_pos h587, if_neg h588, if_neg h596, if_pos h601, if_neg h602, if_pos h603]; try rfl)
                    · refine wp_seg 3 (P := none) (ls' := [some (aR 5 (0)), some (aI (c)), some (aI (1))]) (st' := [aI (2), aI (σ 5 (0) 5)]) (σ' := σ) rq_65 rfl True.intro (i' := 85) rfl ?_
                      refine wp_icmp rq_65 rfl (fun (h604 : ¬ (σ 5 (0) 5) = 2) => ?_) (fun (h604 : ¬ (¬ (σ 5 (0) 5) = 2)) => ?_)
                      · refine wp_seg 1 (P := none) (ls' := [some (aR 5 (0)), some (aI (c)), some (aI (1))]) (st' := [aI (0)]) (σ' := σ) rq_65 rfl True.intro (i' := 99) rfl ?_
                        refine wp_zret rq_65 rfl rt_65 ?_ ⟨?_, ?_⟩
                        · first | exact Or.inl rfl | exact Or.inr rfl
                        · (rw [zo_accept, if_neg h1, if_pos h338, if_neg h339, if_pos h586, if_pos h587, if_neg h588, if_neg h596, if_pos h601, if_neg h602, if_neg h603, if_pos h604]; try rfl)
                        · (rw [zm_accept, if_neg h1, if_pos h338, if_neg h339, if_pos h586, if_pos h587, if_neg h588, if_neg h596, if_pos h601, if_neg h602, if_neg h603, if_pos h604]; try rfl)
                      · refine wp_seg 1 (P := none) (ls' := [some (aR 5 (0)), some (aI (c)), some (aI (1))]) (st' := [aI (1)]) (σ' := σ) rq_65 rfl True.intro (i' := 87) rfl ?_
                        refine wp_if rq_65 rfl (fun (h605 : (1 : Int) = (0 : Int)) => absurd h605 (show ¬ ((1 : Int) = (0 : Int)) from by decide)) (fun _ => ?_)
                        refine wp_seg 8 (P := none) (ls' := [some (aR 5 (0)), some (aI (c)), some (aI (1))]) (st' := [aI (0), aR 5 (0)]) (σ' := (up σ 5 (0) 4 (wr ((σ 5 (0) 4) + (1))))) rq_65 rfl True.intro (i' := 96) rfl ?_
                        refine wp_call (C := 5) (As := [aR 5 (0), aI (0)]) (rest := []) rq_65 (ev_openPart (0) (up σ 5 (0) 4 (wr ((σ 5 (0) 4) + (1)))) ) rfl rfl (show clOK 65 66 0 0 0 2 5 = true by decide +kernel) rfl (show 0 ≤ 4 by decide) (fun _ => ⟨_, rfl⟩) rfl (c' := 0) (s' := 0) rfl rfl ?_
                        refine wp_goto rq_65 rfl ?_
                        refine wp_seg 1 (P := none) (ls' := [some (aR 5 (0)), some (aI (c)), some (aI (1))]) (st' := [aI (1)]) (σ' := (zm_openPart (0) (up σ 5 (0) 4 (wr ((σ 5 (0) 4) + (1)))))) rq_65 rfl True.intro (i' := 101) rfl ?_
                        refine wp_zret rq_65 rfl rt_65 ?_ ⟨?_, ?_⟩
                        · first | exact Or.inl rfl | exact Or.inr rfl
                        · (rw [zo_accept, if_neg h1, if_pos h338, if_neg h339, if_pos h586, if_pos h587, if_neg h588, if_neg h596, if_pos h601, if_neg h602, if_neg h603, if_neg h604]; try rfl)
                        · (rw [zm_accept, if_neg h1, if_pos h338, if_neg h339, if_pos h586, if_pos h587, if_neg h588, if_neg h596, if_pos h601, if_neg h602, if_neg h603, if_neg h604]; try rfl)
                · refine wp_seg 1 (P := none) (ls' := [some (aR 5 (0)), some (aI (c)), some (aI (1))]) (st' := [aI (1)]) (σ' := σ) rq_65 rfl True.intro (i' := 55) rfl ?_
                  refine wp_if rq_65 rfl (fun (h606 : (1 : Int) = (0 : Int)) => absurd h606 (show ¬ ((1 : Int) = (0 : Int)) from by decide)) (fun _ => ?_)
                  refine wp_seg 2 (P := none) (ls' := [some (aR 5 (0)), some (aI (c)), some (aI (1))]) (st' := [aI (3), aR 5 (0)]) (σ' := σ) rq_65 rfl True.intro (i' := 58) rfl ?_
                  refine wp_call (C := 5) (As := [aR 5 (0), aI (3)]) (rest := []) rq_65 (ev_openPart (3) σ ) rfl rfl (show clOK 65 66 0 0 0 2 5 = true by decide +kernel) rfl (show 0 ≤ 4 by decide) (fun _ => ⟨_, rfl⟩) rfl (c' := 0) (s' := 0) rfl rfl ?_
                  refine wp_seg 10 (P := none) (ls' := [some (aR 5 (0)), some (aI (c)), some (aI (1))]) (st' := [aI (108), aI (c), aI (wr ((wr ((4) * ((zm_openPart (3) σ) 5 (0) 4))) + (3))), aR 7 (185)]) (σ' := (zm_openPart (3) σ)) rq_65 rfl True.intro (i' := 69) rfl ?_
                  refine wp_icmp rq_65 rfl (fun (h607 : ¬ (c) = 108) => ?_) (fun (h607 : ¬ (¬ (c) = 108)) => ?_)
                  · refine wp_seg 1 (P := none) (ls' := [some (aR 5 (0)), some (aI (c)), some (aI (1))]) (st' := [aI (1), aI (wr ((wr ((4) * ((zm_openPart (3) σ) 5 (0) 4))) + (3))), aR 7 (185)]) (σ' := (zm_openPart (3) σ)) rq_65 rfl True.intro (i' := 73) rfl ?_
                    refine wp_call (C := 7) (As := [aR 7 (185), aI (wr ((wr ((4) * ((zm_openPart (3) σ) 5 (0) 4))) + (3))), aI (1)]) (rest := []) rq_65 (ev_set (185) (wr ((wr ((4) * ((zm_openPart (3) σ) 5 (0) 4))) + (3))) (1) (zm_openPart (3) σ) ) rfl rfl (show clOK 65 79 0 0 0 3 7 = true by decide +kernel) rfl (show 0 ≤ 4 by decide) (fun _ => ⟨_, rfl⟩) rfl (c' := 0) (s' := 0) rfl rfl ?_
                    refine wp_goto rq_65 rfl ?_
                    refine wp_seg 1 (P := none) (ls' := [some (aR 5 (0)), some (aI (c)), some (aI (1))]) (st' := [aI (1)]) (σ' := (rset (zm_openPart (3) σ) (185) (wr ((wr ((4) * ((zm_openPart (3) σ) 5 (0) 4))) + (3))) (1))) rq_65 rfl True.intro (i' := 101) rfl ?_
                    refine wp_zret rq_65 rfl rt_65 ?_ ⟨?_, ?_⟩
                    · first | exact Or.inl rfl | exact Or.inr rfl
                    · (rw [zo_accept, if_neg h1, if_pos h338, if_neg h339, if_pos h586, if_pos h587, if_neg h588, if_neg h596, if_neg h601, if_pos h607]; try rfl)
                    · (rw [zm_accept, if_neg h1, if_pos h338, if_neg h339, if_pos h586, if_pos h587, if_neg h588, if_neg h596, if_neg h601, if_pos h607]; try rfl)
                  · refine wp_seg 1 (P := none) (ls' := [some (aR 5 (0)), some (aI (c)), some (aI (1))]) (st' := [aI (0), aI (wr ((wr ((4) * ((zm_openPart (3) σ) 5 (0) 4))) + (3))), aR 7 (185)]) (σ' := (zm_openPart (3) σ)) rq_65 rfl True.intro (i' := 71) rfl ?_
                    refine wp_goto rq_65 rfl ?_
                    refine wp_call (C := 7) (As := [aR 7 (185), aI (wr ((wr ((4) * ((zm_openPart (3) σ) 5 (0) 4))) + (3))), aI (0)]) (rest := []) rq_65 (ev_set (185) (wr ((wr ((4) * ((zm_openPart (3) σ) 5 (0) 4))) + (3))) (0) (zm_openPart (3) σ) ) rfl rfl (show clOK 65 79 0 0 0 3 7 = true by decide +kernel) rfl (show 0 ≤ 4 by decide) (fun _ => ⟨_, rfl⟩) rfl (c' := 0) (s' := 0) rfl rfl ?_
                    refine wp_goto rq_65 rfl ?_
                    refine wp_seg 1 (P := none) (ls' := [some (aR 5 (0)), some (aI (c)), some (aI (1))]) (st' := [aI (1)]) (σ' := (rset (zm_openPart (3) σ) (185) (wr ((wr ((4) * ((zm_openPart (3) σ) 5 (0) 4))) + (3))) (0))) rq_65 rfl True.intro (i' := 101) rfl ?_
                    refine wp_zret rq_65 rfl rt_65 ?_ ⟨?_, ?_⟩
                    · first | exact Or.inl rfl | exact Or.inr rfl
                    · (rw [zo_accept, if_neg h1, if_pos h338, if_neg h339, if_pos h586, if_pos h587, if_neg h588, if_neg h596, if_neg h601, if_neg h607]; try rfl)
                    · (rw [zm_accept, if_neg h1, if_pos h338, if_neg h339, if_pos h586, if_pos h587, if_neg h588, if_neg h596, if_neg h601, if_neg h607]; try rfl)
          · refine wp_seg 3 (P := none) (ls' := [some (aR 5 (0)), some (aI (c)), some (aI (1))]) (st' := [aI (1), aI (σ 5 (0) 5)]) (σ' := σ) rq_65 rfl True.intro (i' := 37) rfl ?_
            refine wp_icmp rq_65 rfl (fun (h608 : ¬ (σ 5 (0) 5) = 1) => ?_) (fun (h608 : ¬ (¬ (σ 5 (0) 5) = 1)) => ?_)
            · refine wp_seg 2 (P := none) (ls' := [some (aR 5 (0)), some (aI (c)), some (aI (1))]) (st' := [aI (108), aI (c)]) (σ' := σ) rq_65 rfl True.intro (i' := 46) rfl ?_
              refine wp_icmp rq_65 rfl (fun (h609 : (c) = 108) => ?_) (fun (h609 : ¬ ((c) = 108)) => ?_)
              · refine wp_seg 3 (P := none) (ls' := [some (aR 5 (0)), some (aI (c)), some (aI (1))]) (st' := [aI (2), aI (σ 5 (0) 5)]) (σ' := σ) rq_65 rfl True.intro (i' := 53) rfl ?_
                refine wp_icmp rq_65 rfl (fun (h610 : ¬ (σ 5 (0) 5) = 2) => ?_) (fun (h610 : ¬ (¬ (σ 5 (0) 5) = 2)) => ?_)
                · refine wp_seg 2 (P := none) (ls' := [some (aR 5 (0)), some (aI (c)), some (aI (1))]) (st' := [aI (59), aI (c)]) (σ' := σ) rq_65 rfl True.intro (i' := 77) rfl ?_
                  refine wp_icmp rq_65 rfl (fun (h611 : ¬ (c) = 59) => ?_) (fun (h611 : ¬ (¬ (c) = 59)) => ?_)
                  · refine wp_seg 1 (P := none) (ls' := [some (aR 5 (0)), some (aI (c)), some (aI (1))]) (st' := [aI (0)]) (σ' := σ) rq_65 rfl True.intro (i' := 99) rfl ?_
                    refine wp_zret rq_65 rfl rt_65 ?_ ⟨?_, ?_⟩
                    · first | exact Or.inl rfl | exact Or.inr rfl
                    · (rw [zo_accept, if_neg h1, if_pos h338, if_neg h339, if_pos h586, if_neg h587, if_pos h608, if_pos h609, if_pos h610, if_pos h611]; try rfl)
                    · (rw [zm_accept, if_neg h1, if_pos h338, if_neg h339, if_pos h586, if_neg h587, if_pos h608, if_pos h609, if_pos h610, if_pos h611]; try rfl)
                  · refine wp_seg 3 (P := none) (ls' := [some (aR 5 (0)), some (aI (c)), some (aI (1))]) (st' := [aI (3), aI (σ 5 (0) 5)]) (σ' := σ) rq_65 rfl True.intro (i' := 81) rfl ?_
                    refine wp_icmp rq_65 rfl (fun (h612 : (σ 5 (0) 5) = 3) => ?_) (fun (h612 : ¬ ((σ 5 (0) 5) = 3)) => ?_)
                    · refine wp_seg 8 (P := none) (ls' := [some (aR 5 (0)), some (aI (c)), some (aI (1))]) (st' := [aI (0), aR 5 (0)]) (σ' := (up σ 5 (0) 4 (wr ((σ 5 (0) 4) + (1))))) rq_65 rfl True.intro (i' := 96) rfl ?_
                      refine wp_call (C := 5) (As := [aR 5 (0), aI (0)]) (rest := []) rq_65 (ev_openPart (0) (up σ 5 (0) 4 (wr ((σ 5 (0) 4) + (1)))) ) rfl rfl (show clOK 65 66 0 0 0 2 5 = true by decide +kernel) rfl (show 0 ≤ 4 by decide) (fun _ => ⟨_, rfl⟩) rfl (c' := 0) (s' := 0) rfl rfl ?_
                      refine wp_goto rq_65 rfl ?_
                      refine wp_seg 1 (P := none) (ls' := [some (aR 5 (0)), some (aI (c)), some (aI (1))]) (st' := [aI (1)]) (σ' := (zm_openPart (0) (up σ 5 (0) 4 (wr ((σ 5 (0) 4) + (1)))))) rq_65 rfl True.intro (i' := 101) rfl ?_
                      refine wp_zret rq_65 rfl rt_65 ?_ ⟨?_, ?_⟩
                      · first | exact Or.inl rfl | exact Or.inr rfl
                      · (rw [zo_accept, if_neg h1, if_pos h338, if_neg h339, if_pos h586, if_neg h587, if_pos h608, if_pos h609, if_pos h610, if_neg h611, if_pos h612]; try rfl)
                      · (rw [zm_accept, if_neg h1, if_pos h338, if_neg h339, if_pos h586, if_neg h587, if_pos h608, if_pos h609, if_pos h610, if_neg h611, if_pos h612]; try rfl)
                    · refine wp_seg 3 (P := none) (ls' := [some (aR 5 (0)), some (aI (c)), some (aI (1))]) (st' := [aI (2), aI (σ 5 (0) 5)]) (σ' := σ) rq_65 rfl True.intro (i' := 85) rfl ?_
                      refine wp_icmp rq_65 rfl (fun (h613 : ¬ (σ 5 (0) 5) = 2) => ?_) (fun (h613 : ¬ (¬ (σ 5 (0) 5) = 2)) => ?_)
                      · refine wp_seg 1 (P := none) (ls' := [some (aR 5 (0)), some (aI (c)), some (aI (1))]) (st' := [aI (0)]) (σ' := σ) rq_65 rfl True.intro (i' := 99) rfl ?_
                        refine wp_zret rq_65 rfl rt_65 ?_ ⟨?_, ?_⟩
                        · first | exact Or.inl rfl | exact Or.inr rfl
                        · (rw [zo_accept, if_neg h1, if_pos h338, if_neg h339, if_pos h586, if_neg h587, if_pos h608, if_pos h609, if_pos h610, if_neg h611, if_neg h612, if_pos h613]; try rfl)
                        · (rw [zm_accept, if_neg h1, if_pos h338, if_neg h339, if_pos h586, if_neg h587, if_pos h608, if_pos h609, if_pos h610, if_neg h611, if_neg h612, if_pos h613]; try rfl)
                      · refine wp_seg 1 (P := none) (ls' := [some (aR 5 (0)), some (aI (c)), some (aI (1))]) (st' := [aI (1)]) (σ' := σ) rq_65 rfl True.intro (i' := 87) rfl ?_
                        refine wp_if rq_65 rfl (fun (h614 : (1 : Int) = (0 : Int)) => absurd h614 (show ¬ ((1 : Int) = (0 : Int)) from by decide)) (fun _ => ?_)
                        refine wp_seg 8 (P := none) (ls' := [some (aR 5 (0)), some (aI (c)), some (aI (1))]) (st' := [aI (0), aR 5 (0)]) (σ' := (up σ 5 (0) 4 (wr ((σ 5 (0) 4) + (1))))) rq_65 rfl True.intro (i' := 96) rfl ?_
                        refine wp_call (C := 5) (As := [aR 5 (0), aI (0)]) (rest := []) rq_65 (ev_openPart (0) (up σ 5 (0) 4 (wr ((σ 5 (0) 4) + (1)))) ) rfl rfl (show clOK 65 66 0 0 0 2 5 = true by decide +kernel) rfl (show 0 ≤ 4 by decide) (fun _ => ⟨_, rfl⟩) rfl (c' := 0) (s' := 0) rfl rfl ?_
                        refine wp_goto rq_65 rfl ?_
                        refine wp_seg 1 (P := none) (ls' := [some (aR 5 (0)), some (aI (c)), some (aI (1))]) (st' := [aI (1)]) (σ' := (zm_openPart (0) (up σ 5 (0) 4 (wr ((σ 5 (0) 4) + (1)))))) rq_65 rfl True.intro (i' := 101) rfl ?_
                        refine wp_zret rq_65 rfl rt_65 ?_ ⟨?_, ?_⟩
                        · first | exact Or.inl rfl | exact Or.inr rfl
                        · (rw [zo_accept, if_neg h1, if_pos h338, if_neg h339, if_pos h586, if_neg h587, if_pos h608, if_pos h609, if_pos h610, if_neg h611, if_neg h612, if_neg h613]; try rfl)
                        · (rw [zm_accept, if_neg h1, if_pos h338, if_neg h339, if_pos h586, if_neg h587, if_pos h608, if_pos h609, if_pos h610, if_neg h611, if_neg h612, if_neg h613]; try rfl)
                · refine wp_seg 1 (P := none) (ls' := [some (aR 5 (0)), some (aI (c)), some (aI (1))]) (st' := [aI (1)]) (σ' := σ) rq_65 rfl True.intro (i' := 55) rfl ?_
                  refine wp_if rq_65 rfl (fun (h615 : (1 : Int) = (0 : Int)) => absurd h615 (show ¬ ((1 : Int) = (0 : Int)) from by decide)) (fun _ => ?_)
                  refine wp_seg 2 (P := none) (ls' := [some (aR 5 (0)), some (aI (c)), some (aI (1))]) (st' := [aI (3), aR 5 (0)]) (σ' := σ) rq_65 rfl True.intro (i' := 58) rfl ?_
                  refine wp_call (C := 5) (As := [aR 5 (0), aI (3)]) (rest := []) rq_65 (ev_openPart (3) σ ) rfl rfl (show clOK 65 66 0 0 0 2 5 = true by decide +kernel) rfl (show 0 ≤ 4 by decide) (fun _ => ⟨_, rfl⟩) rfl (c' := 0) (s' := 0) rfl rfl ?_
                  refine wp_seg 10 (P := none) (ls' := [some (aR 5 (0)), some (aI (c)), some (aI (1))]) (st' := [aI (108), aI (c), aI (wr ((wr ((4) * ((zm_openPart (3) σ) 5 (0) 4))) + (3))), aR 7 (185)]) (σ' := (zm_openPart (3) σ)) rq_65 rfl True.intro (i' := 69) rfl ?_
                  refine wp_icmp rq_65 rfl (fun (h616 : ¬ (c) = 108) => ?_) (fun (h616 : ¬ (¬ (c) = 108)) => ?_)
                  · refine wp_seg 1 (P := none) (ls' := [some (aR 5 (0)), some (aI (c)), some (aI (1))]) (st' := [aI (1), aI (wr ((wr ((4) * ((zm_openPart (3) σ) 5 (0) 4))) + (3))), aR 7 (185)]) (σ' := (zm_openPart (3) σ)) rq_65 rfl True.intro (i' := 73) rfl ?_
                    refine wp_call (C := 7) (As := [aR 7 (185), aI (wr ((wr ((4) * ((zm_openPart (3) σ) 5 (0) 4))) + (3))), aI (1)]) (rest := []) rq_65 (ev_set (185) (wr ((wr ((4) * ((zm_openPart (3) σ) 5 (0) 4))) + (3))) (1) (zm_openPart (3) σ) ) rfl rfl (show clOK 65 79 0 0 0 3 7 = true by decide +kernel) rfl (show 0 ≤ 4 by decide) (fun _ => ⟨_, rfl⟩) rfl (c' := 0) (s' := 0) rfl rfl ?_
                    refine wp_goto rq_65 rfl ?_
                    refine wp_seg 1 (P := none) (ls' := [some (aR 5 (0)), some (aI (c)), some (aI (1))]) (st' := [aI (1)]) (σ' := (rset (zm_openPart (3) σ) (185) (wr ((wr ((4) * ((zm_openPart (3) σ) 5 (0) 4))) + (3))) (1))) rq_65 rfl True.intro (i' := 101) rfl ?_
                    refine wp_zret rq_65 rfl rt_65 ?_ ⟨?_, ?_⟩
                    · first | exact Or.inl rfl | exact Or.inr rfl
                    · (rw [zo_accept, if_neg h1, if_pos h338, if_neg h339, if_pos h586, if_neg h587, if_pos h608, if_pos h609, if_neg h610, if_pos h616]; try rfl)
                    · (rw [zm_accept, if_neg h1, if_pos h338, if_neg h339, if_pos h586, if_neg h587, if_pos h608, if_pos h609, if_neg h610, if_pos h616]; try rfl)
                  · refine wp_seg 1 (P := none) (ls' := [some (aR 5 (0)), some (aI (c)), some (aI (1))]) (st' := [aI (0), aI (wr ((wr ((4) * ((zm_openPart (3) σ) 5 (0) 4))) + (3))), aR 7 (185)]) (σ' := (zm_openPart (3) σ)) rq_65 rfl True.intro (i' := 71) rfl ?_
                    refine wp_goto rq_65 rfl ?_
                    refine wp_call (C := 7) (As := [aR 7 (185), aI (wr ((wr ((4) * ((zm_openPart (3) σ) 5 (0) 4))) + (3))), aI (0)]) (rest := []) rq_65 (ev_set (185) (wr ((wr ((4) * ((zm_openPart (3) σ) 5 (0) 4))) + (3))) (0) (zm_openPart (3) σ) ) rfl rfl (show clOK 65 79 0 0 0 3 7 = true by decide +kernel) rfl (show 0 ≤ 4 by decide) (fun _ => ⟨_, rfl⟩) rfl (c' := 0) (s' := 0) rfl rfl ?_
                    refine wp_goto rq_65 rfl ?_
                    refine wp_seg 1 (P := none) (ls' := [some (aR 5 (0)), some (aI (c)), some (aI (1))]) (st' := [aI (1)]) (σ' := (rset (zm_openPart (3) σ) (185) (wr ((wr ((4) * ((zm_openPart (3) σ) 5 (0) 4))) + (3))) (0))) rq_65 rfl True.intro (i' := 101) rfl ?_
                    refine wp_zret rq_65 rfl rt_65 ?_ ⟨?_, ?_⟩
                    · first | exact Or.inl rfl | exact Or.inr rfl
                    · (rw [zo_accept, if_neg h1, if_pos h338, if_neg h339, if_pos h586, if_neg h587, if_pos h608, if_pos h609, if_neg h610, if_neg h616]; try rfl)
                    · (rw [zm_accept, if_neg h1, if_pos h338, if_neg h339, if_pos h586, if_neg h587, if_pos h608, if_pos h609, if_neg h610, if_neg h616]; try rfl)
              · refine wp_seg 2 (P := none) (ls' := [some (aR 5 (0)), some (aI (c)), some (aI (1))]) (st' := [aI (114), aI (c)]) (σ' := σ) rq_65 rfl True.intro (i' := 49) rfl ?_
                refine wp_icmp rq_65 rfl (fun (h617 : ¬ (c) = 114) => ?_) (fun (h617 : ¬ (¬ (c) = 114)) => ?_)
                · refine wp_seg 2 (P := none) (ls' := [some (aR 5 (0)), some (aI (c)), some (aI (1))]) (st' := [aI (59), aI (c)]) (σ' := σ) rq_65 rfl True.intro (i' := 77) rfl ?_
                  refine wp_icmp rq_65 rfl (fun (h618 : ¬ (c) = 59) => ?_) (fun (h618 : ¬ (¬ (c) = 59)) => ?_)
                  · refine wp_seg 1 (P := none) (ls' := [some (aR 5 (0)), some (aI (c)), some (aI (1))]) (st' := [aI (0)]) (σ' := σ) rq_65 rfl True.intro (i' := 99) rfl ?_
                    refine wp_zret rq_65 rfl rt_65 ?_ ⟨?_, ?_⟩
                    · first | exact Or.inl rfl | exact Or.inr rfl
                    · (rw [zo_accept, if_neg h1, if_pos h338, if_neg h339, if_pos h586, if_neg h587, if_pos h608, if_neg h609, if_pos h617, if_pos h618]; try rfl)
                    · (rw [zm_accept, if_neg h1, if_pos h338, if_neg h339, if_pos h586, if_neg h587, if_pos h608, if_neg h609, if_pos h617, if_pos h618]; try rfl)
                  · refine wp_seg 3 (P := none) (ls' := [some (aR 5 (0)), some (aI (c)), some (aI (1))]) (st' := [aI (3), aI (σ 5 (0) 5)]) (σ' := σ) rq_65 rfl True.intro (i' := 81) rfl ?_
                    refine wp_icmp rq_65 rfl (fun (h619 : (σ 5 (0) 5) = 3) => ?_) (fun (h619 : ¬ ((σ 5 (0) 5) = 3)) => ?_)
                    · refine wp_seg 8 (P := none) (ls' := [some (aR 5 (0)), some (aI (c)), some (aI (1))]) (st' := [aI (0), aR 5 (0)]) (σ' := (up σ 5 (0) 4 (wr ((σ 5 (0) 4) + (1))))) rq_65 rfl True.intro (i' := 96) rfl ?_
                      refine wp_call (C := 5) (As := [aR 5 (0), aI (0)]) (rest := []) rq_65 (ev_openPart (0) (up σ 5 (0) 4 (wr ((σ 5 (0) 4) + (1)))) ) rfl rfl (show clOK 65 66 0 0 0 2 5 = true by decide +kernel) rfl (show 0 ≤ 4 by decide) (fun _ => ⟨_, rfl⟩) rfl (c' := 0) (s' := 0) rfl rfl ?_
                      refine wp_goto rq_65 rfl ?_
                      refine wp_seg 1 (P := none) (ls' := [some (aR 5 (0)), some (aI (c)), some (aI (1))]) (st' := [aI (1)]) (σ' := (zm_openPart (0) (up σ 5 (0) 4 (wr ((σ 5 (0) 4) + (1)))))) rq_65 rfl True.intro (i' := 101) rfl ?_
                      refine wp_zret rq_65 rfl rt_65 ?_ ⟨?_, ?_⟩
                      · first | exact Or.inl rfl | exact Or.inr rfl
                      · (rw [zo_accept, if_neg h1, if_pos h338, if_neg h339, if_pos h586, if_neg h587, if_pos h608, if_neg h609, if_pos h617, if_neg h618, if_pos h619]; try rfl)
                      · (rw [zm_accept, if_neg h1, if_pos h338, if_neg h339, if_pos h586, if_neg h587, if_pos h608, if_neg h609, if_pos h617, if_neg h618, if_pos h619]; try rfl)
                    · refine wp_seg 3 (P := none) (ls' := [some (aR 5 (0)), some (aI (c)), some (aI (1))]) (st' := [aI (2), aI (σ 5 (0) 5)]) (σ' := σ) rq_65 rfl True.intro (i' := 85) rfl ?_
                      refine wp_icmp rq_65 rfl (fun (h620 : ¬ (σ 5 (0) 5) = 2) => ?_) (fun (h620 : ¬ (¬ (σ 5 (0) 5) = 2)) => ?_)
                      · refine wp_seg 1 (P := none) (ls' := [some (aR 5 (0)), some (aI (c)), some (aI (1))]) (st' := [aI (0)]) (σ' := σ) rq_65 rfl True.intro (i' := 99) rfl ?_
                        refine wp_zret rq_65 rfl rt_65 ?_ ⟨?_, ?_⟩
                        · first | exact Or.inl rfl | exact Or.inr rfl
                        · (rw [zo_accept, if_neg h1, if_pos h338, if_neg h339, if_pos h586, if_neg h587, if_pos h608, if_neg h609, if_pos h617, if_neg h618, if_neg h619, if_pos h620]; try rfl)
                        · (rw [zm_accept, if_neg h1, if_pos h338, if_neg h339, if_pos h586, if_neg h587, if_pos h608, if_neg h609, if_pos h617, if_neg h618, if_neg h619, if_pos h620]; try rfl)
                      · refine wp_seg 1 (P := none) (ls' := [some (aR 5 (0)), some (aI (c)), some (aI (1))]) (st' := [aI (1)]) (σ' := σ) rq_65 rfl True.intro (i' := 87) rfl ?_
                        refine wp_if rq_65 rfl (fun (h621 : (1 : Int) = (0 : Int)) => absurd h621 (show ¬ ((1 : Int) = (0 : Int)) from by decide)) (fun _ => ?_)
                        refine wp_seg 8 (P := none) (ls' := [some (aR 5 (0)), some (aI (c)), some (aI (1))]) (st' := [aI (0), aR 5 (0)]) (σ' := (up σ 5 (0) 4 (wr ((σ 5 (0) 4) + (1))))) rq_65 rfl True.intro (i' := 96) rfl ?_
                        refine wp_call (C := 5) (As := [aR 5 (0), aI (0)]) (rest := []) rq_65 (ev_openPart (0) (up σ 5 (0) 4 (wr ((σ 5 (0) 4) + (1)))) ) rfl rfl (show clOK 65 66 0 0 0 2 5 = true by decide +kernel) rfl (show 0 ≤ 4 by decide) (fun _ => ⟨_, rfl⟩) rfl (c' := 0) (s' := 0) rfl rfl ?_
                        refine wp_goto rq_65 rfl ?_
                        refine wp_seg 1 (P := none) (ls' := [some (aR 5 (0)), some (aI (c)), some (aI (1))]) (st' := [aI (1)]) (σ' := (zm_openPart (0) (up σ 5 (0) 4 (wr ((σ 5 (0) 4) + (1)))))) rq_65 rfl True.intro (i' := 101) rfl ?_
                        refine wp_zret rq_65 rfl rt_65 ?_ ⟨?_, ?_⟩
                        · first | exact Or.inl rfl | exact Or.inr rfl
                        · (rw [zo_accept, if_neg h1, if_pos h338, if_neg h339, if_pos h586, if_neg h587, if_pos h608, if_neg h609, if_pos h617, if_neg h618, if_neg h619, if_neg h620]; try rfl)
                        · (rw [zm_accept, if_neg h1, if_pos h338, if_neg h339, if_pos h586, if_neg h587, if_pos h608, if_neg h609, if_pos h617, if_neg h618, if_neg h619, if_neg h620]; try rfl)
                · refine wp_seg 3 (P := none) (ls' := [some (aR 5 (0)), some (aI (c)), some (aI (1))]) (st' := [aI (2), aI (σ 5 (0) 5)]) (σ' := σ) rq_65 rfl True.intro (i' := 53) rfl ?_
                  refine wp_icmp rq_65 rfl (fun (h622 : ¬ (σ 5 (0) 5) = 2) => ?_) (fun (h622 : ¬ (¬ (σ 5 (0) 5) = 2)) => ?_)
                  · refine wp_seg 2 (P := none) (ls' := [some (aR 5 (0)), some (aI (c)), some (aI (1))]) (st' := [aI (59), aI (c)]) (σ' := σ) rq_65 rfl True.intro (i' := 77) rfl ?_
                    refine wp_icmp rq_65 rfl (fun (h623 : ¬ (c) = 59) => ?_) (fun (h623 : ¬ (¬ (c) = 59)) => ?_)
                    · refine wp_seg 1 (P := none) (ls' := [some (aR 5 (0)), some (aI (c)), some (aI (1))]) (st' := [aI (0)]) (σ' := σ) rq_65 rfl True.intro (i' := 99) rfl ?_
                      refine wp_zret rq_65 rfl rt_65 ?_ ⟨?_, ?_⟩
                      · first | exact Or.inl rfl | exact Or.inr rfl
                      · (rw [zo_accept, if_neg h1, if_pos h338, if_neg h339, if_pos h586, if_neg h587, if_pos h608, if_neg h609, if_neg h617, if_pos h622, if_pos h623]; try rfl)
                      · (rw [zm_accept, if_neg h1, if_pos h338, if_neg h339, if_pos h586, if_neg h587, if_pos h608, if_neg h609, if_neg h617, if_pos h622, if_pos h623]; try rfl)
                    · refine wp_seg 3 (P := none) (ls' := [some (aR 5 (0)), some (aI (c)), some (aI (1))]) (st' := [aI (3), aI (σ 5 (0) 5)]) (σ' := σ) rq_65 rfl True.intro (i' := 81) rfl ?_
                      refine wp_icmp rq_65 rfl (fun (h624 : (σ 5 (0) 5) = 3) => ?_) (fun (h624 : ¬ ((σ 5 (0) 5) = 3)) => ?_)
                      · refine wp_seg 8 (P := none) (ls' := [some (aR 5 (0)), some (aI (c)), some (aI (1))]) (st' := [aI (0), aR 5 (0)]) (σ' := (up σ 5 (0) 4 (wr ((σ 5 (0) 4) + (1))))) rq_65 rfl True.intro (i' := 96) rfl ?_
                        refine wp_call (C := 5) (As := [aR 5 (0), aI (0)]) (rest := []) rq_65 (ev_openPart (0) (up σ 5 (0) 4 (wr ((σ 5 (0) 4) + (1)))) ) rfl rfl (show clOK 65 66 0 0 0 2 5 = true by decide +kernel) rfl (show 0 ≤ 4 by decide) (fun _ => ⟨_, rfl⟩) rfl (c' := 0) (s' := 0) rfl rfl ?_
                        refine wp_goto rq_65 rfl ?_
                        refine wp_seg 1 (P := none) (ls' := [some (aR 5 (0)), some (aI (c)), some (aI (1))]) (st' := [aI (1)]) (σ' := (zm_openPart (0) (up σ 5 (0) 4 (wr ((σ 5 (0) 4) + (1)))))) rq_65 rfl True.intro (i' := 101) rfl ?_
                        refine wp_zret rq_65 rfl rt_65 ?_ ⟨?_, ?_⟩
                        · first | exact Or.inl rfl | exact Or.inr rfl
                        · (rw [zo_accept, if_neg h1, if_pos h338, if_neg h339, if_pos h586, if_neg h587, if_pos h608, if_neg h609, if_neg h617, if_pos h622, if_neg h623, if_pos h624]; try rfl)
                        · (rw [zm_accept, if_neg h1, if_pos h338, if_neg h339, if_pos h586, if_neg h587, if_pos h608, if_neg h609, if_neg h617, if_pos h622, if_neg h623, if_pos h624]; try rfl)
                      · refine wp_seg 3 (P := none) (ls' := [some (aR 5 (0)), some (aI (c)), some (aI (1))]) (st' := [aI (2), aI (σ 5 (0) 5)]) (σ' := σ) rq_65 rfl True.intro (i' := 85) rfl ?_
                        refine wp_icmp rq_65 rfl (fun (h625 : ¬ (σ 5 (0) 5) = 2) => ?_) (fun (h625 : ¬ (¬ (σ 5 (0) 5) = 2)) => ?_)
                        · refine wp_seg 1 (P := none) (ls' := [some (aR 5 (0)), some (aI (c)), some (aI (1))]) (st' := [aI (0)]) (σ' := σ) rq_65 rfl True.intro (i' := 99) rfl ?_
                          refine wp_zret rq_65 rfl rt_65 ?_ ⟨?_, ?_⟩
                          · first | exact Or.inl rfl | exact Or.inr rfl
                          · (rw [zo_accept, if_neg h1, if_pos h338, if_neg h339, if_pos h586, if_neg h587, if_pos h608, if_neg h609, if_neg h617, if_pos h622, if_neg h623, if_neg h624, if_pos h625]; try rfl)
                          · (rw [zm_accept, if_neg h1, if_pos h338, if_neg h339, if_pos h586, if_neg h587, if_pos h608, if_neg h609, if_neg h617, if_pos h622, if_neg h623, if_neg h624, if_pos h625]; try rfl)
                        · refine wp_seg 1 (P := none) (ls' := [some (aR 5 (0)), some (aI (c)), some (aI (1))]) (st' := [aI (1)]) (σ' := σ) rq_65 rfl True.intro (i' := 87) rfl ?_
                          refine wp_if rq_65 rfl (fun (h626 : (1 : Int) = (0 : Int)) => absurd h626 (show ¬ ((1 : Int) = (0 : Int)) from by decide)) (fun _ => ?_)
                          refine wp_seg 8 (P := none) (ls' := [some (aR 5 (0)), some (aI (c)), some (aI (1))]) (st' := [aI (0), aR 5 (0)]) (σ' := (up σ 5 (0) 4 (wr ((σ 5 (0) 4) + (1))))) rq_65 rfl True.intro (i' := 96) rfl ?_
                          refine wp_call (C := 5) (As := [aR 5 (0), aI (0)]) (rest := []) rq_65 (ev_openPart (0) (up σ 5 (0) 4 (wr ((σ 5 (0) 4) + (1)))) ) rfl rfl (show clOK 65 66 0 0 0 2 5 = true by decide +kernel) rfl (show 0 ≤ 4 by decide) (fun _ => ⟨_, rfl⟩) rfl (c' := 0) (s' := 0) rfl rfl ?_
                          refine wp_goto rq_65 rfl ?_
                          refine wp_seg 1 (P := none) (ls' := [some (aR 5 (0)), some (aI (c)), some (aI (1))]) (st' := [aI (1)]) (σ' := (zm_openPart (0) (up σ 5 (0) 4 (wr ((σ 5 (0) 4) + (1)))))) rq_65 rfl True.intro (i' := 101) rfl ?_
                          refine wp_zret rq_65 rfl rt_65 ?_ ⟨?_, ?_⟩
                          · first | exact Or.inl rfl | exact Or.inr rfl
                          · (rw [zo_accept, if_neg h1, if_pos h338, if_neg h339, if_pos h586, if_neg h587, if_pos h608, if_neg h609, if_neg h617, if_pos h622, if_neg h623, if_neg h624, if_neg h625]; try rfl)
                          · (rw [zm_accept, if_neg h1, if_pos h338, if_neg h339, if_pos h586, if_neg h587, if_pos h608, if_neg h609, if_neg h617, if_pos h622, if_neg h623, if_neg h624, if_neg h625]; try rfl)
                  · refine wp_seg 1 (P := none) (ls' := [some (aR 5 (0)), some (aI (c)), some (aI (1))]) (st' := [aI (1)]) (σ' := σ) rq_65 rfl True.intro (i' := 55) rfl ?_
                    refine wp_if rq_65 rfl (fun (h627 : (1 : Int) = (0 : Int)) => absurd h627 (show ¬ ((1 : Int) = (0 : Int)) from by decide)) (fun _ => ?_)
                    refine wp_seg 2 (P := none) (ls' := [some (aR 5 (0)), some (aI (c)), some (aI (1))]) (st' := [aI (3), aR 5 (0)]) (σ' := σ) rq_65 rfl True.intro (i' := 58) rfl ?_
                    refine wp_call (C := 5) (As := [aR 5 (0), aI (3)]) (rest := []) rq_65 (ev_openPart (3) σ ) rfl rfl (show clOK 65 66 0 0 0 2 5 = true by decide +kernel) rfl (show 0 ≤ 4 by decide) (fun _ => ⟨_, rfl⟩) rfl (c' := 0) (s' := 0) rfl rfl ?_
                    refine wp_seg 10 (P := none) (ls' := [some (aR 5 (0)), some (aI (c)), some (aI (1))]) (st' := [aI (108), aI (c), aI (wr ((wr ((4) * ((zm_openPart (3) σ) 5 (0) 4))) + (3))), aR 7 (185)]) (σ' := (zm_openPart (3) σ)) rq_65 rfl True.intro (i' := 69) rfl ?_
                    refine wp_icmp rq_65 rfl (fun (h628 : ¬ (c) = 108) => ?_) (fun (h628 : ¬ (¬ (c) = 108)) => ?_)
                    · refine wp_seg 1 (P := none) (ls' := [some (aR 5 (0)), some (aI (c)), some (aI (1))]) (st' := [aI (1), aI (wr ((wr ((4) * ((zm_openPart (3) σ) 5 (0) 4))) + (3))), aR 7 (185)]) (σ' := (zm_openPart (3) σ)) rq_65 rfl True.intro (i' := 73) rfl ?_
                      refine wp_call (C := 7) (As := [aR 7 (185), aI (wr ((wr ((4) * ((zm_openPart (3) σ) 5 (0) 4))) + (3))), aI (1)]) (rest := []) rq_65 (ev_set (185) (wr ((wr ((4) * ((zm_openPart (3) σ) 5 (0) 4))) + (3))) (1) (zm_openPart (3) σ) ) rfl rfl (show clOK 65 79 0 0 0 3 7 = true by decide +kernel) rfl (show 0 ≤ 4 by decide) (fun _ => ⟨_, rfl⟩) rfl (c' := 0) (s' := 0) rfl rfl ?_
                      refine wp_goto rq_65 rfl ?_
                      refine wp_seg 1 (P := none) (ls' := [some (aR 5 (0)), some (aI (c)), some (aI (1))]) (st' := [aI (1)]) (σ' := (rset (zm_openPart (3) σ) (185) (wr ((wr ((4) * ((zm_openPart (3) σ) 5 (0) 4))) + (3))) (1))) rq_65 rfl True.intro (i' := 101) rfl ?_
                      refine wp_zret rq_65 rfl rt_65 ?_ ⟨?_, ?_⟩
                      · first | exact Or.inl rfl | exact Or.inr rfl
                      · (rw [zo_accept, if_neg h1, if_pos h338, if_neg h339, if_pos h586, if_neg h587, if_pos h608, if_neg h609, if_neg h617, if_neg h622, if_pos h628]; try rfl)
                      · (rw [zm_accept, if_neg h1, if_pos h338, if_neg h339, if_pos h586, if_neg h587, if_pos h608, if_neg h609, if_neg h617, if_neg h622, if_pos h628]; try rfl)
                    · refine wp_seg 1 (P := none) (ls' := [some (aR 5 (0)), some (aI (c)), some (aI (1))]) (st' := [aI (0), aI (wr ((wr ((4) * ((zm_openPart (3) σ) 5 (0) 4))) + (3))), aR 7 (185)]) (σ' := (zm_openPart (3) σ)) rq_65 rfl True.intro (i' := 71) rfl ?_
                      refine wp_goto rq_65 rfl ?_
                      refine wp_call (C := 7) (As := [aR 7 (185), aI (wr ((wr ((4) * ((zm_openPart (3) σ) 5 (0) 4))) + (3))), aI (0)]) (rest := []) rq_65 (ev_set (185) (wr ((wr ((4) * ((zm_openPart (3) σ) 5 (0) 4))) + (3))) (0) (zm_openPart (3) σ) ) rfl rfl (show clOK 65 79 0 0 0 3 7 = true by decide +kernel) rfl (show 0 ≤ 4 by decide) (fun _ => ⟨_, rfl⟩) rfl (c' := 0) (s' := 0) rfl rfl ?_
                      refine wp_goto rq_65 rfl ?_
                      refine wp_seg 1 (P := none) (ls' := [some (aR 5 (0)), some (aI (c)), some (aI (1))]) (st' := [aI (1)]) (σ' := (rset (zm_openPart (3) σ) (185) (wr ((wr ((4) * ((zm_openPart (3) σ) 5 (0) 4))) + (3))) (0))) rq_65 rfl True.intro (i' := 101) rfl ?_
                      refine wp_zret rq_65 rfl rt_65 ?_ ⟨?_, ?_⟩
                      · first | exact Or.inl rfl | exact Or.inr rfl
                      · (rw [zo_accept, if_neg h1, if_pos h338, if_neg h339, if_pos h586, if_neg h587, if_pos h608, if_neg h609, if_neg h617, if_neg h622, if_neg h628]; try rfl)
                      · (rw [zm_accept, if_neg h1, if_pos h338, if_neg h339, if_pos h586, if_neg h587, if_pos h608, if_neg h609, if_neg h617, if_neg h622, if_neg h628]; try rfl)
            · refine wp_seg 1 (P := none) (ls' := [some (aR 5 (0)), some (aI (c)), some (aI (1))]) (st' := [aI (1)]) (σ' := σ) rq_65 rfl True.intro (i' := 39) rfl ?_
              refine wp_if rq_65 rfl (fun (h629 : (1 : Int) = (0 : Int)) => absurd h629 (show ¬ ((1 : Int) = (0 : Int)) from by decide)) (fun _ => ?_)
              refine wp_seg 2 (P := none) (ls' := [some (aR 5 (0)), some (aI (c)), some (aI (1))]) (st' := [aI (2), aR 5 (0)]) (σ' := σ) rq_65 rfl True.intro (i' := 42) rfl ?_
              refine wp_call (C := 5) (As := [aR 5 (0), aI (2)]) (rest := []) rq_65 (ev_openPart (2) σ ) rfl rfl (show clOK 65 66 0 0 0 2 5 = true by decide +kernel) rfl (show 0 ≤ 4 by decide) (fun _ => ⟨_, rfl⟩) rfl (c' := 0) (s' := 0) rfl rfl ?_
              refine wp_goto rq_65 rfl ?_
              refine wp_seg 1 (P := none) (ls' := [some (aR 5 (0)), some (aI (c)), some (aI (1))]) (st' := [aI (1)]) (σ' := (zm_openPart (2) σ)) rq_65 rfl True.intro (i' := 101) rfl ?_
              refine wp_zret rq_65 rfl rt_65 ?_ ⟨?_, ?_⟩
              · first | exact Or.inl rfl | exact Or.inr rfl
              · (rw [zo_accept, if_neg h1, if_pos h338, if_neg h339, if_pos h586, if_neg h587, if_neg h608]; try rfl)
              · (rw [zm_accept, if_neg h1, if_pos h338, if_neg h339, if_pos h586, if_neg h587, if_neg h608]; try rfl)
        · refine wp_seg 2 (P := none) (ls' := [some (aR 5 (0)), some (aI (c)), some (aI (1))]) (st' := [aI (σ 5 (0) 5)]) (σ' := σ) rq_65 rfl True.intro (i' := 24) rfl ?_
          refine wp_if rq_65 rfl (fun (h630 : ¬ (σ 5 (0) 5) = 0) => ?_) (fun (h630 : ¬ (¬ (σ 5 (0) 5) = 0)) => ?_)
          · refine wp_seg 2 (P := none) (ls' := [some (aR 5 (0)), some (aI (c)), some (aI (1))]) (st' := [aI (58), aI (c)]) (σ' := σ) rq_65 rfl True.intro (i' := 33) rfl ?_
            refine wp_icmp rq_65 rfl (fun (h631 : ¬ (c) = 58) => ?_) (fun (h631 : ¬ (¬ (c) = 58)) => ?_)
            · refine wp_seg 2 (P := none) (ls' := [some (aR 5 (0)), some (aI (c)), some (aI (1))]) (st' := [aI (108), aI (c)]) (σ' := σ) rq_65 rfl True.intro (i' := 46) rfl ?_
              refine wp_icmp rq_65 rfl (fun (h632 : (c) = 108) => ?_) (fun (h632 : ¬ ((c) = 108)) => ?_)
              · refine wp_seg 3 (P := none) (ls' := [some (aR 5 (0)), some (aI (c)), some (aI (1))]) (st' := [aI (2), aI (σ 5 (0) 5)]) (σ' := σ) rq_65 rfl True.intro (i' := 53) rfl ?_
                refine wp_icmp rq_65 rfl (fun (h633 : ¬ (σ 5 (0) 5) = 2) => ?_) (fun (h633 : ¬ (¬ (σ 5 (0) 5) = 2)) => ?_)
                · refine wp_seg 2 (P := none) (ls' := [some (aR 5 (0)), some (aI (c)), some (aI (1))]) (st' := [aI (59), aI (c)]) (σ' := σ) rq_65 rfl True.intro (i' := 77) rfl ?_
                  refine wp_icmp rq_65 rfl (fun (h634 : ¬ (c) = 59) => ?_) (fun (h634 : ¬ (¬ (c) = 59)) => ?_)
                  · refine wp_seg 1 (P := none) (ls' := [some (aR 5 (0)), some (aI (c)), some (aI (1))]) (st' := [aI (0)]) (σ' := σ) rq_65 rfl True.intro (i' := 99) rfl ?_
                    refine wp_zret rq_65 rfl rt_65 ?_ ⟨?_, ?_⟩
                    · first | exact Or.inl rfl | exact Or.inr rfl
                    · (rw [zo_accept, if_neg h1, if_pos h338, if_neg h339, if_neg h586, if_pos h630, if_pos h631, if_pos h632, if_pos h633, if_pos h634]; try rfl)
                    · (rw [zm_accept, if_neg h1, if_pos h338, if_neg h339, if_neg h586, if_pos h630, if_pos h631, if_pos h632, if_pos h633, if_pos h634]; try rfl)
                  · refine wp_seg 3 (P := none) (ls' := [some (aR 5 (0)), some (aI (c)), some (aI (1))]) (st' := [aI (3), aI (σ 5 (0) 5)]) (σ' := σ) rq_65 rfl True.intro (i' := 81) rfl ?_
                    refine wp_icmp rq_65 rfl (fun (h635 : (σ 5 (0) 5) = 3) => ?_) (fun (h635 : ¬ ((σ 5 (0) 5) = 3)) => ?_)
                    · refine wp_seg 8 (P := none) (ls' := [some (aR 5 (0)), some (aI (c)), some (aI (1))]) (st' := [aI (0), aR 5 (0)]) (σ' := (up σ 5 (0) 4 (wr ((σ 5 (0) 4) + (1))))) rq_65 rfl True.intro (i' := 96) rfl ?_
                      refine wp_call (C := 5) (As := [aR 5 (0), aI (0)]) (rest := []) rq_65 (ev_openPart (0) (up σ 5 (0) 4 (wr ((σ 5 (0) 4) + (1)))) ) rfl rfl (show clOK 65 66 0 0 0 2 5 = true by decide +kernel) rfl (show 0 ≤ 4 by decide) (fun _ => ⟨_, rfl⟩) rfl (c' := 0) (s' := 0) rfl rfl ?_
                      refine wp_goto rq_65 rfl ?_
                      refine wp_seg 1 (P := none) (ls' := [some (aR 5 (0)), some (aI (c)), some (aI (1))]) (st' := [aI (1)]) (σ' := (zm_openPart (0) (up σ 5 (0) 4 (wr ((σ 5 (0) 4) + (1)))))) rq_65 rfl True.intro (i' := 101) rfl ?_
                      refine wp_zret rq_65 rfl rt_65 ?_ ⟨?_, ?_⟩
                      · first | exact Or.inl rfl | exact Or.inr rfl
                      · (rw [zo_accept, if_neg h1, if_pos h338, if_neg h339, if_neg h586, if_pos h630, if_pos h631, if_pos h632, if_pos h633, if_neg h634, if_pos h635]; try rfl)
                      · (rw [zm_accept, if_neg h1, if_pos h338, if_neg h339, if_neg h586, if_pos h630, if_pos h631, if_pos h632, if_pos h633, if_neg h634, if_pos h635]; try rfl)
                    · refine wp_seg 3 (P := none) (ls' := [some (aR 5 (0)), some (aI (c)), some (aI (1))]) (st' := [aI (2), aI (σ 5 (0) 5)]) (σ' := σ) rq_65 rfl True.intro (i' := 85) rfl ?_
                      refine wp_icmp rq_65 rfl (fun (h636 : ¬ (σ 5 (0) 5) = 2) => ?_) (fun (h636 : ¬ (¬ (σ 5 (0) 5) = 2)) => ?_)
                      · refine wp_seg 1 (P := none) (ls' := [some (aR 5 (0)), some (aI (c)), some (aI (1))]) (st' := [aI (0)]) (σ' := σ) rq_65 rfl True.intro (i' := 99) rfl ?_
                        refine wp_zret rq_65 rfl rt_65 ?_ ⟨?_, ?_⟩
                        · first | exact Or.inl rfl | exact Or.inr rfl
                        · (rw [zo_accept, if_neg h1, if_pos h338, if_neg h339, if_neg h586, if_pos h630, if_pos h631, if_pos h632, if_pos h633, if_neg h634, if_neg h635, if_pos h636]; try rfl)
                        · (rw [zm_accept, if_neg h1, if_pos h338, if_neg h339, if_neg h586, if_pos h630, if_pos h631, if_pos h632, if_pos h633, if_neg h634, if_neg h635, if_pos h636]; try rfl)
                      · refine wp_seg 1 (P := none) (ls' := [some (aR 5 (0)), some (aI (c)), some (aI (1))]) (st' := [aI (1)]) (σ' := σ) rq_65 rfl True.intro (i' := 87) rfl ?_
                        refine wp_if rq_65 rfl (fun (h637 : (1 : Int) = (0 : Int)) => absurd h637 (show ¬ ((1 : Int) = (0 : Int)) from by decide)) (fun _ => ?_)
                        refine wp_seg 8 (P := none) (ls' := [some (aR 5 (0)), some (aI (c)), some (aI (1))]) (st' := [aI (0), aR 5 (0)]) (σ' := (up σ 5 (0) 4 (wr ((σ 5 (0) 4) + (1))))) rq_65 rfl True.intro (i' := 96) rfl ?_
                        refine wp_call (C := 5) (As := [aR 5 (0), aI (0)]) (rest := []) rq_65 (ev_openPart (0) (up σ 5 (0) 4 (wr ((σ 5 (0) 4) + (1)))) ) rfl rfl (show clOK 65 66 0 0 0 2 5 = true by decide +kernel) rfl (show 0 ≤ 4 by decide) (fun _ => ⟨_, rfl⟩) rfl (c' := 0) (s' := 0) rfl rfl ?_
                        refine wp_goto rq_65 rfl ?_
                        refine wp_seg 1 (P := none) (ls' := [some (aR 5 (0)), some (aI (c)), some (aI (1))]) (st' := [aI (1)]) (σ' := (zm_openPart (0) (up σ 5 (0) 4 (wr ((σ 5 (0) 4) + (1)))))) rq_65 rfl True.intro (i' := 101) rfl ?_
                        refine wp_zret rq_65 rfl rt_65 ?_ ⟨?_, ?_⟩
                        · first | exact Or.inl rfl | exact Or.inr rfl
                        · (rw [zo_accept, if_neg h1, if_pos h338, if_neg h339, if_neg h586, if_pos h630, if_pos h631, if_pos h632, if_pos h633, if_neg h634, if_neg h635, if_neg h636]; try rfl)
                        · (rw [zm_accept, if_neg h1, if_pos h338, if_neg h339, if_neg h586, if_pos h630, if_pos h631, if_pos h632, if_pos h633, if_neg h634, if_neg h635, if_neg h636]; try rfl)
                · refine wp_seg 1 (P := none) (ls' := [some (aR 5 (0)), some (aI (c)), some (aI (1))]) (st' := [aI (1)]) (σ' := σ) rq_65 rfl True.intro (i' := 55) rfl ?_
                  refine wp_if rq_65 rfl (fun (h638 : (1 : Int) = (0 : Int)) => absurd h638 (show ¬ ((1 : Int) = (0 : Int)) from by decide)) (fun _ => ?_)
                  refine wp_seg 2 (P := none) (ls' := [some (aR 5 (0)), some (aI (c)), some (aI (1))]) (st' := [aI (3), aR 5 (0)]) (σ' := σ) rq_65 rfl True.intro (i' := 58) rfl ?_
                  refine wp_call (C := 5) (As := [aR 5 (0), aI (3)]) (rest := []) rq_65 (ev_openPart (3) σ ) rfl rfl (show clOK 65 66 0 0 0 2 5 = true by decide +kernel) rfl (show 0 ≤ 4 by decide) (fun _ => ⟨_, rfl⟩) rfl (c' := 0) (s' := 0) rfl rfl ?_
                  refine wp_seg 10 (P := none) (ls' := [some (aR 5 (0)), some (aI (c)), some (aI (1))]) (st' := [aI (108), aI (c), aI (wr ((wr ((4) * ((zm_openPart (3) σ) 5 (0) 4))) + (3))), aR 7 (185)]) (σ' := (zm_openPart (3) σ)) rq_65 rfl True.intro (i' := 69) rfl ?_
                  refine wp_icmp rq_65 rfl (fun (h639 : ¬ (c) = 108) => ?_) (fun (h639 : ¬ (¬ (c) = 108)) => ?_)
                  · refine wp_seg 1 (P := none) (ls' := [some (aR 5 (0)), some (aI (c)), some (aI (1))]) (st' := [aI (1), aI (wr ((wr ((4) * ((zm_openPart (3) σ) 5 (0) 4))) + (3))), aR 7 (185)]) (σ' := (zm_openPart (3) σ)) rq_65 rfl True.intro (i' := 73) rfl ?_
                    refine wp_call (C := 7) (As := [aR 7 (185), aI (wr ((wr ((4) * ((zm_openPart (3) σ) 5 (0) 4))) + (3))), aI (1)]) (rest := []) rq_65 (ev_set (185) (wr ((wr ((4) * ((zm_openPart (3) σ) 5 (0) 4))) + (3))) (1) (zm_openPart (3) σ) ) rfl rfl (show clOK 65 79 0 0 0 3 7 = true by decide +kernel) rfl (show 0 ≤ 4 by decide) (fun _ => ⟨_, rfl⟩) rfl (c' := 0) (s' := 0) rfl rfl ?_
                    refine wp_goto rq_65 rfl ?_
                    refine wp_seg 1 (P := none) (ls' := [some (aR 5 (0)), some (aI (c)), some (aI (1))]) (st' := [aI (1)]) (σ' := (rset (zm_openPart (3) σ) (185) (wr ((wr ((4) * ((zm_openPart (3) σ) 5 (0) 4))) + (3))) (1))) rq_65 rfl True.intro (i' := 101) rfl ?_
                    refine wp_zret rq_65 rfl rt_65 ?_ ⟨?_, ?_⟩
                    · first | exact Or.inl rfl | exact Or.inr rfl
                    · (rw [zo_accept, if_neg h1, if_pos h338, if_neg h339, if_neg h586, if_pos h630, if_pos h631, if_pos h632, if_neg h633, if_pos h639]; try rfl)
                    · (rw [zm_accept, if_neg h1, if_pos h338, if_neg h339, if_neg h586, if_pos h630, if_pos h631, if_pos h632, if_neg h633, if_pos h639]; try rfl)
                  · refine wp_seg 1 (P := none) (ls' := [some (aR 5 (0)), some (aI (c)), some (aI (1))]) (st' := [aI (0), aI (wr ((wr ((4) * ((zm_openPart (3) σ) 5 (0) 4))) + (3))), aR 7 (185)]) (σ' := (zm_openPart (3) σ)) rq_65 rfl True.intro (i' := 71) rfl ?_
                    refine wp_goto rq_65 rfl ?_
                    refine wp_call (C := 7) (As := [aR 7 (185), aI (wr ((wr ((4) * ((zm_openPart (3) σ) 5 (0) 4))) + (3))), aI (0)]) (rest := []) rq_65 (ev_set (185) (wr ((wr ((4) * ((zm_openPart (3) σ) 5 (0) 4))) + (3))) (0) (zm_openPart (3) σ) ) rfl rfl (show clOK 65 79 0 0 0 3 7 = true by decide +kernel) rfl (show 0 ≤ 4 by decide) (fun _ => ⟨_, rfl⟩) rfl (c' := 0) (s' := 0) rfl rfl ?_
                    refine wp_goto rq_65 rfl ?_
                    refine wp_seg 1 (P := none) (ls' := [some (aR 5 (0)), some (aI (c)), some (aI (1))]) (st' := [aI (1)]) (σ' := (rset (zm_openPart (3) σ) (185) (wr ((wr ((4) * ((zm_openPart (3) σ) 5 (0) 4))) + (3))) (0))) rq_65 rfl True.intro (i' := 101) rfl ?_
                    refine wp_zret rq_65 rfl rt_65 ?_ ⟨?_, ?_⟩
                    · first | exact Or.inl rfl | exact Or.inr rfl
                    · (rw [zo_accept, if_neg h1, if_pos h338, if_neg h339, if_neg h586, if_pos h630, if_pos h631, if_pos h632, if_neg h633, if_neg h639]; try rfl)
                    · (rw [zm_accept, if_neg h1, if_pos h338, if_neg h339, if_neg h586, if_pos h630, if_pos h631, if_pos h632, if_neg h633, if_neg h639]; try rfl)
              · refine wp_seg 2 (P := none) (ls' := [some (aR 5 (0)), some (aI (c)), some (aI (1))]) (st' := [aI (114), aI (c)]) (σ' := σ) rq_65 rfl True.intro (i' := 49) rfl ?_
                refine wp_icmp rq_65 rfl (fun (h640 : ¬ (c) = 114) => ?_) (fun (h640 : ¬ (¬ (c) = 114)) => ?_)
                · refine wp_seg 2 (P := none) (ls' := [some (aR 5 (0)), some (aI (c)), some (aI (1))]) (st' := [aI (59), aI (c)]) (σ' := σ) rq_65 rfl True.intro (i' := 77) rfl ?_
                  refine wp_icmp rq_65 rfl (fun (h641 : ¬ (c) = 59) => ?_) (fun (h641 : ¬ (¬ (c) = 59)) => ?_)
                  · refine wp_seg 1 (P := none) (ls' := [some (aR 5 (0)), some (aI (c)), some (aI (1))]) (st' := [aI (0)]) (σ' := σ) rq_65 rfl True.intro (i' := 99) rfl ?_
                    refine wp_zret rq_65 rfl rt_65 ?_ ⟨?_, ?_⟩
                    · first | exact Or.inl rfl | exact Or.inr rfl
                    · (rw [zo_accept, if_neg h1, if_pos h338, if_neg h339, if_neg h586, if_pos h630, if_pos h631, if_neg h632, if_pos h640, if_pos h641]; try rfl)
                    · (rw [zm_accept, if_neg h1, if_pos h338, if_neg h339, if_neg h586, if_pos h630, if_pos h631, if_neg h632, if_pos h640, if_pos h641]; try rfl)
                  · refine wp_seg 3 (P := none) (ls' := [some (aR 5 (0)), some (aI (c)), some (aI (1))]) (st' := [aI (3), aI (σ 5 (0) 5)]) (σ' := σ) rq_65 rfl True.intro (i' := 81) rfl ?_
                    refine wp_icmp rq_65 rfl (fun (h642 : (σ 5 (0) 5) = 3) => ?_) (fun (h642 : ¬ ((σ 5 (0) 5) = 3)) => ?_)
                    · refine wp_seg 8 (P := none) (ls' := [some (aR 5 (0)), some (aI (c)), some (aI (1))]) (st' := [aI (0), aR 5 (0)]) (σ' := (up σ 5 (0) 4 (wr ((σ 5 (0) 4) + (1))))) rq_65 rfl True.intro (i' := 96) rfl ?_
                      refine wp_call (C := 5) (As := [aR 5 (0), aI (0)]) (rest := []) rq_65 (ev_openPart (0) (up σ 5 (0) 4 (wr ((σ 5 (0) 4) + (1)))) ) rfl rfl (show clOK 65 66 0 0 0 2 5 = true by decide +kernel) rfl (show 0 ≤ 4 by decide) (fun _ => ⟨_, rfl⟩) rfl (c' := 0) (s' := 0) rfl rfl ?_
                      refine wp_goto rq_65 rfl ?_
                      refine wp_seg 1 (P := none) (ls' := [some (aR 5 (0)), some (aI (c)), some (aI (1))]) (st' := [aI (1)]) (σ' := (zm_openPart (0) (up σ 5 (0) 4 (wr ((σ 5 (0) 4) + (1)))))) rq_65 rfl True.intro (i' := 101) rfl ?_
                      refine wp_zret rq_65 rfl rt_65 ?_ ⟨?_, ?_⟩
                      · first | exact Or.inl rfl | exact Or.inr rfl
                      · (rw [zo_accept, if_neg h1, if_pos h338, if_neg h339, if_neg h586, if_pos h630, if_pos h631, if_neg h632, if_pos h640, if_neg h641, if_pos h642]; try rfl)
                      · (rw [zm_accept, if_neg h1, if_pos h338, if_neg h339, if_neg h586, if_pos h630, if_pos h631, if_neg h632, if_pos h640, if_neg h641, if_pos h642]; try rfl)
                    · refine wp_seg 3 (P := none) (ls' := [some (aR 5 (0)), some (aI (c)), some (aI (1))]) (st' := [aI (2), aI (σ 5 (0) 5)]) (σ' := σ) rq_65 rfl True.intro (i' := 85) rfl ?_
                      refine wp_icmp rq_65 rfl (fun (h643 : ¬ (σ 5 (0) 5) = 2) => ?_) (fun (h643 : ¬ (¬ (σ 5 (0) 5) = 2)) => ?_)
                      · refine wp_seg 1 (P := none) (ls' := [some (aR 5 (0)), some (aI (c)), some (aI (1))]) (st' := [aI (0)]) (σ' := σ) rq_65 rfl True.intro (i' := 99) rfl ?_
                        refine wp_zret rq_65 rfl rt_65 ?_ ⟨?_, ?_⟩
                        · first | exact Or.inl rfl | exact Or.inr rfl
                        · (rw [zo_accept, if_neg h1, if_pos h338, if_neg h339, if_neg h586, if_pos h630, if_pos h631, if_neg h632, if_pos h640, if_neg h641, if_neg h642, if_pos h643]; try rfl)
                        · (rw [zm_accept, if_neg h1, if_pos h338, if_neg h339, if_neg h586, if_pos h630, if_pos h631, if_neg h632, if_pos h640, if_neg h641, if_neg h642, if_pos h643]; try rfl)
                      · refine wp_seg 1 (P := none) (ls' := [some (aR 5 (0)), some (aI (c)), some (aI (1))]) (st' := [aI (1)]) (σ' := σ) rq_65 rfl True.intro (i' := 87) rfl ?_
                        refine wp_if rq_65 rfl (fun (h644 : (1 : Int) = (0 : Int)) => absurd h644 (show ¬ ((1 : Int) = (0 : Int)) from by decide)) (fun _ => ?_)
                        refine wp_seg 8 (P := none) (ls' := [some (aR 5 (0)), some (aI (c)), some (aI (1))]) (st' := [aI (0), aR 5 (0)]) (σ' := (up σ 5 (0) 4 (wr ((σ 5 (0) 4) + (1))))) rq_65 rfl True.intro (i' := 96) rfl ?_
                        refine wp_call (C := 5) (As := [aR 5 (0), aI (0)]) (rest := []) rq_65 (ev_openPart (0) (up σ 5 (0) 4 (wr ((σ 5 (0) 4) + (1)))) ) rfl rfl (show clOK 65 66 0 0 0 2 5 = true by decide +kernel) rfl (show 0 ≤ 4 by decide) (fun _ => ⟨_, rfl⟩) rfl (c' := 0) (s' := 0) rfl rfl ?_
                        refine wp_goto rq_65 rfl ?_
                        refine wp_seg 1 (P := none) (ls' := [some (aR 5 (0)), some (aI (c)), some (aI (1))]) (st' := [aI (1)]) (σ' := (zm_openPart (0) (up σ 5 (0) 4 (wr ((σ 5 (0) 4) + (1)))))) rq_65 rfl True.intro (i' := 101) rfl ?_
                        refine wp_zret rq_65 rfl rt_65 ?_ ⟨?_, ?_⟩
                        · first | exact Or.inl rfl | exact Or.inr rfl
                        · (rw [zo_accept, if_neg h1, if_pos h338, if_neg h339, if_neg h586, if_pos h630, if_pos h631, if_neg h632, if_pos h640, if_neg h641, if_neg h642, if_neg h643]; try rfl)
                        · (rw [zm_accept, if_neg h1, if_pos h338, if_neg h339, if_neg h586, if_pos h630, if_pos h631, if_neg h632, if_pos h640, if_neg h641, if_neg h642, if_neg h643]; try rfl)
                · refine wp_seg 3 (P := none) (ls' := [some (aR 5 (0)), some (aI (c)), some (aI (1))]) (st' := [aI (2), aI (σ 5 (0) 5)]) (σ' := σ) rq_65 rfl True.intro (i' := 53) rfl ?_
                  refine wp_icmp rq_65 rfl (fun (h645 : ¬ (σ 5 (0) 5) = 2) => ?_) (fun (h645 : ¬ (¬ (σ 5 (0) 5) = 2)) => ?_)
                  · refine wp_seg 2 (P := none) (ls' := [some (aR 5 (0)), some (aI (c)), some (aI (1))]) (st' := [aI (59), aI (c)]) (σ' := σ) rq_65 rfl True.intro (i' := 77) rfl ?_
                    refine wp_icmp rq_65 rfl (fun (h646 : ¬ (c) = 59) => ?_) (fun (h646 : ¬ (¬ (c) = 59)) => ?_)
                    · refine wp_seg 1 (P := none) (ls' := [some (aR 5 (0)), some (aI (c)), some (aI (1))]) (st' := [aI (0)]) (σ' := σ) rq_65 rfl True.intro (i' := 99) rfl ?_
                      refine wp_zret rq_65 rfl rt_65 ?_ ⟨?_, ?_⟩
                      · first | exact Or.inl rfl | exact Or.inr rfl
                      · (rw [zo_accept, if_neg h1, if_pos h338, if_neg h339, if_neg h586, if_pos h630, if_pos h631, if_neg h632, if_neg h640, if_pos h645, if_pos h646]; try rfl)
                      · (rw [zm_accept, if_neg h1, if_pos h338, if_neg h339, if_neg h586, if_pos h630, if_pos h631, if_neg h632, if_neg h640, if_pos h645, if_pos h646]; try rfl)
                    · refine wp_seg 3 (P := none) (ls' := [some (aR 5 (0)), some (aI (c)), some (aI (1))]) (st' := [aI (3), aI (σ 5 (0) 5)]) (σ' := σ) rq_65 rfl True.intro (i' := 81) rfl ?_
                      refine wp_icmp rq_65 rfl (fun (h647 : (σ 5 (0) 5) = 3) => ?_) (fun (h647 : ¬ ((σ 5 (0) 5) = 3)) => ?_)
                      · refine wp_seg 8 (P := none) (ls' := [some (aR 5 (0)), some (aI (c)), some (aI (1))]) (st' := [aI (0), aR 5 (0)]) (σ' := (up σ 5 (0) 4 (wr ((σ 5 (0) 4) + (1))))) rq_65 rfl True.intro (i' := 96) rfl ?_
                        refine wp_call (C := 5) (As := [aR 5 (0), aI (0)]) (rest := []) rq_65 (ev_openPart (0) (up σ 5 (0) 4 (wr ((σ 5 (0) 4) + (1)))) ) rfl rfl (show clOK 65 66 0 0 0 2 5 = true by decide +kernel) rfl (show 0 ≤ 4 by decide) (fun _ => ⟨_, rfl⟩) rfl (c' := 0) (s' := 0) rfl rfl ?_
                        refine wp_goto rq_65 rfl ?_
                        refine wp_seg 1 (P := none) (ls' := [some (aR 5 (0)), some (aI (c)), some (aI (1))]) (st' := [aI (1)]) (σ' := (zm_openPart (0) (up σ 5 (0) 4 (wr ((σ 5 (0) 4) + (1)))))) rq_65 rfl True.intro (i' := 101) rfl ?_
                        refine wp_zret rq_65 rfl rt_65 ?_ ⟨?_, ?_⟩
                        · first | exact Or.inl rfl | exact Or.inr rfl
                        · (rw [zo_accept, if_neg h1, if_pos h338, if_neg h339, if_neg h586, if_pos h630, if_pos h631, if_neg h632, if_neg h640, if_pos h645, if_neg h646, if_pos h647]; try rfl)
                        · (rw [zm_accept, if_neg h1, if_pos h338, if_neg h339, if_neg h586, if_pos h630, if_pos h631, if_neg h632, if_neg h640, if_pos h645, if_neg h646, if_pos h647]; try rfl)
                      · refine wp_seg 3 (P := none) (ls' := [some (aR 5 (0)), some (aI (c)), some (aI (1))]) (st' := [aI (2), aI (σ 5 (0) 5)]) (σ' := σ) rq_65 rfl True.intro (i' := 85) rfl ?_
                        refine wp_icmp rq_65 rfl (fun (h648 : ¬ (σ 5 (0) 5) = 2) => ?_) (fun (h648 : ¬ (¬ (σ 5 (0) 5) = 2)) => ?_)
                        · refine wp_seg 1 (P := none) (ls' := [some (aR 5 (0)), some (aI (c)), some (aI (1))]) (st' := [aI (0)]) (σ' := σ) rq_65 rfl True.intro (i' := 99) rfl ?_
                          refine wp_zret rq_65 rfl rt_65 ?_ ⟨?_, ?_⟩
                          · first | exact Or.inl rfl | exact Or.inr rfl
                          · (rw [zo_accept, if_neg h1, if_pos h338, if_neg h339, if_neg h586, if_pos h630, if_pos h631, if_neg h632, if_neg h640, if_pos h645, if_neg h646, if_neg h647, if_pos h648]; try rfl)
                          · (rw [zm_accept, if_neg h1, if_pos h338, if_neg h339, if_neg h586, if_pos h630, if_pos h631, if_neg h632, if_neg h640, if_pos h645, if_neg h646, if_neg h647, if_pos h648]; try rfl)
                        · refine wp_seg 1 (P := none) (ls' := [some (aR 5 (0)), some (aI (c)), some (aI (1))]) (st' := [aI (1)]) (σ' := σ) rq_65 rfl True.intro (i' := 87) rfl ?_
                          refine wp_if rq_65 rfl (fun (h649 : (1 : Int) = (0 : Int)) => absurd h649 (show ¬ ((1 : Int) = (0 : Int)) from by decide)) (fun _ => ?_)
                          refine wp_seg 8 (P := none) (ls' := [some (aR 5 (0)), some (aI (c)), some (aI (1))]) (st' := [aI (0), aR 5 (0)]) (σ' := (up σ 5 (0) 4 (wr ((σ 5 (0) 4) + (1))))) rq_65 rfl True.intro (i' := 96) rfl ?_
                          refine wp_call (C := 5) (As := [aR 5 (0), aI (0)]) (rest := []) rq_65 (ev_openPart (0) (up σ 5 (0) 4 (wr ((σ 5 (0) 4) + (1)))) ) rfl rfl (show clOK 65 66 0 0 0 2 5 = true by decide +kernel) rfl (show 0 ≤ 4 by decide) (fun _ => ⟨_, rfl⟩) rfl (c' := 0) (s' := 0) rfl rfl ?_
                          refine wp_goto rq_65 rfl ?_
                          refine wp_seg 1 (P := none) (ls' := [some (aR 5 (0)), some (aI (c)), some (aI (1))]) (st' := [aI (1)]) (σ' := (zm_openPart (0) (up σ 5 (0) 4 (wr ((σ 5 (0) 4) + (1)))))) rq_65 rfl True.intro (i' := 101) rfl ?_
                          refine wp_zret rq_65 rfl rt_65 ?_ ⟨?_, ?_⟩
                          · first | exact Or.inl rfl | exact Or.inr rfl
                          · (rw [zo_accept, if_neg h1, if_pos h338, if_neg h339, if_neg h586, if_pos h630, if_pos h631, if_neg h632, if_neg h640, if_pos h645, if_neg h646, if_neg h647, if_neg h648]; try rfl)
                          · (rw [zm_accept, if_neg h1, if_pos h338, if_neg h339, if_neg h586, if_pos h630, if_pos h631, if_neg h632, if_neg h640, if_pos h645, if_neg h646, if_neg h647, if_neg h648]; try rfl)
                  · refine wp_seg 1 (P := none) (ls' := [some (aR 5 (0)), some (aI (c)), some (aI (1))]) (st' := [aI (1)]) (σ' := σ) rq_65 rfl True.intro (i' := 55) rfl ?_
                    refine wp_if rq_65 rfl (fun (h650 : (1 : Int) = (0 : Int)) => absurd h650 (show ¬ ((1 : Int) = (0 : Int)) from by decide)) (fun _ => ?_)
                    refine wp_seg 2 (P := none) (ls' := [some (aR 5 (0)), some (aI (c)), some (aI (1))]) (st' := [aI (3), aR 5 (0)]) (σ' := σ) rq_65 rfl True.intro (i' := 58) rfl ?_
                    refine wp_call (C := 5) (As := [aR 5 (0), aI (3)]) (rest := []) rq_65 (ev_openPart (3) σ ) rfl rfl (show clOK 65 66 0 0 0 2 5 = true by decide +kernel) rfl (show 0 ≤ 4 by decide) (fun _ => ⟨_, rfl⟩) rfl (c' := 0) (s' := 0) rfl rfl ?_
                    refine wp_seg 10 (P := none) (ls' := [some (aR 5 (0)), some (aI (c)), some (aI (1))]) (st' := [aI (108), aI (c), aI (wr ((wr ((4) * ((zm_openPart (3) σ) 5 (0) 4))) + (3))), aR 7 (185)]) (σ' := (zm_openPart (3) σ)) rq_65 rfl True.intro (i' := 69) rfl ?_
                    refine wp_icmp rq_65 rfl (fun (h651 : ¬ (c) = 108) => ?_) (fun (h651 : ¬ (¬ (c) = 108)) => ?_)
                    · refine wp_seg 1 (P := none) (ls' := [some (aR 5 (0)), some (aI (c)), some (aI (1))]) (st' := [aI (1), aI (wr ((wr ((4) * ((zm_openPart (3) σ) 5 (0) 4))) + (3))), aR 7 (185)]) (σ' := (zm_openPart (3) σ)) rq_65 rfl True.intro (i' := 73) rfl ?_
                      refine wp_call (C := 7) (As := [aR 7 (185), aI (wr ((wr ((4) * ((zm_openPart (3) σ) 5 (0) 4))) + (3))), aI (1)]) (rest := []) rq_65 (ev_set (185) (wr ((wr ((4) * ((zm_openPart (3) σ) 5 (0) 4))) + (3))) (1) (zm_openPart (3) σ) ) rfl rfl (show clOK 65 79 0 0 0 3 7 = true by decide +kernel) rfl (show 0 ≤ 4 by decide) (fun _ => ⟨_, rfl⟩) rfl (c' := 0) (s' := 0) rfl rfl ?_
                      refine wp_goto rq_65 rfl ?_
                      refine wp_seg 1 (P := none) (ls' := [some (aR 5 (0)), some (aI (c)), some (aI (1))]) (st' := [aI (1)]) (σ' := (rset (zm_openPart (3) σ) (185) (wr ((wr ((4) * ((zm_openPart (3) σ) 5 (0) 4))) + (3))) (1))) rq_65 rfl True.intro (i' := 101) rfl ?_
                      refine wp_zret rq_65 rfl rt_65 ?_ ⟨?_, ?_⟩
                      · first | exact Or.inl rfl | exact Or.inr rfl
                      · (rw [zo_accept, if_neg h1, if_pos h338, if_neg h339, if_neg h586, if_pos h630, if_pos h631, if_neg h632, if_neg h640, if_neg h645, if_pos h651]; try rfl)
                      · (rw [zm_accept, if_neg h1, if_pos h338, if_neg h339, if_neg h586, if_pos h630, if_pos h631, if_neg h632, if_neg h640, if_neg h645, if_pos h651]; try rfl)
                    · refine wp_seg 1 (P := none) (ls' := [some (aR 5 (0)), some (aI (c)), some (aI (1))]) (st' := [aI (0), aI (wr ((wr ((4) * ((zm_openPart (3) σ) 5 (0) 4))) + (3))), aR 7 (185)]) (σ' := (zm_openPart (3) σ)) rq_65 rfl True.intro (i' := 71) rfl ?_
                      refine wp_goto rq_65 rfl ?_
                      refine wp_call (C := 7) (As := [aR 7 (185), aI (wr ((wr ((4) * ((zm_openPart (3) σ) 5 (0) 4))) + (3))), aI (0)]) (rest := []) rq_65 (ev_set (185) (wr ((wr ((4) * ((zm_openPart (3) σ) 5 (0) 4))) + (3))) (0) (zm_openPart (3) σ) ) rfl rfl (show clOK 65 79 0 0 0 3 7 = true by decide +kernel) rfl (show 0 ≤ 4 by decide) (fun _ => ⟨_, rfl⟩) rfl (c' := 0) (s' := 0) rfl rfl ?_
                      refine wp_goto rq_65 rfl ?_
                      refine wp_seg 1 (P := none) (ls' := [some (aR 5 (0)), some (aI (c)), some (aI (1))]) (st' := [aI (1)]) (σ' := (rset (zm_openPart (3) σ) (185) (wr ((wr ((4) * ((zm_openPart (3) σ) 5 (0) 4))) + (3))) (0))) rq_65 rfl True.intro (i' := 101) rfl ?_
                      refine wp_zret rq_65 rfl rt_65 ?_ ⟨?_, ?_⟩
                      · first | exact Or.inl rfl | exact Or.inr rfl
                      · (rw [zo_accept, if_neg h1, if_pos h338, if_neg h339, if_neg h586, if_pos h630, if_pos h631, if_neg h632, if_neg h640, if_neg h645, if_neg h651]; try rfl)
                      · (rw [zm_accept, if_neg h1, if_pos h338, if_neg h339, if_neg h586, if_pos h630, if_pos h631, if_neg h632, if_neg h640, if_neg h645, if_neg h651]; try rfl)
            · refine wp_seg 3 (P := none) (ls' := [some (aR 5 (0)), some (aI (c)), some (aI (1))]) (st' := [aI (1), aI (σ 5 (0) 5)]) (σ' := σ) rq_65 rfl True.intro (i' := 37) rfl ?_
              refine wp_icmp rq_65 rfl (fun (h652 : ¬ (σ 5 (0) 5) = 1) => ?_) (fun (h652 : ¬ (¬ (σ 5 (0) 5) = 1)) => ?_)
              · refine wp_seg 2 (P := none) (ls' := [some (aR 5 (0)), some (aI (c)), some (aI (1))]) (st' := [aI (108), aI (c)]) (σ' := σ) rq_65 rfl True.intro (i' := 46) rfl ?_
                refine wp_icmp rq_65 rfl (fun (h653 : (c) = 108) => ?_) (fun (h653 : ¬ ((c) = 108)) => ?_)
                · refine wp_seg 3 (P := none) (ls' := [some (aR 5 (0)), some (aI (c)), some (aI (1))]) (st' := [aI (2), aI (σ 5 (0) 5)]) (σ' := σ) rq_65 rfl True.intro (i' := 53) rfl ?_
                  refine wp_icmp rq_65 rfl (fun (h654 : ¬ (σ 5 (0) 5) = 2) => ?_) (fun (h654 : ¬ (¬ (σ 5 (0) 5) = 2)) => ?_)
                  · refine wp_seg 2 (P := none) (ls' := [some (aR 5 (0)), some (aI (c)), some (aI (1))]) (st' := [aI (59), aI (c)]) (σ' := σ) rq_65 rfl True.intro (i' := 77) rfl ?_
                    refine wp_icmp rq_65 rfl (fun (h655 : ¬ (c) = 59) => ?_) (fun (h655 : ¬ (¬ (c) = 59)) => ?_)
                    · refine wp_seg 1 (P := none) (ls' := [some (aR 5 (0)), some (aI (c)), some (aI (1))]) (st' := [aI (0)]) (σ' := σ) rq_65 rfl True.intro (i' := 99) rfl ?_
                      refine wp_zret rq_65 rfl rt_65 ?_ ⟨?_, ?_⟩
                      · first | exact Or.inl rfl | exact Or.inr rfl
                      · (rw [zo_accept, if_neg h1, if_pos h338, if_neg h339, if_neg h586, if_pos h630, if_neg h631, if_pos h652, if_pos h653, if_pos h654, if_pos h655]; try rfl)
                      · (rw [zm_accept, if_neg h1, if_pos h338, if_neg h339, if_neg h586, if_pos h630, if_neg h631, if_pos h652, if_pos h653, if_pos h654, if_pos h655]; try rfl)
                    · refine wp_seg 3 (P := none) (ls' := [some (aR 5 (0)), some (aI (c)), some (aI (1))]) (st' := [aI (3), aI (σ 5 (0) 5)]) (σ' := σ) rq_65 rfl True.intro (i' := 81) rfl ?_
                      refine wp_icmp rq_65 rfl (fun (h656 : (σ 5 (0) 5) = 3) => ?_) (fun (h656 : ¬ ((σ 5 (0) 5) = 3)) => ?_)
                      · refine wp_seg 8 (P := none) (ls' := [some (aR 5 (0)), some (aI (c)), some (aI (1))]) (st' := [aI (0), aR 5 (0)]) (σ' := (up σ 5 (0) 4 (wr ((σ 5 (0) 4) + (1))))) rq_65 rfl True.intro (i' := 96) rfl ?_
                        refine wp_call (C := 5) (As := [aR 5 (0), aI (0)]) (rest := []) rq_65 (ev_openPart (0) (up σ 5 (0) 4 (wr ((σ 5 (0) 4) + (1)))) ) rfl rfl (show clOK 65 66 0 0 0 2 5 = true by decide +kernel) rfl (show 0 ≤ 4 by decide) (fun _ => ⟨_, rfl⟩) rfl (c' := 0) (s' := 0) rfl rfl ?_
                        refine wp_goto rq_65 rfl ?_
                        refine wp_seg 1 (P := none) (ls' := [some (aR 5 (0)), some (aI (c)), some (aI (1))]) (st' := [aI (1)]) (σ' := (zm_openPart (0) (up σ 5 (0) 4 (wr ((σ 5 (0) 4) + (1)))))) rq_65 rfl True.intro (i' := 101) rfl ?_
                        refine wp_zret rq_65 rfl rt_65 ?_ ⟨?_, ?_⟩
                        · first | exact Or.inl rfl | exact Or.inr rfl
                        · (rw [zo_accept, if_neg h1, if_pos h338, if_neg h339, if_neg h586, if_pos h630, if_neg h631, if_pos h652, if_pos h653, if_pos h654, if_neg h655, if_pos h656]; try rfl)
                        · (rw [zm_accept, if_neg h1, if_pos h338, if_neg h339, if_neg h586, if_pos h630, if_neg h631, if_pos h652, if_pos h653, if_pos h654, if_neg h655, if_pos h656]; try rfl)
                      · refine wp_seg 3 (P := none) (ls' := [some (aR 5 (0)), some (aI (c)), some (aI (1))]) (st' := [aI (2), aI (σ 5 (0) 5)]) (σ' := σ) rq_65 rfl True.intro (i' := 85) rfl ?_
                        refine wp_icmp rq_65 rfl (fun (h657 : ¬ (σ 5 (0) 5) = 2) => ?_) (fun (h657 : ¬ (¬ (σ 5 (0) 5) = 2)) => ?_)
                        · refine wp_seg 1 (P := none) (ls' := [some (aR 5 (0)), some (aI (c)), some (aI (1))]) (st' := [aI (0)]) (σ' := σ) rq_65 rfl True.intro (i' := 99) rfl ?_
                          refine wp_zret rq_65 rfl rt_65 ?_ ⟨?_, ?_⟩
                          · first | exact Or.inl rfl | exact Or.inr rfl
                          · (rw [zo_accept, if_neg h1, if_pos h338, if_neg h339, if_neg h586, if_pos h630, if_neg h631, if_pos h652, if_pos h653, if_pos h654, if_neg h655, if_neg h656, if_pos h657]; try rfl)
                          · (rw [zm_accept, if_neg h1, if_pos h338, if_neg h339, if_neg h586, if_pos h630, if_neg h631, if_pos h652, if_pos h653, if_pos h654, if_neg h655, if_neg h656, if_pos h657]; try rfl)
                        · refine wp_seg 1 (P := none) (ls' := [some (aR 5 (0)), some (aI (c)), some (aI (1))]) (st' := [aI (1)]) (σ' := σ) rq_65 rfl True.intro (i' := 87) rfl ?_
                          refine wp_if rq_65 rfl (fun (h658 : (1 : Int) = (0 : Int)) => absurd h658 (show ¬ ((1 : Int) = (0 : Int)) from by decide)) (fun _ => ?_)
                          refine wp_seg 8 (P := none) (ls' := [some (aR 5 (0)), some (aI (c)), some (aI (1))]) (st' := [aI (0), aR 5 (0)]) (σ' := (up σ 5 (0) 4 (wr ((σ 5 (0) 4) + (1))))) rq_65 rfl True.intro (i' := 96) rfl ?_
                          refine wp_call (C := 5) (As := [aR 5 (0), aI (0)]) (rest := []) rq_65 (ev_openPart (0) (up σ 5 (0) 4 (wr ((σ 5 (0) 4) + (1)))) ) rfl rfl (show clOK 65 66 0 0 0 2 5 = true by decide +kernel) rfl (show 0 ≤ 4 by decide) (fun _ => ⟨_, rfl⟩) rfl (c' := 0) (s' := 0) rfl rfl ?_
                          refine wp_goto rq_65 rfl ?_
                          refine wp_seg 1 (P := none) (ls' := [some (aR 5 (0)), some (aI (c)), some (aI (1))]) (st' := [aI (1)]) (σ' := (zm_openPart (0) (up σ 5 (0) 4 (wr ((σ 5 (0) 4) + (1)))))) rq_65 rfl True.intro (i' := 101) rfl ?_
                          refine wp_zret rq_65 rfl rt_65 ?_ ⟨?_, ?_⟩
                          · first | exact Or.inl rfl | exact Or.inr rfl
                          · (rw [zo_accept, if_neg h1, if_pos h338, if_neg h339, if_neg h586, if_pos h630, if_neg h631, if_pos h652, if_pos h653, if_pos h654, if_neg h655, if_neg h656, if_neg h657]; try rfl)
                          · (rw [zm_accept, if_neg h1, if_pos h338, if_neg h339, if_neg h586, if_pos h630, if_neg h631, if_pos h652, if_pos h653, if_pos h654, if_neg h655, if_neg h656, if_neg h657]; try rfl)
                  · refine wp_seg 1 (P := none) (ls' := [some (aR 5 (0)), some (aI (c)), some (aI (1))]) (st' := [aI (1)]) (σ' := σ) rq_65 rfl True.intro (i' := 55) rfl ?_
                    refine wp_if rq_65 rfl (fun (h659 : (1 : Int) = (0 : Int)) => absurd h659 (show ¬ ((1 : Int) = (0 : Int)) from by decide)) (fun _ => ?_)
                    refine wp_seg 2 (P := none) (ls' := [some (aR 5 (0)), some (aI (c)), some (aI (1))]) (st' := [aI (3), aR 5 (0)]) (σ' := σ) rq_65 rfl True.intro (i' := 58) rfl ?_
                    refine wp_call (C := 5) (As := [aR 5 (0), aI (3)]) (rest := []) rq_65 (ev_openPart (3) σ ) rfl rfl (show clOK 65 66 0 0 0 2 5 = true by decide +kernel) rfl (show 0 ≤ 4 by decide) (fun _ => ⟨_, rfl⟩) rfl (c' := 0) (s' := 0) rfl rfl ?_
                    refine wp_seg 10 (P := none) (ls' := [some (aR 5 (0)), some (aI (c)), some (aI (1))]) (st' := [aI (108), aI (c), aI (wr ((wr ((4) * ((zm_openPart (3) σ) 5 (0) 4))) + (3))), aR 7 (185)]) (σ' := (zm_openPart (3) σ)) rq_65 rfl True.intro (i' := 69) rfl ?_
                    refine wp_icmp rq_65 rfl (fun (h660 : ¬ (c) = 108) => ?_) (fun (h660 : ¬ (¬ (c) = 108)) => ?_)
                    · refine wp_seg 1 (P := none) (ls' := [some (aR 5 (0)), some (aI (c)), some (aI (1))]) (st' := [aI (1), aI (wr ((wr ((4) * ((zm_openPart (3) σ) 5 (0) 4))) + (3))), aR 7 (185)]) (σ' := (zm_openPart (3) σ)) rq_65 rfl True.intro (i' := 73) rfl ?_
                      refine wp_call (C := 7) (As := [aR 7 (185), aI (wr ((wr ((4) * ((zm_openPart (3) σ) 5 (0) 4))) + (3))), aI (1)]) (rest := []) rq_65 (ev_set (185) (wr ((wr ((4) * ((zm_openPart (3) σ) 5 (0) 4))) + (3))) (1) (zm_openPart (3) σ) ) rfl rfl (show clOK 65 79 0 0 0 3 7 = true by decide +kernel) rfl (show 0 ≤ 4 by decide) (fun _ => ⟨_, rfl⟩) rfl (c' := 0) (s' := 0) rfl rfl ?_
                      refine wp_goto rq_65 rfl ?_
                      refine wp_seg 1 (P := none) (ls' := [some (aR 5 (0)), some (aI (c)), some (aI (1))]) (st' := [aI (1)]) (σ' := (rset (zm_openPart (3) σ) (185) (wr ((wr ((4) * ((zm_openPart (3) σ) 5 (0) 4))) + (3))) (1))) rq_65 rfl True.intro (i' := 101) rfl ?_
                      refine wp_zret rq_65 rfl rt_65 ?_ ⟨?_, ?_⟩
                      · first | exact Or.inl rfl | exact Or.inr rfl
                      · (rw [zo_accept, if_neg h1, if_pos h338, if_neg h339, if_neg h586, if_pos h630, if_neg h631, if_pos h652, if_pos h653, if_neg h654, if_pos h660]; try rfl)
                      · (rw [zm_accept, if_neg h1, if_pos h338, if_neg h339, if_neg h586, if_pos h630, if_neg h631, if_pos h652, if_pos h653, if_neg h654, if_pos h660]; try rfl)
                    · refine wp_seg 1 (P := none) (ls' := [some (aR 5 (0)), some (aI (c)), some (aI (1))]) (st' := [aI (0), aI (wr ((wr ((4) * ((zm_openPart (3) σ) 5 (0) 4))) + (3))), aR 7 (185)]) (σ' := (zm_openPart (3) σ)) rq_65 rfl True.intro (i' := 71) rfl ?_
                      refine wp_goto rq_65 rfl ?_
                      refine wp_call (C := 7) (As := [aR 7 (185), aI (wr ((wr ((4) * ((zm_openPart (3) σ) 5 (0) 4))) + (3))), aI (0)]) (rest := []) rq_65 (ev_set (185) (wr ((wr ((4) * ((zm_openPart (3) σ) 5 (0) 4))) + (3))) (0) (zm_openPart (3) σ) ) rfl rfl (show clOK 65 79 0 0 0 3 7 = true by decide +kernel) rfl (show 0 ≤ 4 by decide) (fun _ => ⟨_, rfl⟩) rfl (c' := 0) (s' := 0) rfl rfl ?_
                      refine wp_goto rq_65 rfl ?_
                      refine wp_seg 1 (P := none) (ls' := [some (aR 5 (0)), some (aI (c)), some (aI (1))]) (st' := [aI (1)]) (σ' := (rset (zm_openPart (3) σ) (185) (wr ((wr ((4) * ((zm_openPart (3) σ) 5 (0) 4))) + (3))) (0))) rq_65 rfl True.intro (i' := 101) rfl ?_
                      refine wp_zret rq_65 rfl rt_65 ?_ ⟨?_, ?_⟩
                      · first | exact Or.inl rfl | exact Or.inr rfl
                      · (rw [zo_accept, if_neg h1, if_pos h338, if_neg h339, if_neg h586, if_pos h630, if_neg h631, if_pos h652, if_pos h653, if_neg h654, if_neg h660]; try rfl)
                      · (rw [zm_accept, if_neg h1, if_pos h338, if_neg h339, if_neg h586, if_pos h630, if_neg h631, if_pos h652, if_pos h653, if_neg h654, if_neg h660]; try rfl)
                · refine wp_seg 2 (P := none) (ls' := [some (aR 5 (0)), some (aI (c)), some (aI (1))]) (st' := [aI (114), aI (c)]) (σ' := σ) rq_65 rfl True.intro (i' := 49) rfl ?_
                  refine wp_icmp rq_65 rfl (fun (h661 : ¬ (c) = 114) => ?_) (fun (h661 : ¬ (¬ (c) = 114)) => ?_)
                  · refine wp_seg 2 (P := none) (ls' := [some (aR 5 (0)), some (aI (c)), some (aI (1))]) (st' := [aI (59), aI (c)]) (σ' := σ) rq_65 rfl True.intro (i' := 77) rfl ?_
                    refine wp_icmp rq_65 rfl (fun (h662 : ¬ (c) = 59) => ?_) (fun (h662 : ¬ (¬ (c) = 59)) => ?_)
                    · refine wp_seg 1 (P := none) (ls' := [some (aR 5 (0)), some (aI (c)), some (aI (1))]) (st' := [aI (0)]) (σ' := σ) rq_65 rfl True.intro (i' := 99) rfl ?_
                      refine wp_zret rq_65 rfl rt_65 ?_ ⟨?_, ?_⟩
                      · first | exact Or.inl rfl | exact Or.inr rfl
                      · (rw [zo_accept, if_neg h1, if_pos h338, if_neg h339, if_neg h586, if_pos h630, if_neg h631, if_pos h652, if_neg h653, if_pos h661, if_pos h662]; try rfl)
                      · (rw [zm_accept, if_neg h1, if_pos h338, if_neg h339, if_neg h586, if_pos h630, if_neg h631, if_pos h652, if_neg h653, if_pos h661, if_pos h662]; try rfl)
                    · refine wp_seg 3 (P := none) (ls' := [some (aR 5 (0)), some (aI (c)), some (aI (1))]) (st' := [aI (3), aI (σ 5 (0) 5)]) (σ' := σ) rq_65 rfl True.intro (i' := 81) rfl ?_
                      refine wp_icmp rq_65 rfl (fun (h663 : (σ 5 (0) 5) = 3) => ?_) (fun (h663 : ¬ ((σ 5 (0) 5) = 3)) => ?_)
                      · refine wp_seg 8 (P := none) (ls' := [some (aR 5 (0)), some (aI (c)), some (aI (1))]) (st' := [aI (0), aR 5 (0)]) (σ' := (up σ 5 (0) 4 (wr ((σ 5 (0) 4) + (1))))) rq_65 rfl True.intro (i' := 96) rfl ?_
                        refine wp_call (C := 5) (As := [aR 5 (0), aI (0)]) (rest := []) rq_65 (ev_openPart (0) (up σ 5 (0) 4 (wr ((σ 5 (0) 4) + (1)))) ) rfl rfl (show clOK 65 66 0 0 0 2 5 = true by decide +kernel) rfl (show 0 ≤ 4 by decide) (fun _ => ⟨_, rfl⟩) rfl (c' := 0) (s' := 0) rfl rfl ?_
                        refine wp_goto rq_65 rfl ?_
                        refine wp_seg 1 (P := none) (ls' := [some (aR 5 (0)), some (aI (c)), some (aI (1))]) (st' := [aI (1)]) (σ' := (zm_openPart (0) (up σ 5 (0) 4 (wr ((σ 5 (0) 4) + (1)))))) rq_65 rfl True.intro (i' := 101) rfl ?_
                        refine wp_zret rq_65 rfl rt_65 ?_ ⟨?_, ?_⟩
                        · first | exact Or.inl rfl | exact Or.inr rfl
                        · (rw [zo_accept, if_neg h1, if_pos h338, if_neg h339, if_neg h586, if_pos h630, if_neg h631, if_pos h652, if_neg h653, if_pos h661, if_neg h662, if_pos h663]; try rfl)
                        · (rw [zm_accept, if_neg h1, if_pos h338, if_neg h339, if_neg h586, if_pos h630, if_neg h631, if_pos h652, if_neg h653, if_pos h661, if_neg h662, if_pos h663]; try rfl)
                      · refine wp_seg 3 (P := none) (ls' := [some (aR 5 (0)), some (aI (c)), some (aI (1))]) (st' := [aI (2), aI (σ 5 (0) 5)]) (σ' := σ) rq_65 rfl True.intro (i' := 85) rfl ?_
                        refine wp_icmp rq_65 rfl (fun (h664 : ¬ (σ 5 (0) 5) = 2) => ?_) (fun (h664 : ¬ (¬ (σ 5 (0) 5) = 2)) => ?_)
                        · refine wp_seg 1 (P := none) (ls' := [some (aR 5 (0)), some (aI (c)), some (aI (1))]) (st' := [aI (0)]) (σ' := σ) rq_65 rfl True.intro (i' := 99) rfl ?_
                          refine wp_zret rq_65 rfl rt_65 ?_ ⟨?_, ?_⟩
                          · first | exact Or.inl rfl | exact Or.inr rfl
                          · (rw [zo_accept, if_neg h1, if_pos h338, if_neg h339, if_neg h586, if_pos h630, if_neg h631, if_pos h652, if_neg h653, if_pos h661, if_neg h662, if_neg h663, if_pos h664]; try rfl)
                          · (rw [zm_accept, if_neg h1, if_pos h338, if_neg h339, if_neg h586, if_pos h630, if_neg h631, if_pos h652, if_neg h653, if_pos h661, if_neg h662, if_neg h663, if_pos h664]; try rfl)
                        · refine wp_seg 1 (P := none) (ls' := [some (aR 5 (0)), some (aI (c)), some (aI (1))]) (st' := [aI (1)]) (σ' := σ) rq_65 rfl True.intro (i' := 87) rfl ?_
                          refine wp_if rq_65 rfl (fun (h665 : (1 : Int) = (0 : Int)) => absurd h665 (show ¬ ((1 : Int) = (0 : Int)) from by decide)) (fun _ => ?_)
                          refine wp_seg 8 (P := none) (ls' := [some (aR 5 (0)), some (aI (c)), some (aI (1))]) (st' := [aI (0), aR 5 (0)]) (σ' := (up σ 5 (0) 4 (wr ((σ 5 (0) 4) + (1))))) rq_65 rfl True.intro (i' := 96) rfl ?_
                          refine wp_call (C := 5) (As := [aR 5 (0), aI (0)]) (rest := []) rq_65 (ev_openPart (0) (up σ 5 (0) 4 (wr ((σ 5 (0) 4) + (1)))) ) rfl rfl (show clOK 65 66 0 0 0 2 5 = true by decide +kernel) rfl (show 0 ≤ 4 by decide) (fun _ => ⟨_, rfl⟩) rfl (c' := 0) (s' := 0) rfl rfl ?_
                          refine wp_goto rq_65 rfl ?_
                          refine wp_seg 1 (P := none) (ls' := [some (aR 5 (0)), some (aI (c)), some (aI (1))]) (st' := [aI (1)]) (σ' := (zm_openPart (0) (up σ 5 (0) 4 (wr ((σ 5 (0) 4) + (1)))))) rq_65 rfl True.intro (i' := 101) rfl ?_
                          refine wp_zret rq_65 rfl rt_65 ?_ ⟨?_, ?_⟩
                          · first | exact Or.inl rfl | exact Or.inr rfl
                          · (rw [zo_accept, if_neg h1, if_pos h338, if_neg h339, if_neg h586, if_pos h630, if_neg h631, if_pos h652, if_neg h653, if_pos h661, if_neg h662, if_neg h663, if_neg h664]; try rfl)
                          · (rw [zm_accept, if_neg h1, if_pos h338, if_neg h339, if_neg h586, if_pos h630, if_neg h631, if_pos h652, if_neg h653, if_pos h661, if_neg h662, if_neg h663, if_neg h664]; try rfl)
                  · refine wp_seg 3 (P := none) (ls' := [some (aR 5 (0)), some (aI (c)), some (aI (1))]) (st' := [aI (2), aI (σ 5 (0) 5)]) (σ' := σ) rq_65 rfl True.intro (i' := 53) rfl ?_
                    refine wp_icmp rq_65 rfl (fun (h666 : ¬ (σ 5 (0) 5) = 2) => ?_) (fun (h666 : ¬ (¬ (σ 5 (0) 5) = 2)) => ?_)
                    · refine wp_seg 2 (P := none) (ls' := [some (aR 5 (0)), some (aI (c)), some (aI (1))]) (st' := [aI (59), aI (c)]) (σ' := σ) rq_65 rfl True.intro (i' := 77) rfl ?_
                      refine wp_icmp rq_65 rfl (fun (h667 : ¬ (c) = 59) => ?_) (fun (h667 : ¬ (¬ (c) = 59)) => ?_)
                      · refine wp_seg 1 (P := none) (ls' := [some (aR 5 (0)), some (aI (c)), some (aI (1))]) (st' := [aI (0)]) (σ' := σ) rq_65 rfl True.intro (i' := 99) rfl ?_
                        refine wp_zret rq_65 rfl rt_65 ?_ ⟨?_, ?_⟩
                        · first | exact Or.inl rfl | exact Or.inr rfl
                        · (rw [zo_accept, if_neg h1, if_pos h338, if_neg h339, if_neg h586, if_pos h630, if_neg h631, if_pos h652, if_neg h653, if_neg h661, if_pos h666, if_pos h667]; try rfl)
                        · (rw [zm_accept, if_neg h1, if_pos h338, if_neg h339, if_neg h586, if_pos h630, if_neg h631, if_pos h652, if_neg h653, if_neg h661, if_pos h666, if_pos h667]; try rfl)
                      · refine wp_seg 3 (P := none) (ls' := [some (aR 5 (0)), some (aI (c)), some (aI (1))]) (st' := [aI (3), aI (σ 5 (0) 5)]) (σ' := σ) rq_65 rfl True.intro (i' := 81) rfl ?_
                        refine wp_icmp rq_65 rfl (fun (h668 : (σ 5 (0) 5) = 3) => ?_) (fun (h668 : ¬ ((σ 5 (0) 5) = 3)) => ?_)
                        · refine wp_seg 8 (P := none) (ls' := [some (aR 5 (0)), some (aI (c)), some (aI (1))]) (st' := [aI (0), aR 5 (0)]) (σ' := (up σ 5 (0) 4 (wr ((σ 5 (0) 4) + (1))))) rq_65 rfl True.intro (i' := 96) rfl ?_
                          refine wp_call (C := 5) (As := [aR 5 (0), aI (0)]) (rest := []) rq_65 (ev_openPart (0) (up σ 5 (0) 4 (wr ((σ 5 (0) 4) + (1)))) ) rfl rfl (show clOK 65 66 0 0 0 2 5 = true by decide +kernel) rfl (show 0 ≤ 4 by decide) (fun _ => ⟨_, rfl⟩) rfl (c' := 0) (s' := 0) rfl rfl ?_
                          refine wp_goto rq_65 rfl ?_
                          refine wp_seg 1 (P := none) (ls' := [some (aR 5 (0)), some (aI (c)), some (aI (1))]) (st' := [aI (1)]) (σ' := (zm_openPart (0) (up σ 5 (0) 4 (wr ((σ 5 (0) 4) + (1)))))) rq_65 rfl True.intro (i' := 101) rfl ?_
                          refine wp_zret rq_65 rfl rt_65 ?_ ⟨?_, ?_⟩
                          · first | exact Or.inl rfl | exact Or.inr rfl
                          · (rw [zo_accept, if_neg h1, if_pos h338, if_neg h339, if_neg h586, if_pos h630, if_neg h631, if_pos h652, if_neg h653, if_neg h661, if_pos h666, if_neg h667, if_pos h668]; try rfl)
                          · (rw [zm_accept, if_neg h1, if_pos h338, if_neg h339, if_neg h586, if_pos h630, if_neg h631, if_pos h652, if_neg h653, if_neg h661, if_pos h666, if_neg h667, if_pos h668]; try rfl)
                        · refine wp_seg 3 (P := none) (ls' := [some (aR 5 (0)), some (aI (c)), some (aI (1))]) (st' := [aI (2), aI (σ 5 (0) 5)]) (σ' := σ) rq_65 rfl True.intro (i' := 85) rfl ?_
                          refine wp_icmp rq_65 rfl (fun (h669 : ¬ (σ 5 (0) 5) = 2) => ?_) (fun (h669 : ¬ (¬ (σ 5 (0) 5) = 2)) => ?_)
                          · refine wp_seg 1 (P := none) (ls' := [some (aR 5 (0)), some (aI (c)), some (aI (1))]) (st' := [aI (0)]) (σ' := σ) rq_65 rfl True.intro (i' := 99) rfl ?_
                            refine wp_zret rq_65 rfl rt_65 ?_ ⟨?_, ?_⟩
                            · first | exact Or.inl rfl | exact Or.inr rfl
                            · (rw [zo_accept, if_neg h1, if_pos h338, if_neg h339, if_neg h586, if_pos h630, if_neg h631, if_pos h652, if_neg h653, if_neg h661, if_pos h666, if_neg h667, if_neg h668, if_pos h669]; try rfl)
                            · (rw [zm_accept, if_neg h1, if_pos h338, if_neg h339, if_neg h586, if_pos h630, if_neg h631, if_pos h652, if_neg h653, if_neg h661, if_pos h666, if_neg h667, if_neg h668, if_pos h669]; try rfl)
                          · refine wp_seg 1 (P := none) (ls' := [some (aR 5 (0)), some (aI (c)), some (aI (1))]) (st' := [aI (1)]) (σ' := σ) rq_65 rfl True.intro (i' := 87) rfl ?_
                            refine wp_if rq_65 rfl (fun (h670 : (1 : Int) = (0 : Int)) => absurd h670 (show ¬ ((1 : Int) = (0 : Int)) from by decide)) (fun _ => ?_)
                            refine wp_seg 8 (P := none) (ls' := [some (aR 5 (0)), some (aI (c)), some (aI (1))]) (st' := [aI (0), aR 5 (0)]) (σ' := (up σ 5 (0) 4 (wr ((σ 5 (0) 4) + (1))))) rq_65 rfl True.intro (i' := 96) rfl ?_
                            refine wp_call (C := 5) (As := [aR 5 (0), aI (0)]) (rest := []) rq_65 (ev_openPart (0) (up σ 5 (0) 4 (wr ((σ 5 (0) 4) + (1)))) ) rfl rfl (show clOK 65 66 0 0 0 2 5 = true by decide +kernel) rfl (show 0 ≤ 4 by decide) (fun _ => ⟨_, rfl⟩) rfl (c' := 0) (s' := 0) rfl rfl ?_
                            refine wp_goto rq_65 rfl ?_
                            refine wp_seg 1 (P := none) (ls' := [some (aR 5 (0)), some (aI (c)), some (aI (1))]) (st' := [aI (1)]) (σ' := (zm_openPart (0) (up σ 5 (0) 4 (wr ((σ 5 (0) 4) + (1)))))) rq_65 rfl True.intro (i' := 101) rfl ?_
                            refine wp_zret rq_65 rfl rt_65 ?_ ⟨?_, ?_⟩
                            · first | exact Or.inl rfl | exact Or.inr rfl
                            · (rw [zo_accept, if_neg h1, if_pos h338, if_neg h339, if_neg h586, if_pos h630, if_neg h631, if_pos h652, if_neg h653, if_neg h661, if_pos h666, if_neg h667, if_neg h668, if_neg h669]; try rfl)
                            · (rw [zm_accept, if_neg h1, if_pos h338, if_neg h339, if_neg h586, if_pos h630, if_neg h631, if_pos h652, if_neg h653, if_neg h661, if_pos h666, if_neg h667, if_neg h668, if_neg h669]; try rfl)
                    · refine wp_seg 1 (P := none) (ls' := [some (aR 5 (0)), some (aI (c)), some (aI (1))]) (st' := [aI (1)]) (σ' := σ) rq_65 rfl True.intro (i' := 55) rfl ?_
                      refine wp_if rq_65 rfl (fun (h671 : (1 : Int) = (0 : Int)) => absurd h671 (show ¬ ((1 : Int) = (0 : Int)) from by decide)) (fun _ => ?_)
                      refine wp_seg 2 (P := none) (ls' := [some (aR 5 (0)), some (aI (c)), some (aI (1))]) (st' := [aI (3), aR 5 (0)]) (σ' := σ) rq_65 rfl True.intro (i' := 58) rfl ?_
                      refine wp_call (C := 5) (As := [aR 5 (0), aI (3)]) (rest := []) rq_65 (ev_openPart (3) σ ) rfl rfl (show clOK 65 66 0 0 0 2 5 = true by decide +kernel) rfl (show 0 ≤ 4 by decide) (fun _ => ⟨_, rfl⟩) rfl (c' := 0) (s' := 0) rfl rfl ?_
                      refine wp_seg 10 (P := none) (ls' := [some (aR 5 (0)), some (aI (c)), some (aI (1))]) (st' := [aI (108), aI (c), aI (wr ((wr ((4) * ((zm_openPart (3) σ) 5 (0) 4))) + (3))), aR 7 (185)]) (σ' := (zm_openPart (3) σ)) rq_65 rfl True.intro (i' := 69) rfl ?_
                      refine wp_icmp rq_65 rfl (fun (h672 : ¬ (c) = 108) => ?_) (fun (h672 : ¬ (¬ (c) = 108)) => ?_)
                      · refine wp_seg 1 (P := none) (ls' := [some (aR 5 (0)), some (aI (c)), some (aI (1))]) (st' := [aI (1), aI (wr ((wr ((4) * ((zm_openPart (3) σ) 5 (0) 4))) + (3))), aR 7 (185)]) (σ' := (zm_openPart (3) σ)) rq_65 rfl True.intro (i' := 73) rfl ?_
                        refine wp_call (C := 7) (As := [aR 7 (185), aI (wr ((wr ((4) * ((zm_openPart (3) σ) 5 (0) 4))) + (3))), aI (1)]) (rest := []) rq_65 (ev_set (185) (wr ((wr ((4) * ((zm_openPart (3) σ) 5 (0) 4))) + (3))) (1) (zm_openPart (3) σ) ) rfl rfl (show clOK 65 79 0 0 0 3 7 = true by decide +kernel) rfl (show 0 ≤ 4 by decide) (fun _ => ⟨_, rfl⟩) rfl (c' := 0) (s' := 0) rfl rfl ?_
                        refine wp_goto rq_65 rfl ?_
                        refine wp_seg 1 (P := none) (ls' := [some (aR 5 (0)), some (aI (c)), some (aI (1))]) (st' := [aI (1)]) (σ' := (rset (zm_openPart (3) σ) (185) (wr ((wr ((4) * ((zm_openPart (3) σ) 5 (0) 4))) + (3))) (1))) rq_65 rfl True.intro (i' := 101) rfl ?_
                        refine wp_zret rq_65 rfl rt_65 ?_ ⟨?_, ?_⟩
                        · first | exact Or.inl rfl | exact Or.inr rfl
                        · (rw [zo_accept, if_neg h1, if_pos h338, if_neg h339, if_neg h586, if_pos h630, if_neg h631, if_pos h652, if_neg h653, if_neg h661, if_neg h666, if_pos h672]; try rfl)
                        · (rw [zm_accept, if_neg h1, if_pos h338, if_neg h339, if_neg h586, if_pos h630, if_neg h631, if_pos h652, if_neg h653, if_neg h661, if_neg h666, if_pos h672]; try rfl)
                      · refine wp_seg 1 (P := none) (ls' := [some (aR 5 (0)), some (aI (c)), some (aI (1))]) (st' := [aI (0), aI (wr ((wr ((4) * ((zm_openPart (3) σ) 5 (0) 4))) + (3))), aR 7 (185)]) (σ' := (zm_openPart (3) σ)) rq_65 rfl True.intro (i' := 71) rfl ?_
                        refine wp_goto rq_65 rfl ?_
                        refine wp_call (C := 7) (As := [aR 7 (185), aI (wr ((wr ((4) * ((zm_openPart (3) σ) 5 (0) 4))) + (3))), aI (0)]) (rest := []) rq_65 (ev_set (185) (wr ((wr ((4) * ((zm_openPart (3) σ) 5 (0) 4))) + (3))) (0) (zm_openPart (3) σ) ) rfl rfl (show clOK 65 79 0 0 0 3 7 = true by decide +kernel) rfl (show 0 ≤ 4 by decide) (fun _ => ⟨_, rfl⟩) rfl (c' := 0) (s' := 0) rfl rfl ?_
                        refine wp_goto rq_65 rfl ?_
                        refine wp_seg 1 (P := none) (ls' := [some (aR 5 (0)), some (aI (c)), some (aI (1))]) (st' := [aI (1)]) (σ' := (rset (zm_openPart (3) σ) (185) (wr ((wr ((4) * ((zm_openPart (3) σ) 5 (0) 4))) + (3))) (0))) rq_65 rfl True.intro (i' := 101) rfl ?_
                        refine wp_zret rq_65 rfl rt_65 ?_ ⟨?_, ?_⟩
                        · first | exact Or.inl rfl | exact Or.inr rfl
                        · (rw [zo_accept, if_neg h1, if_pos h338, if_neg h339, if_neg h586, if_pos h630, if_neg h631, if_pos h652, if_neg h653, if_neg h661, if_neg h666, if_neg h672]; try rfl)
                        · (rw [zm_accept, if_neg h1, if_pos h338, if_neg h339, if_neg h586, if_pos h630, if_neg h631, if_pos h652, if_neg h653, if_neg h661, if_neg h666, if_neg h672]; try rfl)
              · refine wp_seg 1 (P := none) (ls' := [some (aR 5 (0)), some (aI (c)), some (aI (1))]) (st' := [aI (1)]) (σ' := σ) rq_65 rfl True.intro (i' := 39) rfl ?_
                refine wp_if rq_65 rfl (fun (h673 : (1 : Int) = (0 : Int)) => absurd h673 (show ¬ ((1 : Int) = (0 : Int)) from by decide)) (fun _ => ?_)
                refine wp_seg 2 (P := none) (ls' := [some (aR 5 (0)), some (aI (c)), some (aI (1))]) (st' := [aI (2), aR 5 (0)]) (σ' := σ) rq_65 rfl True.intro (i' := 42) rfl ?_
                refine wp_call (C := 5) (As := [aR 5 (0), aI (2)]) (rest := []) rq_65 (ev_openPart (2) σ ) rfl rfl (show clOK 65 66 0 0 0 2 5 = true by decide +kernel) rfl (show 0 ≤ 4 by decide) (fun _ => ⟨_, rfl⟩) rfl (c' := 0) (s' := 0) rfl rfl ?_
                refine wp_goto rq_65 rfl ?_
                refine wp_seg 1 (P := none) (ls' := [some (aR 5 (0)), some (aI (c)), some (aI (1))]) (st' := [aI (1)]) (σ' := (zm_openPart (2) σ)) rq_65 rfl True.intro (i' := 101) rfl ?_
                refine wp_zret rq_65 rfl rt_65 ?_ ⟨?_, ?_⟩
                · first | exact Or.inl rfl | exact Or.inr rfl
                · (rw [zo_accept, if_neg h1, if_pos h338, if_neg h339, if_neg h586, if_pos h630, if_neg h631, if_neg h652]; try rfl)
                · (rw [zm_accept, if_neg h1, if_pos h338, if_neg h339, if_neg h586, if_pos h630, if_neg h631, if_neg h652]; try rfl)
          · refine wp_seg 1 (P := none) (ls' := [some (aR 5 (0)), some (aI (c)), some (aI (1))]) (st' := [aI (1)]) (σ' := σ) rq_65 rfl True.intro (i' := 26) rfl ?_
            refine wp_if rq_65 rfl (fun (h674 : (1 : Int) = (0 : Int)) => absurd h674 (show ¬ ((1 : Int) = (0 : Int)) from by decide)) (fun _ => ?_)
            refine wp_seg 2 (P := none) (ls' := [some (aR 5 (0)), some (aI (c)), some (aI (1))]) (st' := [aI (1), aR 5 (0)]) (σ' := σ) rq_65 rfl True.intro (i' := 29) rfl ?_
            refine wp_call (C := 5) (As := [aR 5 (0), aI (1)]) (rest := []) rq_65 (ev_openPart (1) σ ) rfl rfl (show clOK 65 66 0 0 0 2 5 = true by decide +kernel) rfl (show 0 ≤ 4 by decide) (fun _ => ⟨_, rfl⟩) rfl (c' := 0) (s' := 0) rfl rfl ?_
            refine wp_goto rq_65 rfl ?_
            refine wp_seg 1 (P := none) (ls' := [some (aR 5 (0)), some (aI (c)), some (aI (1))]) (st' := [aI (1)]) (σ' := (zm_openPart (1) σ)) rq_65 rfl True.intro (i' := 101) rfl ?_
            refine wp_zret rq_65 rfl rt_65 ?_ ⟨?_, ?_⟩
            · first | exact Or.inl rfl | exact Or.inr rfl
            · (rw [zo_accept, if_neg h1, if_pos h338, if_neg h339, if_neg h586, if_neg h630]; try rfl)
            · (rw [zm_accept, if_neg h1, if_pos h338, if_neg h339, if_neg h586, if_neg h630]; try rfl)
    · refine wp_seg 4 (P := none) (ls' := [some (aR 5 (0)), some (aI (c)), none]) (st' := [aI (wr ((c) - (48))), aR 5 (0)]) (σ' := σ) rq_65 rfl True.intro (i' := 10) rfl ?_
      refine wp_call (C := 5) (As := [aR 5 (0), aI (wr ((c) - (48)))]) (rest := []) rq_65 (ev_acceptDigit (wr ((c) - (48))) σ ) rfl rfl (show clOK 65 67 0 0 0 2 5 = true by decide +kernel) rfl (show 0 ≤ 4 by decide) (fun _ => ⟨_, rfl⟩) rfl (c' := 0) (s' := 0) rfl rfl ?_
      refine wp_zret rq_65 rfl rt_65 ?_ ⟨?_, ?_⟩
      · first | exact Or.inl rfl | exact Or.inr rfl | exact acceptDigit_01 _ _
      · (rw [zo_accept, if_neg h1, if_neg h338]; try rfl)
      · (rw [zm_accept, if_neg h1, if_neg h338]; try rfl)

