/-! The text of results: the class's scan. -/
def Rn (f : Int → Int) (n : Int) (s0 : Mem) (i : Int) (s : Mem) : Prop := ∀ P : Int → Mem → Prop, P 0 s0 → (∀ i s, P i s → i < n → zo_accept (f i) s = 1 → P (i + 1) (zm_accept (f i) s)) → P i s
theorem Rn_z {f : Int → Int} {n : Int} {s0 : Mem} : Rn f n s0 0 s0 := fun P h0 hs => h0
theorem Rn_s {f : Int → Int} {n i : Int} {s0 s : Mem} (h : Rn f n s0 i s) (hi : i < n) (ha : zo_accept (f i) s = 1) : Rn f n s0 (i + 1) (zm_accept (f i) s) := fun P h0 hs => hs i s (h P h0 hs) hi ha
section Scan
variable {i n : Int} {f : Int → Int} {s s0 σ : Mem}

theorem scan_y (i0 : 0 ≤ i) (hi : i < s 5 0 1) (hl : s 5 0 1 ≤ 60) (hf : s 5 0 2 = -1) (ha : zo_accept (s 12 0 i) s = 1) (Q : Out → Mem → Prop) (hq : wp true 64 11 [some (aR 5 (0)), some (aI ((i + 1)))] [] (zm_accept (s 12 0 i) s) 0 0 Q) : wp true 64 11 [some (aR 5 (0)), some (aI (i))] [] s 0 0 Q := by
  refine wp_seg 3 (P := none) (ls' := [some (aR 5 (0)), some (aI (i))]) (st' := [aI (s 5 (0) 1), aI (i)]) (σ' := s) rq_64 rfl True.intro (i' := 14) rfl ?_
  refine wp_icmp rq_64 rfl (fun (h1 : (s 5 (0) 1) ≤ (i)) => absurd h1 (show ¬ ((s 5 (0) 1) ≤ (i)) from by omega)) (fun _ => ?_)
  refine wp_seg 4 (P := none) (ls' := [some (aR 5 (0)), some (aI (i))]) (st' := [aI (alen s 12 (0)), aI (i)]) (σ' := s) rq_64 rfl True.intro (i' := 19) rfl ?_
  refine wp_icmp rq_64 rfl (fun (h2 : (alen s 12 (0)) ≤ (i)) => absurd h2 (show ¬ ((alen s 12 (0)) ≤ (i)) from by (have e8 : alen s 12 0 = 60 := rfl; omega))) (fun _ => ?_)
  refine wp_seg 3 (P := none) (ls' := [some (aR 5 (0)), some (aI (i))]) (st' := [aI (-1), aI (s 5 (0) 2)]) (σ' := s) rq_64 rfl True.intro (i' := 23) rfl ?_
  refine wp_icmp rq_64 rfl (fun (h3 : ¬ (s 5 (0) 2) = (-1)) => absurd h3 (show ¬ (¬ (s 5 (0) 2) = (-1)) from by omega)) (fun _ => ?_)
  refine wp_seg 5 (P := some (0 ≤ (i) ∧ (i) < 60)) (ls' := [some (aR 5 (0)), some (aI (i))]) (st' := [aI (s 12 (0) (i)), aR 5 (0)]) (σ' := s) rq_64 rfl ?_ (i' := 29) rfl ?_
  · show 0 ≤ (i) ∧ (i) < 60
    (first | decide | (exact ⟨by omega, by omega⟩))
  refine wp_call (C := 5) (As := [aR 5 (0), aI (s 12 (0) (i))]) (rest := []) rq_64 (ev_accept (s 12 (0) (i)) s ) rfl rfl (show clOK 64 65 0 0 0 2 5 = true by decide +kernel) rfl (show 0 ≤ 4 by decide) (fun _ => ⟨_, rfl⟩) rfl (c' := 0) (s' := 0) rfl rfl ?_
  refine wp_if rq_64 rfl (fun _ => ?_) (fun (h4 : ¬ (¬ (zo_accept (s 12 (0) (i)) s) = 0)) => absurd (show ¬ (zo_accept (s 12 (0) (i)) s) = 0 from by omega) h4)
  refine wp_seg 1 (P := none) (ls' := [some (aR 5 (0)), some (aI (wr (i + 1)))]) (st' := []) (σ' := (zm_accept (s 12 (0) (i)) s)) rq_64 rfl True.intro (i' := 35) rfl ?_
  refine wp_goto rq_64 rfl ?_
  rw [wr_eq (z := i + 1) (by omega) (by omega)]
  exact hq

theorem scan_e (hi : s 5 0 1 ≤ i) (Q : Out → Mem → Prop) (hq : wp true 64 36 [some (aR 5 (0)), some (aI (i))] [] s 0 0 Q) : wp true 64 11 [some (aR 5 (0)), some (aI (i))] [] s 0 0 Q := by
  refine wp_seg 3 (P := none) (ls' := [some (aR 5 (0)), some (aI (i))]) (st' := [aI (s 5 (0) 1), aI (i)]) (σ' := s) rq_64 rfl True.intro (i' := 14) rfl ?_
  refine wp_icmp rq_64 rfl (fun _ => ?_) (fun (h1 : ¬ ((s 5 (0) 1) ≤ (i))) => absurd (show (s 5 (0) 1) ≤ (i) from by omega) h1)
  exact hq

theorem scan_x (w : Int) (hf : ¬ s 5 0 2 = -1) (Q : Out → Mem → Prop) (hq : ∀ w, wp true 64 36 [some (aR 5 (0)), some (aI (w))] [] s 0 0 Q) : wp true 64 11 [some (aR 5 (0)), some (aI (w))] [] s 0 0 Q := by
  refine wp_seg 3 (P := none) (ls' := [some (aR 5 (0)), some (aI (w))]) (st' := [aI (s 5 (0) 1), aI (w)]) (σ' := s) rq_64 rfl True.intro (i' := 14) rfl ?_
  refine wp_icmp rq_64 rfl (fun (h1 : (s 5 (0) 1) ≤ (w)) => ?_) (fun (h1 : ¬ ((s 5 (0) 1) ≤ (w))) => ?_)
  · exact hq w
  · refine wp_seg 4 (P := none) (ls' := [some (aR 5 (0)), some (aI (w))]) (st' := [aI (alen s 12 (0)), aI (w)]) (σ' := s) rq_64 rfl True.intro (i' := 19) rfl ?_
    refine wp_icmp rq_64 rfl (fun (h2 : (alen s 12 (0)) ≤ (w)) => ?_) (fun (h2 : ¬ ((alen s 12 (0)) ≤ (w))) => ?_)
    · exact hq w
    · refine wp_seg 3 (P := none) (ls' := [some (aR 5 (0)), some (aI (w))]) (st' := [aI (-1), aI (s 5 (0) 2)]) (σ' := s) rq_64 rfl True.intro (i' := 23) rfl ?_
      refine wp_icmp rq_64 rfl (fun _ => ?_) (fun (h3 : ¬ (¬ (s 5 (0) 2) = (-1))) => absurd (show ¬ (s 5 (0) 2) = (-1) from hf) h3)
      exact hq w

theorem scan_n (i0 : 0 ≤ i) (hi : i < s 5 0 1) (hl : s 5 0 1 ≤ 60) (hf : s 5 0 2 = -1) (ha : zo_accept (s 12 0 i) s = 0) (hm : zm_accept (s 12 0 i) s = s) (Q : Out → Mem → Prop) (hq : ∀ w, wp true 64 36 [some (aR 5 (0)), some (aI (w))] [] (up s 5 0 2 i) 0 0 Q) : wp true 64 11 [some (aR 5 (0)), some (aI (i))] [] s 0 0 Q := by
  refine wp_seg 3 (P := none) (ls' := [some (aR 5 (0)), some (aI (i))]) (st' := [aI (s 5 (0) 1), aI (i)]) (σ' := s) rq_64 rfl True.intro (i' := 14) rfl ?_
  refine wp_icmp rq_64 rfl (fun (h1 : (s 5 (0) 1) ≤ (i)) => absurd h1 (show ¬ ((s 5 (0) 1) ≤ (i)) from by omega)) (fun _ => ?_)
  refine wp_seg 4 (P := none) (ls' := [some (aR 5 (0)), some (aI (i))]) (st' := [aI (alen s 12 (0)), aI (i)]) (σ' := s) rq_64 rfl True.intro (i' := 19) rfl ?_
  refine wp_icmp rq_64 rfl (fun (h2 : (alen s 12 (0)) ≤ (i)) => absurd h2 (show ¬ ((alen s 12 (0)) ≤ (i)) from by (have e8 : alen s 12 0 = 60 := rfl; omega))) (fun _ => ?_)
  refine wp_seg 3 (P := none) (ls' := [some (aR 5 (0)), some (aI (i))]) (st' := [aI (-1), aI (s 5 (0) 2)]) (σ' := s) rq_64 rfl True.intro (i' := 23) rfl ?_
  refine wp_icmp rq_64 rfl (fun (h3 : ¬ (s 5 (0) 2) = (-1)) => absurd h3 (show ¬ (¬ (s 5 (0) 2) = (-1)) from by omega)) (fun _ => ?_)
  refine wp_seg 5 (P := some (0 ≤ (i) ∧ (i) < 60)) (ls' := [some (aR 5 (0)), some (aI (i))]) (st' := [aI (s 12 (0) (i)), aR 5 (0)]) (σ' := s) rq_64 rfl ?_ (i' := 29) rfl ?_
  · show 0 ≤ (i) ∧ (i) < 60
    (first | decide | (exact ⟨by omega, by omega⟩))
  refine wp_call (C := 5) (As := [aR 5 (0), aI (s 12 (0) (i))]) (rest := []) rq_64 (ev_accept (s 12 (0) (i)) s ) rfl rfl (show clOK 64 65 0 0 0 2 5 = true by decide +kernel) rfl (show 0 ≤ 4 by decide) (fun _ => ⟨_, rfl⟩) rfl (c' := 0) (s' := 0) rfl rfl ?_
  refine wp_if rq_64 rfl (fun (h4 : ¬ (zo_accept (s 12 (0) (i)) s) = 0) => absurd h4 (show ¬ (¬ (zo_accept (s 12 (0) (i)) s) = 0) from by omega)) (fun _ => ?_)
  refine wp_seg 4 (P := none) (ls' := [some (aR 5 (0)), some (aI (wr (i + 1)))]) (st' := []) (σ' := (up (zm_accept (s 12 (0) (i)) s) 5 (0) 2 (i))) rq_64 rfl True.intro (i' := 35) rfl ?_
  refine wp_goto rq_64 rfl ?_
  rw [hm]
  refine scan_x _ (by rw [up_s]; omega) Q hq

theorem scan_f1 (w : Int) (hf : ¬ s 5 0 2 = -1) : wp true 64 36 [some (aR 5 (0)), some (aI (w))] [] s 0 0 (fun o' s' => o' = .inl none ∧ s' = up s 5 0 1 0) := by
  refine wp_seg 2 (P := none) (ls' := [some (aR 5 (0)), some (aI (w))]) (st' := [aI (s 5 (0) 4)]) (σ' := s) rq_64 rfl True.intro (i' := 38) rfl ?_
  refine wp_if rq_64 rfl (fun (h1 : (s 5 (0) 4) ≤ 0) => ?_) (fun (h1 : ¬ ((s 5 (0) 4) ≤ 0)) => ?_)
  · refine wp_seg 5 (P := none) (ls' := [some (aR 5 (0)), some (aI (0))]) (st' := [aI (-1), aI (s 5 (0) 2)]) (σ' := s) rq_64 rfl True.intro (i' := 52) rfl ?_
    refine wp_icmp rq_64 rfl (fun _ => ?_) (fun (h2 : ¬ (¬ (s 5 (0) 2) = (-1))) => absurd (show ¬ (s 5 (0) 2) = (-1) from by omega) h2)
    refine wp_seg 3 (P := none) (ls' := [some (aR 5 (0)), some (aI (0))]) (st' := []) (σ' := (up s 5 (0) 1 (0))) rq_64 rfl True.intro (i' := 62) rfl ?_
    refine wp_vret rq_64 rfl rt_64 ⟨?_, ?_⟩
    · rfl
    · rfl
  · refine wp_seg 2 (P := none) (ls' := [some (aR 5 (0)), some (aI (w))]) (st' := [aI (s 5 (0) 5)]) (σ' := s) rq_64 rfl True.intro (i' := 41) rfl ?_
    refine wp_if rq_64 rfl (fun (h3 : ¬ (s 5 (0) 5) = 0) => ?_) (fun (h3 : ¬ (¬ (s 5 (0) 5) = 0)) => ?_)
    · refine wp_seg 5 (P := none) (ls' := [some (aR 5 (0)), some (aI (0))]) (st' := [aI (-1), aI (s 5 (0) 2)]) (σ' := s) rq_64 rfl True.intro (i' := 52) rfl ?_
      refine wp_icmp rq_64 rfl (fun _ => ?_) (fun (h4 : ¬ (¬ (s 5 (0) 2) = (-1))) => absurd (show ¬ (s 5 (0) 2) = (-1) from by omega) h4)
      refine wp_seg 3 (P := none) (ls' := [some (aR 5 (0)), some (aI (0))]) (st' := []) (σ' := (up s 5 (0) 1 (0))) rq_64 rfl True.intro (i' := 62) rfl ?_
      refine wp_vret rq_64 rfl rt_64 ⟨?_, ?_⟩
      · rfl
      · rfl
    · refine wp_seg 2 (P := none) (ls' := [some (aR 5 (0)), some (aI (w))]) (st' := [aI (s 5 (0) 6)]) (σ' := s) rq_64 rfl True.intro (i' := 44) rfl ?_
      refine wp_if rq_64 rfl (fun (h5 : ¬ (s 5 (0) 6) = 0) => ?_) (fun (h5 : ¬ (¬ (s 5 (0) 6) = 0)) => ?_)
      · refine wp_seg 5 (P := none) (ls' := [some (aR 5 (0)), some (aI (0))]) (st' := [aI (-1), aI (s 5 (0) 2)]) (σ' := s) rq_64 rfl True.intro (i' := 52) rfl ?_
        refine wp_icmp rq_64 rfl (fun _ => ?_) (fun (h6 : ¬ (¬ (s 5 (0) 2) = (-1))) => absurd (show ¬ (s 5 (0) 2) = (-1) from by omega) h6)
        refine wp_seg 3 (P := none) (ls' := [some (aR 5 (0)), some (aI (0))]) (st' := []) (σ' := (up s 5 (0) 1 (0))) rq_64 rfl True.intro (i' := 62) rfl ?_
        refine wp_vret rq_64 rfl rt_64 ⟨?_, ?_⟩
        · rfl
        · rfl
      · refine wp_seg 1 (P := none) (ls' := [some (aR 5 (0)), some (aI (w))]) (st' := [aI (1)]) (σ' := s) rq_64 rfl True.intro (i' := 46) rfl ?_
        refine wp_goto rq_64 rfl ?_
        refine wp_seg 4 (P := none) (ls' := [some (aR 5 (0)), some (aI (1))]) (st' := [aI (-1), aI (s 5 (0) 2)]) (σ' := s) rq_64 rfl True.intro (i' := 52) rfl ?_
        refine wp_icmp rq_64 rfl (fun _ => ?_) (fun (h7 : ¬ (¬ (s 5 (0) 2) = (-1))) => absurd (show ¬ (s 5 (0) 2) = (-1) from by omega) h7)
        refine wp_seg 3 (P := none) (ls' := [some (aR 5 (0)), some (aI (1))]) (st' := []) (σ' := (up s 5 (0) 1 (0))) rq_64 rfl True.intro (i' := 62) rfl ?_
        refine wp_vret rq_64 rfl rt_64 ⟨?_, ?_⟩
        · rfl
        · rfl

theorem scan_f2 (w : Int) (hf : s 5 0 2 = -1) (h4 : 0 < s 5 0 4) (h5 : s 5 0 5 = 0) (h6 : s 5 0 6 = 0) : wp true 64 36 [some (aR 5 (0)), some (aI (w))] [] s 0 0 (fun o' s' => o' = .inl none ∧ s' = up s 5 0 1 0) := by
  refine wp_seg 2 (P := none) (ls' := [some (aR 5 (0)), some (aI (w))]) (st' := [aI (s 5 (0) 4)]) (σ' := s) rq_64 rfl True.intro (i' := 38) rfl ?_
  refine wp_if rq_64 rfl (fun (h1 : (s 5 (0) 4) ≤ 0) => absurd h1 (show ¬ ((s 5 (0) 4) ≤ 0) from by omega)) (fun _ => ?_)
  refine wp_seg 2 (P := none) (ls' := [some (aR 5 (0)), some (aI (w))]) (st' := [aI (s 5 (0) 5)]) (σ' := s) rq_64 rfl True.intro (i' := 41) rfl ?_
  refine wp_if rq_64 rfl (fun (h2 : ¬ (s 5 (0) 5) = 0) => absurd h2 (show ¬ (¬ (s 5 (0) 5) = 0) from by omega)) (fun _ => ?_)
  refine wp_seg 2 (P := none) (ls' := [some (aR 5 (0)), some (aI (w))]) (st' := [aI (s 5 (0) 6)]) (σ' := s) rq_64 rfl True.intro (i' := 44) rfl ?_
  refine wp_if rq_64 rfl (fun (h3 : ¬ (s 5 (0) 6) = 0) => absurd h3 (show ¬ (¬ (s 5 (0) 6) = 0) from by omega)) (fun _ => ?_)
  refine wp_seg 1 (P := none) (ls' := [some (aR 5 (0)), some (aI (w))]) (st' := [aI (1)]) (σ' := s) rq_64 rfl True.intro (i' := 46) rfl ?_
  refine wp_goto rq_64 rfl ?_
  refine wp_seg 4 (P := none) (ls' := [some (aR 5 (0)), some (aI (1))]) (st' := [aI (-1), aI (s 5 (0) 2)]) (σ' := s) rq_64 rfl True.intro (i' := 52) rfl ?_
  refine wp_icmp rq_64 rfl (fun (h4 : ¬ (s 5 (0) 2) = (-1)) => absurd h4 (show ¬ (¬ (s 5 (0) 2) = (-1)) from by omega)) (fun _ => ?_)
  refine wp_seg 1 (P := none) (ls' := [some (aR 5 (0)), some (aI (1))]) (st' := [aI (1)]) (σ' := s) rq_64 rfl True.intro (i' := 54) rfl ?_
  refine wp_if rq_64 rfl (fun _ => ?_) (fun (h5 : ¬ (¬ (1 : Int) = (0 : Int))) => absurd (show ¬ (1 : Int) = (0 : Int) from by decide) h5)
  refine wp_seg 3 (P := none) (ls' := [some (aR 5 (0)), some (aI (1))]) (st' := []) (σ' := (up s 5 (0) 1 (0))) rq_64 rfl True.intro (i' := 62) rfl ?_
  refine wp_vret rq_64 rfl rt_64 ⟨?_, ?_⟩
  · rfl
  · rfl

theorem scan_f3 (w : Int) (hf : s 5 0 2 = -1) (h : s 5 0 4 ≤ 0 ∨ ¬ s 5 0 5 = 0 ∨ ¬ s 5 0 6 = 0) : wp true 64 36 [some (aR 5 (0)), some (aI (w))] [] s 0 0 (fun o' s' => o' = .inl none ∧ s' = up (up s 5 0 2 (s 5 0 1)) 5 0 1 0) := by
  refine wp_seg 2 (P := none) (ls' := [some (aR 5 (0)), some (aI (w))]) (st' := [aI (s 5 (0) 4)]) (σ' := s) rq_64 rfl True.intro (i' := 38) rfl ?_
  refine wp_if rq_64 rfl (fun (h1 : (s 5 (0) 4) ≤ 0) => ?_) (fun (h1 : ¬ ((s 5 (0) 4) ≤ 0)) => ?_)
  · refine wp_seg 5 (P := none) (ls' := [some (aR 5 (0)), some (aI (0))]) (st' := [aI (-1), aI (s 5 (0) 2)]) (σ' := s) rq_64 rfl True.intro (i' := 52) rfl ?_
    refine wp_icmp rq_64 rfl (fun (h2 : ¬ (s 5 (0) 2) = (-1)) => absurd h2 (show ¬ (¬ (s 5 (0) 2) = (-1)) from by omega)) (fun _ => ?_)
    refine wp_seg 1 (P := none) (ls' := [some (aR 5 (0)), some (aI (0))]) (st' := [aI (0)]) (σ' := s) rq_64 rfl True.intro (i' := 54) rfl ?_
    refine wp_if rq_64 rfl (fun (h3 : ¬ (0 : Int) = (0 : Int)) => absurd h3 (show ¬ (¬ (0 : Int) = (0 : Int)) from by decide)) (fun _ => ?_)
    refine wp_seg 7 (P := none) (ls' := [some (aR 5 (0)), some (aI (0))]) (st' := []) (σ' := (up (up s 5 (0) 2 (s 5 (0) 1)) 5 (0) 1 (0))) rq_64 rfl True.intro (i' := 62) rfl ?_
    refine wp_vret rq_64 rfl rt_64 ⟨?_, ?_⟩
    · first | rfl | omega
    · first | rfl | omega
  · refine wp_seg 2 (P := none) (ls' := [some (aR 5 (0)), some (aI (w))]) (st' := [aI (s 5 (0) 5)]) (σ' := s) rq_64 rfl True.intro (i' := 41) rfl ?_
    refine wp_if rq_64 rfl (fun (h4 : ¬ (s 5 (0) 5) = 0) => ?_) (fun (h4 : ¬ (¬ (s 5 (0) 5) = 0)) => ?_)
    · refine wp_seg 5 (P := none) (ls' := [some (aR 5 (0)), some (aI (0))]) (st' := [aI (-1), aI (s 5 (0) 2)]) (σ' := s) rq_64 rfl True.intro (i' := 52) rfl ?_
      refine wp_icmp rq_64 rfl (fun (h5 : ¬ (s 5 (0) 2) = (-1)) => absurd h5 (show ¬ (¬ (s 5 (0) 2) = (-1)) from by omega)) (fun _ => ?_)
      refine wp_seg 1 (P := none) (ls' := [some (aR 5 (0)), some (aI (0))]) (st' := [aI (0)]) (σ' := s) rq_64 rfl True.intro (i' := 54) rfl ?_
      refine wp_if rq_64 rfl (fun (h6 : ¬ (0 : Int) = (0 : Int)) => absurd h6 (show ¬ (¬ (0 : Int) = (0 : Int)) from by decide)) (fun _ => ?_)
      refine wp_seg 7 (P := none) (ls' := [some (aR 5 (0)), some (aI (0))]) (st' := []) (σ' := (up (up s 5 (0) 2 (s 5 (0) 1)) 5 (0) 1 (0))) rq_64 rfl True.intro (i' := 62) rfl ?_
      refine wp_vret rq_64 rfl rt_64 ⟨?_, ?_⟩
      · first | rfl | omega
      · first | rfl | omega
    · refine wp_seg 2 (P := none) (ls' := [some (aR 5 (0)), some (aI (w))]) (st' := [aI (s 5 (0) 6)]) (σ' := s) rq_64 rfl True.intro (i' := 44) rfl ?_
      refine wp_if rq_64 rfl (fun (h7 : ¬ (s 5 (0) 6) = 0) => ?_) (fun (h7 : ¬ (¬ (s 5 (0) 6) = 0)) => ?_)
      · refine wp_seg 5 (P := none) (ls' := [some (aR 5 (0)), some (aI (0))]) (st' := [aI (-1), aI (s 5 (0) 2)]) (σ' := s) rq_64 rfl True.intro (i' := 52) rfl ?_
        refine wp_icmp rq_64 rfl (fun (h8 : ¬ (s 5 (0) 2) = (-1)) => absurd h8 (show ¬ (¬ (s 5 (0) 2) = (-1)) from by omega)) (fun _ => ?_)
        refine wp_seg 1 (P := none) (ls' := [some (aR 5 (0)), some (aI (0))]) (st' := [aI (0)]) (σ' := s) rq_64 rfl True.intro (i' := 54) rfl ?_
        refine wp_if rq_64 rfl (fun (h9 : ¬ (0 : Int) = (0 : Int)) => absurd h9 (show ¬ (¬ (0 : Int) = (0 : Int)) from by decide)) (fun _ => ?_)
        refine wp_seg 7 (P := none) (ls' := [some (aR 5 (0)), some (aI (0))]) (st' := []) (σ' := (up (up s 5 (0) 2 (s 5 (0) 1)) 5 (0) 1 (0))) rq_64 rfl True.intro (i' := 62) rfl ?_
        refine wp_vret rq_64 rfl rt_64 ⟨?_, ?_⟩
        · first | rfl | omega
        · first | rfl | omega
      · refine wp_seg 1 (P := none) (ls' := [some (aR 5 (0)), some (aI (w))]) (st' := [aI (1)]) (σ' := s) rq_64 rfl True.intro (i' := 46) rfl ?_
        refine wp_goto rq_64 rfl ?_
        refine wp_seg 4 (P := none) (ls' := [some (aR 5 (0)), some (aI (1))]) (st' := [aI (-1), aI (s 5 (0) 2)]) (σ' := s) rq_64 rfl True.intro (i' := 52) rfl ?_
        refine wp_icmp rq_64 rfl (fun (h10 : ¬ (s 5 (0) 2) = (-1)) => absurd h10 (show ¬ (¬ (s 5 (0) 2) = (-1)) from by omega)) (fun _ => ?_)
        refine wp_seg 1 (P := none) (ls' := [some (aR 5 (0)), some (aI (1))]) (st' := [aI (1)]) (σ' := s) rq_64 rfl True.intro (i' := 54) rfl ?_
        refine wp_if rq_64 rfl (fun _ => ?_) (fun (h11 : ¬ (¬ (1 : Int) = (0 : Int))) => absurd (show ¬ (1 : Int) = (0 : Int) from by decide) h11)
        refine wp_seg 3 (P := none) (ls' := [some (aR 5 (0)), some (aI (1))]) (st' := []) (σ' := (up s 5 (0) 1 (0))) rq_64 rfl True.intro (i' := 62) rfl ?_
        refine wp_vret rq_64 rfl rt_64 ⟨?_, ?_⟩
        · first | rfl | omega
        · first | rfl | omega

/-- the memory at the start of the scan -/
def scS (σ : Mem) : Mem := zm_openPart 0 (up (up σ 5 0 4 0) 5 0 2 (-1))
theorem scan_0 (Q : Out → Mem → Prop) (h : wp true 64 11 [some (aR 5 (0)), some (aI (0))] [] (scS σ) 0 0 Q) : wp true 64 0 [some (aR 5 (0)), none] [] σ 0 0 Q := by
  refine wp_seg 8 (P := none) (ls' := [some (aR 5 (0)), none]) (st' := [aI (0), aR 5 (0)]) (σ' := (up (up σ 5 (0) 4 (0)) 5 (0) 2 (-1))) rq_64 rfl True.intro (i' := 8) rfl ?_
  refine wp_call (C := 5) (As := [aR 5 (0), aI (0)]) (rest := []) rq_64 (ev_openPart (0) (up (up σ 5 (0) 4 (0)) 5 (0) 2 (-1)) ) rfl rfl (show clOK 64 66 0 0 0 2 5 = true by decide +kernel) rfl (show 0 ≤ 4 by decide) (fun _ => ⟨_, rfl⟩) rfl (c' := 0) (s' := 0) rfl rfl ?_
  refine wp_seg 2 (P := none) (ls' := [some (aR 5 (0)), some (aI (0))]) (st' := []) (σ' := (zm_openPart (0) (up (up σ 5 (0) 4 (0)) 5 (0) 2 (-1)))) rq_64 rfl True.intro (i' := 11) rfl ?_
  exact h
theorem scan_go (hl : ∀ i s, Rn f n s0 i s → 0 ≤ i ∧ s 5 0 1 = n ∧ s 5 0 2 = -1 ∧ (∀ j, 0 ≤ j → j < n → s 12 0 j = f j)) (hn : n ≤ 60) (Q : Out → Mem → Prop) (h : Rn f n s0 i s) : wp true 64 11 [some (aR 5 (0)), some (aI (i))] [] s 0 0 Q → wp true 64 11 [some (aR 5 (0)), some (aI (0))] [] s0 0 0 Q := by
  refine (h (fun i s => Rn f n s0 i s ∧ (wp true 64 11 [some (aR 5 (0)), some (aI (i))] [] s 0 0 Q → wp true 64 11 [some (aR 5 (0)), some (aI (0))] [] s0 0 0 Q)) ⟨Rn_z, id⟩ (fun i s hp hi ha => ⟨Rn_s hp.1 hi ha, fun hq => ?_⟩)).2
  obtain ⟨i0, e1, e2, e3⟩ := hl i s hp.1
  refine hp.2 (scan_y i0 (by omega) (by omega) e2 (by rw [e3 i i0 hi]; exact ha) Q ?_)
  rw [e3 i i0 hi]
  exact hq
end Scan
