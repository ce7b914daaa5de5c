/-! What is so at the law's start: both sides before the first call. -/
section Jz
variable {σ : Mem}
theorem J_0 (hz : ∀ C k, C < 12 → σ C 0 k = tgt C 0 k) (hg : ∀ k, σ 13 186 k = tgt 13 186 k) (hl : JL σ) : J 0 σ σ := by
  have g0 : σ 13 186 0 = 0 := (hg 0).trans (by decide)
  have g1 : σ 13 186 1 = 0 := (hg 1).trans (by decide)
  have g2 : σ 13 186 2 = 0 := (hg 2).trans (by decide)
  have g3 : σ 13 186 3 = 0 := (hg 3).trans (by decide)
  have g4 : σ 13 186 4 = 0 := (hg 4).trans (by decide)
  have g6 : σ 13 186 6 = -1 := (hg 6).trans (by decide)
  have g7 : σ 13 186 7 = 1 := (hg 7).trans (by decide)
  have g8 : σ 13 186 8 = 0 := (hg 8).trans (by decide)
  have g9 : σ 13 186 9 = 0 := (hg 9).trans (by decide)
  have g18 : σ 13 186 18 = 0 := (hg 18).trans (by decide)
  have g19 : σ 13 186 19 = 0 := (hg 19).trans (by decide)
  have g20 : σ 13 186 20 = 0 := (hg 20).trans (by decide)
  have g22 : σ 13 186 22 = 0 := (hg 22).trans (by decide)
  have ep : pB (σ 13 186) = 0 := by unfold pB; rw [if_pos g4]; exact g3
  have c2 : σ 2 0 0 = 0 := (hz 2 0 (by decide)).trans (by decide)
  have c21 : σ 2 0 1 = 1 := (hz 2 1 (by decide)).trans (by decide)
  have c22 : σ 2 0 2 = -1 := (hz 2 2 (by decide)).trans (by decide)
  have c6 : σ 6 0 0 = 0 := (hz 6 0 (by decide)).trans (by decide)
  have c3 : σ 3 0 0 = 0 := (hz 3 0 (by decide)).trans (by decide)
  have c0 : σ 0 0 0 = 0 := (hz 0 0 (by decide)).trans (by decide)
  have c01 : σ 0 0 1 = 0 := (hz 0 1 (by decide)).trans (by decide)
  have c9 : σ 9 0 0 = 0 := (hz 9 0 (by decide)).trans (by decide)
  have c91 : σ 9 0 1 = 0 := (hz 9 1 (by decide)).trans (by decide)
  have c4 : σ 4 0 0 = 0 := (hz 4 0 (by decide)).trans (by decide)
  have c43 : σ 4 0 3 = 0 := (hz 4 3 (by decide)).trans (by decide)
  have c44 : σ 4 0 4 = 0 := (hz 4 4 (by decide)).trans (by decide)
  have c45 : σ 4 0 5 = 0 := (hz 4 5 (by decide)).trans (by decide)
  have c47 : σ 4 0 7 = 0 := (hz 4 7 (by decide)).trans (by decide)
  have c11 : σ 1 0 1 = 0 := (hz 1 1 (by decide)).trans (by decide)
  have c12 : σ 1 0 2 = 0 := (hz 1 2 (by decide)).trans (by decide)
  have m2 : σ 11 0 2 = 0 := (hz 11 2 (by decide)).trans (by decide)
  have m4 : σ 11 0 4 = 0 := (hz 11 4 (by decide)).trans (by decide)
  have m5 : σ 11 0 5 = 0 := (hz 11 5 (by decide)).trans (by decide)
  have m10 : σ 11 0 10 = 0 := (hz 11 10 (by decide)).trans (by decide)
  have m13 : σ 11 0 13 = -1 := (hz 11 13 (by decide)).trans (by decide)
  have x2 : σ 10 0 2 = 0 := (hz 10 2 (by decide)).trans (by decide)
  have x6 : σ 10 0 6 = 0 := (hz 10 6 (by decide)).trans (by decide)
  have t1 : σ 5 0 1 = 0 := (hz 5 1 (by decide)).trans (by decide)
  have t2 : σ 5 0 2 = -1 := (hz 5 2 (by decide)).trans (by decide)
  refine ⟨⟨⟨?_, fun b q0 q1 => ?_, fun f q0 q1 => ?_, ?_, fun q => ?_⟩, ⟨?_, fun f q0 q1 => ?_, fun b q0 q1 => ?_, ⟨fun p q0 q1 => ?_, fun p i q0 q1 => ?_, fun q => ?_⟩, ⟨fun i q0 q1 => ?_, fun q => ?_⟩, fun q => ?_, ?_⟩, ⟨fun i q0 q1 => ?_, fun i j q0 q1 q2 => ?_, fun q => ?_, fun x y q0 q1 => ?_, ?_, fun b q0 q1 => ?_⟩⟩, ⟨?_, ?_, ?_, fun i q0 q1 => ?_⟩, ⟨?_, ?_, fun q => ?_⟩, ⟨?_, ?_, ?_, fun i q0 q1 => ?_, ?_⟩, hl⟩
  · unfold I1
    rw [g0, g1, g2, g3, g4, g6, g7, g8]
    omega
  · omega
  · omega
  · unfold IRl
    omega
  · omega
  · unfold R1
    rw [ep]
    show σ 2 0 0 = _ ∧ σ 2 0 1 = _ ∧ σ 2 0 2 = _ ∧ σ 6 0 0 = _ ∧ σ 3 0 0 = _ ∧ σ 0 0 0 = _ ∧ σ 0 0 1 = _ ∧ σ 9 0 0 = _ ∧ σ 9 0 1 = _
    omega
  · omega
  · omega
  · omega
  · omega
  · omega
  · omega
  · omega
  · omega
  · refine ⟨?_, ?_, ?_, ?_, ?_, fun q => ?_⟩
    · exact c4.trans g9.symm
    · exact c43.trans g18.symm
    · exact c44.trans g19.symm
    · exact c45.trans g20.symm
    · exact c47.trans g22.symm
    · omega
  · omega
  · omega
  · omega
  · omega
  · rw [ep, g1]
    rfl
  · omega
  · omega
  · omega
  · omega
  · omega
  · omega
  · omega
  · omega
  · omega
  · omega
  · omega
  · omega
  · omega
end Jz
