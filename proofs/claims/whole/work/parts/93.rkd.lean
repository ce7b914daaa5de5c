/-! The fencer with a place in the ranking: both sides. -/
def zo_xranked (x : Int) (σ : Mem) : Out := if (x) < 0 then .inr 3 else if (x) < (wr (sumTo (fo_fcountIn (0) σ) (σ 6 ((0)) 0))) then .inl (some (aI (rget (zm_rankAll σ) (184) (x)))) else .inr 3
def zm_xranked (x : Int) (σ : Mem) : Mem := if (x) < 0 then σ else if (x) < (wr (sumTo (fo_fcountIn (0) σ) (σ 6 ((0)) 0))) then (zm_rankAll σ) else σ
theorem ev_xranked (x : Int) (σ : Mem) (hA : 0 ≤ zm_tally 0 σ 6 0 0 ∧ zm_tally 0 σ 6 0 0 ≤ 24) : Ev true 124 [aR 10 (0), aI (x)] σ (zo_xranked x σ) (zm_xranked x σ) := by
  show wp true 124 0 [some (aR 10 (0)), some (aI (x))] [] σ 0 0 _
  refine wp_seg 1 (P := none) (ls' := [some (aR 10 (0)), some (aI (x))]) (st' := [aI (x)]) (σ' := σ) rq_124 rfl True.intro (i' := 1) rfl ?_
  refine wp_if rq_124 rfl (fun (h1 : (x) < 0) => ?_) (fun (h1 : ¬ ((x) < 0)) => ?_)
  · refine wp_throw rq_124 rfl (hcat_lt (by decide)) (show 0 ≤ 4 by decide) (by decide +kernel) (by decide +kernel) (by decide +kernel) ⟨?_, ?_⟩
    · (rw [zo_xranked, if_pos h1]; try rfl)
    · (rw [zm_xranked, if_pos h1]; try rfl)
  · refine wp_seg 4 (P := none) (ls' := [some (aR 10 (0)), some (aI (x))]) (st' := [aR 6 (0), aI (x)]) (σ' := σ) rq_124 rfl True.intro (i' := 6) rfl ?_
    refine wp_call (C := 6) (As := [aR 6 (0)]) (rest := [aI (x)]) rq_124 (ev_fcountIn (0) σ ) rfl rfl (show clOK 124 73 0 0 0 1 6 = true by decide +kernel) rfl (show 1 ≤ 4 by decide) (fun _ => ⟨_, rfl⟩) rfl (c' := 0) (s' := 0) rfl rfl ?_
    refine wp_icmp rq_124 rfl (fun (h2 : (x) < (wr (sumTo (fo_fcountIn (0) σ) (σ 6 ((0)) 0)))) => ?_) (fun (h2 : ¬ ((x) < (wr (sumTo (fo_fcountIn (0) σ) (σ 6 ((0)) 0))))) => ?_)
    · refine wp_seg 4 (P := none) (ls' := [some (aR 10 (0)), some (aI (x))]) (st' := [aR 2 (0), aR 8 (0)]) (σ' := σ) rq_124 rfl True.intro (i' := 17) rfl ?_
      refine wp_call (C := 8) (As := [aR 8 (0), aR 2 (0)]) (rest := []) rq_124 (ev_rankAll σ hA) rfl rfl (show clOK 124 91 0 0 0 2 8 = true by decide +kernel) rfl (show 0 ≤ 4 by decide) (fun _ => ⟨_, rfl⟩) rfl (c' := 0) (s' := 0) rfl rfl ?_
      refine wp_seg 4 (P := none) (ls' := [some (aR 10 (0)), some (aI (x))]) (st' := [aI (x), aR 7 (184)]) (σ' := (zm_rankAll σ)) rq_124 rfl True.intro (i' := 22) rfl ?_
      refine wp_call (C := 7) (As := [aR 7 (184), aI (x)]) (rest := []) rq_124 (ev_get (184) (x) (zm_rankAll σ) ) rfl rfl (show clOK 124 78 0 0 0 2 7 = true by decide +kernel) rfl (show 0 ≤ 4 by decide) (fun _ => ⟨_, rfl⟩) rfl (c' := 0) (s' := 0) rfl rfl ?_
      refine wp_iret rq_124 rfl rt_124 ⟨?_, ?_⟩
      · (rw [zo_xranked, if_neg h1, if_pos h2]; try rfl)
      · (rw [zm_xranked, if_neg h1, if_pos h2]; try rfl)
    · refine wp_throw rq_124 rfl (hcat_lt (by decide)) (show 0 ≤ 4 by decide) (by decide +kernel) (by decide +kernel) (by decide +kernel) ⟨?_, ?_⟩
      · (rw [zo_xranked, if_neg h1, if_neg h2]; try rfl)
      · (rw [zm_xranked, if_neg h1, if_neg h2]; try rfl)
section Rkd
variable {N x y f : Int} {σ K X Y : Mem} {g : Gs} {o : Int → Int} {n : Int}
theorem J_cells (h : J N σ σ) (e : ∀ C r k, clsP C r k ∨ modP C r k → X C r k = σ C r k) : J N X X :=
  J_mod (J_cls h (fun C r k q => e C r k (Or.inl q))) (fun C r k q => e C r k (Or.inr q))
/-- the class's memory with its ranking -/
def rkM (K Y : Mem) (F : Int) : Mem := wor (wst K (cntG Y)) (rkO K Y F).1 (rkO K Y F).2
theorem rkM_o {F : Int} {C : Nat} {r k : Int} (h : ¬ (C = 13 ∧ 180 ≤ r ∧ r ≤ 184)) (h2 : ¬ C = 8) : rkM K Y F C r k = K C r k := by
  unfold rkM
  rw [wor_o (by omega) (by omega), wst_o (by omega)]
theorem rkM_row {F : Int} : rkM K Y F 13 186 = K 13 186 := funext fun k => rkM_o (by omega) (by omega)
theorem laid_cn (e : X 13 186 = Y 13 186) (w k : Int) (w0 : 0 ≤ w) (w1 : w < 4) (k0 : 0 ≤ k) (k1 : k < 24) : laid X 13 189 (4 * k + w) = cntG Y w k := by
  rw [laid_c ⟨w0, w1⟩ ⟨k0, k1⟩]
  exact cntG_row e w k
theorem laid_row : laid X 13 186 = X 13 186 := funext fun k => laid_o (by omega)
theorem kp_cv (h : J N σ σ) : KP N (cv σ 0) (σ 13 186) := h.1
theorem hA_of (h : J N σ σ) : 0 ≤ zm_tally 0 σ 6 0 0 ∧ zm_tally 0 σ 6 0 0 ≤ 24 := by
  rw [tally_kp h.1 rfl, wst_o (by omega), (J_R1 h).2.2.2.1]
  exact (J_rg h).2.1
theorem ca_ranked (h : J N σ σ) : Cal N 211 [aR 11 0, aI x] (zo_xranked x σ) (zm_xranked x σ) (fun _ => 1) := by
  have r1 := J_R1 h
  have rg := J_rg h
  have rb := rank_b h.1 (Y := σ) rfl
  have ec := cin_kp h.1 (Y := σ) rfl
  have e6 : σ 6 0 0 = σ 13 186 1 := r1.2.2.2.1
  by_cases hx : 0 ≤ x ∧ x < (rkO σ σ (σ 13 186 1)).2
  · have ea : zm_xranked x σ = rkM σ σ (σ 13 186 1) := by
      unfold zm_xranked
      rw [if_neg (by omega), e6, ec, if_pos hx.2, rkA_kp h.1 rfl]
      rfl
    have eo : zo_xranked x σ = .inl (some (aI ((rkO σ σ (σ 13 186 1)).1 x))) := by
      unfold zo_xranked
      rw [if_neg (by omega), e6, ec, if_pos hx.2, rkA_kp h.1 rfl, wor_get (by omega)]
    rw [ea, eo]
    have hf := rank_find h.1 (Y := σ) rfl (X := laid (rkM σ σ (σ 13 186 1))) (ag_of (laid_row.trans rkM_row)) (laid_cn rkM_row) x
    rw [if_pos hx] at hf
    have h1 : (laid (rkM σ σ (σ 13 186 1))) 13 186 1 = σ 13 186 1 := congrFun (laid_row.trans rkM_row) 1
    have ra := rank_at h.1 (Y := σ) rfl hx.1 hx.2
    refine ⟨_, _, ev_yranked x _ (by rw [rkM_row]; exact rg.2.1) (lay_ok h rkM_row), ?_, ?_⟩
    · unfold zm_yranked
      rw [h1, hf, if_pos ra.1.1]
      refine J_cells h (fun C r k q => ?_)
      rw [up_o (by unfold clsP modP at q; omega), laid_o (by unfold clsP modP at q; omega), rkM_o (by unfold clsP modP at q; omega) (by unfold clsP modP at q; omega)]
    · refine Or.inl ⟨_, rfl, ?_, ?_⟩
      · unfold zm_yranked
        rw [h1, hf, if_pos ra.1.1]
        exact up_s _ _ _ _ _
      · unfold zo_yranked
        rw [h1, hf, if_pos ra.1.1]
  · have ea : zm_xranked x σ = σ := by
      unfold zm_xranked
      by_cases q : x < 0
      · rw [if_pos q]
      · rw [if_neg q, e6, ec, if_neg (by omega)]
    have eo : zo_xranked x σ = .inr 3 := by
      unfold zo_xranked
      by_cases q : x < 0
      · rw [if_pos q]
      · rw [if_neg q, e6, ec, if_neg (by omega)]
    rw [ea, eo]
    have hf := rank_find h.1 (Y := σ) rfl (X := laid σ) (ag_of laid_row) (laid_cn rfl) x
    rw [if_neg hx] at hf
    have h1 : (laid σ) 13 186 1 = σ 13 186 1 := congrFun laid_row 1
    refine ⟨_, _, ev_yranked x σ rg.2.1 (lay_ok h rfl), ?_, ?_⟩
    · unfold zm_yranked
      rw [h1, hf, if_neg (by decide)]
      refine J_cells h (fun C r k q => ?_)
      rw [up_o (by unfold clsP modP at q; omega), laid_o (by unfold clsP modP at q; omega)]
    · refine Or.inr ⟨_, rfl, ?_, by decide⟩
      unfold zm_yranked
      rw [h1, hf, if_neg (by decide)]
      exact up_s _ _ _ _ _
end Rkd
