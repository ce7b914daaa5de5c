/-! Choosing a pool: the class. -/
def cSz (σ : Mem) (p : Int) : Int := rget σ (18 * 0 + 7) p
def cCc (σ : Mem) (c p : Int) : Int := wr (sumTo (fo_countOfClub 0 p c 0 σ) (rget σ (18 * 0 + 7) p))
def wFb (σ : Mem) (c b : Int) : Int := if b < 0 then 24 else cCc σ c b
def nbP (sz cc : Int → Int) (r b p : Int) : Int := if sz p = r then (if b < 0 then p else if cc p < cc b then p else b) else b
section ChooseC
variable {r P p b f i c : Int} {σ : Mem}
theorem nb_key (h0 : 0 ≤ p) (h : cSz σ p = r → cCc σ c p < 24) (v : Int) : (if ¬ cSz σ p = r then (.inl (b, wFb σ c b, v) : Int × Int × Int ⊕ Out) else if wFb σ c b ≤ cCc σ c p then .inl (b, wFb σ c b, v) else .inl (p, cCc σ c p, v)) = .inl (nbP (cSz σ) (cCc σ c) r b p, wFb σ c (nbP (cSz σ) (cCc σ c) r b p), v) := by
  unfold nbP
  by_cases q : cSz σ p = r
  · rw [if_neg (fun z => z q), if_pos q]
    have ep : wFb σ c p = cCc σ c p := by unfold wFb; rw [if_neg (by omega)]
    by_cases qb : b < 0
    · have eb : wFb σ c b = 24 := by unfold wFb; rw [if_pos qb]
      have := h q
      rw [if_pos qb, if_neg (by omega), ep]
    · have eb : wFb σ c b = cCc σ c b := by unfold wFb; rw [if_neg qb]
      rw [if_neg qb, eb]
      by_cases q2 : cCc σ c p < cCc σ c b
      · rw [if_neg (by omega), if_pos q2, ep]
      · rw [if_pos (by omega), if_neg q2, eb]
  · rw [if_pos q, if_neg q]
theorem rs_pool (hP : 0 ≤ P ∧ P ≤ 6) (h3 : σ 3 0 0 = P) (hc : ∀ p, 0 ≤ p → p < P → cSz σ p = r → cCc σ c p < 24) : ∀ (u k : Nat), (k : Int) + u = P → rs (fr_choose 0 r c 0 σ) (u + 1) (chB (cSz σ) (cCc σ c) r P k, wFb σ c (chB (cSz σ) (cCc σ c) r P k), (k : Int)) = some (.inl (some (aI (chB (cSz σ) (cCc σ c) r P P.toNat)))) := by
  intro u
  induction u with
  | zero =>
    intro k e
    have e1 : k = P.toNat := by omega
    rw [rs_s]
    have eF : fr_choose 0 r c 0 σ (chB (cSz σ) (cCc σ c) r P k, wFb σ c (chB (cSz σ) (cCc σ c) r P k), (k : Int)) = .inr (.inl (some (aI (chB (cSz σ) (cCc σ c) r P k)))) := by
      simp only [fr_choose]
      rw [if_pos (by omega)]
    rw [eF, e1]
  | succ u ih =>
    intro k e
    have h := ih (k + 1) (by omega)
    have pb := pkP_b (r := r) (P := P) (i := k) (by omega) (by omega)
    have ew : wr ((k : Int) + 1) = ((k + 1 : Nat) : Int) := by rw [wr_eq (by omega) (by omega)]; omega
    have es : chB (cSz σ) (cCc σ c) r P (k + 1) = nbP (cSz σ) (cCc σ c) r (chB (cSz σ) (cCc σ c) r P k) (pkP r P k) := rfl
    rw [rs_s]
    rw [es] at h
    generalize chB (cSz σ) (cCc σ c) r P k = b at h ⊢
    have eF : fr_choose 0 r c 0 σ (b, wFb σ c b, (k : Int)) = .inl (nbP (cSz σ) (cCc σ c) r b (pkP r P k), wFb σ c (nbP (cSz σ) (cCc σ c) r b (pkP r P k)), ((k + 1 : Nat) : Int)) := by
      rw [← nb_key pb.1 (hc _ pb.1 pb.2)]
      simp only [fr_choose]
      rw [if_neg (show ¬ σ 3 0 0 ≤ (k : Int) by omega), h3, ew]
      by_cases hr : (r : Int).tmod 2 = 0
      · rw [if_neg (fun z => z hr), show pkP r P k = k from if_pos hr]
        rfl
      · rw [if_pos hr, show pkP r P k = P - 1 - k from if_neg hr, wr_eq (z := P - 1) (by omega) (by omega), wr_eq (z := P - 1 - (k : Int)) (by omega) (by omega)]
        rfl
    rw [eF]
    exact h
theorem ev_choose (hP : 0 ≤ P ∧ P ≤ 6) (h3 : σ 3 0 0 = P) (hc : ∀ p, 0 ≤ p → p < P → cSz σ p = r → cCc σ c p < 24) : Ev true 48 [aR 3 0, aI r, aI c, aR 6 0] σ (.inl (some (aI (chB (cSz σ) (cCc σ c) r P P.toNat)))) σ := by
  show wp true 48 0 [some (aR 3 0), some (aI r), some (aI c), some (aR 6 0), none, none, none, none, none] [] σ 0 0 _
  refine wp_seg 6 (P := none) (ls' := [some (aR 3 0), some (aI r), some (aI c), some (aR 6 0), some (aI (-1)), some (aI 24), some (aI 0), none, none]) (st' := []) (σ' := σ) rq_48 rfl True.intro (i' := 6) rfl ?_
  exact lr_choose 0 r c 0 σ _ _ _ _ _ (rs_pool hP h3 hc P.toNat 0 (by omega))
end ChooseC
