/-! A run that names no long or double array doesn't see them. -/
def md (A B : Int → Int → Int) (σ : Mem) : Mem := fun C r k => if C = 15 then A r k else if C = 16 then B r k else σ C r k
def noVb (a : AV) : Bool := match a with | .inr (.inr (.inr (some (C, _)))) => decide (C ≠ 15 ∧ C ≠ 16) | _ => true
def noL (ls : Vls) : Prop := ∀ (i : Nat) (a : AV), ls[i]? = some (some a) → noVb a = true
def noS (st : List AV) : Prop := ∀ a ∈ st, noVb a = true
def same2 (σ τ : Mem) : Prop := τ 15 = σ 15 ∧ τ 16 = σ 16
section Md
variable {A B : Int → Int → Int} {σ σ' : Mem} {ls ls' : Vls} {st st' : List AV} {P : Option Prop} {C : Nat} {r k v : Int} {a : AV}
theorem md_o (h : C ≠ 15) (h2 : C ≠ 16) : md A B σ C r k = σ C r k := by unfold md; rw [if_neg h, if_neg h2]
theorem md_up (h : C ≠ 15) (h2 : C ≠ 16) : up (md A B σ) C r k v = md A B (up σ C r k v) := by
  funext C' r' k'
  unfold up md
  dsimp only
  by_cases q : C' = C ∧ r' = r ∧ k' = k
  · rw [if_pos q, if_neg (by omega), if_neg (by omega), if_pos q]
  · rw [if_neg q, if_neg q]
theorem md_cp {s d sp dp n : Int} : cpM (md A B σ) s d sp dp n = md A B (cpM σ s d sp dp n) := by
  funext C' r' k'
  unfold cpM md
  dsimp only
  by_cases q : C' = 13 ∧ r' = d ∧ dp ≤ k' ∧ k' < dp + n
  · rw [if_pos q, if_neg (by omega), if_neg (by omega), if_neg (by omega), if_neg (by omega), if_pos q]
  · rw [if_neg q, if_neg q]
theorem same_up (h : C ≠ 15) (h2 : C ≠ 16) : same2 σ (up σ C r k v) := ⟨funext fun r' => funext fun k' => up_o (by omega), funext fun r' => funext fun k' => up_o (by omega)⟩
theorem same_cp {s d sp dp n : Int} : same2 σ (cpM σ s d sp dp n) := ⟨funext fun r' => funext fun k' => if_neg (by omega), funext fun r' => funext fun k' => if_neg (by omega)⟩
theorem same_id : same2 σ σ := ⟨rfl, rfl⟩
theorem md_al : alen (md A B σ) C r = alen σ C r := by
  unfold alen
  rw [md_o (C := 17) (by decide) (by decide)]
theorem noS_c (h : noVb a = true) (hs : noS st) : noS (a :: st) := fun b hb => by
  rcases List.mem_cons.mp hb with e | e
  · rw [e]; exact h
  · exact hs b e
theorem noS_t (h : noS (a :: st)) : noS st := fun b hb => h b (List.mem_cons_of_mem _ hb)
theorem noS_h (h : noS (a :: st)) : noVb a = true := h a (List.mem_cons_self ..)
theorem noL_set (h : noL ls) {i : Nat} (ha : noVb a = true) : noL (ls.set i (some a)) := fun j b hb => by
  rw [List.getElem?_set] at hb
  split at hb
  · split at hb
    · cases hb; exact ha
    · cases hb
  · exact h j b hb
theorem noL_setn (h : noL ls) {i : Nat} : noL (ls.set i none) := fun j b hb => by
  rw [List.getElem?_set] at hb
  split at hb
  · split at hb
    · cases hb
    · cases hb
  · exact h j b hb
theorem stL_no (h : noL ls) {i : Nat} (ha : noVb a = true) (e : stL ls i a = some ls') : noL ls' := by
  unfold stL at e
  split at e
  · split at e
    · split at e
      · cases e; exact noL_setn (noL_set h ha)
      · cases e
    · cases e; exact noL_set h ha
  · cases e
theorem get_no (h : noL ls) {i : Nat} (e : ls.getD i none = some a) : noVb a = true := by
  refine h i a ?_
  rw [List.getD_eq_getElem?_getD] at e
  cases q : ls[i]? with
  | none => rw [q] at e; cases e
  | some b => rw [q] at e; exact congrArg some e
/-- what a plain row does there, it does here -/
def PMd (A B : Int → Int → Int) (ph : Bool) (raw : Instr) (x : List Nat) (ls : Vls) (st : List AV) (σ : Mem) : Prop := ∀ P ls' st' σ', plain ph raw x ls st σ = some (P, ls', st', σ') → noL ls → noS st → ∃ P', plain ph raw x ls st (md A B σ) = some (P', ls', st', md A B σ') ∧ (hold P → hold P') ∧ noL ls' ∧ noS st' ∧ same2 σ σ'
theorem bin_md {f : Int → Int → Int} (h : bin f ls σ st = some (P, ls', st', σ')) (nl : noL ls) (ns : noS st) : ∃ P', bin f ls (md A B σ) st = some (P', ls', st', md A B σ') ∧ (hold P → hold P') ∧ noL ls' ∧ noS st' ∧ same2 σ σ' := by
  unfold bin at h ⊢
  split at h
  · cases h
    exact ⟨none, rfl, id, nl, noS_c rfl (noS_t (noS_t ns)), same_id⟩
  · cases h
theorem binP_md {f : Int → Int → Int} (h : binP f ls σ st = some (P, ls', st', σ')) (nl : noL ls) (ns : noS st) : ∃ P', binP f ls (md A B σ) st = some (P', ls', st', md A B σ') ∧ (hold P → hold P') ∧ noL ls' ∧ noS st' ∧ same2 σ σ' := by
  unfold binP at h ⊢
  split at h
  · cases h
    exact ⟨_, rfl, id, nl, noS_c rfl (noS_t (noS_t ns)), same_id⟩
  · cases h
theorem binL_md {f : Int → Int → Int} (h : binL f ls σ st = some (P, ls', st', σ')) (nl : noL ls) (ns : noS st) : ∃ P', binL f ls (md A B σ) st = some (P', ls', st', md A B σ') ∧ (hold P → hold P') ∧ noL ls' ∧ noS st' ∧ same2 σ σ' := by
  unfold binL at h ⊢
  split at h
  · cases h
    exact ⟨_, rfl, id, nl, noS_c rfl (noS_t (noS_t ns)), same_id⟩
  · cases h
theorem ldp_md {kd i : Nat} (h : ldp kd ls i st σ = some (P, ls', st', σ')) (nl : noL ls) (ns : noS st) : ∃ P', ldp kd ls i st (md A B σ) = some (P', ls', st', md A B σ') ∧ (hold P → hold P') ∧ noL ls' ∧ noS st' ∧ same2 σ σ' := by
  unfold ldp at h ⊢
  split at h
  · rename_i a e
    split at h
    · rename_i e2
      cases h
      refine ⟨none, ?_, id, nl, noS_c (get_no nl e) ns, same_id⟩
      rw [if_pos e2]
    · cases h
  · cases h
theorem stp_md {kd i : Nat} (h : stp kd ls i st σ = some (P, ls', st', σ')) (nl : noL ls) (ns : noS st) : ∃ P', stp kd ls i st (md A B σ) = some (P', ls', st', md A B σ') ∧ (hold P → hold P') ∧ noL ls' ∧ noS st' ∧ same2 σ σ' := by
  unfold stp at h ⊢
  split at h
  · split at h
    · rename_i e2
      split at h
      · rename_i l e3
        cases h
        refine ⟨none, ?_, id, stL_no nl (noS_h ns) e3, noS_t ns, same_id⟩
        simp only [if_pos e2, e3]
      · cases h
    · cases h
  · cases h
theorem fsp_kd : ∀ (C f kd : Nat) (a b : Int) (t : Nat), (fsp C)[f]? = some (kd, a, b, t) → C ≠ 15 ∧ C ≠ 16 ∧ t ≠ 15 ∧ t ≠ 16 := by
  intro C f kd a b t h
  have hm := List.mem_of_getElem? h
  by_cases hC : C < 12
  · have : ∀ C, C < 12 → (fsp C).all (fun q => decide (q.2.2.2 ≠ 15 ∧ q.2.2.2 ≠ 16)) = true := by decide
    have h2 := List.all_eq_true.mp (this C hC) _ hm
    have h3 := of_decide_eq_true h2
    exact ⟨by omega, by omega, h3.1, h3.2⟩
  · exfalso
    unfold fsp at hm
    split at hm
    all_goals first | omega | cases hm
theorem plain_md {ph : Bool} {raw : Instr} {x : List Nat} : PMd A B ph raw x ls st σ := by
  intro P ls' st' σ' h nl ns
  unfold plain at h ⊢
  split at h
  all_goals try (first | exact ldp_md h nl ns | exact stp_md h nl ns | exact bin_md h nl ns | exact binP_md h nl ns | exact binL_md h nl ns)
  all_goals try (cases h; exact ⟨none, rfl, id, nl, noS_c rfl ns, same_id⟩)
  all_goals try (cases h; done)
  all_goals try (split at h <;> first | (cases h; done) | (cases h; refine ⟨_, rfl, id, ?_, ?_, same_id⟩ <;> first | exact nl | exact noL_set nl rfl | exact ns | exact noS_t ns | exact noS_c rfl ns | exact noS_c rfl (noS_t ns) | exact noS_c rfl (noS_t (noS_t ns)) | exact noS_c (noS_h ns) ns | exact noS_c (noS_h ns) (noS_c (noS_h (noS_t ns)) ns) | exact same_id | exact id))
  all_goals try (split at h <;> first | (cases h; done) | (split at h <;> first | (cases h; done) | (rename_i e9; first | (exfalso; have z9 := noS_h (noS_t ns); rw [e9] at z9; exact absurd z9 (show ¬ (decide ((15 : Nat) ≠ 15 ∧ (15 : Nat) ≠ 16) = true) by decide)) | (exfalso; have z9 := noS_h (noS_t (noS_t ns)); rw [e9] at z9; exact absurd z9 (show ¬ (decide ((15 : Nat) ≠ 15 ∧ (15 : Nat) ≠ 16) = true) by decide)) | (exfalso; have z9 := noS_h (noS_t ns); rw [e9] at z9; exact absurd z9 (show ¬ (decide ((16 : Nat) ≠ 15 ∧ (16 : Nat) ≠ 16) = true) by decide)) | (exfalso; have z9 := noS_h (noS_t (noS_t ns)); rw [e9] at z9; exact absurd z9 (show ¬ (decide ((16 : Nat) ≠ 15 ∧ (16 : Nat) ≠ 16) = true) by decide)) | (cases h; refine ⟨_, (by (first | rfl | (rw [if_pos e9]; done) | (rw [if_neg e9]; done) | (rw [if_pos e9, md_al, md_o (by omega) (by omega)]; done) | (rw [if_pos e9, md_al]; done) | (rw [if_pos e9, md_o (by omega) (by omega)]; done) | (rw [if_pos e9, md_up (by omega) (by omega)]; done) | (rw [if_pos e9, md_cp]; done))), id, ?_, ?_, ?_⟩ <;> first | exact nl | exact noL_set nl rfl | exact ns | exact noS_t ns | exact noS_t (noS_t ns) | exact noS_t (noS_t (noS_t ns)) | exact noS_c rfl ns | exact noS_c rfl (noS_t ns) | exact noS_c rfl (noS_t (noS_t ns)) | exact noS_c (noS_h ns) ns | exact noS_c (noS_h ns) (noS_c (noS_h (noS_t ns)) ns) | exact same_id | exact id | exact same_up (by omega) (by omega) | exact same_cp))))
  case h_5 =>
    split at h
    · rename_i e2
      cases h
      exact ⟨none, by rw [if_pos e2], id, nl, noS_c rfl ns, same_id⟩
    · cases h
  case h_40 =>
    split at h
    · split at h
      · rename_i eC
        split at h
        · rename_i ef
          have hk := fsp_kd _ _ _ _ _ _ ef
          split at h
          · rename_i e2
            cases h
            refine ⟨_, by (simp only [if_pos eC, ef, if_pos e2]; rfl), ?_, nl, noS_c (decide_eq_true ⟨hk.2.2.1, hk.2.2.2⟩) (noS_t ns), same_id⟩
            intro z
            cases ph with
            | true => exact z
            | false =>
              show md A B σ _ _ _ = 1
              rw [md_o hk.1 hk.2.1]
              exact z
          · rename_i e2
            cases h
            refine ⟨none, ?_, id, nl, noS_c rfl (noS_t ns), same_id⟩
            simp only [if_pos eC, ef, if_neg e2, md_o hk.1 hk.2.1]
        · cases h
      · cases h
    · cases h
  case h_41 =>
    split at h
    · split at h
      · rename_i eC
        split at h
        · rename_i ef
          have hk := fsp_kd _ _ _ _ _ _ ef
          split at h
          · rename_i e2
            cases h
            refine ⟨none, ?_, id, nl, noS_t (noS_t ns), same_up hk.1 hk.2.1⟩
            simp only [if_pos eC, ef, if_pos e2, md_up hk.1 hk.2.1]
          · rename_i e2
            split at h
            · rename_i e3
              cases h
              refine ⟨_, ?_, id, nl, noS_t (noS_t ns), same_up hk.1 hk.2.1⟩
              simp only [if_pos eC, ef, if_neg e2, if_pos e3, md_up hk.1 hk.2.1]
            · cases h
        · cases h
      · cases h
    · cases h
  case h_53 =>
    split at h
    · split at h
      · rename_i e1
        obtain ⟨P', h1, h2⟩ := bin_md (A := A) (B := B) h nl ns
        exact ⟨P', by (simp only [if_pos e1]; exact h1), h2⟩
      · rename_i e1
        split at h
        · rename_i e2
          obtain ⟨P', h1, h2⟩ := bin_md (A := A) (B := B) h nl ns
          exact ⟨P', by (simp only [if_neg e1, if_pos e2]; exact h1), h2⟩
        · rename_i e2
          split at h
          · rename_i e3
            split at h
            · split at h
              · rename_i e4
                cases h
                exact ⟨_, by (simp only [if_neg e1, if_neg e2, if_pos e3, if_pos e4, md_cp]), id, nl, noS_t (noS_t (noS_t (noS_t (noS_t ns)))), same_cp⟩
              · cases h
            · cases h
          · cases h
    · cases h
end Md
