/-! A run leaves the script as it is. -/
section Scr
variable {σ σ' : Mem} {ls ls' : Vls} {st st' : List AV} {P : Option Prop}
theorem up_17 {C : Nat} {r k v : Int} (h : C ≠ 17) : up σ C r k v 17 = σ 17 := funext fun r' => funext fun k' => up_o (by omega)
theorem cp_17 {s d sp dp n : Int} : cpM σ s d sp dp n 17 = σ 17 := funext fun r' => funext fun k' => if_neg (fun q => absurd q.1 (by decide))
theorem bin_17 {f : Int → Int → Int} (h : bin f ls σ st = some (P, ls', st', σ')) : σ' 17 = σ 17 := by
  unfold bin at h
  split at h
  · cases h; rfl
  · cases h
theorem binP_17 {f : Int → Int → Int} (h : binP f ls σ st = some (P, ls', st', σ')) : σ' 17 = σ 17 := by
  unfold binP at h
  split at h
  · cases h; rfl
  · cases h
theorem binL_17 {f : Int → Int → Int} (h : binL f ls σ st = some (P, ls', st', σ')) : σ' 17 = σ 17 := by
  unfold binL at h
  split at h
  · cases h; rfl
  · cases h
theorem ldp_17 {kd i : Nat} (h : ldp kd ls i st σ = some (P, ls', st', σ')) : σ' 17 = σ 17 := by
  unfold ldp at h
  split at h
  · split at h
    · cases h; rfl
    · cases h
  · cases h
theorem stp_17 {kd i : Nat} (h : stp kd ls i st σ = some (P, ls', st', σ')) : σ' 17 = σ 17 := by
  unfold stp at h
  split at h
  · split at h
    · split at h
      · cases h; rfl
      · cases h
    · cases h
  · cases h
theorem fsp_17 {C f : Nat} {q : Nat × Int × Int × Nat} (h : (fsp C)[f]? = some q) : C ≠ 17 := by
  intro e
  subst e
  have : fsp 17 = [] := rfl
  rw [this] at h
  cases h
theorem plain_17 {raw : Instr} {x : List Nat} (h : plain true raw x ls st σ = some (P, ls', st', σ')) : σ' 17 = σ 17 := by
  unfold plain at h
  split at h
  all_goals try (first | exact ldp_17 h | exact stp_17 h | exact bin_17 h | exact binP_17 h | exact binL_17 h)
  all_goals try (cases h; first | done | rfl)
  all_goals try (split at h <;> first | (cases h; done) | (cases h; rfl))
  all_goals try (split at h <;> first | (cases h; done) | (split at h <;> first | (cases h; done) | (cases h; first | rfl | exact up_17 (by omega) | exact up_17 (by decide))))
  all_goals try (split at h <;> first | (cases h; done) | (split at h <;> first | (cases h; done) | (split at h <;> first | (cases h; done) | (rename_i e9; first | (cases h; first | rfl | exact up_17 (fsp_17 e9)) | (split at h <;> first | (cases h; done) | (cases h; first | rfl | exact up_17 (fsp_17 e9)) | (split at h <;> first | (cases h; done) | (cases h; first | rfl | exact up_17 (fsp_17 e9))))))))
  split at h
  · split at h
    · exact bin_17 h
    · split at h
      · exact bin_17 h
      · split at h
        · split at h
          · split at h
            · cases h; exact cp_17
            · cases h
          · cases h
        · cases h
  · cases h
def R17 : RR := fun k i ls st σ c s Q => wp true k i ls st σ c s (fun o τ => τ 17 = σ 17 ∧ Q o τ)
theorem R17_mono {k i : Nat} {c s : Nat} {Q : Out → Mem → Prop} (e : σ' 17 = σ 17) (h : R17 k i ls st σ' c s Q) : wp true k i ls st σ' c s (fun o τ => τ 17 = σ 17 ∧ Q o τ) := wp_mono (fun _ _ z => ⟨z.1.trans e, z.2⟩) h
theorem R17_closed : closedR true R17 := by
  refine ⟨?_, ?_, ?_, ?_, ?_, ?_, ?_, ?_, ?_, ?_, ?_, ?_, ?_, ?_, ?_⟩
  · intro k i ls ls' st σ c s Q hl h; exact wp_weak hl h
  · intro k i ls st σ c s Q pc raw len x P ls' st' σ' hr hp hP h; exact wp_plain hr hp hP (R17_mono (plain_17 hp) h)
  · intro k i ls st σ c s Q pc off len t hr h; exact wp_goto rfl hr h
  · intro k i ls st σ c s Q pc cd off len t v hr h1 h2; exact wp_if rfl hr h1 h2
  · intro k i ls st σ c s Q pc cd off len t v w hr h1 h2; exact wp_icmp rfl hr h1 h2
  · intro k i ls st σ c s Q pc off len t hr h; exact wp_nullN rfl hr h
  · intro k i ls st σ c s Q pc off len t C r hr h; exact wp_nullR rfl hr h
  · intro k i ls st σ c s Q pc dflt lo hi offs len ts v hr h; exact wp_switch rfl hr rfl h
  · intro k i ls σ c s Q pc raw len n k' w As rest Q' a1 a2 a3 a4 a5 a6 a7 a8 a9 b1 b2 b3 h hv hx R hc
    refine hc.2.2.2.2.2.2.2.2.1 _ _ _ _ _ _ _ _ _ _ _ _ _ _ _ (fun o τ => τ 17 = σ 17 ∧ Q' o τ) a1 a2 a3 a4 a5 a6 a7 a8 a9 b1 b2 b3 (h R hc) (fun v τ hq => R17_mono hq.1 (hv v τ hq.2) R hc) (fun E τ hq => ?_)
    have h1 := hx E τ hq.2
    unfold xGo at h1 ⊢
    split
    · rename_i e
      rw [e] at h1
      exact ⟨hq.1, h1⟩
    · rename_i e
      split at h1
      · rename_i e2; exact absurd e2 e
      · obtain ⟨d1, d2, hh, d3, d4⟩ := h1
        exact ⟨d1, d2, hh, d3, R17_mono hq.1 d4 R hc⟩
  · intro k i ls σ c s Q pc len x v hr ht h R hc; exact hc.2.2.2.2.2.2.2.2.2.1 _ _ _ _ _ _ _ _ _ _ _ hr ht ⟨rfl, h⟩
  · intro k i ls σ c s Q pc len x v hr ht h; exact wp_dret rfl hr ht ⟨rfl, h⟩
  · intro k i ls σ c s Q pc len x v hr ht hv h; exact wp_aret rfl hr ht hv ⟨rfl, h⟩
  · intro k i ls σ c s Q pc len x hr ht h; exact wp_vret rfl hr ht ⟨rfl, h⟩
  · intro k i ls st σ c s Q pc j len E w hr hcat hst hf h1 h2 h; exact wp_throw rfl hr hcat hst hf h1 h2 ⟨rfl, h⟩
  · intro k i ls st σ c s Q h; exact wp_wf (fun a b => h a b)
theorem wp_17 {k i : Nat} {c s : Nat} {Q : Out → Mem → Prop} (h : wp true k i ls st σ c s Q) : wp true k i ls st σ c s (fun o τ => τ 17 = σ 17 ∧ Q o τ) := h R17 R17_closed
end Scr
