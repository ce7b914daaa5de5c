/-! The frame: the long and double arrays may be others. -/
def G15 (σ : Mem) : Prop := (∀ r k : Int, inL (σ 15 r k)) ∧ (∀ r k : Int, 0 ≤ σ 16 r k ∧ σ 16 r k < 18446744073709551616)
def noO (o : Out) : Prop := ∀ a, o = .inl (some a) → noVb a = true
def mdQ (A B : Int → Int → Int) (σ0 : Mem) (Q : Out → Mem → Prop) : Out → Mem → Prop := fun o τ => ∃ σ', τ = md A B σ' ∧ same2 σ0 σ' ∧ noO o ∧ Q o σ'
def RMd (A B : Int → Int → Int) : RR := fun k i ls st σ c s Q => ∀ σ0, same2 σ0 σ → noL ls → noS st → G15 σ → wp true k i ls st (md A B σ) c s (mdQ A B σ0 Q)
section Frm
variable {A B : Int → Int → Int} {σ σ' σ0 : Mem} {ls ls' : Vls} {st : List AV} {a : AV}
theorem same_t {a b c : Mem} (h : same2 a b) (h2 : same2 b c) : same2 a c := ⟨h2.1.trans h.1, h2.2.trans h.2⟩
theorem G_same (h : same2 σ σ') (g : G15 σ) : G15 σ' := ⟨fun r k => by rw [h.1]; exact g.1 r k, fun r k => by rw [h.2]; exact g.2 r k⟩
theorem noL_less (h : lessL ls' ls) (g : noL ls) : noL ls' := fun i a e => g i a (h.2 i a e)
theorem md_wf (h : Wf true (md A B σ)) (g : G15 σ) : Wf true σ := by
  have vl : ∀ C r, vld (md A B σ) C r → vld σ C r := fun C r z => by
    unfold vld at z ⊢
    rw [md_o (C := 20) (by decide) (by decide)] at z
    exact z
  have lv : ∀ C r, vld σ C r → vld (md A B σ) C r := fun C r z => by
    unfold vld at z ⊢
    rw [md_o (C := 20) (by decide) (by decide)]
    exact z
  obtain ⟨h1, h2, h3, h4, h5, h6, h7⟩ := h
  refine ⟨fun C r k q1 q2 q3 => ?_, g.1, g.2, fun r k => ?_, fun C r k f e e1 => ?_, fun C r k f hC hv e e2 q => ?_, fun r j hv j0 j1 q => ?_⟩
  · have := h1 C r k q1 q2 q3
    rw [md_o q2 q3] at this
    exact this
  · have := h4 r k
    rw [md_o (by decide) (by decide)] at this
    exact this
  · have := h5 C r k f e e1
    obtain ⟨q1, q2, -, -⟩ := fsp_kd C k f.1 f.2.1 f.2.2.1 f.2.2.2 e
    rw [md_o q1 q2] at this
    exact this
  · exact vl _ _ (h6 C r k f hC (lv _ _ hv) e e2 (Or.inl rfl))
  · exact vl _ _ (h7 r j (lv _ _ hv) j0 j1 (Or.inl rfl))
theorem noO_i {v : Int} : noO (.inl (some (aI v))) := fun a e => by cases e; rfl
theorem noO_d {v : UInt64} : noO (.inl (some (aD v))) := fun a e => by cases e; rfl
theorem noO_n : noO (.inl none) := fun a e => by cases e
theorem noO_x {E : Nat} : noO (.inr E) := fun a e => by cases e
theorem noO_r {v : Option (Nat × Int)} (h : v = none ∨ ∃ r, v = some (2, r)) : noO (.inl (some (.inr (.inr (.inr v))))) := fun a e => by
  cases e
  rcases h with rfl | ⟨r, rfl⟩
  · rfl
  · rfl
theorem RMd_closed : closedR true (RMd A B) := by
  refine ⟨?_, ?_, ?_, ?_, ?_, ?_, ?_, ?_, ?_, ?_, ?_, ?_, ?_, ?_, ?_⟩
  · intro k i ls ls' st σ c s Q hl h σ0 h0 nl ns g
    exact wp_weak hl (h σ0 h0 (noL_less hl nl) ns g)
  · intro k i ls st σ c s Q pc raw len x P ls' st' σ' hr hp hP h σ0 h0 nl ns g
    obtain ⟨P', e1, e2, e3, e4, e5⟩ := plain_md (A := A) (B := B) P ls' st' σ' hp nl ns
    exact wp_plain hr e1 (e2 hP) (h σ0 (same_t h0 e5) e3 e4 (G_same e5 g))
  · intro k i ls st σ c s Q pc off len t hr h σ0 h0 nl ns g
    exact wp_goto rfl hr (h σ0 h0 nl ns g)
  · intro k i ls st σ c s Q pc cd off len t v hr h1 h2 σ0 h0 nl ns g
    exact wp_if rfl hr (fun z => h1 z σ0 h0 nl (noS_t ns) g) (fun z => h2 z σ0 h0 nl (noS_t ns) g)
  · intro k i ls st σ c s Q pc cd off len t v w hr h1 h2 σ0 h0 nl ns g
    exact wp_icmp rfl hr (fun z => h1 z σ0 h0 nl (noS_t (noS_t ns)) g) (fun z => h2 z σ0 h0 nl (noS_t (noS_t ns)) g)
  · intro k i ls st σ c s Q pc off len t hr h σ0 h0 nl ns g
    exact wp_nullN rfl hr (h σ0 h0 nl (noS_t ns) g)
  · intro k i ls st σ c s Q pc off len t C r hr h σ0 h0 nl ns g
    exact wp_nullR rfl hr (h σ0 h0 nl (noS_t ns) g)
  · intro k i ls st σ c s Q pc dflt lo hi offs len ts v hr h σ0 h0 nl ns g
    exact wp_switch rfl hr rfl (h σ0 h0 nl (noS_t ns) g)
  · intro k i ls σ c s Q pc raw len n k' w As rest Q' a1 a2 a3 a4 a5 a6 a7 a8 a9 b1 b2 b3 h hv hx σ0 h0 nl ns g R hc
    have nAs : ∀ a ∈ As, noVb a = true := fun a ha => ns a (List.mem_append_left _ (List.mem_reverse.mpr ha))
    have nrest : noS rest := fun a ha => ns a (List.mem_append_right _ ha)
    have nent : noL (As.map some ++ List.replicate (mxl k' - As.length) none) := fun j a e => by
      have hm := List.mem_of_getElem? e
      rcases List.mem_append.mp hm with z | z
      · obtain ⟨b, hb, eb⟩ := List.mem_map.mp z
        cases eb
        exact nAs _ hb
      · have := List.eq_of_mem_replicate z
        cases this
    refine hc.2.2.2.2.2.2.2.2.1 _ _ _ _ _ _ _ _ _ _ _ _ _ _ _ (mdQ A B σ0 Q') a1 a2 a3 a4 a5 a6 a7 a8 a9 b1 b2 b3 (h σ0 h0 nent (fun a ha => by cases ha) g R hc) (fun v τ hq => ?_) (fun E τ hq => ?_)
    · obtain ⟨σ', rfl, q1, q2, q3⟩ := hq
      refine hv v σ' q3 σ0 q1 nl (fun a ha => ?_) (G_same (same_t ⟨h0.1.symm, h0.2.symm⟩ q1) g) R hc
      rcases List.mem_append.mp ha with z | z
      · cases v with
        | none => cases z
        | some b => exact q2 a (by rw [show a = b from List.mem_singleton.mp z])
      · exact nrest a z
    · obtain ⟨σ', rfl, q1, q2, q3⟩ := hq
      have h1 := hx E σ' q3
      unfold xGo at h1 ⊢
      split
      · rename_i e
        rw [e] at h1
        exact ⟨σ', rfl, q1, noO_x, h1⟩
      · rename_i e
        split at h1
        · rename_i e2; exact absurd e2 e
        · obtain ⟨b1, b2, hh, b3, b4⟩ := h1
          exact ⟨b1, b2, hh, b3, b4 σ0 q1 nl (fun a ha => by rw [List.mem_singleton.mp ha]; rfl) (G_same (same_t ⟨h0.1.symm, h0.2.symm⟩ q1) g) R hc⟩
  · intro k i ls σ c s Q pc len x v hr ht h σ0 h0 nl ns g R hc
    exact hc.2.2.2.2.2.2.2.2.2.1 _ _ _ _ _ _ _ _ _ _ _ hr ht ⟨σ, rfl, h0, noO_i, h⟩
  · intro k i ls σ c s Q pc len x v hr ht h σ0 h0 nl ns g R hc
    exact hc.2.2.2.2.2.2.2.2.2.2.1 _ _ _ _ _ _ _ _ _ _ _ hr ht ⟨σ, rfl, h0, noO_d, h⟩
  · intro k i ls σ c s Q pc len x v hr ht hv h σ0 h0 nl ns g R hc
    exact hc.2.2.2.2.2.2.2.2.2.2.2.1 _ _ _ _ _ _ _ _ _ _ _ hr ht hv ⟨σ, rfl, h0, noO_r hv, h⟩
  · intro k i ls σ c s Q pc len x hr ht h σ0 h0 nl ns g R hc
    exact hc.2.2.2.2.2.2.2.2.2.2.2.2.1 _ _ _ _ _ _ _ _ _ _ hr ht ⟨σ, rfl, h0, noO_n, h⟩
  · intro k i ls st σ c s Q pc j len E w hr hcat hst hf h1 h2 h σ0 h0 nl ns g R hc
    exact hc.2.2.2.2.2.2.2.2.2.2.2.2.2.1 _ _ _ _ _ _ _ _ _ _ _ _ _ hr hcat hst hf h1 h2 ⟨σ, rfl, h0, noO_x, h⟩
  · intro k i ls st σ c s Q h σ0 h0 nl ns g
    exact wp_wf (fun hw hl => h (md_wf hw g) hl σ0 h0 nl ns g)
theorem wp_frame {k i : Nat} {c s : Nat} {Q : Out → Mem → Prop} (h : wp true k i ls st σ c s Q) (nl : noL ls) (ns : noS st) (g : G15 σ) : wp true k i ls st (md A B σ) c s (mdQ A B σ Q) := h (RMd A B) RMd_closed σ same_id nl ns g
end Frm
