/-! The law's helpers: the class's call, what it throws as a number. -/
def is19 (o : Option AV) : Bool := match o with | some (.inr (.inr (.inr (some (C, _))))) => decide (C = 19) | _ => false
theorem no19_of {ls : Vls} (h : ls.all (fun o => !is19 o) = true) : no19 ls := fun i r e => by
  have := List.all_eq_true.mp h _ (List.mem_of_getElem? e)
  cases this
theorem noS_of {As : List AV} (h : As.all noVb = true) : noS As := List.all_eq_true.mp h
theorem xGo_of {k i E c s h : Nat} {ls : Vls} {σ : Mem} {Q : Out → Mem → Prop} (hn : no19 ls) (ht : inTry k i = true) (hm : (E, h) ∈ hcat k) (hw : wp true k h ls [aR 19 0] σ c s Q) : xGo (wp true) k i ls E σ c s Q := by
  unfold xGo
  split
  · rename_i e
    rw [e] at hm
    cases hm
  · exact ⟨hn, ht, h, hm, hw⟩
/-- what a helper leaves: its number kk, the class's memory a with the answer in the long array -/
def HR (o : Out) (a σ : Mem) (cd : Nat → Int) (r : Out) (τ : Mem) : Prop := ∃ (kk : Int) (A : Int → Int → Int), r = .inl (some (aI kk)) ∧ τ = md A (a 16) a ∧ same2 σ a ∧ ((kk = 0 ∧ ∃ v, o = .inl (some (aI v)) ∧ A 0 0 = v) ∨ ∃ E, o = .inr E ∧ kk = cd E)
def Ho (o : Out) (Es : List Nat) : Prop := (∃ v, o = .inl (some (aI v))) ∨ ∃ E, o = .inr E ∧ E ∈ Es
theorem md_me {a : Mem} : a = md (a 15) (a 16) a := md_self.symm
section Hlp
variable {σ a : Mem} {o : Out} {b x y w : Int}
theorem hl_addFencer (hev : Ev true 105 [aR 10 0, aI b, aI x] σ o a) (hg : G15 σ) (ho : Ho o [0, 1]) : wp true 244 0 (entL 244 [aR 10 0, aI b, aI x, aR 15 0]) [] σ 0 0 (HR o a σ (fun E => if E = 0 then 1 else 2)) := by
  show wp true 244 0 [some (aR 10 0), some (aI b), some (aI x), some (aR 15 0), none] [] σ 0 0 _
  refine wp_seg 5 (P := none) (ls' := [some (aR 10 0), some (aI b), some (aI x), some (aR 15 0), none]) (st' := [aI x, aI b, aR 10 0, aI 0, aR 15 0]) (σ' := σ) rq_244 rfl True.intro (i' := 5) rfl ?_
  refine wp_callQ (C := 10) (As := [aR 10 0, aI b, aI x]) (rest := [aI 0, aR 15 0]) rq_244 rfl rfl (show clOK 244 105 0 0 0 3 10 = true by decide +kernel) rfl (show 2 ≤ 4 by decide) (fun _ => ⟨_, rfl⟩) rfl (ev_same hev (noS_of rfl) hg) (fun v τ hq => ?_) (fun E τ hq => ?_)
  · obtain ⟨⟨e1, rfl⟩, hs⟩ := hq
    rcases ho with ⟨v, rfl⟩ | ⟨E, rfl, -⟩
    · cases e1
      refine wp_seg 2 (P := some ((0 : Int) = 0)) (ls' := [some (aR 10 0), some (aI b), some (aI x), some (aR 15 0), none]) (st' := []) (σ' := up τ 15 0 0 v) rq_244 rfl rfl (i' := 8) rfl ?_
      refine wp_goto rq_244 rfl ?_
      refine wp_seg 1 (P := none) (ls' := [some (aR 10 0), some (aI b), some (aI x), some (aR 15 0), none]) (st' := [aI 0]) (σ' := up τ 15 0 0 v) rq_244 rfl True.intro (i' := 16) rfl ?_
      exact wp_iret rq_244 rfl rt_244 ⟨0, _, rfl, up_md, hs, Or.inl ⟨rfl, v, rfl, up_s _ _ _ _ _⟩⟩
    · cases e1
  · obtain ⟨⟨e1, rfl⟩, hs⟩ := hq
    rcases ho with ⟨v, rfl⟩ | ⟨E2, rfl, hE⟩
    · cases e1
    · cases e1
      rcases List.mem_cons.mp hE with rfl | hE
      · refine xGo_of (h := 9) (no19_of rfl) (by decide +kernel) (by decide +kernel) ?_
        refine wp_seg 2 (P := none) (ls' := [some (aR 10 0), some (aI b), some (aI x), some (aR 15 0), some (aR 19 0)]) (st' := [aI 1]) (σ' := τ) rq_244 rfl True.intro (i' := 11) rfl ?_
        exact wp_iret rq_244 rfl rt_244 ⟨1, _, rfl, md_me, hs, Or.inr ⟨_, rfl, rfl⟩⟩
      have hE := List.mem_singleton.mp hE
      subst hE
      refine xGo_of (h := 12) (no19_of rfl) (by decide +kernel) (by decide +kernel) ?_
      refine wp_seg 2 (P := none) (ls' := [some (aR 10 0), some (aI b), some (aI x), some (aR 15 0), some (aR 19 0)]) (st' := [aI 2]) (σ' := τ) rq_244 rfl True.intro (i' := 14) rfl ?_
      exact wp_iret rq_244 rfl rt_244 ⟨2, _, rfl, md_me, hs, Or.inr ⟨_, rfl, rfl⟩⟩
theorem hl_drawPools (hev : Ev true 106 [aR 10 0, aI b] σ o a) (hg : G15 σ) (ho : Ho o [0, 1]) : wp true 245 0 (entL 245 [aR 10 0, aI b, aR 15 0]) [] σ 0 0 (HR o a σ (fun E => if E = 0 then 1 else if E = 1 then 2 else 0)) := by
  show wp true 245 0 [some (aR 10 0), some (aI b), some (aR 15 0), none] [] σ 0 0 _
  refine wp_seg 4 (P := none) (ls' := [some (aR 10 0), some (aI b), some (aR 15 0), none]) (st' := [aI b, aR 10 0, aI 0, aR 15 0]) (σ' := σ) rq_245 rfl True.intro (i' := 4) rfl ?_
  refine wp_callQ (C := 10) (As := [aR 10 0, aI b]) (rest := [aI 0, aR 15 0]) rq_245 rfl rfl (show clOK 245 106 0 0 0 2 10 = true by decide +kernel) rfl (show 2 ≤ 4 by decide) (fun _ => ⟨_, rfl⟩) rfl (ev_same hev (noS_of rfl) hg) (fun v τ hq => ?_) (fun E τ hq => ?_)
  · obtain ⟨⟨e1, rfl⟩, hs⟩ := hq
    rcases ho with ⟨v, rfl⟩ | ⟨E, rfl, -⟩
    · cases e1
      refine wp_seg 2 (P := some ((0 : Int) = 0)) (ls' := [some (aR 10 0), some (aI b), some (aR 15 0), none]) (st' := []) (σ' := up τ 15 0 0 v) rq_245 rfl rfl (i' := 7) rfl ?_
      refine wp_goto rq_245 rfl ?_
      refine wp_seg 1 (P := none) (ls' := [some (aR 10 0), some (aI b), some (aR 15 0), none]) (st' := [aI 0]) (σ' := up τ 15 0 0 v) rq_245 rfl True.intro (i' := 15) rfl ?_
      exact wp_iret rq_245 rfl rt_245 ⟨0, _, rfl, up_md, hs, Or.inl ⟨rfl, v, rfl, up_s _ _ _ _ _⟩⟩
    · cases e1
  · obtain ⟨⟨e1, rfl⟩, hs⟩ := hq
    rcases ho with ⟨v, rfl⟩ | ⟨E2, rfl, hE⟩
    · cases e1
    · cases e1
      rcases List.mem_cons.mp hE with rfl | hE
      · refine xGo_of (h := 8) (no19_of rfl) (by decide +kernel) (by decide +kernel) ?_
        refine wp_seg 2 (P := none) (ls' := [some (aR 10 0), some (aI b), some (aR 15 0), some (aR 19 0)]) (st' := [aI 1]) (σ' := τ) rq_245 rfl True.intro (i' := 10) rfl ?_
        exact wp_iret rq_245 rfl rt_245 ⟨1, _, rfl, md_me, hs, Or.inr ⟨_, rfl, rfl⟩⟩
      have hE := List.mem_singleton.mp hE
      subst hE
      refine xGo_of (h := 11) (no19_of rfl) (by decide +kernel) (by decide +kernel) ?_
      refine wp_seg 2 (P := none) (ls' := [some (aR 10 0), some (aI b), some (aR 15 0), some (aR 19 0)]) (st' := [aI 2]) (σ' := τ) rq_245 rfl True.intro (i' := 13) rfl ?_
      exact wp_iret rq_245 rfl rt_245 ⟨2, _, rfl, md_me, hs, Or.inr ⟨_, rfl, rfl⟩⟩
theorem hl_setSeed (hev : Ev true 107 [aR 10 0, aI b] σ o a) (hg : G15 σ) (ho : Ho o [0]) : wp true 246 0 (entL 246 [aR 10 0, aI b, aR 15 0]) [] σ 0 0 (HR o a σ (fun _ => 1)) := by
  show wp true 246 0 [some (aR 10 0), some (aI b), some (aR 15 0), none] [] σ 0 0 _
  refine wp_seg 4 (P := none) (ls' := [some (aR 10 0), some (aI b), some (aR 15 0), none]) (st' := [aI b, aR 10 0, aI 0, aR 15 0]) (σ' := σ) rq_246 rfl True.intro (i' := 4) rfl ?_
  refine wp_callQ (C := 10) (As := [aR 10 0, aI b]) (rest := [aI 0, aR 15 0]) rq_246 rfl rfl (show clOK 246 107 0 0 0 2 10 = true by decide +kernel) rfl (show 2 ≤ 4 by decide) (fun _ => ⟨_, rfl⟩) rfl (ev_same hev (noS_of rfl) hg) (fun v τ hq => ?_) (fun E τ hq => ?_)
  · obtain ⟨⟨e1, rfl⟩, hs⟩ := hq
    rcases ho with ⟨v, rfl⟩ | ⟨E, rfl, -⟩
    · cases e1
      refine wp_seg 2 (P := some ((0 : Int) = 0)) (ls' := [some (aR 10 0), some (aI b), some (aR 15 0), none]) (st' := []) (σ' := up τ 15 0 0 v) rq_246 rfl rfl (i' := 7) rfl ?_
      refine wp_goto rq_246 rfl ?_
      refine wp_seg 1 (P := none) (ls' := [some (aR 10 0), some (aI b), some (aR 15 0), none]) (st' := [aI 0]) (σ' := up τ 15 0 0 v) rq_246 rfl True.intro (i' := 12) rfl ?_
      exact wp_iret rq_246 rfl rt_246 ⟨0, _, rfl, up_md, hs, Or.inl ⟨rfl, v, rfl, up_s _ _ _ _ _⟩⟩
    · cases e1
  · obtain ⟨⟨e1, rfl⟩, hs⟩ := hq
    rcases ho with ⟨v, rfl⟩ | ⟨E2, rfl, hE⟩
    · cases e1
    · cases e1
      have hE := List.mem_singleton.mp hE
      subst hE
      refine xGo_of (h := 8) (no19_of rfl) (by decide +kernel) (by decide +kernel) ?_
      refine wp_seg 2 (P := none) (ls' := [some (aR 10 0), some (aI b), some (aR 15 0), some (aR 19 0)]) (st' := [aI 1]) (σ' := τ) rq_246 rfl True.intro (i' := 10) rfl ?_
      exact wp_iret rq_246 rfl rt_246 ⟨1, _, rfl, md_me, hs, Or.inr ⟨_, rfl, rfl⟩⟩
theorem hl_fencer (hev : Ev true 108 [aR 10 0, aI b, aI x] σ o a) (hg : G15 σ) (ho : Ho o [2, 0]) : wp true 247 0 (entL 247 [aR 10 0, aI b, aI x, aR 15 0]) [] σ 0 0 (HR o a σ (fun E => if E = 2 then 1 else 2)) := by
  show wp true 247 0 [some (aR 10 0), some (aI b), some (aI x), some (aR 15 0), none] [] σ 0 0 _
  refine wp_seg 5 (P := none) (ls' := [some (aR 10 0), some (aI b), some (aI x), some (aR 15 0), none]) (st' := [aI x, aI b, aR 10 0, aI 0, aR 15 0]) (σ' := σ) rq_247 rfl True.intro (i' := 5) rfl ?_
  refine wp_callQ (C := 10) (As := [aR 10 0, aI b, aI x]) (rest := [aI 0, aR 15 0]) rq_247 rfl rfl (show clOK 247 108 0 0 0 3 10 = true by decide +kernel) rfl (show 2 ≤ 4 by decide) (fun _ => ⟨_, rfl⟩) rfl (ev_same hev (noS_of rfl) hg) (fun v τ hq => ?_) (fun E τ hq => ?_)
  · obtain ⟨⟨e1, rfl⟩, hs⟩ := hq
    rcases ho with ⟨v, rfl⟩ | ⟨E, rfl, -⟩
    · cases e1
      refine wp_seg 2 (P := some ((0 : Int) = 0)) (ls' := [some (aR 10 0), some (aI b), some (aI x), some (aR 15 0), none]) (st' := []) (σ' := up τ 15 0 0 v) rq_247 rfl rfl (i' := 8) rfl ?_
      refine wp_goto rq_247 rfl ?_
      refine wp_seg 1 (P := none) (ls' := [some (aR 10 0), some (aI b), some (aI x), some (aR 15 0), none]) (st' := [aI 0]) (σ' := up τ 15 0 0 v) rq_247 rfl True.intro (i' := 16) rfl ?_
      exact wp_iret rq_247 rfl rt_247 ⟨0, _, rfl, up_md, hs, Or.inl ⟨rfl, v, rfl, up_s _ _ _ _ _⟩⟩
    · cases e1
  · obtain ⟨⟨e1, rfl⟩, hs⟩ := hq
    rcases ho with ⟨v, rfl⟩ | ⟨E2, rfl, hE⟩
    · cases e1
    · cases e1
      rcases List.mem_cons.mp hE with rfl | hE
      · refine xGo_of (h := 9) (no19_of rfl) (by decide +kernel) (by decide +kernel) ?_
        refine wp_seg 2 (P := none) (ls' := [some (aR 10 0), some (aI b), some (aI x), some (aR 15 0), some (aR 19 0)]) (st' := [aI 1]) (σ' := τ) rq_247 rfl True.intro (i' := 11) rfl ?_
        exact wp_iret rq_247 rfl rt_247 ⟨1, _, rfl, md_me, hs, Or.inr ⟨_, rfl, rfl⟩⟩
      have hE := List.mem_singleton.mp hE
      subst hE
      refine xGo_of (h := 12) (no19_of rfl) (by decide +kernel) (by decide +kernel) ?_
      refine wp_seg 2 (P := none) (ls' := [some (aR 10 0), some (aI b), some (aI x), some (aR 15 0), some (aR 19 0)]) (st' := [aI 2]) (σ' := τ) rq_247 rfl True.intro (i' := 14) rfl ?_
      exact wp_iret rq_247 rfl rt_247 ⟨2, _, rfl, md_me, hs, Or.inr ⟨_, rfl, rfl⟩⟩
theorem hl_meet (hev : Ev true 109 [aR 10 0, aI b] σ o a) (hg : G15 σ) (ho : Ho o [0]) : wp true 248 0 (entL 248 [aR 10 0, aI b, aR 15 0]) [] σ 0 0 (HR o a σ (fun _ => 1)) := by
  show wp true 248 0 [some (aR 10 0), some (aI b), some (aR 15 0), none] [] σ 0 0 _
  refine wp_seg 4 (P := none) (ls' := [some (aR 10 0), some (aI b), some (aR 15 0), none]) (st' := [aI b, aR 10 0, aI 0, aR 15 0]) (σ' := σ) rq_248 rfl True.intro (i' := 4) rfl ?_
  refine wp_callQ (C := 10) (As := [aR 10 0, aI b]) (rest := [aI 0, aR 15 0]) rq_248 rfl rfl (show clOK 248 109 0 0 0 2 10 = true by decide +kernel) rfl (show 2 ≤ 4 by decide) (fun _ => ⟨_, rfl⟩) rfl (ev_same hev (noS_of rfl) hg) (fun v τ hq => ?_) (fun E τ hq => ?_)
  · obtain ⟨⟨e1, rfl⟩, hs⟩ := hq
    rcases ho with ⟨v, rfl⟩ | ⟨E, rfl, -⟩
    · cases e1
      refine wp_seg 2 (P := some ((0 : Int) = 0)) (ls' := [some (aR 10 0), some (aI b), some (aR 15 0), none]) (st' := []) (σ' := up τ 15 0 0 v) rq_248 rfl rfl (i' := 7) rfl ?_
      refine wp_goto rq_248 rfl ?_
      refine wp_seg 1 (P := none) (ls' := [some (aR 10 0), some (aI b), some (aR 15 0), none]) (st' := [aI 0]) (σ' := up τ 15 0 0 v) rq_248 rfl True.intro (i' := 12) rfl ?_
      exact wp_iret rq_248 rfl rt_248 ⟨0, _, rfl, up_md, hs, Or.inl ⟨rfl, v, rfl, up_s _ _ _ _ _⟩⟩
    · cases e1
  · obtain ⟨⟨e1, rfl⟩, hs⟩ := hq
    rcases ho with ⟨v, rfl⟩ | ⟨E2, rfl, hE⟩
    · cases e1
    · cases e1
      have hE := List.mem_singleton.mp hE
      subst hE
      refine xGo_of (h := 8) (no19_of rfl) (by decide +kernel) (by decide +kernel) ?_
      refine wp_seg 2 (P := none) (ls' := [some (aR 10 0), some (aI b), some (aR 15 0), some (aR 19 0)]) (st' := [aI 1]) (σ' := τ) rq_248 rfl True.intro (i' := 10) rfl ?_
      exact wp_iret rq_248 rfl rt_248 ⟨1, _, rfl, md_me, hs, Or.inr ⟨_, rfl, rfl⟩⟩
theorem hl_members (hev : Ev true 110 [aR 10 0, aI b] σ o a) (hg : G15 σ) (ho : Ho o [2]) : wp true 249 0 (entL 249 [aR 10 0, aI b, aR 15 0]) [] σ 0 0 (HR o a σ (fun _ => 1)) := by
  show wp true 249 0 [some (aR 10 0), some (aI b), some (aR 15 0), none] [] σ 0 0 _
  refine wp_seg 4 (P := none) (ls' := [some (aR 10 0), some (aI b), some (aR 15 0), none]) (st' := [aI b, aR 10 0, aI 0, aR 15 0]) (σ' := σ) rq_249 rfl True.intro (i' := 4) rfl ?_
  refine wp_callQ (C := 10) (As := [aR 10 0, aI b]) (rest := [aI 0, aR 15 0]) rq_249 rfl rfl (show clOK 249 110 0 0 0 2 10 = true by decide +kernel) rfl (show 2 ≤ 4 by decide) (fun _ => ⟨_, rfl⟩) rfl (ev_same hev (noS_of rfl) hg) (fun v τ hq => ?_) (fun E τ hq => ?_)
  · obtain ⟨⟨e1, rfl⟩, hs⟩ := hq
    rcases ho with ⟨v, rfl⟩ | ⟨E, rfl, -⟩
    · cases e1
      refine wp_seg 2 (P := some ((0 : Int) = 0)) (ls' := [some (aR 10 0), some (aI b), some (aR 15 0), none]) (st' := []) (σ' := up τ 15 0 0 v) rq_249 rfl rfl (i' := 7) rfl ?_
      refine wp_goto rq_249 rfl ?_
      refine wp_seg 1 (P := none) (ls' := [some (aR 10 0), some (aI b), some (aR 15 0), none]) (st' := [aI 0]) (σ' := up τ 15 0 0 v) rq_249 rfl True.intro (i' := 12) rfl ?_
      exact wp_iret rq_249 rfl rt_249 ⟨0, _, rfl, up_md, hs, Or.inl ⟨rfl, v, rfl, up_s _ _ _ _ _⟩⟩
    · cases e1
  · obtain ⟨⟨e1, rfl⟩, hs⟩ := hq
    rcases ho with ⟨v, rfl⟩ | ⟨E2, rfl, hE⟩
    · cases e1
    · cases e1
      have hE := List.mem_singleton.mp hE
      subst hE
      refine xGo_of (h := 8) (no19_of rfl) (by decide +kernel) (by decide +kernel) ?_
      refine wp_seg 2 (P := none) (ls' := [some (aR 10 0), some (aI b), some (aR 15 0), some (aR 19 0)]) (st' := [aI 1]) (σ' := τ) rq_249 rfl True.intro (i' := 10) rfl ?_
      exact wp_iret rq_249 rfl rt_249 ⟨1, _, rfl, md_me, hs, Or.inr ⟨_, rfl, rfl⟩⟩
theorem hl_member (hev : Ev true 111 [aR 10 0, aI b, aI x] σ o a) (hg : G15 σ) (ho : Ho o [2, 3]) : wp true 250 0 (entL 250 [aR 10 0, aI b, aI x, aR 15 0]) [] σ 0 0 (HR o a σ (fun E => if E = 2 then 1 else 2)) := by
  show wp true 250 0 [some (aR 10 0), some (aI b), some (aI x), some (aR 15 0), none] [] σ 0 0 _
  refine wp_seg 5 (P := none) (ls' := [some (aR 10 0), some (aI b), some (aI x), some (aR 15 0), none]) (st' := [aI x, aI b, aR 10 0, aI 0, aR 15 0]) (σ' := σ) rq_250 rfl True.intro (i' := 5) rfl ?_
  refine wp_callQ (C := 10) (As := [aR 10 0, aI b, aI x]) (rest := [aI 0, aR 15 0]) rq_250 rfl rfl (show clOK 250 111 0 0 0 3 10 = true by decide +kernel) rfl (show 2 ≤ 4 by decide) (fun _ => ⟨_, rfl⟩) rfl (ev_same hev (noS_of rfl) hg) (fun v τ hq => ?_) (fun E τ hq => ?_)
  · obtain ⟨⟨e1, rfl⟩, hs⟩ := hq
    rcases ho with ⟨v, rfl⟩ | ⟨E, rfl, -⟩
    · cases e1
      refine wp_seg 2 (P := some ((0 : Int) = 0)) (ls' := [some (aR 10 0), some (aI b), some (aI x), some (aR 15 0), none]) (st' := []) (σ' := up τ 15 0 0 v) rq_250 rfl rfl (i' := 8) rfl ?_
      refine wp_goto rq_250 rfl ?_
      refine wp_seg 1 (P := none) (ls' := [some (aR 10 0), some (aI b), some (aI x), some (aR 15 0), none]) (st' := [aI 0]) (σ' := up τ 15 0 0 v) rq_250 rfl True.intro (i' := 16) rfl ?_
      exact wp_iret rq_250 rfl rt_250 ⟨0, _, rfl, up_md, hs, Or.inl ⟨rfl, v, rfl, up_s _ _ _ _ _⟩⟩
    · cases e1
  · obtain ⟨⟨e1, rfl⟩, hs⟩ := hq
    rcases ho with ⟨v, rfl⟩ | ⟨E2, rfl, hE⟩
    · cases e1
    · cases e1
      rcases List.mem_cons.mp hE with rfl | hE
      · refine xGo_of (h := 9) (no19_of rfl) (by decide +kernel) (by decide +kernel) ?_
        refine wp_seg 2 (P := none) (ls' := [some (aR 10 0), some (aI b), some (aI x), some (aR 15 0), some (aR 19 0)]) (st' := [aI 1]) (σ' := τ) rq_250 rfl True.intro (i' := 11) rfl ?_
        exact wp_iret rq_250 rfl rt_250 ⟨1, _, rfl, md_me, hs, Or.inr ⟨_, rfl, rfl⟩⟩
      have hE := List.mem_singleton.mp hE
      subst hE
      refine xGo_of (h := 12) (no19_of rfl) (by decide +kernel) (by decide +kernel) ?_
      refine wp_seg 2 (P := none) (ls' := [some (aR 10 0), some (aI b), some (aI x), some (aR 15 0), some (aR 19 0)]) (st' := [aI 2]) (σ' := τ) rq_250 rfl True.intro (i' := 14) rfl ?_
      exact wp_iret rq_250 rfl rt_250 ⟨2, _, rfl, md_me, hs, Or.inr ⟨_, rfl, rfl⟩⟩
theorem hl_bout (hev : Ev true 113 [aR 10 0, aI b, aI x] σ o a) (hg : G15 σ) (ho : Ho o [2, 0]) : wp true 251 0 (entL 251 [aR 10 0, aI b, aI x, aR 15 0]) [] σ 0 0 (HR o a σ (fun E => if E = 2 then 1 else 2)) := by
  show wp true 251 0 [some (aR 10 0), some (aI b), some (aI x), some (aR 15 0), none] [] σ 0 0 _
  refine wp_seg 5 (P := none) (ls' := [some (aR 10 0), some (aI b), some (aI x), some (aR 15 0), none]) (st' := [aI x, aI b, aR 10 0, aI 0, aR 15 0]) (σ' := σ) rq_251 rfl True.intro (i' := 5) rfl ?_
  refine wp_callQ (C := 10) (As := [aR 10 0, aI b, aI x]) (rest := [aI 0, aR 15 0]) rq_251 rfl rfl (show clOK 251 113 0 0 0 3 10 = true by decide +kernel) rfl (show 2 ≤ 4 by decide) (fun _ => ⟨_, rfl⟩) rfl (ev_same hev (noS_of rfl) hg) (fun v τ hq => ?_) (fun E τ hq => ?_)
  · obtain ⟨⟨e1, rfl⟩, hs⟩ := hq
    rcases ho with ⟨v, rfl⟩ | ⟨E, rfl, -⟩
    · cases e1
      refine wp_seg 2 (P := some ((0 : Int) = 0)) (ls' := [some (aR 10 0), some (aI b), some (aI x), some (aR 15 0), none]) (st' := []) (σ' := up τ 15 0 0 v) rq_251 rfl rfl (i' := 8) rfl ?_
      refine wp_goto rq_251 rfl ?_
      refine wp_seg 1 (P := none) (ls' := [some (aR 10 0), some (aI b), some (aI x), some (aR 15 0), none]) (st' := [aI 0]) (σ' := up τ 15 0 0 v) rq_251 rfl True.intro (i' := 16) rfl ?_
      exact wp_iret rq_251 rfl rt_251 ⟨0, _, rfl, up_md, hs, Or.inl ⟨rfl, v, rfl, up_s _ _ _ _ _⟩⟩
    · cases e1
  · obtain ⟨⟨e1, rfl⟩, hs⟩ := hq
    rcases ho with ⟨v, rfl⟩ | ⟨E2, rfl, hE⟩
    · cases e1
    · cases e1
      rcases List.mem_cons.mp hE with rfl | hE
      · refine xGo_of (h := 9) (no19_of rfl) (by decide +kernel) (by decide +kernel) ?_
        refine wp_seg 2 (P := none) (ls' := [some (aR 10 0), some (aI b), some (aI x), some (aR 15 0), some (aR 19 0)]) (st' := [aI 1]) (σ' := τ) rq_251 rfl True.intro (i' := 11) rfl ?_
        exact wp_iret rq_251 rfl rt_251 ⟨1, _, rfl, md_me, hs, Or.inr ⟨_, rfl, rfl⟩⟩
      have hE := List.mem_singleton.mp hE
      subst hE
      refine xGo_of (h := 12) (no19_of rfl) (by decide +kernel) (by decide +kernel) ?_
      refine wp_seg 2 (P := none) (ls' := [some (aR 10 0), some (aI b), some (aI x), some (aR 15 0), some (aR 19 0)]) (st' := [aI 2]) (σ' := τ) rq_251 rfl True.intro (i' := 14) rfl ?_
      exact wp_iret rq_251 rfl rt_251 ⟨2, _, rfl, md_me, hs, Or.inr ⟨_, rfl, rfl⟩⟩
theorem hl_current (hev : Ev true 114 [aR 10 0] σ o a) (hg : G15 σ) (ho : Ho o [3]) : wp true 252 0 (entL 252 [aR 10 0, aR 15 0]) [] σ 0 0 (HR o a σ (fun _ => 1)) := by
  show wp true 252 0 [some (aR 10 0), some (aR 15 0), none] [] σ 0 0 _
  refine wp_seg 3 (P := none) (ls' := [some (aR 10 0), some (aR 15 0), none]) (st' := [aR 10 0, aI 0, aR 15 0]) (σ' := σ) rq_252 rfl True.intro (i' := 3) rfl ?_
  refine wp_callQ (C := 10) (As := [aR 10 0]) (rest := [aI 0, aR 15 0]) rq_252 rfl rfl (show clOK 252 114 0 0 0 1 10 = true by decide +kernel) rfl (show 2 ≤ 4 by decide) (fun _ => ⟨_, rfl⟩) rfl (ev_same hev (noS_of rfl) hg) (fun v τ hq => ?_) (fun E τ hq => ?_)
  · obtain ⟨⟨e1, rfl⟩, hs⟩ := hq
    rcases ho with ⟨v, rfl⟩ | ⟨E, rfl, -⟩
    · cases e1
      refine wp_seg 2 (P := some ((0 : Int) = 0)) (ls' := [some (aR 10 0), some (aR 15 0), none]) (st' := []) (σ' := up τ 15 0 0 v) rq_252 rfl rfl (i' := 6) rfl ?_
      refine wp_goto rq_252 rfl ?_
      refine wp_seg 1 (P := none) (ls' := [some (aR 10 0), some (aR 15 0), none]) (st' := [aI 0]) (σ' := up τ 15 0 0 v) rq_252 rfl True.intro (i' := 11) rfl ?_
      exact wp_iret rq_252 rfl rt_252 ⟨0, _, rfl, up_md, hs, Or.inl ⟨rfl, v, rfl, up_s _ _ _ _ _⟩⟩
    · cases e1
  · obtain ⟨⟨e1, rfl⟩, hs⟩ := hq
    rcases ho with ⟨v, rfl⟩ | ⟨E2, rfl, hE⟩
    · cases e1
    · cases e1
      have hE := List.mem_singleton.mp hE
      subst hE
      refine xGo_of (h := 7) (no19_of rfl) (by decide +kernel) (by decide +kernel) ?_
      refine wp_seg 2 (P := none) (ls' := [some (aR 10 0), some (aR 15 0), some (aR 19 0)]) (st' := [aI 1]) (σ' := τ) rq_252 rfl True.intro (i' := 9) rfl ?_
      exact wp_iret rq_252 rfl rt_252 ⟨1, _, rfl, md_me, hs, Or.inr ⟨_, rfl, rfl⟩⟩
theorem hl_poolBout (hev : Ev true 115 [aR 10 0, aI b, aI x] σ o a) (hg : G15 σ) (ho : Ho o [2, 3]) : wp true 253 0 (entL 253 [aR 10 0, aI b, aI x, aR 15 0]) [] σ 0 0 (HR o a σ (fun E => if E = 2 then 1 else 2)) := by
  show wp true 253 0 [some (aR 10 0), some (aI b), some (aI x), some (aR 15 0), none] [] σ 0 0 _
  refine wp_seg 5 (P := none) (ls' := [some (aR 10 0), some (aI b), some (aI x), some (aR 15 0), none]) (st' := [aI x, aI b, aR 10 0, aI 0, aR 15 0]) (σ' := σ) rq_253 rfl True.intro (i' := 5) rfl ?_
  refine wp_callQ (C := 10) (As := [aR 10 0, aI b, aI x]) (rest := [aI 0, aR 15 0]) rq_253 rfl rfl (show clOK 253 115 0 0 0 3 10 = true by decide +kernel) rfl (show 2 ≤ 4 by decide) (fun _ => ⟨_, rfl⟩) rfl (ev_same hev (noS_of rfl) hg) (fun v τ hq => ?_) (fun E τ hq => ?_)
  · obtain ⟨⟨e1, rfl⟩, hs⟩ := hq
    rcases ho with ⟨v, rfl⟩ | ⟨E, rfl, -⟩
    · cases e1
      refine wp_seg 2 (P := some ((0 : Int) = 0)) (ls' := [some (aR 10 0), some (aI b), some (aI x), some (aR 15 0), none]) (st' := []) (σ' := up τ 15 0 0 v) rq_253 rfl rfl (i' := 8) rfl ?_
      refine wp_goto rq_253 rfl ?_
      refine wp_seg 1 (P := none) (ls' := [some (aR 10 0), some (aI b), some (aI x), some (aR 15 0), none]) (st' := [aI 0]) (σ' := up τ 15 0 0 v) rq_253 rfl True.intro (i' := 16) rfl ?_
      exact wp_iret rq_253 rfl rt_253 ⟨0, _, rfl, up_md, hs, Or.inl ⟨rfl, v, rfl, up_s _ _ _ _ _⟩⟩
    · cases e1
  · obtain ⟨⟨e1, rfl⟩, hs⟩ := hq
    rcases ho with ⟨v, rfl⟩ | ⟨E2, rfl, hE⟩
    · cases e1
    · cases e1
      rcases List.mem_cons.mp hE with rfl | hE
      · refine xGo_of (h := 9) (no19_of rfl) (by decide +kernel) (by decide +kernel) ?_
        refine wp_seg 2 (P := none) (ls' := [some (aR 10 0), some (aI b), some (aI x), some (aR 15 0), some (aR 19 0)]) (st' := [aI 1]) (σ' := τ) rq_253 rfl True.intro (i' := 11) rfl ?_
        exact wp_iret rq_253 rfl rt_253 ⟨1, _, rfl, md_me, hs, Or.inr ⟨_, rfl, rfl⟩⟩
      have hE := List.mem_singleton.mp hE
      subst hE
      refine xGo_of (h := 12) (no19_of rfl) (by decide +kernel) (by decide +kernel) ?_
      refine wp_seg 2 (P := none) (ls' := [some (aR 10 0), some (aI b), some (aI x), some (aR 15 0), some (aR 19 0)]) (st' := [aI 2]) (σ' := τ) rq_253 rfl True.intro (i' := 14) rfl ?_
      exact wp_iret rq_253 rfl rt_253 ⟨2, _, rfl, md_me, hs, Or.inr ⟨_, rfl, rfl⟩⟩
theorem hl_begin (hev : Ev true 116 [aR 10 0, aI b] σ o a) (hg : G15 σ) (ho : Ho o [2, 4]) : wp true 254 0 (entL 254 [aR 10 0, aI b, aR 15 0]) [] σ 0 0 (HR o a σ (fun E => if E = 2 then 1 else 2)) := by
  show wp true 254 0 [some (aR 10 0), some (aI b), some (aR 15 0), none] [] σ 0 0 _
  refine wp_seg 4 (P := none) (ls' := [some (aR 10 0), some (aI b), some (aR 15 0), none]) (st' := [aI b, aR 10 0, aI 0, aR 15 0]) (σ' := σ) rq_254 rfl True.intro (i' := 4) rfl ?_
  refine wp_callQ (C := 10) (As := [aR 10 0, aI b]) (rest := [aI 0, aR 15 0]) rq_254 rfl rfl (show clOK 254 116 0 0 0 2 10 = true by decide +kernel) rfl (show 2 ≤ 4 by decide) (fun _ => ⟨_, rfl⟩) rfl (ev_same hev (noS_of rfl) hg) (fun v τ hq => ?_) (fun E τ hq => ?_)
  · obtain ⟨⟨e1, rfl⟩, hs⟩ := hq
    rcases ho with ⟨v, rfl⟩ | ⟨E, rfl, -⟩
    · cases e1
      refine wp_seg 2 (P := some ((0 : Int) = 0)) (ls' := [some (aR 10 0), some (aI b), some (aR 15 0), none]) (st' := []) (σ' := up τ 15 0 0 v) rq_254 rfl rfl (i' := 7) rfl ?_
      refine wp_goto rq_254 rfl ?_
      refine wp_seg 1 (P := none) (ls' := [some (aR 10 0), some (aI b), some (aR 15 0), none]) (st' := [aI 0]) (σ' := up τ 15 0 0 v) rq_254 rfl True.intro (i' := 15) rfl ?_
      exact wp_iret rq_254 rfl rt_254 ⟨0, _, rfl, up_md, hs, Or.inl ⟨rfl, v, rfl, up_s _ _ _ _ _⟩⟩
    · cases e1
  · obtain ⟨⟨e1, rfl⟩, hs⟩ := hq
    rcases ho with ⟨v, rfl⟩ | ⟨E2, rfl, hE⟩
    · cases e1
    · cases e1
      rcases List.mem_cons.mp hE with rfl | hE
      · refine xGo_of (h := 8) (no19_of rfl) (by decide +kernel) (by decide +kernel) ?_
        refine wp_seg 2 (P := none) (ls' := [some (aR 10 0), some (aI b), some (aR 15 0), some (aR 19 0)]) (st' := [aI 1]) (σ' := τ) rq_254 rfl True.intro (i' := 10) rfl ?_
        exact wp_iret rq_254 rfl rt_254 ⟨1, _, rfl, md_me, hs, Or.inr ⟨_, rfl, rfl⟩⟩
      have hE := List.mem_singleton.mp hE
      subst hE
      refine xGo_of (h := 11) (no19_of rfl) (by decide +kernel) (by decide +kernel) ?_
      refine wp_seg 2 (P := none) (ls' := [some (aR 10 0), some (aI b), some (aR 15 0), some (aR 19 0)]) (st' := [aI 2]) (σ' := τ) rq_254 rfl True.intro (i' := 13) rfl ?_
      exact wp_iret rq_254 rfl rt_254 ⟨2, _, rfl, md_me, hs, Or.inr ⟨_, rfl, rfl⟩⟩
theorem hl_touch (hev : Ev true 117 [aR 10 0, aI b] σ o a) (hg : G15 σ) (ho : Ho o [0, 1]) : wp true 255 0 (entL 255 [aR 10 0, aI b, aR 15 0]) [] σ 0 0 (HR o a σ (fun E => if E = 0 then 1 else 2)) := by
  show wp true 255 0 [some (aR 10 0), some (aI b), some (aR 15 0), none] [] σ 0 0 _
  refine wp_seg 4 (P := none) (ls' := [some (aR 10 0), some (aI b), some (aR 15 0), none]) (st' := [aI b, aR 10 0, aI 0, aR 15 0]) (σ' := σ) rq_255 rfl True.intro (i' := 4) rfl ?_
  refine wp_callQ (C := 10) (As := [aR 10 0, aI b]) (rest := [aI 0, aR 15 0]) rq_255 rfl rfl (show clOK 255 117 0 0 0 2 10 = true by decide +kernel) rfl (show 2 ≤ 4 by decide) (fun _ => ⟨_, rfl⟩) rfl (ev_same hev (noS_of rfl) hg) (fun v τ hq => ?_) (fun E τ hq => ?_)
  · obtain ⟨⟨e1, rfl⟩, hs⟩ := hq
    rcases ho with ⟨v, rfl⟩ | ⟨E, rfl, -⟩
    · cases e1
      refine wp_seg 2 (P := some ((0 : Int) = 0)) (ls' := [some (aR 10 0), some (aI b), some (aR 15 0), none]) (st' := []) (σ' := up τ 15 0 0 v) rq_255 rfl rfl (i' := 7) rfl ?_
      refine wp_goto rq_255 rfl ?_
      refine wp_seg 1 (P := none) (ls' := [some (aR 10 0), some (aI b), some (aR 15 0), none]) (st' := [aI 0]) (σ' := up τ 15 0 0 v) rq_255 rfl True.intro (i' := 15) rfl ?_
      exact wp_iret rq_255 rfl rt_255 ⟨0, _, rfl, up_md, hs, Or.inl ⟨rfl, v, rfl, up_s _ _ _ _ _⟩⟩
    · cases e1
  · obtain ⟨⟨e1, rfl⟩, hs⟩ := hq
    rcases ho with ⟨v, rfl⟩ | ⟨E2, rfl, hE⟩
    · cases e1
    · cases e1
      rcases List.mem_cons.mp hE with rfl | hE
      · refine xGo_of (h := 8) (no19_of rfl) (by decide +kernel) (by decide +kernel) ?_
        refine wp_seg 2 (P := none) (ls' := [some (aR 10 0), some (aI b), some (aR 15 0), some (aR 19 0)]) (st' := [aI 1]) (σ' := τ) rq_255 rfl True.intro (i' := 10) rfl ?_
        exact wp_iret rq_255 rfl rt_255 ⟨1, _, rfl, md_me, hs, Or.inr ⟨_, rfl, rfl⟩⟩
      have hE := List.mem_singleton.mp hE
      subst hE
      refine xGo_of (h := 11) (no19_of rfl) (by decide +kernel) (by decide +kernel) ?_
      refine wp_seg 2 (P := none) (ls' := [some (aR 10 0), some (aI b), some (aR 15 0), some (aR 19 0)]) (st' := [aI 2]) (σ' := τ) rq_255 rfl True.intro (i' := 13) rfl ?_
      exact wp_iret rq_255 rfl rt_255 ⟨2, _, rfl, md_me, hs, Or.inr ⟨_, rfl, rfl⟩⟩
theorem hl_time (hev : Ev true 118 [aR 10 0] σ o a) (hg : G15 σ) (ho : Ho o [1]) : wp true 256 0 (entL 256 [aR 10 0, aR 15 0]) [] σ 0 0 (HR o a σ (fun _ => 1)) := by
  show wp true 256 0 [some (aR 10 0), some (aR 15 0), none] [] σ 0 0 _
  refine wp_seg 3 (P := none) (ls' := [some (aR 10 0), some (aR 15 0), none]) (st' := [aR 10 0, aI 0, aR 15 0]) (σ' := σ) rq_256 rfl True.intro (i' := 3) rfl ?_
  refine wp_callQ (C := 10) (As := [aR 10 0]) (rest := [aI 0, aR 15 0]) rq_256 rfl rfl (show clOK 256 118 0 0 0 1 10 = true by decide +kernel) rfl (show 2 ≤ 4 by decide) (fun _ => ⟨_, rfl⟩) rfl (ev_same hev (noS_of rfl) hg) (fun v τ hq => ?_) (fun E τ hq => ?_)
  · obtain ⟨⟨e1, rfl⟩, hs⟩ := hq
    rcases ho with ⟨v, rfl⟩ | ⟨E, rfl, -⟩
    · cases e1
      refine wp_seg 2 (P := some ((0 : Int) = 0)) (ls' := [some (aR 10 0), some (aR 15 0), none]) (st' := []) (σ' := up τ 15 0 0 v) rq_256 rfl rfl (i' := 6) rfl ?_
      refine wp_goto rq_256 rfl ?_
      refine wp_seg 1 (P := none) (ls' := [some (aR 10 0), some (aR 15 0), none]) (st' := [aI 0]) (σ' := up τ 15 0 0 v) rq_256 rfl True.intro (i' := 11) rfl ?_
      exact wp_iret rq_256 rfl rt_256 ⟨0, _, rfl, up_md, hs, Or.inl ⟨rfl, v, rfl, up_s _ _ _ _ _⟩⟩
    · cases e1
  · obtain ⟨⟨e1, rfl⟩, hs⟩ := hq
    rcases ho with ⟨v, rfl⟩ | ⟨E2, rfl, hE⟩
    · cases e1
    · cases e1
      have hE := List.mem_singleton.mp hE
      subst hE
      refine xGo_of (h := 7) (no19_of rfl) (by decide +kernel) (by decide +kernel) ?_
      refine wp_seg 2 (P := none) (ls' := [some (aR 10 0), some (aR 15 0), some (aR 19 0)]) (st' := [aI 1]) (σ' := τ) rq_256 rfl True.intro (i' := 9) rfl ?_
      exact wp_iret rq_256 rfl rt_256 ⟨1, _, rfl, md_me, hs, Or.inr ⟨_, rfl, rfl⟩⟩
theorem hl_card (hev : Ev true 119 [aR 10 0, aI b, aI x] σ o a) (hg : G15 σ) (ho : Ho o [0, 1]) : wp true 257 0 (entL 257 [aR 10 0, aI b, aI x, aR 15 0]) [] σ 0 0 (HR o a σ (fun E => if E = 0 then 1 else 2)) := by
  show wp true 257 0 [some (aR 10 0), some (aI b), some (aI x), some (aR 15 0), none] [] σ 0 0 _
  refine wp_seg 5 (P := none) (ls' := [some (aR 10 0), some (aI b), some (aI x), some (aR 15 0), none]) (st' := [aI x, aI b, aR 10 0, aI 0, aR 15 0]) (σ' := σ) rq_257 rfl True.intro (i' := 5) rfl ?_
  refine wp_callQ (C := 10) (As := [aR 10 0, aI b, aI x]) (rest := [aI 0, aR 15 0]) rq_257 rfl rfl (show clOK 257 119 0 0 0 3 10 = true by decide +kernel) rfl (show 2 ≤ 4 by decide) (fun _ => ⟨_, rfl⟩) rfl (ev_same hev (noS_of rfl) hg) (fun v τ hq => ?_) (fun E τ hq => ?_)
  · obtain ⟨⟨e1, rfl⟩, hs⟩ := hq
    rcases ho with ⟨v, rfl⟩ | ⟨E, rfl, -⟩
    · cases e1
      refine wp_seg 2 (P := some ((0 : Int) = 0)) (ls' := [some (aR 10 0), some (aI b), some (aI x), some (aR 15 0), none]) (st' := []) (σ' := up τ 15 0 0 v) rq_257 rfl rfl (i' := 8) rfl ?_
      refine wp_goto rq_257 rfl ?_
      refine wp_seg 1 (P := none) (ls' := [some (aR 10 0), some (aI b), some (aI x), some (aR 15 0), none]) (st' := [aI 0]) (σ' := up τ 15 0 0 v) rq_257 rfl True.intro (i' := 16) rfl ?_
      exact wp_iret rq_257 rfl rt_257 ⟨0, _, rfl, up_md, hs, Or.inl ⟨rfl, v, rfl, up_s _ _ _ _ _⟩⟩
    · cases e1
  · obtain ⟨⟨e1, rfl⟩, hs⟩ := hq
    rcases ho with ⟨v, rfl⟩ | ⟨E2, rfl, hE⟩
    · cases e1
    · cases e1
      rcases List.mem_cons.mp hE with rfl | hE
      · refine xGo_of (h := 9) (no19_of rfl) (by decide +kernel) (by decide +kernel) ?_
        refine wp_seg 2 (P := none) (ls' := [some (aR 10 0), some (aI b), some (aI x), some (aR 15 0), some (aR 19 0)]) (st' := [aI 1]) (σ' := τ) rq_257 rfl True.intro (i' := 11) rfl ?_
        exact wp_iret rq_257 rfl rt_257 ⟨1, _, rfl, md_me, hs, Or.inr ⟨_, rfl, rfl⟩⟩
      have hE := List.mem_singleton.mp hE
      subst hE
      refine xGo_of (h := 12) (no19_of rfl) (by decide +kernel) (by decide +kernel) ?_
      refine wp_seg 2 (P := none) (ls' := [some (aR 10 0), some (aI b), some (aI x), some (aR 15 0), some (aR 19 0)]) (st' := [aI 2]) (σ' := τ) rq_257 rfl True.intro (i' := 14) rfl ?_
      exact wp_iret rq_257 rfl rt_257 ⟨2, _, rfl, md_me, hs, Or.inr ⟨_, rfl, rfl⟩⟩
theorem hl_enter (hev : Ev true 120 [aR 10 0, aI b, aI x, aI y, aI w] σ o a) (hg : G15 σ) (ho : Ho o [2, 4]) : wp true 258 0 (entL 258 [aR 10 0, aI b, aI x, aI y, aI w, aR 15 0]) [] σ 0 0 (HR o a σ (fun E => if E = 2 then 1 else 2)) := by
  show wp true 258 0 [some (aR 10 0), some (aI b), some (aI x), some (aI y), some (aI w), some (aR 15 0), none] [] σ 0 0 _
  refine wp_seg 7 (P := none) (ls' := [some (aR 10 0), some (aI b), some (aI x), some (aI y), some (aI w), some (aR 15 0), none]) (st' := [aI w, aI y, aI x, aI b, aR 10 0, aI 0, aR 15 0]) (σ' := σ) rq_258 rfl True.intro (i' := 7) rfl ?_
  refine wp_callQ (C := 10) (As := [aR 10 0, aI b, aI x, aI y, aI w]) (rest := [aI 0, aR 15 0]) rq_258 rfl rfl (show clOK 258 120 0 0 0 5 10 = true by decide +kernel) rfl (show 2 ≤ 4 by decide) (fun _ => ⟨_, rfl⟩) rfl (ev_same hev (noS_of rfl) hg) (fun v τ hq => ?_) (fun E τ hq => ?_)
  · obtain ⟨⟨e1, rfl⟩, hs⟩ := hq
    rcases ho with ⟨v, rfl⟩ | ⟨E, rfl, -⟩
    · cases e1
      refine wp_seg 2 (P := some ((0 : Int) = 0)) (ls' := [some (aR 10 0), some (aI b), some (aI x), some (aI y), some (aI w), some (aR 15 0), none]) (st' := []) (σ' := up τ 15 0 0 v) rq_258 rfl rfl (i' := 10) rfl ?_
      refine wp_goto rq_258 rfl ?_
      refine wp_seg 1 (P := none) (ls' := [some (aR 10 0), some (aI b), some (aI x), some (aI y), some (aI w), some (aR 15 0), none]) (st' := [aI 0]) (σ' := up τ 15 0 0 v) rq_258 rfl True.intro (i' := 18) rfl ?_
      exact wp_iret rq_258 rfl rt_258 ⟨0, _, rfl, up_md, hs, Or.inl ⟨rfl, v, rfl, up_s _ _ _ _ _⟩⟩
    · cases e1
  · obtain ⟨⟨e1, rfl⟩, hs⟩ := hq
    rcases ho with ⟨v, rfl⟩ | ⟨E2, rfl, hE⟩
    · cases e1
    · cases e1
      rcases List.mem_cons.mp hE with rfl | hE
      · refine xGo_of (h := 11) (no19_of rfl) (by decide +kernel) (by decide +kernel) ?_
        refine wp_seg 2 (P := none) (ls' := [some (aR 10 0), some (aI b), some (aI x), some (aI y), some (aI w), some (aR 15 0), some (aR 19 0)]) (st' := [aI 1]) (σ' := τ) rq_258 rfl True.intro (i' := 13) rfl ?_
        exact wp_iret rq_258 rfl rt_258 ⟨1, _, rfl, md_me, hs, Or.inr ⟨_, rfl, rfl⟩⟩
      have hE := List.mem_singleton.mp hE
      subst hE
      refine xGo_of (h := 14) (no19_of rfl) (by decide +kernel) (by decide +kernel) ?_
      refine wp_seg 2 (P := none) (ls' := [some (aR 10 0), some (aI b), some (aI x), some (aI y), some (aI w), some (aR 15 0), some (aR 19 0)]) (st' := [aI 2]) (σ' := τ) rq_258 rfl True.intro (i' := 16) rfl ?_
      exact wp_iret rq_258 rfl rt_258 ⟨2, _, rfl, md_me, hs, Or.inr ⟨_, rfl, rfl⟩⟩
theorem hl_refusal (hev : Ev true 121 [aR 10 0] σ o a) (hg : G15 σ) (ho : Ho o [3]) : wp true 259 0 (entL 259 [aR 10 0, aR 15 0]) [] σ 0 0 (HR o a σ (fun _ => 1)) := by
  show wp true 259 0 [some (aR 10 0), some (aR 15 0), none] [] σ 0 0 _
  refine wp_seg 3 (P := none) (ls' := [some (aR 10 0), some (aR 15 0), none]) (st' := [aR 10 0, aI 0, aR 15 0]) (σ' := σ) rq_259 rfl True.intro (i' := 3) rfl ?_
  refine wp_callQ (C := 10) (As := [aR 10 0]) (rest := [aI 0, aR 15 0]) rq_259 rfl rfl (show clOK 259 121 0 0 0 1 10 = true by decide +kernel) rfl (show 2 ≤ 4 by decide) (fun _ => ⟨_, rfl⟩) rfl (ev_same hev (noS_of rfl) hg) (fun v τ hq => ?_) (fun E τ hq => ?_)
  · obtain ⟨⟨e1, rfl⟩, hs⟩ := hq
    rcases ho with ⟨v, rfl⟩ | ⟨E, rfl, -⟩
    · cases e1
      refine wp_seg 2 (P := some ((0 : Int) = 0)) (ls' := [some (aR 10 0), some (aR 15 0), none]) (st' := []) (σ' := up τ 15 0 0 v) rq_259 rfl rfl (i' := 6) rfl ?_
      refine wp_goto rq_259 rfl ?_
      refine wp_seg 1 (P := none) (ls' := [some (aR 10 0), some (aR 15 0), none]) (st' := [aI 0]) (σ' := up τ 15 0 0 v) rq_259 rfl True.intro (i' := 11) rfl ?_
      exact wp_iret rq_259 rfl rt_259 ⟨0, _, rfl, up_md, hs, Or.inl ⟨rfl, v, rfl, up_s _ _ _ _ _⟩⟩
    · cases e1
  · obtain ⟨⟨e1, rfl⟩, hs⟩ := hq
    rcases ho with ⟨v, rfl⟩ | ⟨E2, rfl, hE⟩
    · cases e1
    · cases e1
      have hE := List.mem_singleton.mp hE
      subst hE
      refine xGo_of (h := 7) (no19_of rfl) (by decide +kernel) (by decide +kernel) ?_
      refine wp_seg 2 (P := none) (ls' := [some (aR 10 0), some (aR 15 0), some (aR 19 0)]) (st' := [aI 1]) (σ' := τ) rq_259 rfl True.intro (i' := 9) rfl ?_
      exact wp_iret rq_259 rfl rt_259 ⟨1, _, rfl, md_me, hs, Or.inr ⟨_, rfl, rfl⟩⟩
theorem hl_result (hev : Ev true 122 [aR 10 0, aI b, aI x] σ o a) (hg : G15 σ) (ho : Ho o [2, 0]) : wp true 260 0 (entL 260 [aR 10 0, aI b, aI x, aR 15 0]) [] σ 0 0 (HR o a σ (fun E => if E = 2 then 1 else 2)) := by
  show wp true 260 0 [some (aR 10 0), some (aI b), some (aI x), some (aR 15 0), none] [] σ 0 0 _
  refine wp_seg 5 (P := none) (ls' := [some (aR 10 0), some (aI b), some (aI x), some (aR 15 0), none]) (st' := [aI x, aI b, aR 10 0, aI 0, aR 15 0]) (σ' := σ) rq_260 rfl True.intro (i' := 5) rfl ?_
  refine wp_callQ (C := 10) (As := [aR 10 0, aI b, aI x]) (rest := [aI 0, aR 15 0]) rq_260 rfl rfl (show clOK 260 122 0 0 0 3 10 = true by decide +kernel) rfl (show 2 ≤ 4 by decide) (fun _ => ⟨_, rfl⟩) rfl (ev_same hev (noS_of rfl) hg) (fun v τ hq => ?_) (fun E τ hq => ?_)
  · obtain ⟨⟨e1, rfl⟩, hs⟩ := hq
    rcases ho with ⟨v, rfl⟩ | ⟨E, rfl, -⟩
    · cases e1
      refine wp_seg 2 (P := some ((0 : Int) = 0)) (ls' := [some (aR 10 0), some (aI b), some (aI x), some (aR 15 0), none]) (st' := []) (σ' := up τ 15 0 0 v) rq_260 rfl rfl (i' := 8) rfl ?_
      refine wp_goto rq_260 rfl ?_
      refine wp_seg 1 (P := none) (ls' := [some (aR 10 0), some (aI b), some (aI x), some (aR 15 0), none]) (st' := [aI 0]) (σ' := up τ 15 0 0 v) rq_260 rfl True.intro (i' := 16) rfl ?_
      exact wp_iret rq_260 rfl rt_260 ⟨0, _, rfl, up_md, hs, Or.inl ⟨rfl, v, rfl, up_s _ _ _ _ _⟩⟩
    · cases e1
  · obtain ⟨⟨e1, rfl⟩, hs⟩ := hq
    rcases ho with ⟨v, rfl⟩ | ⟨E2, rfl, hE⟩
    · cases e1
    · cases e1
      rcases List.mem_cons.mp hE with rfl | hE
      · refine xGo_of (h := 9) (no19_of rfl) (by decide +kernel) (by decide +kernel) ?_
        refine wp_seg 2 (P := none) (ls' := [some (aR 10 0), some (aI b), some (aI x), some (aR 15 0), some (aR 19 0)]) (st' := [aI 1]) (σ' := τ) rq_260 rfl True.intro (i' := 11) rfl ?_
        exact wp_iret rq_260 rfl rt_260 ⟨1, _, rfl, md_me, hs, Or.inr ⟨_, rfl, rfl⟩⟩
      have hE := List.mem_singleton.mp hE
      subst hE
      refine xGo_of (h := 12) (no19_of rfl) (by decide +kernel) (by decide +kernel) ?_
      refine wp_seg 2 (P := none) (ls' := [some (aR 10 0), some (aI b), some (aI x), some (aR 15 0), some (aR 19 0)]) (st' := [aI 2]) (σ' := τ) rq_260 rfl True.intro (i' := 14) rfl ?_
      exact wp_iret rq_260 rfl rt_260 ⟨2, _, rfl, md_me, hs, Or.inr ⟨_, rfl, rfl⟩⟩
theorem hl_ranked (hev : Ev true 124 [aR 10 0, aI b] σ o a) (hg : G15 σ) (ho : Ho o [3]) : wp true 262 0 (entL 262 [aR 10 0, aI b, aR 15 0]) [] σ 0 0 (HR o a σ (fun _ => 1)) := by
  show wp true 262 0 [some (aR 10 0), some (aI b), some (aR 15 0), none] [] σ 0 0 _
  refine wp_seg 4 (P := none) (ls' := [some (aR 10 0), some (aI b), some (aR 15 0), none]) (st' := [aI b, aR 10 0, aI 0, aR 15 0]) (σ' := σ) rq_262 rfl True.intro (i' := 4) rfl ?_
  refine wp_callQ (C := 10) (As := [aR 10 0, aI b]) (rest := [aI 0, aR 15 0]) rq_262 rfl rfl (show clOK 262 124 0 0 0 2 10 = true by decide +kernel) rfl (show 2 ≤ 4 by decide) (fun _ => ⟨_, rfl⟩) rfl (ev_same hev (noS_of rfl) hg) (fun v τ hq => ?_) (fun E τ hq => ?_)
  · obtain ⟨⟨e1, rfl⟩, hs⟩ := hq
    rcases ho with ⟨v, rfl⟩ | ⟨E, rfl, -⟩
    · cases e1
      refine wp_seg 2 (P := some ((0 : Int) = 0)) (ls' := [some (aR 10 0), some (aI b), some (aR 15 0), none]) (st' := []) (σ' := up τ 15 0 0 v) rq_262 rfl rfl (i' := 7) rfl ?_
      refine wp_goto rq_262 rfl ?_
      refine wp_seg 1 (P := none) (ls' := [some (aR 10 0), some (aI b), some (aR 15 0), none]) (st' := [aI 0]) (σ' := up τ 15 0 0 v) rq_262 rfl True.intro (i' := 12) rfl ?_
      exact wp_iret rq_262 rfl rt_262 ⟨0, _, rfl, up_md, hs, Or.inl ⟨rfl, v, rfl, up_s _ _ _ _ _⟩⟩
    · cases e1
  · obtain ⟨⟨e1, rfl⟩, hs⟩ := hq
    rcases ho with ⟨v, rfl⟩ | ⟨E2, rfl, hE⟩
    · cases e1
    · cases e1
      have hE := List.mem_singleton.mp hE
      subst hE
      refine xGo_of (h := 8) (no19_of rfl) (by decide +kernel) (by decide +kernel) ?_
      refine wp_seg 2 (P := none) (ls' := [some (aR 10 0), some (aI b), some (aR 15 0), some (aR 19 0)]) (st' := [aI 1]) (σ' := τ) rq_262 rfl True.intro (i' := 10) rfl ?_
      exact wp_iret rq_262 rfl rt_262 ⟨1, _, rfl, md_me, hs, Or.inr ⟨_, rfl, rfl⟩⟩
theorem hl_place (hev : Ev true 125 [aR 10 0, aI b] σ o a) (hg : G15 σ) (ho : Ho o [2, 3]) : wp true 263 0 (entL 263 [aR 10 0, aI b, aR 15 0]) [] σ 0 0 (HR o a σ (fun E => if E = 2 then 1 else 2)) := by
  show wp true 263 0 [some (aR 10 0), some (aI b), some (aR 15 0), none] [] σ 0 0 _
  refine wp_seg 4 (P := none) (ls' := [some (aR 10 0), some (aI b), some (aR 15 0), none]) (st' := [aI b, aR 10 0, aI 0, aR 15 0]) (σ' := σ) rq_263 rfl True.intro (i' := 4) rfl ?_
  refine wp_callQ (C := 10) (As := [aR 10 0, aI b]) (rest := [aI 0, aR 15 0]) rq_263 rfl rfl (show clOK 263 125 0 0 0 2 10 = true by decide +kernel) rfl (show 2 ≤ 4 by decide) (fun _ => ⟨_, rfl⟩) rfl (ev_same hev (noS_of rfl) hg) (fun v τ hq => ?_) (fun E τ hq => ?_)
  · obtain ⟨⟨e1, rfl⟩, hs⟩ := hq
    rcases ho with ⟨v, rfl⟩ | ⟨E, rfl, -⟩
    · cases e1
      refine wp_seg 2 (P := some ((0 : Int) = 0)) (ls' := [some (aR 10 0), some (aI b), some (aR 15 0), none]) (st' := []) (σ' := up τ 15 0 0 v) rq_263 rfl rfl (i' := 7) rfl ?_
      refine wp_goto rq_263 rfl ?_
      refine wp_seg 1 (P := none) (ls' := [some (aR 10 0), some (aI b), some (aR 15 0), none]) (st' := [aI 0]) (σ' := up τ 15 0 0 v) rq_263 rfl True.intro (i' := 15) rfl ?_
      exact wp_iret rq_263 rfl rt_263 ⟨0, _, rfl, up_md, hs, Or.inl ⟨rfl, v, rfl, up_s _ _ _ _ _⟩⟩
    · cases e1
  · obtain ⟨⟨e1, rfl⟩, hs⟩ := hq
    rcases ho with ⟨v, rfl⟩ | ⟨E2, rfl, hE⟩
    · cases e1
    · cases e1
      rcases List.mem_cons.mp hE with rfl | hE
      · refine xGo_of (h := 8) (no19_of rfl) (by decide +kernel) (by decide +kernel) ?_
        refine wp_seg 2 (P := none) (ls' := [some (aR 10 0), some (aI b), some (aR 15 0), some (aR 19 0)]) (st' := [aI 1]) (σ' := τ) rq_263 rfl True.intro (i' := 10) rfl ?_
        exact wp_iret rq_263 rfl rt_263 ⟨1, _, rfl, md_me, hs, Or.inr ⟨_, rfl, rfl⟩⟩
      have hE := List.mem_singleton.mp hE
      subst hE
      refine xGo_of (h := 11) (no19_of rfl) (by decide +kernel) (by decide +kernel) ?_
      refine wp_seg 2 (P := none) (ls' := [some (aR 10 0), some (aI b), some (aR 15 0), some (aR 19 0)]) (st' := [aI 2]) (σ' := τ) rq_263 rfl True.intro (i' := 13) rfl ?_
      exact wp_iret rq_263 rfl rt_263 ⟨2, _, rfl, md_me, hs, Or.inr ⟨_, rfl, rfl⟩⟩
theorem hl_why (hev : Ev true 126 [aR 10 0, aI b, aI x] σ o a) (hg : G15 σ) (ho : Ho o [2, 3]) : wp true 264 0 (entL 264 [aR 10 0, aI b, aI x, aR 15 0]) [] σ 0 0 (HR o a σ (fun E => if E = 2 then 1 else 2)) := by
  show wp true 264 0 [some (aR 10 0), some (aI b), some (aI x), some (aR 15 0), none] [] σ 0 0 _
  refine wp_seg 5 (P := none) (ls' := [some (aR 10 0), some (aI b), some (aI x), some (aR 15 0), none]) (st' := [aI x, aI b, aR 10 0, aI 0, aR 15 0]) (σ' := σ) rq_264 rfl True.intro (i' := 5) rfl ?_
  refine wp_callQ (C := 10) (As := [aR 10 0, aI b, aI x]) (rest := [aI 0, aR 15 0]) rq_264 rfl rfl (show clOK 264 126 0 0 0 3 10 = true by decide +kernel) rfl (show 2 ≤ 4 by decide) (fun _ => ⟨_, rfl⟩) rfl (ev_same hev (noS_of rfl) hg) (fun v τ hq => ?_) (fun E τ hq => ?_)
  · obtain ⟨⟨e1, rfl⟩, hs⟩ := hq
    rcases ho with ⟨v, rfl⟩ | ⟨E, rfl, -⟩
    · cases e1
      refine wp_seg 2 (P := some ((0 : Int) = 0)) (ls' := [some (aR 10 0), some (aI b), some (aI x), some (aR 15 0), none]) (st' := []) (σ' := up τ 15 0 0 v) rq_264 rfl rfl (i' := 8) rfl ?_
      refine wp_goto rq_264 rfl ?_
      refine wp_seg 1 (P := none) (ls' := [some (aR 10 0), some (aI b), some (aI x), some (aR 15 0), none]) (st' := [aI 0]) (σ' := up τ 15 0 0 v) rq_264 rfl True.intro (i' := 16) rfl ?_
      exact wp_iret rq_264 rfl rt_264 ⟨0, _, rfl, up_md, hs, Or.inl ⟨rfl, v, rfl, up_s _ _ _ _ _⟩⟩
    · cases e1
  · obtain ⟨⟨e1, rfl⟩, hs⟩ := hq
    rcases ho with ⟨v, rfl⟩ | ⟨E2, rfl, hE⟩
    · cases e1
    · cases e1
      rcases List.mem_cons.mp hE with rfl | hE
      · refine xGo_of (h := 9) (no19_of rfl) (by decide +kernel) (by decide +kernel) ?_
        refine wp_seg 2 (P := none) (ls' := [some (aR 10 0), some (aI b), some (aI x), some (aR 15 0), some (aR 19 0)]) (st' := [aI 1]) (σ' := τ) rq_264 rfl True.intro (i' := 11) rfl ?_
        exact wp_iret rq_264 rfl rt_264 ⟨1, _, rfl, md_me, hs, Or.inr ⟨_, rfl, rfl⟩⟩
      have hE := List.mem_singleton.mp hE
      subst hE
      refine xGo_of (h := 12) (no19_of rfl) (by decide +kernel) (by decide +kernel) ?_
      refine wp_seg 2 (P := none) (ls' := [some (aR 10 0), some (aI b), some (aI x), some (aR 15 0), some (aR 19 0)]) (st' := [aI 2]) (σ' := τ) rq_264 rfl True.intro (i' := 14) rfl ?_
      exact wp_iret rq_264 rfl rt_264 ⟨2, _, rfl, md_me, hs, Or.inr ⟨_, rfl, rfl⟩⟩
theorem hl_drawTable (hev : Ev true 127 [aR 10 0] σ o a) (hg : G15 σ) (ho : Ho o [1]) : wp true 265 0 (entL 265 [aR 10 0, aR 15 0]) [] σ 0 0 (HR o a σ (fun _ => 1)) := by
  show wp true 265 0 [some (aR 10 0), some (aR 15 0), none] [] σ 0 0 _
  refine wp_seg 3 (P := none) (ls' := [some (aR 10 0), some (aR 15 0), none]) (st' := [aR 10 0, aI 0, aR 15 0]) (σ' := σ) rq_265 rfl True.intro (i' := 3) rfl ?_
  refine wp_callQ (C := 10) (As := [aR 10 0]) (rest := [aI 0, aR 15 0]) rq_265 rfl rfl (show clOK 265 127 0 0 0 1 10 = true by decide +kernel) rfl (show 2 ≤ 4 by decide) (fun _ => ⟨_, rfl⟩) rfl (ev_same hev (noS_of rfl) hg) (fun v τ hq => ?_) (fun E τ hq => ?_)
  · obtain ⟨⟨e1, rfl⟩, hs⟩ := hq
    rcases ho with ⟨v, rfl⟩ | ⟨E, rfl, -⟩
    · cases e1
      refine wp_seg 2 (P := some ((0 : Int) = 0)) (ls' := [some (aR 10 0), some (aR 15 0), none]) (st' := []) (σ' := up τ 15 0 0 v) rq_265 rfl rfl (i' := 6) rfl ?_
      refine wp_goto rq_265 rfl ?_
      refine wp_seg 1 (P := none) (ls' := [some (aR 10 0), some (aR 15 0), none]) (st' := [aI 0]) (σ' := up τ 15 0 0 v) rq_265 rfl True.intro (i' := 11) rfl ?_
      exact wp_iret rq_265 rfl rt_265 ⟨0, _, rfl, up_md, hs, Or.inl ⟨rfl, v, rfl, up_s _ _ _ _ _⟩⟩
    · cases e1
  · obtain ⟨⟨e1, rfl⟩, hs⟩ := hq
    rcases ho with ⟨v, rfl⟩ | ⟨E2, rfl, hE⟩
    · cases e1
    · cases e1
      have hE := List.mem_singleton.mp hE
      subst hE
      refine xGo_of (h := 7) (no19_of rfl) (by decide +kernel) (by decide +kernel) ?_
      refine wp_seg 2 (P := none) (ls' := [some (aR 10 0), some (aR 15 0), some (aR 19 0)]) (st' := [aI 1]) (σ' := τ) rq_265 rfl True.intro (i' := 9) rfl ?_
      exact wp_iret rq_265 rfl rt_265 ⟨1, _, rfl, md_me, hs, Or.inr ⟨_, rfl, rfl⟩⟩
theorem hl_seeded (hev : Ev true 128 [aR 10 0, aI b] σ o a) (hg : G15 σ) (ho : Ho o [1, 3]) : wp true 266 0 (entL 266 [aR 10 0, aI b, aR 15 0]) [] σ 0 0 (HR o a σ (fun E => if E = 1 then 1 else 2)) := by
  show wp true 266 0 [some (aR 10 0), some (aI b), some (aR 15 0), none] [] σ 0 0 _
  refine wp_seg 4 (P := none) (ls' := [some (aR 10 0), some (aI b), some (aR 15 0), none]) (st' := [aI b, aR 10 0, aI 0, aR 15 0]) (σ' := σ) rq_266 rfl True.intro (i' := 4) rfl ?_
  refine wp_callQ (C := 10) (As := [aR 10 0, aI b]) (rest := [aI 0, aR 15 0]) rq_266 rfl rfl (show clOK 266 128 0 0 0 2 10 = true by decide +kernel) rfl (show 2 ≤ 4 by decide) (fun _ => ⟨_, rfl⟩) rfl (ev_same hev (noS_of rfl) hg) (fun v τ hq => ?_) (fun E τ hq => ?_)
  · obtain ⟨⟨e1, rfl⟩, hs⟩ := hq
    rcases ho with ⟨v, rfl⟩ | ⟨E, rfl, -⟩
    · cases e1
      refine wp_seg 2 (P := some ((0 : Int) = 0)) (ls' := [some (aR 10 0), some (aI b), some (aR 15 0), none]) (st' := []) (σ' := up τ 15 0 0 v) rq_266 rfl rfl (i' := 7) rfl ?_
      refine wp_goto rq_266 rfl ?_
      refine wp_seg 1 (P := none) (ls' := [some (aR 10 0), some (aI b), some (aR 15 0), none]) (st' := [aI 0]) (σ' := up τ 15 0 0 v) rq_266 rfl True.intro (i' := 15) rfl ?_
      exact wp_iret rq_266 rfl rt_266 ⟨0, _, rfl, up_md, hs, Or.inl ⟨rfl, v, rfl, up_s _ _ _ _ _⟩⟩
    · cases e1
  · obtain ⟨⟨e1, rfl⟩, hs⟩ := hq
    rcases ho with ⟨v, rfl⟩ | ⟨E2, rfl, hE⟩
    · cases e1
    · cases e1
      rcases List.mem_cons.mp hE with rfl | hE
      · refine xGo_of (h := 8) (no19_of rfl) (by decide +kernel) (by decide +kernel) ?_
        refine wp_seg 2 (P := none) (ls' := [some (aR 10 0), some (aI b), some (aR 15 0), some (aR 19 0)]) (st' := [aI 1]) (σ' := τ) rq_266 rfl True.intro (i' := 10) rfl ?_
        exact wp_iret rq_266 rfl rt_266 ⟨1, _, rfl, md_me, hs, Or.inr ⟨_, rfl, rfl⟩⟩
      have hE := List.mem_singleton.mp hE
      subst hE
      refine xGo_of (h := 11) (no19_of rfl) (by decide +kernel) (by decide +kernel) ?_
      refine wp_seg 2 (P := none) (ls' := [some (aR 10 0), some (aI b), some (aR 15 0), some (aR 19 0)]) (st' := [aI 2]) (σ' := τ) rq_266 rfl True.intro (i' := 13) rfl ?_
      exact wp_iret rq_266 rfl rt_266 ⟨2, _, rfl, md_me, hs, Or.inr ⟨_, rfl, rfl⟩⟩
theorem hl_tableBout (hev : Ev true 129 [aR 10 0, aI b, aI x] σ o a) (hg : G15 σ) (ho : Ho o [1, 3]) : wp true 267 0 (entL 267 [aR 10 0, aI b, aI x, aR 15 0]) [] σ 0 0 (HR o a σ (fun E => if E = 1 then 1 else 2)) := by
  show wp true 267 0 [some (aR 10 0), some (aI b), some (aI x), some (aR 15 0), none] [] σ 0 0 _
  refine wp_seg 5 (P := none) (ls' := [some (aR 10 0), some (aI b), some (aI x), some (aR 15 0), none]) (st' := [aI x, aI b, aR 10 0, aI 0, aR 15 0]) (σ' := σ) rq_267 rfl True.intro (i' := 5) rfl ?_
  refine wp_callQ (C := 10) (As := [aR 10 0, aI b, aI x]) (rest := [aI 0, aR 15 0]) rq_267 rfl rfl (show clOK 267 129 0 0 0 3 10 = true by decide +kernel) rfl (show 2 ≤ 4 by decide) (fun _ => ⟨_, rfl⟩) rfl (ev_same hev (noS_of rfl) hg) (fun v τ hq => ?_) (fun E τ hq => ?_)
  · obtain ⟨⟨e1, rfl⟩, hs⟩ := hq
    rcases ho with ⟨v, rfl⟩ | ⟨E, rfl, -⟩
    · cases e1
      refine wp_seg 2 (P := some ((0 : Int) = 0)) (ls' := [some (aR 10 0), some (aI b), some (aI x), some (aR 15 0), none]) (st' := []) (σ' := up τ 15 0 0 v) rq_267 rfl rfl (i' := 8) rfl ?_
      refine wp_goto rq_267 rfl ?_
      refine wp_seg 1 (P := none) (ls' := [some (aR 10 0), some (aI b), some (aI x), some (aR 15 0), none]) (st' := [aI 0]) (σ' := up τ 15 0 0 v) rq_267 rfl True.intro (i' := 16) rfl ?_
      exact wp_iret rq_267 rfl rt_267 ⟨0, _, rfl, up_md, hs, Or.inl ⟨rfl, v, rfl, up_s _ _ _ _ _⟩⟩
    · cases e1
  · obtain ⟨⟨e1, rfl⟩, hs⟩ := hq
    rcases ho with ⟨v, rfl⟩ | ⟨E2, rfl, hE⟩
    · cases e1
    · cases e1
      rcases List.mem_cons.mp hE with rfl | hE
      · refine xGo_of (h := 9) (no19_of rfl) (by decide +kernel) (by decide +kernel) ?_
        refine wp_seg 2 (P := none) (ls' := [some (aR 10 0), some (aI b), some (aI x), some (aR 15 0), some (aR 19 0)]) (st' := [aI 1]) (σ' := τ) rq_267 rfl True.intro (i' := 11) rfl ?_
        exact wp_iret rq_267 rfl rt_267 ⟨1, _, rfl, md_me, hs, Or.inr ⟨_, rfl, rfl⟩⟩
      have hE := List.mem_singleton.mp hE
      subst hE
      refine xGo_of (h := 12) (no19_of rfl) (by decide +kernel) (by decide +kernel) ?_
      refine wp_seg 2 (P := none) (ls' := [some (aR 10 0), some (aI b), some (aI x), some (aR 15 0), some (aR 19 0)]) (st' := [aI 2]) (σ' := τ) rq_267 rfl True.intro (i' := 14) rfl ?_
      exact wp_iret rq_267 rfl rt_267 ⟨2, _, rfl, md_me, hs, Or.inr ⟨_, rfl, rfl⟩⟩
theorem hl_finalist (hev : Ev true 130 [aR 10 0, aI b] σ o a) (hg : G15 σ) (ho : Ho o [1, 3]) : wp true 268 0 (entL 268 [aR 10 0, aI b, aR 15 0]) [] σ 0 0 (HR o a σ (fun E => if E = 1 then 1 else 2)) := by
  show wp true 268 0 [some (aR 10 0), some (aI b), some (aR 15 0), none] [] σ 0 0 _
  refine wp_seg 4 (P := none) (ls' := [some (aR 10 0), some (aI b), some (aR 15 0), none]) (st' := [aI b, aR 10 0, aI 0, aR 15 0]) (σ' := σ) rq_268 rfl True.intro (i' := 4) rfl ?_
  refine wp_callQ (C := 10) (As := [aR 10 0, aI b]) (rest := [aI 0, aR 15 0]) rq_268 rfl rfl (show clOK 268 130 0 0 0 2 10 = true by decide +kernel) rfl (show 2 ≤ 4 by decide) (fun _ => ⟨_, rfl⟩) rfl (ev_same hev (noS_of rfl) hg) (fun v τ hq => ?_) (fun E τ hq => ?_)
  · obtain ⟨⟨e1, rfl⟩, hs⟩ := hq
    rcases ho with ⟨v, rfl⟩ | ⟨E, rfl, -⟩
    · cases e1
      refine wp_seg 2 (P := some ((0 : Int) = 0)) (ls' := [some (aR 10 0), some (aI b), some (aR 15 0), none]) (st' := []) (σ' := up τ 15 0 0 v) rq_268 rfl rfl (i' := 7) rfl ?_
      refine wp_goto rq_268 rfl ?_
      refine wp_seg 1 (P := none) (ls' := [some (aR 10 0), some (aI b), some (aR 15 0), none]) (st' := [aI 0]) (σ' := up τ 15 0 0 v) rq_268 rfl True.intro (i' := 15) rfl ?_
      exact wp_iret rq_268 rfl rt_268 ⟨0, _, rfl, up_md, hs, Or.inl ⟨rfl, v, rfl, up_s _ _ _ _ _⟩⟩
    · cases e1
  · obtain ⟨⟨e1, rfl⟩, hs⟩ := hq
    rcases ho with ⟨v, rfl⟩ | ⟨E2, rfl, hE⟩
    · cases e1
    · cases e1
      rcases List.mem_cons.mp hE with rfl | hE
      · refine xGo_of (h := 8) (no19_of rfl) (by decide +kernel) (by decide +kernel) ?_
        refine wp_seg 2 (P := none) (ls' := [some (aR 10 0), some (aI b), some (aR 15 0), some (aR 19 0)]) (st' := [aI 1]) (σ' := τ) rq_268 rfl True.intro (i' := 10) rfl ?_
        exact wp_iret rq_268 rfl rt_268 ⟨1, _, rfl, md_me, hs, Or.inr ⟨_, rfl, rfl⟩⟩
      have hE := List.mem_singleton.mp hE
      subst hE
      refine xGo_of (h := 11) (no19_of rfl) (by decide +kernel) (by decide +kernel) ?_
      refine wp_seg 2 (P := none) (ls' := [some (aR 10 0), some (aI b), some (aR 15 0), some (aR 19 0)]) (st' := [aI 2]) (σ' := τ) rq_268 rfl True.intro (i' := 13) rfl ?_
      exact wp_iret rq_268 rfl rt_268 ⟨2, _, rfl, md_me, hs, Or.inr ⟨_, rfl, rfl⟩⟩
theorem hl_toGo (hev : Ev true 131 [aR 10 0, aI b] σ o a) (hg : G15 σ) (ho : Ho o [2, 1, 3]) : wp true 269 0 (entL 269 [aR 10 0, aI b, aR 15 0]) [] σ 0 0 (HR o a σ (fun E => if E = 2 then 1 else if E = 1 then 2 else 3)) := by
  show wp true 269 0 [some (aR 10 0), some (aI b), some (aR 15 0), none] [] σ 0 0 _
  refine wp_seg 4 (P := none) (ls' := [some (aR 10 0), some (aI b), some (aR 15 0), none]) (st' := [aI b, aR 10 0, aI 0, aR 15 0]) (σ' := σ) rq_269 rfl True.intro (i' := 4) rfl ?_
  refine wp_callQ (C := 10) (As := [aR 10 0, aI b]) (rest := [aI 0, aR 15 0]) rq_269 rfl rfl (show clOK 269 131 0 0 0 2 10 = true by decide +kernel) rfl (show 2 ≤ 4 by decide) (fun _ => ⟨_, rfl⟩) rfl (ev_same hev (noS_of rfl) hg) (fun v τ hq => ?_) (fun E τ hq => ?_)
  · obtain ⟨⟨e1, rfl⟩, hs⟩ := hq
    rcases ho with ⟨v, rfl⟩ | ⟨E, rfl, -⟩
    · cases e1
      refine wp_seg 2 (P := some ((0 : Int) = 0)) (ls' := [some (aR 10 0), some (aI b), some (aR 15 0), none]) (st' := []) (σ' := up τ 15 0 0 v) rq_269 rfl rfl (i' := 7) rfl ?_
      refine wp_goto rq_269 rfl ?_
      refine wp_seg 1 (P := none) (ls' := [some (aR 10 0), some (aI b), some (aR 15 0), none]) (st' := [aI 0]) (σ' := up τ 15 0 0 v) rq_269 rfl True.intro (i' := 18) rfl ?_
      exact wp_iret rq_269 rfl rt_269 ⟨0, _, rfl, up_md, hs, Or.inl ⟨rfl, v, rfl, up_s _ _ _ _ _⟩⟩
    · cases e1
  · obtain ⟨⟨e1, rfl⟩, hs⟩ := hq
    rcases ho with ⟨v, rfl⟩ | ⟨E2, rfl, hE⟩
    · cases e1
    · cases e1
      rcases List.mem_cons.mp hE with rfl | hE
      · refine xGo_of (h := 8) (no19_of rfl) (by decide +kernel) (by decide +kernel) ?_
        refine wp_seg 2 (P := none) (ls' := [some (aR 10 0), some (aI b), some (aR 15 0), some (aR 19 0)]) (st' := [aI 1]) (σ' := τ) rq_269 rfl True.intro (i' := 10) rfl ?_
        exact wp_iret rq_269 rfl rt_269 ⟨1, _, rfl, md_me, hs, Or.inr ⟨_, rfl, rfl⟩⟩
      rcases List.mem_cons.mp hE with rfl | hE
      · refine xGo_of (h := 11) (no19_of rfl) (by decide +kernel) (by decide +kernel) ?_
        refine wp_seg 2 (P := none) (ls' := [some (aR 10 0), some (aI b), some (aR 15 0), some (aR 19 0)]) (st' := [aI 2]) (σ' := τ) rq_269 rfl True.intro (i' := 13) rfl ?_
        exact wp_iret rq_269 rfl rt_269 ⟨2, _, rfl, md_me, hs, Or.inr ⟨_, rfl, rfl⟩⟩
      have hE := List.mem_singleton.mp hE
      subst hE
      refine xGo_of (h := 14) (no19_of rfl) (by decide +kernel) (by decide +kernel) ?_
      refine wp_seg 2 (P := none) (ls' := [some (aR 10 0), some (aI b), some (aR 15 0), some (aR 19 0)]) (st' := [aI 3]) (σ' := τ) rq_269 rfl True.intro (i' := 16) rfl ?_
      exact wp_iret rq_269 rfl rt_269 ⟨3, _, rfl, md_me, hs, Or.inr ⟨_, rfl, rfl⟩⟩
theorem hl_beginRelay (hev : Ev true 132 [aR 10 0, aI b, aI x] σ o a) (hg : G15 σ) (ho : Ho o [0, 1]) : wp true 270 0 (entL 270 [aR 10 0, aI b, aI x, aR 15 0]) [] σ 0 0 (HR o a σ (fun E => if E = 0 then 1 else 2)) := by
  show wp true 270 0 [some (aR 10 0), some (aI b), some (aI x), some (aR 15 0), none] [] σ 0 0 _
  refine wp_seg 5 (P := none) (ls' := [some (aR 10 0), some (aI b), some (aI x), some (aR 15 0), none]) (st' := [aI x, aI b, aR 10 0, aI 0, aR 15 0]) (σ' := σ) rq_270 rfl True.intro (i' := 5) rfl ?_
  refine wp_callQ (C := 10) (As := [aR 10 0, aI b, aI x]) (rest := [aI 0, aR 15 0]) rq_270 rfl rfl (show clOK 270 132 0 0 0 3 10 = true by decide +kernel) rfl (show 2 ≤ 4 by decide) (fun _ => ⟨_, rfl⟩) rfl (ev_same hev (noS_of rfl) hg) (fun v τ hq => ?_) (fun E τ hq => ?_)
  · obtain ⟨⟨e1, rfl⟩, hs⟩ := hq
    rcases ho with ⟨v, rfl⟩ | ⟨E, rfl, -⟩
    · cases e1
      refine wp_seg 2 (P := some ((0 : Int) = 0)) (ls' := [some (aR 10 0), some (aI b), some (aI x), some (aR 15 0), none]) (st' := []) (σ' := up τ 15 0 0 v) rq_270 rfl rfl (i' := 8) rfl ?_
      refine wp_goto rq_270 rfl ?_
      refine wp_seg 1 (P := none) (ls' := [some (aR 10 0), some (aI b), some (aI x), some (aR 15 0), none]) (st' := [aI 0]) (σ' := up τ 15 0 0 v) rq_270 rfl True.intro (i' := 16) rfl ?_
      exact wp_iret rq_270 rfl rt_270 ⟨0, _, rfl, up_md, hs, Or.inl ⟨rfl, v, rfl, up_s _ _ _ _ _⟩⟩
    · cases e1
  · obtain ⟨⟨e1, rfl⟩, hs⟩ := hq
    rcases ho with ⟨v, rfl⟩ | ⟨E2, rfl, hE⟩
    · cases e1
    · cases e1
      rcases List.mem_cons.mp hE with rfl | hE
      · refine xGo_of (h := 9) (no19_of rfl) (by decide +kernel) (by decide +kernel) ?_
        refine wp_seg 2 (P := none) (ls' := [some (aR 10 0), some (aI b), some (aI x), some (aR 15 0), some (aR 19 0)]) (st' := [aI 1]) (σ' := τ) rq_270 rfl True.intro (i' := 11) rfl ?_
        exact wp_iret rq_270 rfl rt_270 ⟨1, _, rfl, md_me, hs, Or.inr ⟨_, rfl, rfl⟩⟩
      have hE := List.mem_singleton.mp hE
      subst hE
      refine xGo_of (h := 12) (no19_of rfl) (by decide +kernel) (by decide +kernel) ?_
      refine wp_seg 2 (P := none) (ls' := [some (aR 10 0), some (aI b), some (aI x), some (aR 15 0), some (aR 19 0)]) (st' := [aI 2]) (σ' := τ) rq_270 rfl True.intro (i' := 14) rfl ?_
      exact wp_iret rq_270 rfl rt_270 ⟨2, _, rfl, md_me, hs, Or.inr ⟨_, rfl, rfl⟩⟩
theorem hl_leg (hev : Ev true 133 [aR 10 0, aI b, aI x] σ o a) (hg : G15 σ) (ho : Ho o [1, 0]) : wp true 271 0 (entL 271 [aR 10 0, aI b, aI x, aR 15 0]) [] σ 0 0 (HR o a σ (fun E => if E = 1 then 1 else 2)) := by
  show wp true 271 0 [some (aR 10 0), some (aI b), some (aI x), some (aR 15 0), none] [] σ 0 0 _
  refine wp_seg 5 (P := none) (ls' := [some (aR 10 0), some (aI b), some (aI x), some (aR 15 0), none]) (st' := [aI x, aI b, aR 10 0, aI 0, aR 15 0]) (σ' := σ) rq_271 rfl True.intro (i' := 5) rfl ?_
  refine wp_callQ (C := 10) (As := [aR 10 0, aI b, aI x]) (rest := [aI 0, aR 15 0]) rq_271 rfl rfl (show clOK 271 133 0 0 0 3 10 = true by decide +kernel) rfl (show 2 ≤ 4 by decide) (fun _ => ⟨_, rfl⟩) rfl (ev_same hev (noS_of rfl) hg) (fun v τ hq => ?_) (fun E τ hq => ?_)
  · obtain ⟨⟨e1, rfl⟩, hs⟩ := hq
    rcases ho with ⟨v, rfl⟩ | ⟨E, rfl, -⟩
    · cases e1
      refine wp_seg 2 (P := some ((0 : Int) = 0)) (ls' := [some (aR 10 0), some (aI b), some (aI x), some (aR 15 0), none]) (st' := []) (σ' := up τ 15 0 0 v) rq_271 rfl rfl (i' := 8) rfl ?_
      refine wp_goto rq_271 rfl ?_
      refine wp_seg 1 (P := none) (ls' := [some (aR 10 0), some (aI b), some (aI x), some (aR 15 0), none]) (st' := [aI 0]) (σ' := up τ 15 0 0 v) rq_271 rfl True.intro (i' := 16) rfl ?_
      exact wp_iret rq_271 rfl rt_271 ⟨0, _, rfl, up_md, hs, Or.inl ⟨rfl, v, rfl, up_s _ _ _ _ _⟩⟩
    · cases e1
  · obtain ⟨⟨e1, rfl⟩, hs⟩ := hq
    rcases ho with ⟨v, rfl⟩ | ⟨E2, rfl, hE⟩
    · cases e1
    · cases e1
      rcases List.mem_cons.mp hE with rfl | hE
      · refine xGo_of (h := 9) (no19_of rfl) (by decide +kernel) (by decide +kernel) ?_
        refine wp_seg 2 (P := none) (ls' := [some (aR 10 0), some (aI b), some (aI x), some (aR 15 0), some (aR 19 0)]) (st' := [aI 1]) (σ' := τ) rq_271 rfl True.intro (i' := 11) rfl ?_
        exact wp_iret rq_271 rfl rt_271 ⟨1, _, rfl, md_me, hs, Or.inr ⟨_, rfl, rfl⟩⟩
      have hE := List.mem_singleton.mp hE
      subst hE
      refine xGo_of (h := 12) (no19_of rfl) (by decide +kernel) (by decide +kernel) ?_
      refine wp_seg 2 (P := none) (ls' := [some (aR 10 0), some (aI b), some (aI x), some (aR 15 0), some (aR 19 0)]) (st' := [aI 2]) (σ' := τ) rq_271 rfl True.intro (i' := 14) rfl ?_
      exact wp_iret rq_271 rfl rt_271 ⟨2, _, rfl, md_me, hs, Or.inr ⟨_, rfl, rfl⟩⟩
theorem hl_relay (hev : Ev true 134 [aR 10 0, aI b] σ o a) (hg : G15 σ) (ho : Ho o [3, 0]) : wp true 272 0 (entL 272 [aR 10 0, aI b, aR 15 0]) [] σ 0 0 (HR o a σ (fun E => if E = 3 then 1 else 2)) := by
  show wp true 272 0 [some (aR 10 0), some (aI b), some (aR 15 0), none] [] σ 0 0 _
  refine wp_seg 4 (P := none) (ls' := [some (aR 10 0), some (aI b), some (aR 15 0), none]) (st' := [aI b, aR 10 0, aI 0, aR 15 0]) (σ' := σ) rq_272 rfl True.intro (i' := 4) rfl ?_
  refine wp_callQ (C := 10) (As := [aR 10 0, aI b]) (rest := [aI 0, aR 15 0]) rq_272 rfl rfl (show clOK 272 134 0 0 0 2 10 = true by decide +kernel) rfl (show 2 ≤ 4 by decide) (fun _ => ⟨_, rfl⟩) rfl (ev_same hev (noS_of rfl) hg) (fun v τ hq => ?_) (fun E τ hq => ?_)
  · obtain ⟨⟨e1, rfl⟩, hs⟩ := hq
    rcases ho with ⟨v, rfl⟩ | ⟨E, rfl, -⟩
    · cases e1
      refine wp_seg 2 (P := some ((0 : Int) = 0)) (ls' := [some (aR 10 0), some (aI b), some (aR 15 0), none]) (st' := []) (σ' := up τ 15 0 0 v) rq_272 rfl rfl (i' := 7) rfl ?_
      refine wp_goto rq_272 rfl ?_
      refine wp_seg 1 (P := none) (ls' := [some (aR 10 0), some (aI b), some (aR 15 0), none]) (st' := [aI 0]) (σ' := up τ 15 0 0 v) rq_272 rfl True.intro (i' := 15) rfl ?_
      exact wp_iret rq_272 rfl rt_272 ⟨0, _, rfl, up_md, hs, Or.inl ⟨rfl, v, rfl, up_s _ _ _ _ _⟩⟩
    · cases e1
  · obtain ⟨⟨e1, rfl⟩, hs⟩ := hq
    rcases ho with ⟨v, rfl⟩ | ⟨E2, rfl, hE⟩
    · cases e1
    · cases e1
      rcases List.mem_cons.mp hE with rfl | hE
      · refine xGo_of (h := 8) (no19_of rfl) (by decide +kernel) (by decide +kernel) ?_
        refine wp_seg 2 (P := none) (ls' := [some (aR 10 0), some (aI b), some (aR 15 0), some (aR 19 0)]) (st' := [aI 1]) (σ' := τ) rq_272 rfl True.intro (i' := 10) rfl ?_
        exact wp_iret rq_272 rfl rt_272 ⟨1, _, rfl, md_me, hs, Or.inr ⟨_, rfl, rfl⟩⟩
      have hE := List.mem_singleton.mp hE
      subst hE
      refine xGo_of (h := 11) (no19_of rfl) (by decide +kernel) (by decide +kernel) ?_
      refine wp_seg 2 (P := none) (ls' := [some (aR 10 0), some (aI b), some (aR 15 0), some (aR 19 0)]) (st' := [aI 2]) (σ' := τ) rq_272 rfl True.intro (i' := 13) rfl ?_
      exact wp_iret rq_272 rfl rt_272 ⟨2, _, rfl, md_me, hs, Or.inr ⟨_, rfl, rfl⟩⟩
theorem hl_account (hev : Ev true 135 [aR 10 0, aI b] σ o a) (hg : G15 σ) (ho : Ho o [0]) : wp true 273 0 (entL 273 [aR 10 0, aI b, aR 15 0]) [] σ 0 0 (HR o a σ (fun _ => 1)) := by
  show wp true 273 0 [some (aR 10 0), some (aI b), some (aR 15 0), none] [] σ 0 0 _
  refine wp_seg 4 (P := none) (ls' := [some (aR 10 0), some (aI b), some (aR 15 0), none]) (st' := [aI b, aR 10 0, aI 0, aR 15 0]) (σ' := σ) rq_273 rfl True.intro (i' := 4) rfl ?_
  refine wp_callQ (C := 10) (As := [aR 10 0, aI b]) (rest := [aI 0, aR 15 0]) rq_273 rfl rfl (show clOK 273 135 0 0 0 2 10 = true by decide +kernel) rfl (show 2 ≤ 4 by decide) (fun _ => ⟨_, rfl⟩) rfl (ev_same hev (noS_of rfl) hg) (fun v τ hq => ?_) (fun E τ hq => ?_)
  · obtain ⟨⟨e1, rfl⟩, hs⟩ := hq
    rcases ho with ⟨v, rfl⟩ | ⟨E, rfl, -⟩
    · cases e1
      refine wp_seg 2 (P := some ((0 : Int) = 0)) (ls' := [some (aR 10 0), some (aI b), some (aR 15 0), none]) (st' := []) (σ' := up τ 15 0 0 v) rq_273 rfl rfl (i' := 7) rfl ?_
      refine wp_goto rq_273 rfl ?_
      refine wp_seg 1 (P := none) (ls' := [some (aR 10 0), some (aI b), some (aR 15 0), none]) (st' := [aI 0]) (σ' := up τ 15 0 0 v) rq_273 rfl True.intro (i' := 12) rfl ?_
      exact wp_iret rq_273 rfl rt_273 ⟨0, _, rfl, up_md, hs, Or.inl ⟨rfl, v, rfl, up_s _ _ _ _ _⟩⟩
    · cases e1
  · obtain ⟨⟨e1, rfl⟩, hs⟩ := hq
    rcases ho with ⟨v, rfl⟩ | ⟨E2, rfl, hE⟩
    · cases e1
    · cases e1
      have hE := List.mem_singleton.mp hE
      subst hE
      refine xGo_of (h := 8) (no19_of rfl) (by decide +kernel) (by decide +kernel) ?_
      refine wp_seg 2 (P := none) (ls' := [some (aR 10 0), some (aI b), some (aR 15 0), some (aR 19 0)]) (st' := [aI 1]) (σ' := τ) rq_273 rfl True.intro (i' := 10) rfl ?_
      exact wp_iret rq_273 rfl rt_273 ⟨1, _, rfl, md_me, hs, Or.inr ⟨_, rfl, rfl⟩⟩
theorem hl_readResults (hev : Ev true 137 [aR 10 0] σ o a) (hg : G15 σ) (ho : Ho o [0]) : wp true 275 0 (entL 275 [aR 10 0, aR 15 0]) [] σ 0 0 (HR o a σ (fun E => if E = 0 then 1 else 0)) := by
  show wp true 275 0 [some (aR 10 0), some (aR 15 0), none] [] σ 0 0 _
  refine wp_seg 3 (P := none) (ls' := [some (aR 10 0), some (aR 15 0), none]) (st' := [aR 10 0, aI 0, aR 15 0]) (σ' := σ) rq_275 rfl True.intro (i' := 3) rfl ?_
  refine wp_callQ (C := 10) (As := [aR 10 0]) (rest := [aI 0, aR 15 0]) rq_275 rfl rfl (show clOK 275 137 0 0 0 1 10 = true by decide +kernel) rfl (show 2 ≤ 4 by decide) (fun _ => ⟨_, rfl⟩) rfl (ev_same hev (noS_of rfl) hg) (fun v τ hq => ?_) (fun E τ hq => ?_)
  · obtain ⟨⟨e1, rfl⟩, hs⟩ := hq
    rcases ho with ⟨v, rfl⟩ | ⟨E, rfl, -⟩
    · cases e1
      refine wp_seg 2 (P := some ((0 : Int) = 0)) (ls' := [some (aR 10 0), some (aR 15 0), none]) (st' := []) (σ' := up τ 15 0 0 v) rq_275 rfl rfl (i' := 6) rfl ?_
      refine wp_goto rq_275 rfl ?_
      refine wp_seg 1 (P := none) (ls' := [some (aR 10 0), some (aR 15 0), none]) (st' := [aI 0]) (σ' := up τ 15 0 0 v) rq_275 rfl True.intro (i' := 11) rfl ?_
      exact wp_iret rq_275 rfl rt_275 ⟨0, _, rfl, up_md, hs, Or.inl ⟨rfl, v, rfl, up_s _ _ _ _ _⟩⟩
    · cases e1
  · obtain ⟨⟨e1, rfl⟩, hs⟩ := hq
    rcases ho with ⟨v, rfl⟩ | ⟨E2, rfl, hE⟩
    · cases e1
    · cases e1
      have hE := List.mem_singleton.mp hE
      subst hE
      refine xGo_of (h := 7) (no19_of rfl) (by decide +kernel) (by decide +kernel) ?_
      refine wp_seg 2 (P := none) (ls' := [some (aR 10 0), some (aR 15 0), some (aR 19 0)]) (st' := [aI 1]) (σ' := τ) rq_275 rfl True.intro (i' := 9) rfl ?_
      exact wp_iret rq_275 rfl rt_275 ⟨1, _, rfl, md_me, hs, Or.inr ⟨_, rfl, rfl⟩⟩
theorem hl_undo (hev : Ev true 139 [aR 10 0] σ o a) (hg : G15 σ) (ho : Ho o [1]) : wp true 276 0 (entL 276 [aR 10 0, aR 15 0]) [] σ 0 0 (HR o a σ (fun _ => 1)) := by
  show wp true 276 0 [some (aR 10 0), some (aR 15 0), none] [] σ 0 0 _
  refine wp_seg 3 (P := none) (ls' := [some (aR 10 0), some (aR 15 0), none]) (st' := [aR 10 0, aI 0, aR 15 0]) (σ' := σ) rq_276 rfl True.intro (i' := 3) rfl ?_
  refine wp_callQ (C := 10) (As := [aR 10 0]) (rest := [aI 0, aR 15 0]) rq_276 rfl rfl (show clOK 276 139 0 0 0 1 10 = true by decide +kernel) rfl (show 2 ≤ 4 by decide) (fun _ => ⟨_, rfl⟩) rfl (ev_same hev (noS_of rfl) hg) (fun v τ hq => ?_) (fun E τ hq => ?_)
  · obtain ⟨⟨e1, rfl⟩, hs⟩ := hq
    rcases ho with ⟨v, rfl⟩ | ⟨E, rfl, -⟩
    · cases e1
      refine wp_seg 2 (P := some ((0 : Int) = 0)) (ls' := [some (aR 10 0), some (aR 15 0), none]) (st' := []) (σ' := up τ 15 0 0 v) rq_276 rfl rfl (i' := 6) rfl ?_
      refine wp_goto rq_276 rfl ?_
      refine wp_seg 1 (P := none) (ls' := [some (aR 10 0), some (aR 15 0), none]) (st' := [aI 0]) (σ' := up τ 15 0 0 v) rq_276 rfl True.intro (i' := 11) rfl ?_
      exact wp_iret rq_276 rfl rt_276 ⟨0, _, rfl, up_md, hs, Or.inl ⟨rfl, v, rfl, up_s _ _ _ _ _⟩⟩
    · cases e1
  · obtain ⟨⟨e1, rfl⟩, hs⟩ := hq
    rcases ho with ⟨v, rfl⟩ | ⟨E2, rfl, hE⟩
    · cases e1
    · cases e1
      have hE := List.mem_singleton.mp hE
      subst hE
      refine xGo_of (h := 7) (no19_of rfl) (by decide +kernel) (by decide +kernel) ?_
      refine wp_seg 2 (P := none) (ls' := [some (aR 10 0), some (aR 15 0), some (aR 19 0)]) (st' := [aI 1]) (σ' := τ) rq_276 rfl True.intro (i' := 9) rfl ?_
      exact wp_iret rq_276 rfl rt_276 ⟨1, _, rfl, md_me, hs, Or.inr ⟨_, rfl, rfl⟩⟩
/-- the ratio's helper: the answer in the double array -/
def HRd (o : Out) (a σ : Mem) (cd : Nat → Int) (r : Out) (τ : Mem) : Prop := ∃ (kk : Int) (B : Int → Int → Int), r = .inl (some (aI kk)) ∧ τ = md (a 15) B a ∧ same2 σ a ∧ ((kk = 0 ∧ ∃ v : UInt64, o = .inl (some (aD v)) ∧ B 0 0 = (v.toNat : Int)) ∨ ∃ E, o = .inr E ∧ kk = cd E)
theorem up_md16 {v : Int} : up σ 16 0 0 v = md (σ 15) (up σ 16 0 0 v 16) σ := by
  funext C r k
  unfold md
  by_cases q : C = 15
  · rw [if_pos q, q, up_o (by omega)]
  · rw [if_neg q]
    by_cases q2 : C = 16
    · rw [if_pos q2, q2]
    · rw [if_neg q2, up_o (by omega)]
theorem hl_ratio (hev : Ev true 123 [aR 10 0, aI b] σ o a) (hg : G15 σ) (ho : (∃ v, o = .inl (some (aD v))) ∨ ∃ E, o = .inr E ∧ E ∈ [2, 5]) : wp true 261 0 (entL 261 [aR 10 0, aI b, aR 16 0]) [] σ 0 0 (HRd o a σ (fun E => if E = 2 then 1 else 2)) := by
  show wp true 261 0 [some (aR 10 0), some (aI b), some (aR 16 0), none] [] σ 0 0 _
  refine wp_seg 4 (P := none) (ls' := [some (aR 10 0), some (aI b), some (aR 16 0), none]) (st' := [aI b, aR 10 0, aI 0, aR 16 0]) (σ' := σ) rq_261 rfl True.intro (i' := 4) rfl ?_
  refine wp_callQ (C := 10) (As := [aR 10 0, aI b]) (rest := [aI 0, aR 16 0]) rq_261 rfl rfl (show clOK 261 123 0 0 0 2 10 = true by decide +kernel) rfl (show 2 ≤ 4 by decide) (fun _ => ⟨_, rfl⟩) rfl (ev_same hev (noS_of rfl) hg) (fun v τ hq => ?_) (fun E τ hq => ?_)
  · obtain ⟨⟨e1, rfl⟩, hs⟩ := hq
    rcases ho with ⟨v, rfl⟩ | ⟨E, rfl, -⟩
    · cases e1
      refine wp_seg 1 (P := some ((0 : Int) = 0)) (ls' := [some (aR 10 0), some (aI b), some (aR 16 0), none]) (st' := []) (σ' := up τ 16 0 0 (v.toNat : Int)) rq_261 rfl rfl (i' := 6) rfl ?_
      refine wp_goto rq_261 rfl ?_
      refine wp_seg 1 (P := none) (ls' := [some (aR 10 0), some (aI b), some (aR 16 0), none]) (st' := [aI 0]) (σ' := up τ 16 0 0 (v.toNat : Int)) rq_261 rfl True.intro (i' := 14) rfl ?_
      exact wp_iret rq_261 rfl rt_261 ⟨0, _, rfl, up_md16, hs, Or.inl ⟨rfl, v, rfl, up_s _ _ _ _ _⟩⟩
    · cases e1
  · obtain ⟨⟨e1, rfl⟩, hs⟩ := hq
    rcases ho with ⟨v, rfl⟩ | ⟨E2, rfl, hE⟩
    · cases e1
    · cases e1
      rcases List.mem_cons.mp hE with rfl | hE
      · refine xGo_of (h := 7) (no19_of rfl) (by decide +kernel) (by decide +kernel) ?_
        refine wp_seg 2 (P := none) (ls' := [some (aR 10 0), some (aI b), some (aR 16 0), some (aR 19 0)]) (st' := [aI 1]) (σ' := τ) rq_261 rfl True.intro (i' := 9) rfl ?_
        exact wp_iret rq_261 rfl rt_261 ⟨1, _, rfl, md_me, hs, Or.inr ⟨_, rfl, rfl⟩⟩
      have hE := List.mem_singleton.mp hE
      subst hE
      refine xGo_of (h := 10) (no19_of rfl) (by decide +kernel) (by decide +kernel) ?_
      refine wp_seg 2 (P := none) (ls' := [some (aR 10 0), some (aI b), some (aR 16 0), some (aR 19 0)]) (st' := [aI 2]) (σ' := τ) rq_261 rfl True.intro (i' := 12) rfl ?_
      exact wp_iret rq_261 rfl rt_261 ⟨2, _, rfl, md_me, hs, Or.inr ⟨_, rfl, rfl⟩⟩
theorem hl_append (hev : Ev true 136 [aR 10 0, aI b] σ o a) (hg : G15 σ) (ho : o = .inl none ∨ o = .inr 1) : wp true 274 0 (entL 274 [aR 10 0, aI b]) [] σ 0 0 (fun r τ => ∃ kk : Int, r = .inl (some (aI kk)) ∧ τ = a ∧ same2 σ a ∧ ((kk = 0 ∧ o = .inl none) ∨ (o = .inr 1 ∧ kk = 1))) := by
  show wp true 274 0 [some (aR 10 0), some (aI b), none] [] σ 0 0 _
  refine wp_seg 2 (P := none) (ls' := [some (aR 10 0), some (aI b), none]) (st' := [aI b, aR 10 0]) (σ' := σ) rq_274 rfl True.intro (i' := 2) rfl ?_
  refine wp_callQ (C := 10) (As := [aR 10 0, aI b]) (rest := []) rq_274 rfl rfl (show clOK 274 136 0 0 0 2 10 = true by decide +kernel) rfl (show 0 ≤ 4 by decide) (fun _ => ⟨_, rfl⟩) rfl (ev_same hev (noS_of rfl) hg) (fun v τ hq => ?_) (fun E τ hq => ?_)
  · obtain ⟨⟨e1, rfl⟩, hs⟩ := hq
    rcases ho with rfl | rfl
    · cases e1
      refine wp_goto rq_274 rfl ?_
      refine wp_seg 1 (P := none) (ls' := [some (aR 10 0), some (aI b), none]) (st' := [aI 0]) (σ' := τ) rq_274 rfl True.intro (i' := 8) rfl ?_
      exact wp_iret rq_274 rfl rt_274 ⟨0, rfl, rfl, hs, Or.inl ⟨rfl, rfl⟩⟩
    · cases e1
  · obtain ⟨⟨e1, rfl⟩, hs⟩ := hq
    rcases ho with rfl | rfl
    · cases e1
    · cases e1
      refine xGo_of (h := 4) (no19_of rfl) (by decide +kernel) (by decide +kernel) ?_
      refine wp_seg 2 (P := none) (ls' := [some (aR 10 0), some (aI b), some (aR 19 0)]) (st' := [aI 1]) (σ' := τ) rq_274 rfl True.intro (i' := 6) rfl ?_
      exact wp_iret rq_274 rfl rt_274 ⟨1, rfl, rfl, hs, Or.inr ⟨rfl, rfl⟩⟩
theorem hl_restore (hev : Ev true 141 [aR 10 0] σ o a) (hg : G15 σ) (ho : o = .inl none ∨ o = .inr 1) : wp true 277 0 (entL 277 [aR 10 0]) [] σ 0 0 (fun r τ => ∃ kk : Int, r = .inl (some (aI kk)) ∧ τ = a ∧ same2 σ a ∧ ((kk = 0 ∧ o = .inl none) ∨ (o = .inr 1 ∧ kk = 1))) := by
  show wp true 277 0 [some (aR 10 0), none] [] σ 0 0 _
  refine wp_seg 1 (P := none) (ls' := [some (aR 10 0), none]) (st' := [aR 10 0]) (σ' := σ) rq_277 rfl True.intro (i' := 1) rfl ?_
  refine wp_callQ (C := 10) (As := [aR 10 0]) (rest := []) rq_277 rfl rfl (show clOK 277 141 0 0 0 1 10 = true by decide +kernel) rfl (show 0 ≤ 4 by decide) (fun _ => ⟨_, rfl⟩) rfl (ev_same hev (noS_of rfl) hg) (fun v τ hq => ?_) (fun E τ hq => ?_)
  · obtain ⟨⟨e1, rfl⟩, hs⟩ := hq
    rcases ho with rfl | rfl
    · cases e1
      refine wp_goto rq_277 rfl ?_
      refine wp_seg 1 (P := none) (ls' := [some (aR 10 0), none]) (st' := [aI 0]) (σ' := τ) rq_277 rfl True.intro (i' := 7) rfl ?_
      exact wp_iret rq_277 rfl rt_277 ⟨0, rfl, rfl, hs, Or.inl ⟨rfl, rfl⟩⟩
    · cases e1
  · obtain ⟨⟨e1, rfl⟩, hs⟩ := hq
    rcases ho with rfl | rfl
    · cases e1
    · cases e1
      refine xGo_of (h := 3) (no19_of rfl) (by decide +kernel) (by decide +kernel) ?_
      refine wp_seg 2 (P := none) (ls' := [some (aR 10 0), some (aR 19 0)]) (st' := [aI 1]) (σ' := τ) rq_277 rfl True.intro (i' := 5) rfl ?_
      exact wp_iret rq_277 rfl rt_277 ⟨1, rfl, rfl, hs, Or.inr ⟨rfl, rfl⟩⟩
end Hlp
