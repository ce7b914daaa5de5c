/-! The frame for whole runs. -/
section EvF
variable {k : Nat} {As : List AV} {σ σ' : Mem} {o : Out} {A B : Int → Int → Int}
theorem noL_ent (ns : noS As) : noL (entL k As) := fun j a e => by
  unfold entL at e
  have hm := List.mem_of_getElem? e
  rcases List.mem_append.mp hm with z | z
  · obtain ⟨b, hb, eb⟩ := List.mem_map.mp z
    cases eb
    exact ns _ hb
  · have := List.eq_of_mem_replicate z
    cases this
/-- the run with other long and double arrays -/
theorem ev_frame (h : Ev true k As σ o σ') (ns : noS As) (g : G15 σ) : Ev true k As (md A B σ) o (md A B σ') := wp_mono (fun o' τ z => by
  obtain ⟨σ2, e, -, -, e1, e2⟩ := z
  exact ⟨e1, by rw [e, e2]⟩) (wp_frame h (noL_ent ns) (fun a ha => by cases ha) g)
theorem md_self : md (σ 15) (σ 16) σ = σ := by
  funext C r k
  unfold md
  by_cases q : C = 15
  · rw [if_pos q, q]
  · rw [if_neg q]
    by_cases q2 : C = 16
    · rw [if_pos q2, q2]
    · rw [if_neg q2]
/-- the run leaves those arrays as they are -/
theorem ev_same (h : Ev true k As σ o σ') (ns : noS As) (g : G15 σ) : wp true k 0 (entL k As) [] σ 0 0 (fun o' τ => (o' = o ∧ τ = σ') ∧ same2 σ σ') := by
  have e := wp_frame (A := σ 15) (B := σ 16) h (noL_ent ns) (fun a ha => by cases ha) g
  rw [md_self] at e
  refine wp_mono (fun o' τ z => ?_) e
  obtain ⟨σ2, e0, e1, -, e2, e3⟩ := z
  subst e3
  refine ⟨⟨e2, ?_⟩, e1⟩
  rw [e0, ← e1.1, ← e1.2, md_self]
theorem G_wf (h : Wf true σ) : G15 σ := ⟨h.2.1, h.2.2.1⟩
/-- a long array's cell set is such a replacement -/
theorem up_md {v : Int} : up σ 15 0 0 v = md (up σ 15 0 0 v 15) (σ 16) σ := by
  funext C r k
  unfold md
  by_cases q : C = 15
  · rw [if_pos q, q]
  · rw [if_neg q, up_o (by omega)]
    by_cases q2 : C = 16
    · rw [if_pos q2, q2]
    · rw [if_neg q2]
end EvF
