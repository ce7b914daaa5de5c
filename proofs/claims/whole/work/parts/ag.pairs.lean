/-! Every call, on both sides, in one form. -/
/-- the class's call and the model's behind it; the exceptions are of the list -/
def Pr (N : Int) (kx km : Nat) (As : List AV) (cd : Nat → Int) (Es : List Nat) (σ : Mem) : Prop := ∃ o a, Ev true kx (aR 10 0 :: As) σ o a ∧ Cal N km (aR 11 0 :: As) o a cd ∧ ∀ E, o = .inr E → E ∈ Es
section Prs
variable {N : Int} {σ : Mem} {b x y w : Int}
theorem rd_cls (h : J N σ σ) (h4 : ¬ σ 9 0 0 = 0) : ∀ b, σ 0 0 1 ≤ b → b < σ 0 0 0 → zo_round 0 b σ = rnd (σ 13 186 4 - (b - σ 13 186 5)) := fun b b0 b1 => by
  have r1 := J_R1 h
  have rg := J_rg h
  have hi := h.1.1
  have e4 : σ 9 0 0 = σ 13 186 4 := r1.2.2.2.2.2.2.2.1
  have h4p : 0 < σ 13 186 4 := by omega
  have z := tz hi h4p
  have ep : σ 0 0 1 = σ 13 186 5 := r1.2.2.2.2.2.2.1.trans z.2.2.2.2.2.1
  have e3 : σ 0 0 0 = σ 13 186 3 := r1.2.2.2.2.2.1
  have h7 := (h.1.2.1.2.2.1 b (by omega) (by omega)).2.2.2.2.2.2.1
  have e7 := rd_of hi h4p (b := b) (by omega)
  have rb := rnd_p (σ 13 186 4 - (b - σ 13 186 5))
  unfold zo_round
  rw [z0, rg_13 (by omega), h7, e7, wr_eq (by omega) (by omega)]
  omega
theorem cd12 {a b E : Nat} {z : Int} (h : 0 < (if E = a then (1 : Int) else if E = b then 2 else 0)) : E ∈ [a, b] := by
  by_cases h1 : E = a
  · rw [h1]; exact List.mem_cons_self ..
  · by_cases h2 : E = b
    · rw [h2]; exact List.mem_cons_of_mem _ (List.mem_cons_self ..)
    · rw [if_neg h1, if_neg h2] at h; omega
theorem cd1 {E : Nat} (h : 0 < (if E = 0 then (1 : Int) else 0)) : E ∈ [0] := by
  by_cases q : E = 0
  · rw [q]; exact List.mem_cons_self ..
  · rw [if_neg q] at h; omega
theorem pr_addFencer (h : J N σ σ) : Pr N 105 166 [aI b, aI x] (fun E => if E = 0 then 1 else 2) [0, 1] σ := ⟨_, _, ev_xaddFencer b x σ, ca_addFencer h, fun E e => by
  unfold zo_xaddFencer at e
  (repeat' split at e)
  all_goals first | (cases e; done) | (cases e; decide)⟩
theorem pr_drawPools (h : J N σ σ) : Pr N 106 174 [aI b] (fun E => if E = 0 then 1 else if E = 1 then 2 else 0) [0, 1] σ := by
  obtain ⟨o, a, hev, v, F, h1, h2, h3⟩ := ca_drawPools (p := b) h
  refine ⟨o, a, hev, ⟨v, F, h1, h2, h3⟩, fun E e => ?_⟩
  rcases h3 with ⟨x, e2, -⟩ | ⟨E2, e2, -, hp⟩
  · rw [e2] at e; cases e
  · rw [e2] at e
    cases e
    exact cd12 (z := 0) hp
theorem pr_setSeed (h : J N σ σ) (hv : b ≤ 2147483647) : Pr N 107 164 [aI b] (fun _ => 1) [0] σ := ⟨_, _, ev_xsetSeed b σ, ca_setSeed h hv, fun E e => by
  unfold zo_xsetSeed at e
  (repeat' split at e)
  all_goals first | (cases e; done) | (cases e; decide)⟩
theorem pr_fencer (h : J N σ σ) : Pr N 108 176 [aI b, aI x] (fun E => if E = 2 then 1 else 2) [2, 0] σ := ⟨_, _, ev_xfencer b x σ, ca_fencer h, fun E e => by
  unfold zo_xfencer at e
  (repeat' split at e)
  all_goals first | (cases e; done) | (cases e; decide)⟩
theorem pr_meet (h : J N σ σ) : Pr N 109 178 [aI b] (fun _ => 1) [0] σ := ⟨_, _, ev_xmeet b σ, ca_meet h, fun E e => by
  unfold zo_xmeet at e
  (repeat' split at e)
  all_goals first | (cases e; done) | (cases e; decide)⟩
theorem pr_members (h : J N σ σ) : Pr N 110 180 [aI b] (fun _ => 1) [2] σ := ⟨_, _, ev_xmembers b σ, ca_members h, fun E e => by
  unfold zo_xmembers at e
  (repeat' split at e)
  all_goals first | (cases e; done) | (cases e; decide)⟩
theorem pr_member (h : J N σ σ) : Pr N 111 181 [aI b, aI x] (fun E => if E = 2 then 1 else 2) [2, 3] σ := ⟨_, _, ev_xmember b x σ, ca_member h, fun E e => by
  unfold zo_xmember at e
  (repeat' split at e)
  all_goals first | (cases e; done) | (cases e; decide)⟩
theorem pr_bout (h : J N σ σ) : Pr N 113 186 [aI b, aI x] (fun E => if E = 2 then 1 else 2) [2, 0] σ := ⟨_, _, ev_xbout b x σ, ca_bout h, fun E e => by
  unfold zo_xbout at e
  (repeat' split at e)
  all_goals first | (cases e; done) | (cases e; decide)⟩
theorem pr_current (h : J N σ σ) : Pr N 114 187 [] (fun _ => 1) [3] σ := ⟨_, _, ev_xcurrent  σ, ca_current h, fun E e => by
  unfold zo_xcurrent at e
  (repeat' split at e)
  all_goals first | (cases e; done) | (cases e; decide)⟩
theorem pr_poolBout (h : J N σ σ) : Pr N 115 188 [aI b, aI x] (fun E => if E = 2 then 1 else 2) [2, 3] σ := ⟨_, _, ev_xpoolBout b x σ, ca_poolBout h, fun E e => by
  unfold zo_xpoolBout at e
  (repeat' split at e)
  all_goals first | (cases e; done) | (cases e; decide)⟩
theorem pr_begin (h : J N σ σ) (hN : 0 ≤ N) : Pr N 116 190 [aI b] (fun E => if E = 2 then 1 else 2) [2, 4] σ := ⟨_, _, ev_xbegin b σ, ca_begin h hN, fun E e => by
  unfold zo_xbegin at e
  (repeat' split at e)
  all_goals first | (cases e; done) | (cases e; decide)⟩
theorem pr_touch (h : J N σ σ) : Pr N 117 196 [aI b] (fun E => if E = 0 then 1 else 2) [0, 1] σ := ⟨_, _, ev_xtouch b σ, ca_touch h, fun E e => by
  unfold zo_xtouch at e
  (repeat' split at e)
  all_goals first | (cases e; done) | (cases e; decide)⟩
theorem pr_time (h : J N σ σ) : Pr N 118 197 [] (fun _ => 1) [1] σ := ⟨_, _, ev_xtime  σ, ca_time h, fun E e => by
  unfold zo_xtime at e
  (repeat' split at e)
  all_goals first | (cases e; done) | (cases e; decide)⟩
theorem pr_card (h : J N σ σ) (hN : 0 ≤ N ∧ N < 2147483647) : Pr (N + 1) 119 199 [aI b, aI x] (fun E => if E = 0 then 1 else 2) [0, 1] σ := ⟨_, _, ev_xcard b x σ, ca_card h hN, fun E e => by
  unfold zo_xcard at e
  (repeat' split at e)
  all_goals first | (cases e; done) | (cases e; decide)⟩
theorem pr_enter (h : J N σ σ) : Pr N 120 202 [aI b, aI x, aI y, aI w] (fun E => if E = 2 then 1 else 2) [2, 4] σ := ⟨_, _, ev_xenter b x y w σ, ca_enter h, fun E e => by
  unfold zo_xenter at e
  (repeat' split at e)
  all_goals first | (cases e; done) | (cases e; decide)⟩
theorem pr_refusal (h : J N σ σ) : Pr N 121 203 [] (fun _ => 1) [3] σ := ⟨_, _, ev_xrefusal  σ, ca_refusal h, fun E e => by
  unfold zo_xrefusal at e
  (repeat' split at e)
  all_goals first | (cases e; done) | (cases e; decide)⟩
theorem pr_result (h : J N σ σ) : Pr N 122 206 [aI b, aI x] (fun E => if E = 2 then 1 else 2) [2, 0] σ := ⟨_, _, ev_xresult b x σ, ca_result h, fun E e => by
  unfold zo_xresult at e
  (repeat' split at e)
  all_goals first | (cases e; done) | (cases e; decide)⟩
theorem pr_ranked (h : J N σ σ) : Pr N 124 211 [aI b] (fun _ => 1) [3] σ := ⟨_, _, ev_xranked b σ (hA_of h), ca_ranked h, fun E e => by
  unfold zo_xranked at e
  (repeat' split at e)
  all_goals first | (cases e; done) | (cases e; decide)⟩
theorem pr_place (h : J N σ σ) : Pr N 125 212 [aI b] (fun E => if E = 2 then 1 else 2) [2, 3] σ := ⟨_, _, ev_xplace b σ, ca_place h, fun E e => by
  unfold zo_xplace at e
  (repeat' split at e)
  all_goals first | (cases e; done) | (cases e; decide)⟩
theorem pr_why (h : J N σ σ) : Pr N 126 213 [aI b, aI x] (fun E => if E = 2 then 1 else 2) [2, 3] σ := ⟨_, _, ev_xwhy b x σ, ca_why h, fun E e => by
  unfold zo_xwhy at e
  (repeat' split at e)
  all_goals first | (cases e; done) | (cases e; decide)⟩
theorem pr_drawTable (h : J N σ σ) : Pr N 127 217 [] (fun _ => 1) [1] σ := ⟨_, _, ev_xdrawTable σ (hA_keep h) (dtM σ) (hFT_of h), ca_drawTable h, fun E e => by
  unfold zo_xdrawTable at e
  (repeat' split at e)
  all_goals first | (cases e; done) | (cases e; decide)⟩
theorem pr_seeded (h : J N σ σ) : Pr N 128 218 [aI b] (fun E => if E = 1 then 1 else 2) [1, 3] σ := ⟨_, _, ev_xseeded b σ, ca_seeded h, fun E e => by
  unfold zo_xseeded at e
  (repeat' split at e)
  all_goals first | (cases e; done) | (cases e; decide)⟩
theorem pr_tableBout (h : J N σ σ) : Pr N 129 220 [aI b, aI x] (fun E => if E = 1 then 1 else 2) [1, 3] σ := ⟨_, _, ev_xtableBout b x σ (by rw [(J_R1 h).2.2.2.2.2.2.2.1]; exact (J_rg h).2.2.2.2.2.2.2.2), ca_tableBout h, fun E e => by
  unfold zo_xtableBout at e
  (repeat' split at e)
  all_goals first | (cases e; done) | (cases e; decide)⟩
theorem fk (_ : J N σ σ) : lg2 (σ 13 186 4) < 6 := by
  unfold lg2
  repeat' split
  all_goals decide
theorem fz (h : J N σ σ) : σ 2 0 0 = 3 → σ 9 0 0 = 2 ^ lg2 (σ 13 186 4) := fun h3 => by
  have i1 := J_I1 h
  rw [(J_R1 h).1] at h3
  have h4 : 0 < σ 13 186 4 := by unfold I1 at i1; omega
  rw [(J_R1 h).2.2.2.2.2.2.2.1]
  exact (tz h.1.1 h4).2.2.2.1
theorem pB_rg (h : J N σ σ) : 0 ≤ pB (σ 13 186) := by
  have i1 := J_I1 h
  unfold I1 at i1
  unfold pB
  split <;> omega
theorem pr_finalist (h : J N σ σ) : Pr N 130 222 [aI b] (fun E => if E = 1 then 1 else 2) [1, 3] σ := ⟨_, _, ev_xfinalist b σ (lg2 (σ 13 186 4)) (by rw [(J_R1 h).2.2.2.2.2.2.2.2]; exact (J_rg h).2.2.2.2.2.1) (fk h) (fz h), ca_finalist h, fun E e => by
  unfold zo_xfinalist at e
  (repeat' split at e)
  all_goals first | (cases e; done) | (cases e; decide)⟩
theorem pr_toGo (h : J N σ σ) : Pr N 131 224 [aI b] (fun E => if E = 2 then 1 else if E = 1 then 2 else 3) [2, 1, 3] σ := ⟨_, _, ev_xtoGo b σ (by rw [(J_R1 h).2.2.2.2.2.2.2.2]; exact (J_rg h).2.2.2.2.2.1.2) (by rw [(J_R1 h).2.2.2.2.2.2.1]; exact (pB_rg h)) (by rw [(J_R1 h).2.2.2.2.2.1]; exact (J_rg h).2.2.2.1.2) (fun h4 b b0 b1 => by rw [rd_cls h h4 b b0 b1]; exact rnd_p _), ca_toGo h, fun E e => by
  unfold zo_xtoGo at e
  (repeat' split at e)
  all_goals first | (cases e; done) | (cases e; decide)⟩
theorem pr_beginRelay (h : J N σ σ) : Pr N 132 228 [aI b, aI x] (fun E => if E = 0 then 1 else 2) [0, 1] σ := ⟨_, _, ev_xbeginRelay b x σ (hA_keep h) (by rw [rkS0_eq h, rkS0_n]; have z := nS_b h; omega), ca_beginRelay h, fun E e => by
  unfold zo_xbeginRelay at e
  (repeat' split at e)
  all_goals first | (cases e; done) | (cases e; decide)⟩
theorem pr_leg (h : J N σ σ) : Pr N 133 230 [aI b, aI x] (fun E => if E = 1 then 1 else 2) [1, 0] σ := ⟨_, _, ev_xleg b x σ, ca_leg h, fun E e => by
  unfold zo_xleg at e
  (repeat' split at e)
  all_goals first | (cases e; done) | (cases e; decide)⟩
theorem pr_relay (h : J N σ σ) : Pr N 134 232 [aI b] (fun E => if E = 3 then 1 else 2) [3, 0] σ := ⟨_, _, ev_xrelay b σ, ca_relay h, fun E e => by
  unfold zo_xrelay at e
  (repeat' split at e)
  all_goals first | (cases e; done) | (cases e; decide)⟩
theorem pr_account (h : J N σ σ) : Pr N 135 234 [aI b] (fun _ => 1) [0] σ := ⟨_, _, ev_xaccount b σ, ca_account h, fun E e => by
  unfold zo_xaccount at e
  (repeat' split at e)
  all_goals first | (cases e; done) | (cases e; decide)⟩
theorem pr_readResults (h : J N σ σ) : Pr N 137 241 [] (fun E => if E = 0 then 1 else 0) [0] σ := by
  obtain ⟨o, a, hev, v, F, h1, h2, h3⟩ := ca_readResults h
  refine ⟨o, a, hev, ⟨v, F, h1, h2, h3⟩, fun E e => ?_⟩
  rcases h3 with ⟨x, e2, -⟩ | ⟨E2, e2, -, hp⟩
  · rw [e2] at e; cases e
  · rw [e2] at e
    cases e
    exact cd1 hp
theorem pr_undo (h : J N σ σ) : Pr N 139 161 [] (fun _ => 1) [1] σ := ⟨_, _, ev_xundo  σ, ca_undo h, fun E e => by
  unfold zo_xundo at e
  (repeat' split at e)
  all_goals first | (cases e; done) | (cases e; decide)⟩
end Prs
