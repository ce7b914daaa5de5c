section CallB
variable {ph : Bool} {K : WK} {k i pc len : Nat} {raw : Instr} {x : List Nat} {ls ls' : Vls} {st st' : List AV} {σ σ' : Mem} {P : Option Prop} {c s : Nat} {Q : Out → Mem → Prop}
def caOK (k : Nat) : Bool := decide ((hhd k).length = (hcat k).length) && ((hhd k).zip (hcat k)).all (fun q => decide (q.2.1 < 6) && decide (q.1.2.2.2 ≠ 0) && decide (Cond.classLink (own k) q.1.2.2.2 (exN q.2.1) ∈ lw_tbl) && decide (pcA k q.2.2 = q.1.2.2.1) && decide (Cond.castable (exN q.2.1) (exN q.2.1) ∈ lw_tbl)) && (List.range (hcat k).length).all (fun n => (List.range n).all (fun j => decide ((((hcat k)[n]?.getD (0, 0)).1, ((hcat k)[j]?.getD (0, 0)).1) ∈ ncP)))
set_option maxRecDepth 100000 in
theorem caAll0 : (List.range 244).all (fun k => decide (hhd k = []) && decide (hcat k = [])) = true := by decide +kernel
set_option maxRecDepth 100000 in
theorem caAll1 : (List.range 35).all (fun k => caOK (244 + k)) = true := by decide +kernel
end CallB
