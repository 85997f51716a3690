/-! PURE: lists: acts, class: what needs no lock -/
theorem act_c {st : St} (hT : Top st) {q c a j N : Nat} {D : LD} (hq : SQ q) (hS : SC q c a D st) (hL : LOK c a D) (hj : j < a) (fu : Nat) : (D 8 j = 0 → f_X1_runAct fu 24 q (nI j) (nI N) st = some st) ∧ (D 8 j = 2 → D 9 j < 8 → f_X1_runAct fu 24 q (nI j) (nI N) st = some (sI st (8 + 2 * D 9 j) 7 (-nI 1))) ∧ (D 8 j = 3 → D 9 j < 16 → f_X1_runAct fu 24 q (nI j) (nI N) st = some (sI st 6 (D 9 j) (nI 1))) ∧ (D 8 j = 5 → D 9 j < 4 → f_X1_runAct fu 24 q (nI j) (nI N) st = some (sI st (43 + 18 * D 9 j) 9 (nI (D 10 j)))) := by
  have qb := hq.b
  have qR := sqR hq hT
  have qK := sqK hq
  have a300 := hL.2.1
  obtain ⟨b8, b9, b10, -⟩ := hS.2.2.1.2 j hj
  clear hS hL
  have t5 := tp_24_5 hT
  refine ⟨fun k => ?_, fun k n => ?_, fun k n => ?_, fun k n => ?_⟩
  · simp (disch := first | decide | omega) [↓bd_e, isb, ck_tt, NP, NF, NC, NB, NS, GS, kdC, tpC hT, f_X1_runAct, b_X1_runAct_133, qR, qK, b8, b9, b10, k]
  · obtain ⟨r5, k5⟩ := axR n hT
    simp (disch := first | decide | omega) [↓bd_e, isb, ck_tt, NP, NF, NC, NB, NS, GS, kdC, tpC hT, f_X1_runAct, b_X1_runAct_133, qR, qK, b8, b9, b10, k, r5, k5, t5]
  · simp (disch := first | decide | omega) [↓bd_e, isb, ck_tt, NP, NF, NC, NB, NS, GS, kdC, tpC hT, f_X1_runAct, b_X1_runAct_133, qR, qK, b8, b9, b10, k, t5]
  · obtain ⟨r0, -⟩ := plR n hT
    obtain ⟨k0, -⟩ := plK n
    simp (disch := first | decide | omega) [↓bd_e, isb, ck_tt, NP, NF, NC, NB, NS, GS, kdC, tpC hT, f_X1_runAct, b_X1_runAct_133, qR, qK, b8, b9, b10, k, r0, k0]
