/-! PURE: lists: acts, reference: what needs no lock -/
theorem act_r {st : St} (hT : Top st) {l c a i t : Nat} {D : LD} (hl : l < 4) (hK : RK l c a D st) (hL : LOK c a D) (hi : i < c) (ht : D 7 i + t < D 7 (i + 1)) (fu : Nat) (rp : Nat → Int32 → Int32 → Int32 → St → Option St) (rb : Nat → Int32 → St → Option St) (K : Nat → Int32 → Int32 → Int32 → St → Option St) : (D 8 (D 7 i + t) = 0 → b_X12_begins_202_b fu rp rb K 153 (nI l) (nI (l * 60 + i)) (nI t) st = K 153 (nI l) (nI (l * 60 + i)) (nI (t + 1)) st) ∧ (D 8 (D 7 i + t) = 2 → D 9 (D 7 i + t) < 8 → b_X12_begins_202_b fu rp rb K 153 (nI l) (nI (l * 60 + i)) (nI t) st = K 153 (nI l) (nI (l * 60 + i)) (nI (t + 1)) (sI st 205 (D 9 (D 7 i + t)) (-nI 1))) ∧ (D 8 (D 7 i + t) = 3 → D 9 (D 7 i + t) < 16 → b_X12_begins_202_b fu rp rb K 153 (nI l) (nI (l * 60 + i)) (nI t) st = K 153 (nI l) (nI (l * 60 + i)) (nI (t + 1)) (sI st 210 (D 9 (D 7 i + t)) (nI 1))) ∧ (D 8 (D 7 i + t) = 5 → D 9 (D 7 i + t) < 4 → b_X12_begins_202_b fu rp rb K 153 (nI l) (nI (l * 60 + i)) (nI t) st = K 153 (nI l) (nI (l * 60 + i)) (nI (t + 1)) (sI st 189 (D 9 (D 7 i + t)) (nI (D 10 (D 7 i + t))))) := by
  have a300 := hL.2.1
  have c60 := hL.1
  have d7 := (hL.d6 i hi).2
  obtain ⟨-, k5, k6, -⟩ := hK.2.1 i hi
  obtain ⟨k8, k9, k10⟩ := hK.2.2 (D 7 i + t) (by omega)
  have ix' : l * 300 + D 7 i + t = l * 300 + (D 7 i + t) := by omega
  clear hK hL
  refine ⟨fun k => ?_, fun k n => ?_, fun k n => ?_, fun k n => ?_⟩
  · rw [k] at k8
    replace k8 : gI st 168 (l * 300 + (D 7 i + t)) = nI 6 := k8
    simp (disch := first | decide | omega) [↓bd_e, isb, ck_tt, NP, NF, NC, NB, NS, GS, kdR, tpR hT, b_X12_begins_202_b, b_X12_begins_381, k5, k6, ix', k8, k9]
  · rw [k] at k8
    replace k8 : gI st 168 (l * 300 + (D 7 i + t)) = nI 2 := k8
    simp (disch := first | decide | omega) [↓bd_e, isb, ck_tt, NP, NF, NC, NB, NS, GS, kdR, tpR hT, b_X12_begins_202_b, b_X12_begins_381, k5, k6, ix', k8, k9]
  · rw [k] at k8
    replace k8 : gI st 168 (l * 300 + (D 7 i + t)) = nI 3 := k8
    simp (disch := first | decide | omega) [↓bd_e, isb, ck_tt, NP, NF, NC, NB, NS, GS, kdR, tpR hT, b_X12_begins_202_b, b_X12_begins_381, k5, k6, ix', k8, k9]
  · rw [k] at k8
    replace k8 : gI st 168 (l * 300 + (D 7 i + t)) = nI 5 := k8
    rw [k] at k10
    replace k10 : gI st 170 (l * 300 + (D 7 i + t)) = nI (D 10 (D 7 i + t)) := k10
    simp (disch := first | decide | omega) [↓bd_e, isb, ck_tt, NP, NF, NC, NB, NS, GS, kdR, tpR hT, b_X12_begins_202_b, b_X12_begins_381, k5, k6, ix', k8, k9, k10]
