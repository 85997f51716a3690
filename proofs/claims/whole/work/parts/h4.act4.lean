/-! PURE: lists: an act's go -/
theorem act_c4 {st u : St} (hT : Top st) {q c a j N : Nat} {D : LD} (hq : SQ q) (hS : SC q c a D st) (hL : LOK c a D) (hj : j < a) {fu : Nat} (k : D 8 j = 4) (n : D 9 j < 4) (hU : f_X1_callCue fu (43 + 18 * D 9 j) (nI (D 10 j)) (nI N) st = some u) : f_X1_runAct fu 24 q (nI j) (nI N) st = some u := by
  have qb := hq.b
  have qR := sqR hq hT
  have qK := sqK hq
  have a300 := hL.2.1
  obtain ⟨b8, b9, b10, -⟩ := hS.2.2.1.2 j hj
  clear hS hL
  obtain ⟨r0, -⟩ := plR n hT
  obtain ⟨k0, -⟩ := plK n
  simp (disch := first | decide | omega) [↓bd_e, isb, ck_tt, NP, NF, NC, NB, NS, GS, kdC, tpC hT, f_X1_runAct, b_X1_runAct_133, qR, qK, b8, b9, b10, k, r0, k0, hU]
theorem act_c1 {st u : St} {r : Int32} (hT : Top st) {q c a j N : Nat} {D : LD} (hq : SQ q) (hS : SC q c a D st) (hL : LOK c a D) (hj : j < a) {fu : Nat} (k : D 8 j = 1) (hU : f_X7_send fu 4 (nI (D 9 j)) (nI (D 10 j)) st = some (r, u)) : f_X1_runAct fu 24 q (nI j) (nI N) st = some u := by
  have qb := hq.b
  have qR := sqR hq hT
  have qK := sqK hq
  have a300 := hL.2.1
  obtain ⟨b8, b9, b10, -⟩ := hS.2.2.1.2 j hj
  have t5 := tp_24_5 hT
  clear hS hL
  simp (disch := first | decide | omega) [↓bd_e, isb, ck_tt, NP, NF, NC, NB, NS, GS, kdC, tpC hT, f_X1_runAct, b_X1_runAct_133, qR, qK, b8, b9, b10, k, t5, hU]
theorem act_r1 {st u : St} {r : Int32} (hT : Top st) {l c a i t : Nat} {D : LD} (hl : l < 4) (hK : RK l c a D st) (hL : LOK c a D) (hi : i < c) (ht : D 7 i + t < D 7 (i + 1)) {fu : Nat} (rp : Nat → Int32 → Int32 → Int32 → St → Option St) (rb : Nat → Int32 → St → Option St) (K : Nat → Int32 → Int32 → Int32 → St → Option St) (k : D 8 (D 7 i + t) = 1) (hU : f_X12_goesTo fu 153 (nI (D 9 (D 7 i + t))) (nI (D 10 (D 7 i + t))) st = some (r, u)) : b_X12_begins_202_b fu rp rb K 153 (nI l) (nI (l * 60 + i)) (nI t) st = K 153 (nI l) (nI (l * 60 + i)) (nI (t + 1)) u := by
  have a300 := hL.2.1
  have c60 := hL.1
  have d7 := (hL.d6 i hi).2
  obtain ⟨-, k5, k6, -⟩ := hK.2.1 i hi
  obtain ⟨k8, k9, k10⟩ := hK.2.2 (D 7 i + t) (by omega)
  have ix' : l * 300 + D 7 i + t = l * 300 + (D 7 i + t) := by omega
  clear hK hL
  rw [k] at k8 k10
  replace k8 : gI st 168 (l * 300 + (D 7 i + t)) = nI 1 := k8
  replace k10 : gI st 170 (l * 300 + (D 7 i + t)) = nI (D 10 (D 7 i + t)) := k10
  simp (disch := first | decide | omega) [↓bd_e, isb, ck_tt, NP, NF, NC, NB, NS, GS, kdR, tpR hT, b_X12_begins_202_b, b_X12_begins_381, k5, k6, ix', k8, k9, k10, hU]
theorem act_r4 {st : St} (hT : Top st) {l c a i t : Nat} {D : LD} (hl : l < 4) (hK : RK l c a D st) (hL : LOK c a D) (hi : i < c) (ht : D 7 i + t < D 7 (i + 1)) {fu : Nat} (rp : Nat → Int32 → Int32 → Int32 → St → Option St) (rb : Nat → Int32 → St → Option St) (K : Nat → Int32 → Int32 → Int32 → St → Option St) (k : D 8 (D 7 i + t) = 4) {o : Option Nat} (ho : ∀ m, o = some m → m < 60) (hC : f_X12_cueOf fu 153 (nI (D 9 (D 7 i + t))) (nI (D 10 (D 7 i + t))) st = some (oI o, st)) {u : St} (hU : match o with | none => u = st | some m => rp 153 (nI (D 9 (D 7 i + t))) (nI m) (nI 1) st = some u) : b_X12_begins_202_b fu rp rb K 153 (nI l) (nI (l * 60 + i)) (nI t) st = K 153 (nI l) (nI (l * 60 + i)) (nI (t + 1)) u := by
  have a300 := hL.2.1
  have c60 := hL.1
  have d7 := (hL.d6 i hi).2
  obtain ⟨-, k5, k6, -⟩ := hK.2.1 i hi
  obtain ⟨k8, k9, k10⟩ := hK.2.2 (D 7 i + t) (by omega)
  have ix' : l * 300 + D 7 i + t = l * 300 + (D 7 i + t) := by omega
  clear hK hL
  rw [k] at k8 k10
  replace k8 : gI st 168 (l * 300 + (D 7 i + t)) = nI 4 := k8
  replace k10 : gI st 170 (l * 300 + (D 7 i + t)) = nI (D 10 (D 7 i + t)) := k10
  cases o with
  | none =>
    have hC' : f_X12_cueOf fu 153 (nI (D 9 (D 7 i + t))) (nI (D 10 (D 7 i + t))) st = some (-nI 1, st) := hC
    have hU' : u = st := hU
    rw [hU']
    simp (disch := first | decide | omega) [↓bd_e, isb, ck_tt, NP, NF, NC, NB, NS, GS, kdR, tpR hT, b_X12_begins_202_b, b_X12_begins_381, b_X12_begins_353, k5, k6, ix', k8, k9, k10, hC']
  | some m =>
    have hm := ho m rfl
    have hC' : f_X12_cueOf fu 153 (nI (D 9 (D 7 i + t))) (nI (D 10 (D 7 i + t))) st = some (nI m, st) := hC
    have hU' : rp 153 (nI (D 9 (D 7 i + t))) (nI m) (nI 1) st = some u := hU
    simp (disch := first | decide | omega) [↓bd_e, isb, ck_tt, NP, NF, NC, NB, NS, GS, kdR, tpR hT, b_X12_begins_202_b, b_X12_begins_381, b_X12_begins_353, k5, k6, ix', k8, k9, k10, hC', hU']
