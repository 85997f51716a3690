/-! PURE: axes: sent -/
def mayA (f : Nat → Int32) (z : Int32) (b : Bool) (p : Int32) : Bool := decide (f 0 ≠ nI 0) && decide (¬ p < f 1) && decide (¬ f 2 < p) && decide (f 10 &&& nI 1 = nI 0) && decide (z = nI 0) && b
theorem mayA.c {f g : Nat → Int32} (z : Int32) (b : Bool) (p : Int32) (e : ∀ k, k < 12 → g k = f k) : mayA g z b p = mayA f z b p := by
  unfold mayA
  rw [e 0 (by omega), e 1 (by omega), e 2 (by omega), e 10 (by omega)]
theorem send_c {st : St} (hT : Top st) {n : Nat} (hn : n < 8) {b : Bool} {fu : Nat} (hL : f_X7_lockTrue fu 4 (nI n) st = some (nI b.toNat, st)) (p : Int32) : f_X7_send fu 4 (nI n) p st = some (nI (mayA (gI st (8 + 2 * n)) (gI st 4 2) b p).toNat, if mayA (gI st (8 + 2 * n)) (gI st 4 2) b p then sI st (8 + 2 * n) 7 p else sI st (8 + 2 * n) 11 (gI st (8 + 2 * n) 11 + nI 1)) := by
  obtain ⟨r5, k5⟩ := axR hn hT
  unfold mayA
  by_cases c0 : gI st (8 + 2 * n) 0 = nI 0
  · simp (disch := first | decide | omega) [↓bd_e, isb, ck_tt, NP, NF, NC, NB, NS, GS, kdC, tpC hT, f_X7_send, b_X7_send_70, b_X7_send_71, b_X7_send_96, r5, k5, c0]
  · by_cases c1 : p < gI st (8 + 2 * n) 1
    · simp (disch := first | decide | omega) [↓bd_e, isb, ck_tt, NP, NF, NC, NB, NS, GS, kdC, tpC hT, f_X7_send, b_X7_send_70, b_X7_send_71, b_X7_send_96, r5, k5, c0, c1]
    · by_cases c2 : gI st (8 + 2 * n) 2 < p
      · simp (disch := first | decide | omega) [↓bd_e, isb, ck_tt, NP, NF, NC, NB, NS, GS, kdC, tpC hT, f_X7_send, b_X7_send_70, b_X7_send_71, b_X7_send_96, r5, k5, c0, c1, c2]
      · by_cases c3 : gI st (8 + 2 * n) 10 &&& nI 1 = nI 0
        · by_cases c4 : gI st 4 2 = nI 0
          · cases b with
            | false =>
              have hL' : f_X7_lockTrue fu 4 (nI n) st = some (nI 0, st) := hL
              simp (disch := first | decide | omega) [↓bd_e, isb, ck_tt, NP, NF, NC, NB, NS, GS, kdC, tpC hT, f_X7_send, b_X7_send_70, b_X7_send_71, b_X7_send_96, r5, k5, c0, c1, c2, c3, c4, hL']
            | true =>
              have hL' : f_X7_lockTrue fu 4 (nI n) st = some (nI 1, st) := hL
              simp (disch := first | decide | omega) [↓bd_e, isb, ck_tt, NP, NF, NC, NB, NS, GS, kdC, tpC hT, f_X7_send, b_X7_send_70, b_X7_send_71, b_X7_send_96, r5, k5, c0, c1, c2, c3, c4, hL']
          · simp (disch := first | decide | omega) [↓bd_e, isb, ck_tt, NP, NF, NC, NB, NS, GS, kdC, tpC hT, f_X7_send, b_X7_send_70, b_X7_send_71, b_X7_send_96, r5, k5, c0, c1, c2, c3, c4]
        · simp (disch := first | decide | omega) [↓bd_e, isb, ck_tt, NP, NF, NC, NB, NS, GS, kdC, tpC hT, f_X7_send, b_X7_send_70, b_X7_send_71, b_X7_send_96, r5, k5, c0, c1, c2, c3]
def WLk : List PL := [(153, some 71), (153, some 72)]
theorem goesTo_r {st st1 : St} (hT : Top st) {n : Nat} (hn : n < 8) {b : Bool} {fu : Nat} (hL : f_X12_isTrue fu 153 (nI n) st = some (nI b.toNat, st1)) (f1 : Fr WLk st st1) (hT1 : Top st1) (ha : axOK (fun k => gI st (198 + k) n)) (p : Int32) : ∃ u0, Fr WLk st u0 ∧ Top u0 ∧ f_X12_goesTo fu 153 (nI n) p st = some (nI (mayA (fun k => gI st (198 + k) n) (gI st 153 67) b p).toNat, if mayA (fun k => gI st (198 + k) n) (gI st 153 67) b p then sI u0 205 n p else sI u0 209 n (gI u0 209 n + nI 1)) := by
  have r2 : ∀ u, Top u → ∀ q, b_X12_goesTo_60 fu 153 (nI n) q 0 u = some (nI 0, sI u 209 n (gI u 209 n + nI 1)) := fun u hT q => by
    simp (disch := first | decide | omega) [↓bd_e, isb, ck_tt, NP, NF, NC, NB, NS, GS, kdR, tpR hT, b_X12_goesTo_60, b_X12_goesTo_85]
  have r3 : ∀ u, Top u → ∀ q, b_X12_goesTo_60 fu 153 (nI n) q 1 u = some (nI 1, sI u 205 n q) := fun u hT q => by
    simp (disch := first | decide | omega) [↓bd_e, isb, ck_tt, NP, NF, NC, NB, NS, GS, kdR, tpR hT, b_X12_goesTo_60, b_X12_goesTo_85]
  have no : b_X12_goesTo_60 fu 153 (nI n) p 0 st = some (nI 0, sI st 209 n (gI st 209 n + nI 1)) := r2 st hT p
  have no' : b_X12_goesTo_60 fu 153 (nI n) p (nI 0) st = some (nI 0, sI st 209 n (gI st 209 n + nI 1)) := no
  rcases ha with ⟨a0, -⟩ | ⟨a0, lo, hi, sp, ac, fl, a1, a2, -, -, a10, -, -, -, -, -, -, fb, -⟩
  · have a0' : gI st 198 n = nI 0 := a0
    refine ⟨st, Fr.rf, hT, ?_⟩
    unfold mayA
    simp (disch := first | decide | omega) [↓bd_e, isb, ck_tt, NP, NF, NC, NB, NS, GS, kdR, tpR hT, f_X12_goesTo, b_X12_goesTo_59, a0', no']
  · have a0' : gI st 198 n = nI 1 := a0
    have a1' : gI st 199 n = nI lo := a1
    have a2' : gI st 200 n = nI hi := a2
    have a10' : gI st 208 n = nI fl := a10
    have fd : ∀ fl, fl ≤ 7 → (fl % 2 = 0 ↔ nI fl &&& nI 1 = nI 0) := by decide +kernel
    have fd := fd fl fb
    clear a0 a1 a2 a10
    unfold mayA
    by_cases c1 : p < nI lo
    · refine ⟨st, Fr.rf, hT, ?_⟩
      simp (disch := first | decide | omega) [↓bd_e, isb, ck_tt, NP, NF, NC, NB, NS, GS, kdR, tpR hT, f_X12_goesTo, b_X12_goesTo_59, a0', a1', c1, no']
    · by_cases c2 : nI hi < p
      · refine ⟨st, Fr.rf, hT, ?_⟩
        simp (disch := first | decide | omega) [↓bd_e, isb, ck_tt, NP, NF, NC, NB, NS, GS, kdR, tpR hT, f_X12_goesTo, b_X12_goesTo_59, a0', a1', a2', c1, c2, no']
      · rcases Nat.mod_two_eq_zero_or_one fl with q | q
        · have c3 := fd.mp q
          have e3 : fl - fl / 2 * 2 = 0 := by omega
          by_cases c4 : gI st 153 67 = nI 0
          · refine ⟨st1, f1, hT1, ?_⟩
            cases b with
            | false =>
              have hL' : f_X12_isTrue fu 153 (nI n) st = some (nI 0, st1) := hL
              have n1 : b_X12_goesTo_60 fu 153 (nI n) p (nI 0) st1 = some (nI 0, sI st1 209 n (gI st1 209 n + nI 1)) := r2 st1 hT1 p
              simp (disch := first | decide | omega) [↓bd_e, isb, ck_tt, NP, NF, NC, NB, NS, GS, kdR, tpR hT, f_X12_goesTo, b_X12_goesTo_59, a0', a1', a2', a10', c1, c2, c3, c4, e3, ↓caO hL', n1]
            | true =>
              have hL' : f_X12_isTrue fu 153 (nI n) st = some (nI 1, st1) := hL
              have n1 : b_X12_goesTo_60 fu 153 (nI n) p (nI 1) st1 = some (nI 1, sI st1 205 n p) := r3 st1 hT1 p
              simp (disch := first | decide | omega) [↓bd_e, isb, ck_tt, NP, NF, NC, NB, NS, GS, kdR, tpR hT, f_X12_goesTo, b_X12_goesTo_59, a0', a1', a2', a10', c1, c2, c3, c4, e3, ↓caO hL', n1]
          · refine ⟨st, Fr.rf, hT, ?_⟩
            simp (disch := first | decide | omega) [↓bd_e, isb, ck_tt, NP, NF, NC, NB, NS, GS, kdR, tpR hT, f_X12_goesTo, b_X12_goesTo_59, a0', a1', a2', a10', c1, c2, c3, c4, e3, no']
        · have c3 : ¬ nI fl &&& nI 1 = nI 0 := fun z => by have := fd.mpr z; omega
          have e3 : fl - fl / 2 * 2 = 1 := by omega
          refine ⟨st, Fr.rf, hT, ?_⟩
          simp (disch := first | decide | omega) [↓bd_e, isb, ck_tt, NP, NF, NC, NB, NS, GS, kdR, tpR hT, f_X12_goesTo, b_X12_goesTo_59, a0', a1', a2', a10', c1, c2, c3, e3, no']
