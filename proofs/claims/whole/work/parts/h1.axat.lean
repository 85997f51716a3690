/-! PURE: axisAt, to: both, where locks answer alike -/
/-- locks answer alike, here -/
def LKA (fu : Nat) (st : St) : Prop := ∀ n, n < 8 → ∃ (b : Bool) (u : St), f_X7_lockTrue fu 4 (nI n) st = some (nI b.toNat, st) ∧ f_X12_isTrue fu 153 (nI n) st = some (nI b.toNat, u) ∧ Fr WLk st u ∧ Top u
theorem axAt_2 {st : St} (hT : Top st) (hA : P_ax st) {fu : Nat} (hK : LKA fu st) (a b : Int32) : Two (f_X11_axisAt fu 1 a b) (f_X12_axisAt fu 153 a b) WLk (fun _ => True) st := by
  rcases rngN a 0 7 (by omega) (by omega) with ⟨n, -, hn, rfl, -⟩ | ⟨-, na⟩ | ⟨-, na⟩
  · have e1 : f_X11_within fu (nI n) 0 7 st = some (nI 1, st) := win_y fu st (x := n) (lo := 0) (hi := 7) (by omega) (by omega) (by omega)
    have e2 : f_X12_isAxis fu (nI n) st = some (nI 1, st) := by
      rw [isAxis_eq, if_pos ⟨(nI_leI (a := 0) (b := n) (by omega) (by omega)).mpr (by omega), (nI_leI (a := n) (b := 7) (by omega) (by omega)).mpr hn⟩]; rfl
    obtain ⟨r5, k5⟩ := axR (n := n) (by omega) hT
    have ax : ∀ k, k < 12 → gI st (8 + 2 * n) k = gI st (198 + k) n := fun k hk => hA.1 n k (by omega) hk
    have a0 := ax 0 (by omega)
    have a5 := ax 5 (by omega)
    have a6 := ax 6 (by omega)
    have a7 := ax 7 (by omega)
    have a8 := ax 8 (by omega)
    have a10 := ax 10 (by omega)
    have a11 := ax 11 (by omega)
    clear ax hA
    simp only [Nat.reduceAdd] at a0 a5 a6 a7 a8 a10 a11
    by_cases c6 : b = nI 6
    · subst c6
      obtain ⟨v, u, l1, l2, l3, l4⟩ := hK n (by omega)
      refine ⟨nI v.toNat, st, u, ?_, ?_, l3, trivial⟩
      · cases v with
        | false =>
          have l1' : f_X7_lockTrue fu 4 (nI n) st = some (nI 0, st) := l1
          show _ = some (nI 0, st)
          simp (disch := first | decide | omega) [↓bd_e, isb, ck_tt, NP, NF, NC, NB, NS, GS, kdC, tpC hT, f_X11_axisAt, b_X11_axisAt_34, ↓caO e1, l1']
        | true =>
          have l1' : f_X7_lockTrue fu 4 (nI n) st = some (nI 1, st) := l1
          show _ = some (nI 1, st)
          simp (disch := first | decide | omega) [↓bd_e, isb, ck_tt, NP, NF, NC, NB, NS, GS, kdC, tpC hT, f_X11_axisAt, b_X11_axisAt_34, ↓caO e1, l1']
      · cases v with
        | false =>
          have l2' : f_X12_isTrue fu 153 (nI n) st = some (nI 0, u) := l2
          show _ = some (nI 0, u)
          simp (disch := first | decide | omega) [↓bd_e, isb, ck_tt, NP, NF, NC, NB, NS, GS, kdR, tpR hT, f_X12_axisAt, b_X12_axisAt_47, ↓caO e2, ↓caO l2']
        | true =>
          have l2' : f_X12_isTrue fu 153 (nI n) st = some (nI 1, u) := l2
          show _ = some (nI 1, u)
          simp (disch := first | decide | omega) [↓bd_e, isb, ck_tt, NP, NF, NC, NB, NS, GS, kdR, tpR hT, f_X12_axisAt, b_X12_axisAt_47, ↓caO e2, ↓caO l2']
    · have go : ∃ r, f_X11_axisAt fu 1 (nI n) b st = some (r, st) ∧ f_X12_axisAt fu 153 (nI n) b st = some (r, st) := by
        by_cases z : gI st 198 n = nI 0
        · by_cases c0 : b = nI 0
          · subst c0
            refine ⟨nI 0, ?_, ?_⟩
            · simp (disch := first | decide | omega) [↓bd_e, isb, ck_tt, NP, NF, NC, NB, NS, GS, kdC, tpC hT, f_X11_axisAt, ↓caO e1, f_X0_tell, b_X0_tell_16, r5, k5, a0, z]
            · simp (disch := first | decide | omega) [↓bd_e, isb, ck_tt, NP, NF, NC, NB, NS, GS, kdR, tpR hT, f_X12_axisAt, ↓caO e2, b_X12_axisAt_27, z]
          · by_cases c7 : b = nI 7
            · subst c7
              refine ⟨gI st 209 n, ?_, ?_⟩
              · simp (disch := first | decide | omega) [↓bd_e, isb, ck_tt, NP, NF, NC, NB, NS, GS, kdC, tpC hT, f_X11_axisAt, ↓caO e1, f_X0_tell, b_X0_tell_16, r5, k5, a11]
              · simp (disch := first | decide | omega) [↓bd_e, isb, ck_tt, NP, NF, NC, NB, NS, GS, kdR, tpR hT, f_X12_axisAt, ↓caO e2, b_X12_axisAt_27]
            · refine ⟨-nI 1, ?_, ?_⟩
              · simp (disch := first | decide | omega) [↓bd_e, isb, ck_tt, NP, NF, NC, NB, NS, GS, kdC, tpC hT, f_X11_axisAt, ↓caO e1, f_X0_tell, b_X0_tell_16, r5, k5, a0, z, c0, c6, c7]
              · simp (disch := first | decide | omega) [↓bd_e, isb, ck_tt, NP, NF, NC, NB, NS, GS, kdR, tpR hT, f_X12_axisAt, ↓caO e2, b_X12_axisAt_27, z, c0, c6, c7]
        · by_cases c0 : b = nI 0
          · subst c0
            refine ⟨nI 1, ?_, ?_⟩
            · simp (disch := first | decide | omega) [↓bd_e, isb, ck_tt, NP, NF, NC, NB, NS, GS, kdC, tpC hT, f_X11_axisAt, ↓caO e1, f_X0_tell, b_X0_tell_16, r5, k5, a0, z]
            · simp (disch := first | decide | omega) [↓bd_e, isb, ck_tt, NP, NF, NC, NB, NS, GS, kdR, tpR hT, f_X12_axisAt, ↓caO e2, b_X12_axisAt_27, z]
          · by_cases c7 : b = nI 7
            · subst c7
              refine ⟨gI st 209 n, ?_, ?_⟩
              · simp (disch := first | decide | omega) [↓bd_e, isb, ck_tt, NP, NF, NC, NB, NS, GS, kdC, tpC hT, f_X11_axisAt, ↓caO e1, f_X0_tell, b_X0_tell_16, r5, k5, a11]
              · simp (disch := first | decide | omega) [↓bd_e, isb, ck_tt, NP, NF, NC, NB, NS, GS, kdR, tpR hT, f_X12_axisAt, ↓caO e2, b_X12_axisAt_27]
            · have zc : ¬ gI st (8 + 2 * n) 0 = nI 0 := by rw [a0]; exact z
              refine ⟨if b = nI 1 then gI st 203 n else if b = nI 2 then gI st 204 n else if b = nI 3 then gI st 205 n else if b = nI 4 then gI st 206 n else if b = nI 5 then gI st 208 n else -nI 1, ?_, ?_⟩
              · by_cases d1 : b = nI 1
                · subst d1; simp (disch := first | decide | omega) [↓bd_e, isb, ck_tt, NP, NF, NC, NB, NS, GS, kdC, tpC hT, f_X11_axisAt, ↓caO e1, f_X0_tell, r5, k5, zc, a5]
                · by_cases d2 : b = nI 2
                  · subst d2; simp (disch := first | decide | omega) [↓bd_e, isb, ck_tt, NP, NF, NC, NB, NS, GS, kdC, tpC hT, f_X11_axisAt, ↓caO e1, f_X0_tell, r5, k5, zc, a6]
                  · by_cases d3 : b = nI 3
                    · subst d3; simp (disch := first | decide | omega) [↓bd_e, isb, ck_tt, NP, NF, NC, NB, NS, GS, kdC, tpC hT, f_X11_axisAt, ↓caO e1, f_X0_tell, r5, k5, zc, a7]
                    · by_cases d4 : b = nI 4
                      · subst d4; simp (disch := first | decide | omega) [↓bd_e, isb, ck_tt, NP, NF, NC, NB, NS, GS, kdC, tpC hT, f_X11_axisAt, ↓caO e1, f_X0_tell, r5, k5, zc, a8]
                      · by_cases d5 : b = nI 5
                        · subst d5; simp (disch := first | decide | omega) [↓bd_e, isb, ck_tt, NP, NF, NC, NB, NS, GS, kdC, tpC hT, f_X11_axisAt, ↓caO e1, f_X0_tell, r5, k5, zc, a10]
                        · simp (disch := first | decide | omega) [↓bd_e, isb, ck_tt, NP, NF, NC, NB, NS, GS, kdC, tpC hT, f_X11_axisAt, ↓caO e1, f_X0_tell, r5, k5, zc, c0, c6, c7, d1, d2, d3, d4, d5]
              · by_cases d1 : b = nI 1
                · subst d1; simp (disch := first | decide | omega) [↓bd_e, isb, ck_tt, NP, NF, NC, NB, NS, GS, kdR, tpR hT, f_X12_axisAt, b_X12_axisAt_143, ↓caO e2, z]
                · by_cases d2 : b = nI 2
                  · subst d2; simp (disch := first | decide | omega) [↓bd_e, isb, ck_tt, NP, NF, NC, NB, NS, GS, kdR, tpR hT, f_X12_axisAt, b_X12_axisAt_143, ↓caO e2, z]
                  · by_cases d3 : b = nI 3
                    · subst d3; simp (disch := first | decide | omega) [↓bd_e, isb, ck_tt, NP, NF, NC, NB, NS, GS, kdR, tpR hT, f_X12_axisAt, b_X12_axisAt_143, ↓caO e2, z]
                    · by_cases d4 : b = nI 4
                      · subst d4; simp (disch := first | decide | omega) [↓bd_e, isb, ck_tt, NP, NF, NC, NB, NS, GS, kdR, tpR hT, f_X12_axisAt, b_X12_axisAt_143, ↓caO e2, z]
                      · by_cases d5 : b = nI 5
                        · subst d5; simp (disch := first | decide | omega) [↓bd_e, isb, ck_tt, NP, NF, NC, NB, NS, GS, kdR, tpR hT, f_X12_axisAt, b_X12_axisAt_143, ↓caO e2, z]
                        · simp (disch := first | decide | omega) [↓bd_e, isb, ck_tt, NP, NF, NC, NB, NS, GS, kdR, tpR hT, f_X12_axisAt, b_X12_axisAt_143, ↓caO e2, z, c0, c6, c7, d1, d2, d3, d4, d5]
      obtain ⟨r, g1, g2⟩ := go
      exact ⟨r, st, st, g1, g2, Fr.rf, trivial⟩
  all_goals
    have e1 : f_X11_within fu a 0 7 st = some (nI 0, st) := win_n fu st na
    have e2 : f_X12_isAxis fu a st = some (nI 0, st) := by rw [isAxis_eq, if_neg (show ¬ ((0 : Int32) ≤ a ∧ a ≤ 7) from na)]; rfl
    refine ⟨-nI 1, st, st, ?_, ?_, Fr.rf, trivial⟩
    · simp (disch := first | decide | omega) [↓bd_e, isb, ck_tt, NP, NF, NC, NB, NS, GS, kdC, tpC hT, f_X11_axisAt, ↓caO e1]
    · simp (disch := first | decide | omega) [↓bd_e, isb, ck_tt, NP, NF, NC, NB, NS, GS, kdR, tpR hT, f_X12_axisAt, ↓caO e2]
