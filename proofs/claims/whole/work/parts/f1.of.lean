/-! PURE: lists: of -/
def mvF (l : Nat) (st : St) (ch : Nat) : Nat := if gI st 190 (65 * l + (ch + 1)) = gI st 191 (65 * l + (ch + 1)) then 0 else 1
theorem mvF_b (l n : Nat) (st : St) : sm n (mvF l st) ≤ n := by
  have := sm_b (f := mvF l st) (b := 1) (n := n) (fun i _ => by unfold mvF; split <;> omega)
  omega
theorem mov_c {st : St} (hT : Top st) {l N : Nat} (hl : l < 4) (hN : N ≤ 100000) (hP : PLc l N st) (fu : Nat) : ∀ (i c : Nat), c ≤ 64 → 64 < i + c → b_X3_moving_4 fu i (43 + 18 * l) (nI N) (nI (sm c (mvF l st))) (nI c) st = some (nI (sm 64 (mvF l st)), st)
  | 0, c, h1, h2 => by omega
  | i + 1, c, h1, h2 => by
    rcases Nat.lt_or_ge c 64 with q | q
    · obtain ⟨tg, s0, sn, sp, hx⟩ := hP.2 c q
      have lv := hx.lv hT hl q hN fu
      obtain ⟨-, r1, -⟩ := plR hl hT
      obtain ⟨k0, k1, -⟩ := plK hl
      have ih := mov_c hT hl hN hP fu i (c + 1) (by omega) (by omega)
      have bb := mvF_b l (c + 1) st
      have e : sm (c + 1) (mvF l st) = sm c (mvF l st) + mvF l st c := rfl
      have z1 := hx.2.2.2.2.2.2.2.2.1
      have z2 := hx.2.2.2.2.2.2.2.2.2.1
      have t1 := hx.2.2.2.2.1
      have b1 := hx.1
      have b2 : LV tg s0 sn sp N ≤ 255 := LV_le hx.2.2.1 hx.1 hx.2.1
      show b_X3_moving_4_b fu (b_X3_moving_4 fu i) (43 + 18 * l) (nI N) (nI (sm c (mvF l st))) (nI c) st = _
      by_cases m : LV tg s0 sn sp N = tg
      · have f0 : mvF l st c = 0 := by unfold mvF; rw [z1, z2, m, if_pos rfl]
        rw [e, f0, Nat.add_zero] at ih
        simp (disch := first | decide | omega) [↓bd_e, isb, ck_tt, NP, NF, NC, NB, NS, GS, kdC, tpC hT, b_X3_moving_4_b, b_X3_moving_28, ↓caO lv, r1, k0, k1, t1, m, ih]
      · have f0 : mvF l st c = 1 := by unfold mvF; rw [z1, z2, if_neg (fun q => m ((nI_eq (by omega) (by omega)).mp q))]
        rw [e, f0] at ih bb
        simp (disch := first | decide | omega) [↓bd_e, isb, ck_tt, NP, NF, NC, NB, NS, GS, kdC, tpC hT, b_X3_moving_4_b, b_X3_moving_28, ↓caO lv, r1, k0, k1, t1, m, ih]
    · have : c = 64 := by omega
      subst this
      show b_X3_moving_4_b fu (b_X3_moving_4 fu i) (43 + 18 * l) (nI N) (nI (sm 64 (mvF l st))) (nI 64) st = _
      simp (disch := first | decide | omega) [↓bd_e, isb, ck_tt, NP, NF, NC, NB, NS, GS, kdC, tpC hT, b_X3_moving_4_b]
theorem mov_r {st : St} (hT : Top st) {l : Nat} (hl : l < 4) (fu : Nat) : ∀ (i c : Nat), c ≤ 64 → 64 < i + c → b_X12_of_128 fu i 153 (nI l) (nI (sm c (mvF l st))) (nI (c + 1)) st = some (nI (sm 64 (mvF l st)), st)
  | 0, c, h1, h2 => by omega
  | i + 1, c, h1, h2 => by
    rcases Nat.lt_or_ge c 64 with q | q
    · have ih := mov_r hT hl fu i (c + 1) (by omega) (by omega)
      have bb := mvF_b l (c + 1) st
      have e : sm (c + 1) (mvF l st) = sm c (mvF l st) + mvF l st c := rfl
      show b_X12_of_128_b fu (b_X12_of_128 fu i) 153 (nI l) (nI (sm c (mvF l st))) (nI (c + 1)) st = _
      by_cases m : gI st 190 (65 * l + (c + 1)) = gI st 191 (65 * l + (c + 1))
      · have f0 : mvF l st c = 0 := by unfold mvF; rw [if_pos m]
        rw [e, f0, Nat.add_zero] at ih
        simp (disch := first | decide | omega) [↓bd_e, isb, ck_tt, NP, NF, NC, NB, NS, GS, kdR, tpR hT, b_X12_of_128_b, b_X12_of_155, f_X12_moves, b_X12_moves_20, m, ih]
      · have f0 : mvF l st c = 1 := by unfold mvF; rw [if_neg m]
        rw [e, f0] at ih bb
        simp (disch := first | decide | omega) [↓bd_e, isb, ck_tt, NP, NF, NC, NB, NS, GS, kdR, tpR hT, b_X12_of_128_b, b_X12_of_155, f_X12_moves, b_X12_moves_20, m, ih]
    · have : c = 64 := by omega
      subst this
      show b_X12_of_128_b fu (b_X12_of_128 fu i) 153 (nI l) (nI (sm 64 (mvF l st))) (nI 65) st = _
      simp (disch := first | decide | omega) [↓bd_e, isb, ck_tt, NP, NF, NC, NB, NS, GS, kdR, tpR hT, b_X12_of_128_b]
theorem of_2 {st : St} {k : Nat} (hT : Top st) (hP : P_ls k st) (hk : k ≤ 64) (fu : Nat) (hf : 400 ≤ fu) (a b : Int32) : Ans (f_X11_of fu 1 a b) (f_X12_of fu 153 a b) st := by
  obtain ⟨N, sp, Q, C, A, DD, hN, h1, h2, h3, h4, h5⟩ := hP
  rcases lsC a with ⟨l, hl, rfl⟩ | na
  · have e1 : f_X11_within fu (nI l) 0 3 st = some (nI 1, st) := win_y fu st (x := l) (lo := 0) (hi := 3) (by omega) (by omega) (by omega)
    have e2 := isList_y fu st hl
    obtain ⟨⟨p1, p2, p3, m, m1, m2, m3⟩, hx⟩ := h4 l hl
    obtain ⟨r0, -⟩ := plR hl hT
    obtain ⟨k0, -⟩ := plK hl
    obtain ⟨-, -, h3⟩ := h3
    obtain ⟨q1, q2, -, -, ⟨q3, q4, q5, q6⟩, q7, ⟨q8, q9, q10⟩⟩ := h3 l hl
    have qb := q2.b
    have qR := sqR q2 hT
    have qK := sqK q2
    have C60 := q7.1
    clear h4 h3 q10
    by_cases z0 : b = 0
    · subst z0
      rcases p2 with p2 | ⟨i, hi, p2⟩
      · refine ⟨nI 0, ?_, ?_⟩
        · simp (disch := first | decide | omega) [↓bd_e, isb, ck_tt, NP, NF, NC, NB, NS, GS, kdC, tpC hT, f_X11_of, ↓caO e1, r0, k0, f_X3_ownName, b_X3_ownName_36, b_X3_ownName_37, p2]
        · simp (disch := first | decide | omega) [↓bd_e, isb, ck_tt, NP, NF, NC, NB, NS, GS, kdR, tpR hT, f_X12_of, ↓caO e2, b_X12_of_43, ← p1, p2]
      · have a0 : gI st (Q l + 1) i = nI (DD l 0 i) := q4 i hi 0 (by omega)
        have a1 : gI st 159 (l * 60 + i) = nI (DD l 0 i) := (q9 i hi).1 0 (by omega)
        refine ⟨nI (DD l 0 i), ?_, ?_⟩
        · simp (disch := first | decide | omega) [↓bd_e, isb, ck_tt, NP, NF, NC, NB, NS, GS, kdC, tpC hT, f_X11_of, ↓caO e1, r0, k0, f_X3_ownName, b_X3_ownName_36, b_X3_ownName_37, p2, q1, q3, qR, qK, a0]
        · simp (disch := first | decide | omega) [↓bd_e, isb, ck_tt, NP, NF, NC, NB, NS, GS, kdR, tpR hT, f_X12_of, ↓caO e2, b_X12_of_43, ← p1, p2, a1]
    by_cases z1 : b = 1
    · subst z1
      rcases p3 with ⟨t1, ⟨w, w1, w2, w3, w4⟩, -⟩ | ⟨t1, t2, -⟩
      · refine ⟨nI (w - N), ?_, ?_⟩
        · simp (disch := first | decide | omega) [↓bd_e, isb, ck_tt, NP, NF, NC, NB, NS, GS, kdC, tpC hT, f_X11_of, ↓caO e1, r0, k0, b_X11_of_85, t1, w3, h1]
        · simp (disch := first | decide | omega) [↓bd_e, isb, ck_tt, NP, NF, NC, NB, NS, GS, kdR, tpR hT, f_X12_of, ↓caO e2, b_X12_of_74, w4, h2]
      · refine ⟨nI 0, ?_, ?_⟩
        · simp (disch := first | decide | omega) [↓bd_e, isb, ck_tt, NP, NF, NC, NB, NS, GS, kdC, tpC hT, f_X11_of, ↓caO e1, r0, k0, b_X11_of_85, t1]
        · simp (disch := first | decide | omega) [↓bd_e, isb, ck_tt, NP, NF, NC, NB, NS, GS, kdR, tpR hT, f_X12_of, ↓caO e2, b_X12_of_74, t2]
    by_cases z2 : b = 2
    · subst z2
      have : (gI st (43 + 18 * l) 8 = -nI 1 ∧ gI st 188 l = -nI 1) ∨ ∃ w, N < w ∧ w ≤ N + 9999 ∧ gI st (43 + 18 * l) 8 = nI w ∧ gI st 188 l = nI w := by
        rcases p3 with ⟨-, -, -, t1, t2⟩ | ⟨-, -, t | ⟨w, t1, t2, t3, t4, -⟩⟩
        · exact Or.inl ⟨t1, t2⟩
        · exact Or.inl t
        · exact Or.inr ⟨w, t1, t2, t3, t4⟩
      rcases this with ⟨t1, t2⟩ | ⟨w, w1, w2, w3, w4⟩
      · refine ⟨-nI 1, ?_, ?_⟩
        · simp (disch := first | decide | omega) [↓bd_e, isb, ck_tt, NP, NF, NC, NB, NS, GS, kdC, tpC hT, f_X11_of, ↓caO e1, r0, k0, b_X11_of_107, t1]
        · simp (disch := first | decide | omega) [↓bd_e, isb, ck_tt, NP, NF, NC, NB, NS, GS, kdR, tpR hT, f_X12_of, ↓caO e2, b_X12_of_105, t2]
      · refine ⟨nI (w - N), ?_, ?_⟩
        · simp (disch := first | decide | omega) [↓bd_e, isb, ck_tt, NP, NF, NC, NB, NS, GS, kdC, tpC hT, f_X11_of, ↓caO e1, r0, k0, b_X11_of_107, w3, h1]
        · simp (disch := first | decide | omega) [↓bd_e, isb, ck_tt, NP, NF, NC, NB, NS, GS, kdR, tpR hT, f_X12_of, ↓caO e2, b_X12_of_105, w4, h2]
    by_cases z3 : b = 3
    · subst z3
      refine ⟨nI m, ?_, ?_⟩
      · simp (disch := first | decide | omega) [↓bd_e, isb, ck_tt, NP, NF, NC, NB, NS, GS, kdC, tpC hT, f_X11_of, ↓caO e1, r0, k0, m2]
      · simp (disch := first | decide | omega) [↓bd_e, isb, ck_tt, NP, NF, NC, NB, NS, GS, kdR, tpR hT, f_X12_of, ↓caO e2, m3]
    by_cases z4 : b = 4
    · subst z4
      have l1 : f_X3_moving fu (43 + 18 * l) (nI N) st = some (nI (sm 64 (mvF l st)), st) := mov_c hT hl (by omega) hx fu fu 0 (by omega) (by omega)
      have l2 : b_X12_of_128 fu fu 153 (nI l) (nI 0) (nI 1) st = some (nI (sm 64 (mvF l st)), st) := mov_r hT hl fu fu 0 (by omega) (by omega)
      refine ⟨nI (sm 64 (mvF l st)), ?_, ?_⟩
      · simp (disch := first | decide | omega) [↓bd_e, isb, ck_tt, NP, NF, NC, NB, NS, GS, kdC, tpC hT, f_X11_of, ↓caO e1, r0, k0, h1, l1]
      · simp (disch := first | decide | omega) [↓bd_e, isb, ck_tt, NP, NF, NC, NB, NS, GS, kdR, tpR hT, f_X12_of, ↓caO e2, l2]
    by_cases z5 : b = 5
    · subst z5
      refine ⟨nI (C l), ?_, ?_⟩
      · simp (disch := first | decide | omega) [↓bd_e, isb, ck_tt, NP, NF, NC, NB, NS, GS, kdC, tpC hT, f_X11_of, ↓caO e1, r0, k0, q1, q3, qK]
      · simp (disch := first | decide | omega) [↓bd_e, isb, ck_tt, NP, NF, NC, NB, NS, GS, kdR, tpR hT, f_X12_of, ↓caO e2, b_X12_of_180, q8]
    · have y : b ≠ nI 0 ∧ b ≠ nI 1 ∧ b ≠ nI 2 ∧ b ≠ nI 3 ∧ b ≠ nI 4 ∧ b ≠ nI 5 := ⟨z0, z1, z2, z3, z4, z5⟩
      refine ⟨-nI 1, ?_, ?_⟩
      · simp (disch := first | decide | omega) [↓bd_e, isb, ck_tt, NP, NF, NC, NB, NS, GS, kdC, tpC hT, f_X11_of, ↓caO e1, r0, k0, y, z0, z1, z2, z3, z4, z5]
      · simp (disch := first | decide | omega) [↓bd_e, isb, ck_tt, NP, NF, NC, NB, NS, GS, kdR, tpR hT, f_X12_of, ↓caO e2, b_X12_of_180, y, z0, z1, z2, z3, z4, z5]
  · have e1 : f_X11_within fu a 0 3 st = some (nI 0, st) := win_n fu st na
    refine ⟨-nI 1, ?_, ?_⟩
    · simp (disch := first | decide | omega) [↓bd_e, isb, ck_tt, NP, NF, NC, NB, NS, GS, kdC, tpC hT, f_X11_of, ↓caO e1]
    · simp (disch := first | decide | omega) [↓bd_e, isb, ck_tt, NP, NF, NC, NB, NS, GS, kdR, tpR hT, f_X12_of, ↓caO (isList_n fu st na)]
