/-! PURE: out, wire: both -/
theorem mixed_2 {st : St} {k : Nat} (hT : Top st) (hP : P_ls k st) (hk : k ≤ 64) (fu : Nat) (hf : 400 ≤ fu) {ch : Nat} (hc : ch < 64) : ∃ v, v ≤ 255 ∧ f_X1_mixed fu 24 (nI ch) (gI st 1 8) st = some (nI v, st) ∧ f_X12_out fu 153 (nI (ch + 1)) st = some (nI v, st) := by
  obtain ⟨N, sp, Q, C, A, DD, hN, h1, h2, h3, h4, h5⟩ := hP
  have e2 := isChan_y fu st hc
  rw [h1]
  have L : ∀ l, ∃ x, l < 4 → x ≤ 255 ∧ gI st 190 (65 * l + (ch + 1)) = nI x ∧ ∀ fu, f_X3_levelAt fu (43 + 18 * l) (nI ch) (nI N) st = some (nI x, st) := fun l => by
    by_cases hl : l < 4
    · obtain ⟨tg, s0, sn, sp, hx⟩ := (h4 l hl).2.2 ch hc
      exact ⟨LV tg s0 sn sp N, fun _ => ⟨LV_le hx.2.2.1 hx.1 hx.2.1, hx.2.2.2.2.2.2.2.2.2.1, fun fu => hx.lv hT hl hc (by omega) fu⟩⟩
    · exact ⟨0, fun q => absurd q hl⟩
  have M : ∀ l, ∃ x, l < 4 → x ≤ 255 ∧ gI st (43 + 18 * l) 9 = nI x ∧ gI st 189 l = nI x := fun l => by
    by_cases hl : l < 4
    · obtain ⟨m, m1, m2, m3⟩ := (h4 l hl).1.2.2.2
      exact ⟨m, fun _ => ⟨m1, m2, m3⟩⟩
    · exact ⟨0, fun q => absurd q hl⟩
  obtain ⟨lv, hv⟩ := Classical.axiomOfChoice L
  obtain ⟨ms, hm⟩ := Classical.axiomOfChoice M
  rcases Nat.lt_or_ge ch 48 with q | q
  · have l1 : b_X1_mixed_38 fu fu 24 (nI ch) (nI N) (nI 0) (nI 0) st = some (nI (mxf lv ms 4), st) := mix_c hT (lv := lv) (ms := ms) (fun fu l hl => (hv l hl).2.2 fu) (fun l hl => (hm l hl).2.1) (fun l hl => (hv l hl).1) (fun l hl => (hm l hl).1) fu fu 0 (by omega) (by omega)
    have l2 : b_X12_out_51 fu fu 153 (nI (ch + 1)) 0 (nI 0) st = some (nI (mxf lv ms 4), st) := mix_r hT hc (lv := lv) (ms := ms) (fun l hl => (hv l hl).2.1) (fun l hl => (hm l hl).2.2) (fun l hl => (hv l hl).1) (fun l hl => (hm l hl).1) fu fu 0 (by omega) (by omega)
    have b := mxf_b (lv := lv) (ms := ms) (fun l hl => (hv l hl).1) (fun l hl => (hm l hl).1) 4 (by omega)
    clear hv hm h3 h4 h5 L M
    refine ⟨mxf lv ms 4, b, ?_, ?_⟩
    · simp (disch := first | decide | omega) [↓bd_e, isb, ck_tt, NP, NF, NC, NB, NS, GS, kdC, tpC hT, f_X1_mixed, l1]
    · simp (disch := first | decide | omega) [↓bd_e, isb, ck_tt, NP, NF, NC, NB, NS, GS, kdR, tpR hT, f_X12_out, ↓caO e2, l2]
  · obtain ⟨o1, o2⟩ := h5 ch q hc
    clear hm M h3 h4 h5 L
    rcases o2 with o2 | ⟨l, hl, o2⟩
    · have o3 := o1.symm.trans o2
      refine ⟨0, by omega, ?_, ?_⟩
      · simp (disch := first | decide | omega) [↓bd_e, isb, ck_tt, NP, NF, NC, NB, NS, GS, kdC, tpC hT, f_X1_mixed, b_X1_mixed_32, o2]
      · simp (disch := first | decide | omega) [↓bd_e, isb, ck_tt, NP, NF, NC, NB, NS, GS, kdR, tpR hT, f_X12_out, ↓caO e2, b_X12_out_45, o3]
    · have o3 := o1.symm.trans o2
      obtain ⟨v1, v2, v3⟩ := hv l hl
      have v4 := v3 fu
      obtain ⟨r0, -⟩ := plR hl hT
      obtain ⟨k0, -⟩ := plK hl
      clear hv v3
      refine ⟨lv l, v1, ?_, ?_⟩
      · simp (disch := first | decide | omega) [↓bd_e, isb, ck_tt, NP, NF, NC, NB, NS, GS, kdC, tpC hT, f_X1_mixed, b_X1_mixed_32, o2, r0, k0, ↓caO v4]
      · simp (disch := first | decide | omega) [↓bd_e, isb, ck_tt, NP, NF, NC, NB, NS, GS, kdR, tpR hT, f_X12_out, ↓caO e2, b_X12_out_45, o3, v2]
theorem out_2 {st : St} {k : Nat} (hT : Top st) (hP : P_ls k st) (hk : k ≤ 64) (fu : Nat) (hf : 400 ≤ fu) (a : Int32) : Ans (f_X11_out fu 1 a) (f_X12_out fu 153 a) st := by
  rcases chC a with ⟨ch, hc, rfl⟩ | na
  · obtain ⟨v, -, c1, c2⟩ := mixed_2 hT hP hk fu hf hc
    have e1 : f_X11_within fu (nI (ch + 1)) 1 64 st = some (nI 1, st) := win_y fu st (x := ch + 1) (lo := 1) (hi := 64) (by omega) (by omega) (by omega)
    refine ⟨nI v, ?_, c2⟩
    simp (disch := first | decide | omega) [↓bd_e, isb, ck_tt, NP, NF, NC, NB, NS, GS, kdC, tpC hT, f_X11_out, b_X11_out_28, ↓caO e1, c1]
  · have e1 : f_X11_within fu a 1 64 st = some (nI 0, st) := win_n fu st na
    refine ⟨-nI 1, ?_, ?_⟩
    · simp (disch := first | decide | omega) [↓bd_e, isb, ck_tt, NP, NF, NC, NB, NS, GS, kdC, tpC hT, f_X11_out, b_X11_out_28, ↓caO e1]
    · simp (disch := first | decide | omega) [↓bd_e, isb, ck_tt, NP, NF, NC, NB, NS, GS, kdR, tpR hT, f_X12_out, ↓caO (isChan_n fu st na)]
theorem nz {v : Int32} {m : Nat} (h : 0 ≤ v ∧ v ≤ (nI m)) (hm : m < 2147483647) : ∃ j, j ≤ m ∧ v = nI j := by
  rcases rngN v 0 m (by omega) (by omega) with ⟨j, -, h2, h3, -⟩ | ⟨-, q⟩ | ⟨-, q⟩
  · exact ⟨j, h2, h3⟩
  · exact absurd h q
  · exact absurd h q
theorem wire_2 {st : St} {k : Nat} (hT : Top st) (hP : P_ls k st) (hW : P_wire st) (hk : k ≤ 64) (fu : Nat) (hf : 400 ≤ fu) (a : Int32) : Ans (f_X11_wire fu 1 a) (f_X12_wire fu 153 a) st := by
  obtain ⟨w1, w2, w3, w4, w5, w6⟩ := hW
  have l1 := LC.2.2.2.2.2.2.1
  rcases rngN a 0 127 (by omega) (by omega) with ⟨j, -, hj, rfl, -⟩ | ⟨q1, q2⟩ | ⟨⟨q1, q3⟩, q2⟩
  · have e1 : f_X11_within fu (nI j) 0 127 st = some (nI 1, st) := win_y fu st (x := j) (lo := 0) (hi := 127) (by omega) (by omega) (by omega)
    obtain ⟨x, x1, x2⟩ := nz (v := gI st 28 j) (m := 64) (w4 j) (by omega)
    obtain ⟨y, y1, y2⟩ := nz (v := gI st 29 j) (m := 3) (w5 j) (by omega)
    obtain ⟨g, g1, g2⟩ := nz (v := gI st 24 7) (m := 255) w6 (by omega)
    have x3 : gI st 196 j = nI x := by rw [← w1]; exact x2
    have y3 : gI st 197 j = nI y := by rw [← w2]; exact y2
    have g3 : gI st 153 53 = nI g := by rw [← w3]; exact g2
    clear w1 w2 w3 w4 w5 w6
    rcases Nat.eq_zero_or_pos x with z | z
    · subst z
      refine ⟨nI 0, ?_, ?_⟩
      · simp (disch := first | decide | omega) [↓bd_e, isb, ck_tt, NP, NF, NC, NB, NS, GS, kdC, tpC hT, f_X11_wire, b_X11_wire_26, ↓caO e1, f_X1_sent, x2]
      · simp (disch := first | decide | omega) [↓bd_e, isb, ck_tt, NP, NF, NC, NB, NS, GS, kdR, tpR hT, f_X12_wire, x3]
    · obtain ⟨ch, rfl⟩ : ∃ ch, x = ch + 1 := ⟨x - 1, by omega⟩
      obtain ⟨v, hv, c1, c2⟩ := mixed_2 hT hP hk fu hf (ch := ch) (by omega)
      clear hP
      have : y = 0 ∨ y = 1 ∨ y = 2 ∨ y = 3 := by omega
      have ln255 : (255 : Int64) = (nI 255).toInt64 := rfl
      rcases this with rfl | rfl | rfl | rfl
      · have s1 := scl_c hv g1 fu st
        have s2 := scl_r hv g1 fu st
        refine ⟨nI (scl v g), ?_, ?_⟩
        · simp (disch := first | decide | omega) [↓bd_e, isb, ck_tt, NP, NF, NC, NB, NS, GS, kdC, tpC hT, f_X11_wire, b_X11_wire_26, ↓caO e1, f_X1_sent, b_X1_sent_92, x2, y2, g2, c1, s1]
        · simp (disch := first | decide | omega) [↓bd_e, isb, ck_tt, NP, NF, NC, NB, NS, GS, kdR, tpR hT, f_X12_wire, b_X12_wire_103, x3, y3, g3, ↓caO c2, ↓caO s2, lN_i]
      · have b2 := (scl_b hv hv).2
        have s1 := scl_c b2 g1 fu st
        have s2 := scl_r b2 g1 fu st
        have s3 := scl_c hv hv fu st
        have s4 := scl_r hv hv fu st
        rw [nI_l (n := scl v v) (by omega)] at s2
        refine ⟨nI (scl (scl v v) g), ?_, ?_⟩
        · simp (disch := first | decide | omega) [↓bd_e, isb, ck_tt, NP, NF, NC, NB, NS, GS, kdC, tpC hT, f_X11_wire, b_X11_wire_26, ↓caO e1, f_X1_sent, b_X1_sent_92, x2, y2, g2, c1, s1, s3]
        · simp (disch := first | decide | omega) [↓bd_e, isb, ck_tt, NP, NF, NC, NB, NS, GS, kdR, tpR hT, f_X12_wire, b_X12_wire_103, x3, y3, g3, ↓caO c2, ↓caO s2, ↓caO s4, lN_i]
      · have s1 := scl_c (a := 0) (by omega) g1 fu st
        have s2 := scl_r (a := 0) (by omega) g1 fu st
        have s3 := scl_c (a := 255) (by omega) g1 fu st
        have s4 := scl_r (a := 255) (by omega) g1 fu st
        rw [nI_l (n := 0) (by omega)] at s2
        rw [nI_l (n := 255) (by omega)] at s4
        replace s2 : f_X12_nearest fu (lN 0 * (nI g).toInt64) (lN 255) st = some (lN (scl 0 g), st) := s2
        replace s4 : f_X12_nearest fu (lN 255 * (nI g).toInt64) (lN 255) st = some (lN (scl 255 g), st) := s4
        have L2 := @llt v 128 (by omega)
        have L3 : ((nI v).toInt64) = lN v := nI_l (by omega)
        by_cases c : v < 128
        · refine ⟨nI (scl 0 g), ?_, ?_⟩
          · simp (disch := first | decide | omega) [↓bd_e, isb, ck_tt, NP, NF, NC, NB, NS, GS, kdC, tpC hT, f_X11_wire, b_X11_wire_26, ↓caO e1, f_X1_sent, b_X1_sent_92, b_X1_sent_79, x2, y2, g2, c1, s1]
          · simp (disch := first | decide | omega) [↓bd_e, isb, ck_tt, NP, NF, NC, NB, NS, GS, kdR, tpR hT, f_X12_wire, b_X12_wire_103, b_X12_wire_83, x3, y3, g3, ↓caO c2, s2, lN_i, l1, lit_lN, L2, L3, c]
        · refine ⟨nI (scl 255 g), ?_, ?_⟩
          · simp (disch := first | decide | omega) [↓bd_e, isb, ck_tt, NP, NF, NC, NB, NS, GS, kdC, tpC hT, f_X11_wire, b_X11_wire_26, ↓caO e1, f_X1_sent, b_X1_sent_92, b_X1_sent_79, x2, y2, g2, c1, s3]
          · simp (disch := first | decide | omega) [↓bd_e, isb, ck_tt, NP, NF, NC, NB, NS, GS, kdR, tpR hT, f_X12_wire, b_X12_wire_103, b_X12_wire_83, x3, y3, g3, ↓caO c2, s4, lN_i, l1, lit_lN, L2, L3, c]
      · have s1 := scl_c (a := 255 - v) (by omega) g1 fu st
        have s2 := scl_r (a := 255 - v) (by omega) g1 fu st
        rw [nI_l (n := 255 - v) (by omega)] at s2
        have L3 : (255 : Int64) - (nI v).toInt64 = lN (255 - v) := by rw [nI_l (by omega), lit_lN, lN_sub (by simpa using hv)]
        refine ⟨nI (scl (255 - v) g), ?_, ?_⟩
        · simp (disch := first | decide | omega) [↓bd_e, isb, ck_tt, NP, NF, NC, NB, NS, GS, kdC, tpC hT, f_X11_wire, b_X11_wire_26, ↓caO e1, f_X1_sent, b_X1_sent_92, x2, y2, g2, c1, s1]
        · simp (disch := first | decide | omega) [↓bd_e, isb, ck_tt, NP, NF, NC, NB, NS, GS, kdR, tpR hT, f_X12_wire, b_X12_wire_103, x3, y3, g3, ↓caO c2, L3, ↓caO s2, lN_i]
  · have e1 : f_X11_within fu a 0 127 st = some (nI 0, st) := win_n fu st q2
    refine ⟨-nI 1, ?_, ?_⟩
    · simp (disch := first | decide | omega) [↓bd_e, isb, ck_tt, NP, NF, NC, NB, NS, GS, kdC, tpC hT, f_X11_wire, b_X11_wire_26, ↓caO e1]
    · simp (disch := first | decide | omega) [↓bd_e, isb, ck_tt, NP, NF, NC, NB, NS, GS, kdR, tpR hT, f_X12_wire, b_X12_wire_10, q1]
  · have e1 : f_X11_within fu a 0 127 st = some (nI 0, st) := win_n fu st q2
    have q4 : ¬ a ≤ nI 127 := fun q => by
      rw [Int32.lt_iff_toInt_lt] at q3
      rw [Int32.le_iff_toInt_le] at q
      omega
    refine ⟨-nI 1, ?_, ?_⟩
    · simp (disch := first | decide | omega) [↓bd_e, isb, ck_tt, NP, NF, NC, NB, NS, GS, kdC, tpC hT, f_X11_wire, b_X11_wire_26, ↓caO e1]
    · simp (disch := first | decide | omega) [↓bd_e, isb, ck_tt, NP, NF, NC, NB, NS, GS, kdR, tpR hT, f_X12_wire, b_X12_wire_10, q1, q4]
