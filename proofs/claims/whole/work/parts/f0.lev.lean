/-! PURE: lists: level, of -/
theorem isList_y (fu : Nat) (st : St) {l : Nat} (h : l < 4) : f_X12_isList fu (nI l) st = some (nI 1, st) := by
  simp (disch := first | decide | omega) [NF, NC, NB, f_X12_isList, b_X12_isList_13, b_X12_isList_14, ck_tt, NP, isb]
theorem isList_n (fu : Nat) (st : St) {a : Int32} (h : ¬ (nI 0 ≤ a ∧ a ≤ nI 3)) : f_X12_isList fu a st = some (nI 0, st) := by
  unfold f_X12_isList
  by_cases h1 : a < 0
  · rw [if_pos h1]; rfl
  · rw [if_neg h1]
    by_cases h2 : (4 : Int32) ≤ a
    · rw [if_pos h2]; rfl
    · exfalso
      have e3 : (nI 3).toInt = 3 := nI_toInt (by omega)
      have e0 : (nI 0).toInt = 0 := nI_toInt (by omega)
      have e4 : (4 : Int32).toInt = 4 := rfl
      have e5 : (0 : Int32).toInt = 0 := rfl
      simp only [Int32.lt_iff_toInt_lt, Int32.le_iff_toInt_le] at h h1 h2
      omega
theorem isChan_y (fu : Nat) (st : St) {c : Nat} (h : c < 64) : f_X12_isChannel fu (nI (c + 1)) st = some (nI 1, st) := by
  simp (disch := first | decide | omega) [NF, NC, NB, f_X12_isChannel, b_X12_isChannel_15, b_X12_isChannel_16, ck_tt, NP, isb]
theorem isChan_n (fu : Nat) (st : St) {a : Int32} (h : ¬ (nI 1 ≤ a ∧ a ≤ nI 64)) : f_X12_isChannel fu a st = some (nI 0, st) := by
  unfold f_X12_isChannel
  by_cases h1 : a < 1
  · rw [if_pos h1]; rfl
  · rw [if_neg h1]
    by_cases h2 : (64 : Int32) < a
    · rw [if_pos h2]; rfl
    · exfalso
      have e3 : (nI 64).toInt = 64 := nI_toInt (by omega)
      have e0 : (nI 1).toInt = 1 := nI_toInt (by omega)
      have e4 : (64 : Int32).toInt = 64 := rfl
      have e5 : (1 : Int32).toInt = 1 := rfl
      simp only [Int32.lt_iff_toInt_lt, Int32.le_iff_toInt_le] at h h1 h2
      omega
/-- is it a list? is it a channel? -/
theorem lsC (a : Int32) : (∃ l, l < 4 ∧ a = nI l) ∨ ¬ (nI 0 ≤ a ∧ a ≤ nI 3) := by
  rcases rngN a 0 3 (by omega) (by omega) with ⟨j, h1, h2, h3, -⟩ | ⟨-, h⟩ | ⟨-, h⟩
  · exact Or.inl ⟨j, by omega, h3⟩
  · exact Or.inr h
  · exact Or.inr h
theorem chC (a : Int32) : (∃ c, c < 64 ∧ a = nI (c + 1)) ∨ ¬ (nI 1 ≤ a ∧ a ≤ nI 64) := by
  rcases rngN a 1 64 (by omega) (by omega) with ⟨j, h1, h2, h3, -⟩ | ⟨-, h⟩ | ⟨-, h⟩
  · exact Or.inl ⟨j - 1, by omega, by rw [show j - 1 + 1 = j by omega]; exact h3⟩
  · exact Or.inr h
  · exact Or.inr h
theorem win_y (fu : Nat) (st : St) {x lo hi : Nat} (h1 : lo ≤ x) (h2 : x ≤ hi) (h3 : hi < 2147483648) : f_X11_within fu (nI x) (nI lo) (nI hi) st = some (nI 1, st) := by
  rw [within_eq, if_pos ⟨(nI_leI (by omega) (by omega)).mpr h1, (nI_leI (by omega) (by omega)).mpr h2⟩]; rfl
theorem win_n (fu : Nat) (st : St) {a : Int32} {lo hi : Nat} (h : ¬ (nI lo ≤ a ∧ a ≤ nI hi)) : f_X11_within fu a (nI lo) (nI hi) st = some (nI 0, st) := by
  rw [within_eq, if_neg h]; rfl
theorem PLx.lv {l N ch tg s0 sn sp : Nat} {st : St} (h : PLx l N ch tg s0 sn sp st) (hT : Top st) (hl : l < 4) (hc : ch < 64) (hN : N ≤ 100000) (fu : Nat) : f_X3_levelAt fu (43 + 18 * l) (nI ch) (nI N) st = some (nI (LV tg s0 sn sp N), st) := by
  obtain ⟨h1, h2, h3, h4, h5, h6, h7, h8, -⟩ := h
  obtain ⟨-, r1, r2, r3, r4⟩ := plR hl hT
  obtain ⟨k0, k1, k2, k3, k4⟩ := plK hl
  exact levelAt_c fu k0 r1 r2 r3 r4 k1 k2 k3 k4 (by omega) (by omega) (by omega) (by omega) hc h5 h6 h7 h8 h1 h2 h3 h4 hN
/-- level: both answer alike -/
theorem level_2 {st : St} {k : Nat} (hT : Top st) (hP : P_ls k st) (hk : k ≤ 64) (fu : Nat) (a b : Int32) : Ans (f_X11_level fu 1 a b) (f_X12_level fu 153 a b) st := by
  obtain ⟨N, sp, Q, C, A, DD, hN, h1, h2, h3, h4, h5⟩ := hP
  have n0 : (-1 : Int32) = -nI 1 := rfl
  rcases lsC a with ⟨l, hl, rfl⟩ | na
  · rcases chC b with ⟨ch, hc, rfl⟩ | nb
    · obtain ⟨-, -, hx⟩ := h4 l hl
      obtain ⟨tg, s0, sn, sp, hx⟩ := hx ch hc
      have lv := hx.lv hT hl hc (by omega) fu
      obtain ⟨r0, -⟩ := plR hl hT
      obtain ⟨k0, -⟩ := plK hl
      have e1 := win_y fu st (x := l) (lo := 0) (hi := 3) (by omega) (by omega) (by omega)
      have e2 := win_y fu st (x := ch + 1) (lo := 1) (hi := 64) (by omega) (by omega) (by omega)
      have z := hx.2.2.2.2.2.2.2.2.2.1
      refine ⟨nI (LV tg s0 sn sp N), ?_, ?_⟩
      · simp (disch := first | decide | omega) [↓bd_e, isb, ck_tt, NP, NF, NC, NB, NS, GS, kdC, tpC hT, f_X11_level, ↓caO (show f_X11_within fu (nI l) 0 3 st = some (nI 1, st) from e1), ↓caO (show f_X11_within fu (nI (ch + 1)) 1 64 st = some (nI 1, st) from e2), r0, k0, h1, lv]
      · simp (disch := first | decide | omega) [↓bd_e, isb, ck_tt, NP, NF, NC, NB, NS, GS, kdR, tpR hT, f_X12_level, b_X12_level_29, ↓caO (isList_y fu st hl), ↓caO (isChan_y fu st hc), z]
    · have e1 := win_y fu st (x := l) (lo := 0) (hi := 3) (by omega) (by omega) (by omega)
      have e2 := win_n fu st nb
      refine ⟨-nI 1, ?_, ?_⟩
      · simp (disch := first | decide | omega) [↓bd_e, isb, ck_tt, NP, NF, NC, NB, NS, GS, kdC, tpC hT, f_X11_level, b_X11_level_19, ↓caO (show f_X11_within fu (nI l) 0 3 st = some (nI 1, st) from e1), ↓caO (show f_X11_within fu b 1 64 st = some (nI 0, st) from e2)]
      · simp (disch := first | decide | omega) [↓bd_e, isb, ck_tt, NP, NF, NC, NB, NS, GS, kdR, tpR hT, f_X12_level, b_X12_level_28, b_X12_level_29, ↓caO (isList_y fu st hl), ↓caO (isChan_n fu st nb)]
  · have e1 := win_n fu st na
    refine ⟨-nI 1, ?_, ?_⟩
    · simp (disch := first | decide | omega) [↓bd_e, isb, ck_tt, NP, NF, NC, NB, NS, GS, kdC, tpC hT, f_X11_level, b_X11_level_19, ↓caO (show f_X11_within fu a 0 3 st = some (nI 0, st) from e1)]
    · simp (disch := first | decide | omega) [↓bd_e, isb, ck_tt, NP, NF, NC, NB, NS, GS, kdR, tpR hT, f_X12_level, b_X12_level_28, b_X12_level_29, ↓caO (isList_n fu st na)]
