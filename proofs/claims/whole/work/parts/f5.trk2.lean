/-! PURE: cues by name; tracks: both -/
def fnd (D : LD) (x : Nat) : Nat → Nat → Option Nat
  | 0, _ => none
  | n + 1, j => if D 0 j = x then some j else fnd D x n (j + 1)
def oI : Option Nat → Int32
  | none => -nI 1
  | some m => nI m
theorem fnd_s {D : LD} {x : Nat} : ∀ {n j m : Nat}, fnd D x n j = some m → j ≤ m ∧ m < j + n ∧ D 0 m = x
  | 0, j, m, h => by cases h
  | n + 1, j, m, h => by
    have h' : (if D 0 j = x then some j else fnd D x n (j + 1)) = some m := h
    by_cases c : D 0 j = x
    · rw [if_pos c] at h'
      have := Option.some.inj h'
      subst this
      exact ⟨by omega, by omega, c⟩
    · rw [if_neg c] at h'
      have := fnd_s h'
      exact ⟨by omega, by omega, this.2.2⟩
theorem fnd_c {st : St} (hT : Top st) {q c a : Nat} {D : LD} (hq : SQ q) (hS : SC q c a D st) (hL : LOK c a D) (fu : Nat) {x : Nat} (hx : x ≤ 1000000) : ∀ (i n j : Nat), j + n = c → n < i → b_X8_find_2 fu i q (nI x) (nI j) st = some (oI (fnd D x n j), st)
  | 0, n, j, _, h => by omega
  | i + 1, n, j, h1, h2 => by
    have qb := hq.b
    have qR := sqR hq hT
    have qK := sqK hq
    have c60 := hL.1
    have s1 := hS.1
    show b_X8_find_2_b fu (b_X8_find_2 fu i) q (nI x) (nI j) st = _
    cases n with
    | zero =>
      have : j = c := by omega
      subst this
      show _ = some (-nI 1, st)
      clear hS hL
      simp (disch := first | decide | omega) [↓bd_e, isb, ck_tt, NP, NF, NC, NB, NS, GS, kdC, tpC hT, b_X8_find_2_b, qR, qK, s1]
    | succ n =>
      have ih := fnd_c hT hq hS hL fu hx i n (j + 1) (by omega) (by omega)
      have a0 : gI st (q + 1) j = nI (D 0 j) := hS.2.1 j (by omega) 0 (by omega)
      have b0 : D 0 j ≤ 99999 := (hL.2.2.2.2.1 j (by omega)).1.2.1
      clear hS hL
      show _ = some (oI (if D 0 j = x then some j else fnd D x n (j + 1)), st)
      by_cases c1 : D 0 j = x
      · rw [if_pos c1]
        show _ = some (nI j, st)
        simp (disch := first | decide | omega) [↓bd_e, isb, ck_tt, NP, NF, NC, NB, NS, GS, kdC, tpC hT, b_X8_find_2_b, qR, qK, s1, a0, c1]
      · rw [if_neg c1]
        simp (disch := first | decide | omega) [↓bd_e, isb, ck_tt, NP, NF, NC, NB, NS, GS, kdC, tpC hT, b_X8_find_2_b, qR, qK, s1, a0, c1, ih]
theorem fnd_r {st : St} (hT : Top st) {l c a : Nat} {D : LD} (hl : l < 4) (hS : RK l c a D st) (hL : LOK c a D) (fu : Nat) {x : Nat} (hx : x ≤ 1000000) : ∀ (i n j : Nat), j + n = c → n < i → b_X12_cueOf_2 fu i 153 (nI l) (nI x) (nI j) st = some (oI (fnd D x n j), st)
  | 0, n, j, _, h => by omega
  | i + 1, n, j, h1, h2 => by
    have c60 := hL.1
    have s1 := hS.1
    show b_X12_cueOf_2_b fu (b_X12_cueOf_2 fu i) 153 (nI l) (nI x) (nI j) st = _
    cases n with
    | zero =>
      have : j = c := by omega
      subst this
      show _ = some (-nI 1, st)
      clear hS hL
      simp (disch := first | decide | omega) [↓bd_e, isb, ck_tt, NP, NF, NC, NB, NS, GS, kdR, tpR hT, b_X12_cueOf_2_b, s1]
    | succ n =>
      have ih := fnd_r hT hl hS hL fu hx i n (j + 1) (by omega) (by omega)
      have a0 : gI st 159 (l * 60 + j) = nI (D 0 j) := (hS.2.1 j (by omega)).1 0 (by omega)
      have b0 : D 0 j ≤ 99999 := (hL.2.2.2.2.1 j (by omega)).1.2.1
      clear hS hL
      show _ = some (oI (if D 0 j = x then some j else fnd D x n (j + 1)), st)
      by_cases c1 : D 0 j = x
      · rw [if_pos c1]
        show _ = some (nI j, st)
        simp (disch := first | decide | omega) [↓bd_e, isb, ck_tt, NP, NF, NC, NB, NS, GS, kdR, tpR hT, b_X12_cueOf_2_b, s1, a0, c1]
      · rw [if_neg c1]
        simp (disch := first | decide | omega) [↓bd_e, isb, ck_tt, NP, NF, NC, NB, NS, GS, kdR, tpR hT, b_X12_cueOf_2_b, s1, a0, c1, ih]
theorem find_c {st : St} (hT : Top st) {q c a : Nat} {D : LD} (hq : SQ q) (hS : SC q c a D st) (hL : LOK c a D) {fu : Nat} (hf : 100 ≤ fu) {x : Nat} (hx : x ≤ 1000000) : f_X8_find fu q (nI x) st = some (oI (fnd D x c 0), st) := fnd_c hT hq hS hL fu hx fu c 0 (by omega) (by have := hL.1; omega)
theorem cueOf_r {st : St} (hT : Top st) {l c a : Nat} {D : LD} (hl : l < 4) (hS : RK l c a D st) (hL : LOK c a D) {fu : Nat} (hf : 100 ≤ fu) {x : Nat} (hx : x ≤ 1000000) : f_X12_cueOf fu 153 (nI l) (nI x) st = some (oI (fnd D x c 0), st) := fnd_r hT hl hS hL fu hx fu c 0 (by omega) (by have := hL.1; omega)
/-- a cue by the numbers of its name: the same in both -/
theorem name_2 {st : St} (hT : Top st) {N sp : Nat} {Q C A : Nat → Nat} {DD : Nat → LD} (hP : PLN N sp Q C A DD st) {fu : Nat} (hf : 100 ≤ fu) (a b c : Int32) : (f_X11_cueOf fu 1 a b c st = some (-nI 1, st) ∧ f_X12_named fu 153 a b c st = some (-nI 1, st)) ∨ ∃ l i, l < 4 ∧ a = nI l ∧ i < C l ∧ f_X11_cueOf fu 1 a b c st = some (nI i, st) ∧ f_X12_named fu 153 a b c st = some (nI i, st) := by
  obtain ⟨h1, h2, ⟨-, -, h3⟩, h4, h5⟩ := hP
  rcases lsC a with ⟨l, hl, rfl⟩ | na
  · have e1 : f_X11_within fu (nI l) 0 3 st = some (nI 1, st) := win_y fu st (x := l) (lo := 0) (hi := 3) (by omega) (by omega) (by omega)
    have e2 := isList_y fu st hl
    obtain ⟨q1, q2, -, -, q3, q7, q8⟩ := h3 l hl
    obtain ⟨r0, -⟩ := plR hl hT
    obtain ⟨k0, -⟩ := plK hl
    have qb := q2.b
    have qK := (sqK q2).1
    clear h3 h4 h5
    rcases rngN b 1 999 (by omega) (by omega) with ⟨j, j1, j2, rfl, -⟩ | ⟨w1, w2⟩ | ⟨⟨w1, w3⟩, w2⟩
    · have e3 : f_X11_within fu (nI j) 1 999 st = some (nI 1, st) := win_y fu st (x := j) (lo := 1) (hi := 999) (by omega) (by omega) (by omega)
      rcases rngN c 0 99 (by omega) (by omega) with ⟨m, m1, m2, rfl, -⟩ | ⟨w1, w2⟩ | ⟨⟨w1, w3⟩, w2⟩
      · have e5 : f_X11_within fu (nI m) 0 99 st = some (nI 1, st) := win_y fu st (x := m) (lo := 0) (hi := 99) (by omega) (by omega) (by omega)
        have f1 := find_c hT q2 q3 q7 hf (x := 100 * j + m) (by omega)
        have f2 := cueOf_r hT hl q8 q7 hf (x := 100 * j + m) (by omega)
        clear q3 q8
        have g1 : f_X11_cueOf fu 1 (nI l) (nI j) (nI m) st = some (oI (fnd (DD l) (100 * j + m) (C l) 0), st) := by
          simp (disch := first | decide | omega) [↓bd_e, isb, ck_tt, NP, NF, NC, NB, NS, GS, kdC, tpC hT, f_X11_cueOf, ↓caO e1, ↓caO e3, ↓caO e5, r0, k0, q1, qK, f1]
        have g2 : f_X12_named fu 153 (nI l) (nI j) (nI m) st = some (oI (fnd (DD l) (100 * j + m) (C l) 0), st) := by
          simp (disch := first | decide | omega) [↓bd_e, isb, ck_tt, NP, NF, NC, NB, NS, GS, kdR, tpR hT, f_X12_named, ↓caO e2, f2]
        rw [g1, g2]
        rcases hF : fnd (DD l) (100 * j + m) (C l) 0 with _ | i
        · exact Or.inl ⟨rfl, rfl⟩
        · have := fnd_s hF
          exact Or.inr ⟨l, i, hl, rfl, by omega, rfl, rfl⟩
      · have e5 : f_X11_within fu c 0 99 st = some (nI 0, st) := win_n fu st w2
        refine Or.inl ⟨?_, ?_⟩
        · simp (disch := first | decide | omega) [↓bd_e, isb, ck_tt, NP, NF, NC, NB, NS, GS, kdC, tpC hT, f_X11_cueOf, b_X11_cueOf_30, ↓caO e1, ↓caO e3, ↓caO e5]
        · simp (disch := first | decide | omega) [↓bd_e, isb, ck_tt, NP, NF, NC, NB, NS, GS, kdR, tpR hT, f_X12_named, b_X12_named_29, ↓caO e2, w1]
      · have e5 : f_X11_within fu c 0 99 st = some (nI 0, st) := win_n fu st w2
        have w4 : ¬ c ≤ nI 99 := fun q => by
          rw [Int32.lt_iff_toInt_lt] at w3
          rw [Int32.le_iff_toInt_le] at q
          omega
        refine Or.inl ⟨?_, ?_⟩
        · simp (disch := first | decide | omega) [↓bd_e, isb, ck_tt, NP, NF, NC, NB, NS, GS, kdC, tpC hT, f_X11_cueOf, b_X11_cueOf_30, ↓caO e1, ↓caO e3, ↓caO e5]
        · simp (disch := first | decide | omega) [↓bd_e, isb, ck_tt, NP, NF, NC, NB, NS, GS, kdR, tpR hT, f_X12_named, b_X12_named_29, ↓caO e2, w1, w4]
    · have e3 : f_X11_within fu b 1 999 st = some (nI 0, st) := win_n fu st w2
      refine Or.inl ⟨?_, ?_⟩
      · simp (disch := first | decide | omega) [↓bd_e, isb, ck_tt, NP, NF, NC, NB, NS, GS, kdC, tpC hT, f_X11_cueOf, b_X11_cueOf_30, ↓caO e1, ↓caO e3]
      · simp (disch := first | decide | omega) [↓bd_e, isb, ck_tt, NP, NF, NC, NB, NS, GS, kdR, tpR hT, f_X12_named, b_X12_named_29, ↓caO e2, w1]
    · have e3 : f_X11_within fu b 1 999 st = some (nI 0, st) := win_n fu st w2
      refine Or.inl ⟨?_, ?_⟩
      · simp (disch := first | decide | omega) [↓bd_e, isb, ck_tt, NP, NF, NC, NB, NS, GS, kdC, tpC hT, f_X11_cueOf, b_X11_cueOf_30, ↓caO e1, ↓caO e3]
      · simp (disch := first | decide | omega) [↓bd_e, isb, ck_tt, NP, NF, NC, NB, NS, GS, kdR, tpR hT, f_X12_named, b_X12_named_29, ↓caO e2, w1, w3]
  · have e1 : f_X11_within fu a 0 3 st = some (nI 0, st) := win_n fu st na
    refine Or.inl ⟨?_, ?_⟩
    · simp (disch := first | decide | omega) [↓bd_e, isb, ck_tt, NP, NF, NC, NB, NS, GS, kdC, tpC hT, f_X11_cueOf, b_X11_cueOf_30, ↓caO e1]
    · simp (disch := first | decide | omega) [↓bd_e, isb, ck_tt, NP, NF, NC, NB, NS, GS, kdR, tpR hT, f_X12_named, b_X12_named_29, ↓caO (isList_n fu st na)]
theorem tracks_2 {st : St} {k : Nat} (hT : Top st) (hP : P_ls k st) (fu : Nat) (hf : 400 ≤ fu) (a b c d : Int32) : Ans (f_X11_tracks fu 1 a b c d) (f_X12_tracks fu 153 a b c d) st := by
  obtain ⟨N, sp, Q, C, A, DD, hN, hP⟩ := hP
  rcases name_2 hT hP (fu := fu) (by omega) a b c with ⟨c1, c2⟩ | ⟨l, i, hl, rfl, hi, c1, c2⟩
  · refine ⟨-nI 1, ?_, ?_⟩
    · clear hP
      simp (disch := first | decide | omega) [↓bd_e, isb, ck_tt, NP, NF, NC, NB, NS, GS, kdC, tpC hT, f_X11_tracks, b_X11_tracks_25, ↓caO c1]
    · clear hP
      simp (disch := first | decide | omega) [↓bd_e, isb, ck_tt, NP, NF, NC, NB, NS, GS, kdR, tpR hT, f_X12_tracks, b_X12_tracks_23, b_X12_tracks_45, ↓caO c2]
  · obtain ⟨h1, h2, ⟨-, -, h3⟩, h4, h5⟩ := hP
    obtain ⟨q1, q2, -, -, q3, q7, q8⟩ := h3 l hl
    have c60 := q7.1
    rcases chC d with ⟨ch, hc, rfl⟩ | nd
    · have e1 : f_X11_within fu (nI (ch + 1)) 1 64 st = some (nI 1, st) := win_y fu st (x := ch + 1) (lo := 1) (hi := 64) (by omega) (by omega) (by omega)
      have e2 := isChan_y fu st hc
      have t1 := trk_c hT q2 q3 q7 hf hi hc
      have t2 := (q8.2.1 i hi).2.2.2 ch hc
      obtain ⟨r0, -⟩ := plR hl hT
      obtain ⟨k0, -⟩ := plK hl
      have qb := q2.b
      have qK := (sqK q2).1
      clear h3 h4 h5 q3 q8 q7
      refine ⟨nI (trk (DD l) i ch), ?_, ?_⟩
      · simp (disch := first | decide | omega) [↓bd_e, isb, ck_tt, NP, NF, NC, NB, NS, GS, kdC, tpC hT, f_X11_tracks, ↓caO c1, ↓caO e1, r0, k0, q1, qK, t1]
      · simp (disch := first | decide | omega) [↓bd_e, isb, ck_tt, NP, NF, NC, NB, NS, GS, kdR, tpR hT, f_X12_tracks, b_X12_tracks_45, ↓caO c2, ↓caO e2, t2]
    · have e1 : f_X11_within fu d 1 64 st = some (nI 0, st) := win_n fu st nd
      clear h3 h4 h5 q3 q8 q7
      refine ⟨-nI 1, ?_, ?_⟩
      · simp (disch := first | decide | omega) [↓bd_e, isb, ck_tt, NP, NF, NC, NB, NS, GS, kdC, tpC hT, f_X11_tracks, b_X11_tracks_25, ↓caO c1, ↓caO e1]
      · simp (disch := first | decide | omega) [↓bd_e, isb, ck_tt, NP, NF, NC, NB, NS, GS, kdR, tpR hT, f_X12_tracks, b_X12_tracks_23, b_X12_tracks_45, ↓caO c2, ↓caO (isChan_n fu st nd)]
