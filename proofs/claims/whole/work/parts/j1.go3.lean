/-! PURE: go, play, both -/
/-- lists, axes, events and locks, all in one -/
def LI (k : Nat) (st : St) : Prop := ∃ N sp Q C A DD L, N ≤ 500 * k ∧ gI st 1 8 = nI N ∧ B2 N (fun _ => N) sp Q C A DD L st
theorem LI.to {k : Nat} {st : St} (h : LI k st) : P_ls k st ∧ P_ax st ∧ P_ev st ∧ P_lk st := by
  obtain ⟨N, sp, Q, C, A, DD, L, hN, h1, ⟨a1, a2, a3, a4, a5, a6, a7, a8⟩, h3, h4⟩ := h
  exact ⟨⟨N, sp, Q, C, A, DD, hN, h1, a1, a2, fun l hl => ⟨(a3 l hl).2, h3 l hl⟩, h4⟩, a4, a5, a6, L, a7, a8⟩
theorem LI.of {k : Nat} {st : St} (h1 : P_ls k st) (h2 : P_ax st) (h3 : P_ev st) (h4 : P_lk st) : LI k st := by
  obtain ⟨N, sp, Q, C, A, DD, hN, b1, b2, b3, b4, b5⟩ := h1
  obtain ⟨c1, L, c2, c3⟩ := h4
  exact ⟨N, sp, Q, C, A, DD, L, hN, b1, ⟨b2, b3, fun l hl => ⟨Nat.le_refl _, (b4 l hl).1⟩, h2, h3, c1, c2, c3⟩, fun l hl => (b4 l hl).2, b5⟩
theorem go_h {u u' : St} (hT : Top u) {l N : Nat} {r : Int32} (hl : l < 4) (fu : Nat) (n8 : gI u 1 8 = nI N) {q : Option Nat} (hq : ∀ m, q = some m → m < 60) (e1 : f_X3_following fu (43 + 18 * l) u = some (oI q, u)) (e2 : match q with | none => r = nI 0 ∧ u' = u | some m => r = nI 1 ∧ f_X1_start fu 24 (nI l) (nI m) (nI N) u = some u') : f_X11_go fu 1 (nI l) u = some (r, u') := by
  have ew : f_X11_within fu (nI l) 0 3 u = some (nI 1, u) := win_y fu u (x := l) (lo := 0) (hi := 3) (by omega) (by omega) (by omega)
  obtain ⟨r0, -⟩ := plR hl hT
  obtain ⟨k0, -⟩ := plK hl
  cases q with
  | none =>
    obtain ⟨rfl, rfl⟩ := e2
    have e1' : f_X3_following fu (43 + 18 * l) u' = some (-nI 1, u') := e1
    simp (disch := first | decide | omega) [↓bd_e, isb, ck_tt, NP, NF, NC, NB, NS, GS, kdC, tpC hT, f_X11_go, ↓caO ew, r0, k0, ↓caO e1']
  | some m =>
    obtain ⟨rfl, e2⟩ := e2
    have m60 := hq m rfl
    have e1' : f_X3_following fu (43 + 18 * l) u = some (nI m, u) := e1
    simp (disch := first | decide | omega) [↓bd_e, isb, ck_tt, NP, NF, NC, NB, NS, GS, kdC, tpC hT, f_X11_go, ↓caO ew, r0, k0, ↓caO e1', n8, ↓cvO e2]
theorem go_l {N : Nat} {sp : Nat} {Q C A : Nat → Nat} {DD : Nat → LD} {L : Nat → Option LK} {u w : St} (h : B2 N (fun _ => N) sp Q C A DD L (mg u w)) (n8 : gI u 1 8 = nI N) (hTu : Top u) (hTw : Top w) (hN : N ≤ 100000) {fu : Nat} (hf : 400 ≤ fu) {l : Nat} (hl : l < 4) : ∃ r u' w', f_X11_go fu 1 (nI l) u = some (r, u') ∧ f_X12_go fu 153 (nI l) w = some (r, w') ∧ PB2 N (fun _ => N) sp Q C A DD L u w u' w' := by
  obtain ⟨S, -, -, n40⟩ := h.1.s
  obtain ⟨s1, s2, s3, s4, s5⟩ := S l hl
  have c60 := s4.1
  obtain ⟨q, q1, q2, q3⟩ := (h.1.2.2.1 l hl).2.cue
  have n88 := (h.1.2.2.1 l hl).2.n88 (by omega) hN
  rw [(mgC u w (o := 43 + 18 * l) (by omega)).1] at q1
  rw [(mgR u w (o := 186) (by omega)).1] at q2
  rw [(mgR u w (o := 188) (by omega)).1] at n88
  have fc := fol_c hTu hl s2 s1 s3 s4 q1 q3 (fu := fu) (by omega)
  have gr := goes_r hTw hl s5 s4 q2 q3 (fu := fu) (by omega)
  have il := isList_y fu w hl
  cases ef : fol (DD l) (C l) q with
  | none =>
    rw [ef] at fc gr
    refine ⟨nI 0, u, w, go_h hTu hl fu n8 (q := none) (fun m hm => by cases hm) fc ⟨rfl, rfl⟩, ?_, Fr.rf, Fr.rf, hTu, hTw, h⟩
    have gr' : f_X12_goes fu 153 (nI l) w = some (nI 0, w) := by
      rw [gr]
      show some (nI 0, sI w 188 l (if gI w 188 l = gI w 153 40 then -nI 1 else gI w 188 l)) = _
      rw [n40, if_neg n88, sI_id]
    unfold f_X12_go b_X12_go_19 b_X12_go_20
    rw [il, ca_s, if_neg (show ¬ nI 1 = 0 by decide), ck_t (show (kd 153).1 = 12 from rfl), gr', ca_s, if_pos (show nI 0 = 0 from rfl)]
    rfl
  | some m =>
    rw [ef] at fc gr
    have m2 := fol_s ef
    obtain ⟨u', w', e1, e2, p⟩ := start_2 (h.one hl (fun _ _ => rfl)) rfl hTu hTw hN hf hl m2
    refine ⟨nI 1, u', w', go_h hTu hl fu n8 (q := some m) (fun m' hm => by injection hm with hm; omega) fc ⟨rfl, e1⟩, ?_, p⟩
    have gr' : f_X12_goes fu 153 (nI l) w = some (nI 1, w') := by
      rw [gr]
      show cv (f_X12_plays fu 153 (nI l) (nI m) (nI 0) w) _ = _
      rw [e2, cv_s]
    unfold f_X12_go b_X12_go_19 b_X12_go_20
    rw [il, ca_s, if_neg (show ¬ nI 1 = 0 by decide), ck_t (show (kd 153).1 = 12 from rfl), gr', ca_s, if_neg (show ¬ nI 1 = 0 by decide)]
    rfl
theorem go_2 {k : Nat} (hk : k ≤ 64) {st : St} (hT : Top st) (h : LI k st) (fu : Nat) (hf : 400 ≤ fu) (a : Int32) : Two (f_X11_go fu 1 a) (f_X12_go fu 153 a) (WBc ++ WBr) (LI k) st := by
  obtain ⟨N, sp, Q, C, A, DD, L, hN, n8, hB⟩ := id h
  rcases rngN a 0 3 (by omega) (by omega) with ⟨l, -, hl, rfl, -⟩ | ⟨-, na⟩ | ⟨-, na⟩
  · refine two_of hT (by decide) (by decide) (fun w hTw em => ?_)
    obtain ⟨r, u', w', e1, e2, p1, p2, p3, p4, p5⟩ := go_l (L := L) (by rw [em]; exact hB) n8 hT hTw (show N ≤ 100000 by omega) hf (l := l) (by omega)
    exact ⟨r, u', w', e1, e2, p1, p2, p3, N, sp, Q, C, A, DD, L, hN, by rw [(mgC u' w' (o := 1) (by omega)).1, p1.ki 1 8 (by decide)]; exact n8, p5⟩
  all_goals
    have e1 : f_X11_within fu a 0 3 st = some (nI 0, st) := win_n fu st na
    have e2 : f_X12_isList fu a st = some (nI 0, st) := isList_n fu st na
    refine ⟨nI 0, st, st, ?_, ?_, Fr.rf, h⟩
    · clear h hB
      simp (disch := first | decide | omega) [↓bd_e, isb, ck_tt, NP, NF, NC, NB, NS, GS, kdC, tpC hT, f_X11_go, ↓caO e1]
    · clear h hB
      simp (disch := first | decide | omega) [↓bd_e, isb, ck_tt, NP, NF, NC, NB, NS, GS, kdR, tpR hT, f_X12_go, b_X12_go_19, b_X12_go_20, ↓caO e2]
def f_bad (b : Int32) (lo hi : Nat) : Prop := ¬ (nI lo ≤ b ∧ b ≤ nI hi) ∧ (b < nI lo ∨ nI hi < b)
theorem name_k {fu : Nat} (hf : 100 ≤ fu) (a b c : Int32) : (∀ st w, Top st → Top w → f_X11_cueOf fu 1 a b c st = some (-nI 1, st) ∧ f_X12_named fu 153 a b c w = some (-nI 1, w)) ∨ ∃ l x, l < 4 ∧ a = nI l ∧ ∀ st w, Top st → Top w → ∀ q cc aa D, SQ q → gR st (43 + 18 * l) 0 = q → SC q cc aa D st → LOK cc aa D → RK l cc aa D w → f_X11_cueOf fu 1 a b c st = some (oI (fnd D x cc 0), st) ∧ f_X12_named fu 153 a b c w = some (oI (fnd D x cc 0), w) := by
  rcases lsC a with ⟨l, hl, rfl⟩ | na
  · have e1 : ∀ st, f_X11_within fu (nI l) 0 3 st = some (nI 1, st) := fun st => win_y fu st (x := l) (lo := 0) (hi := 3) (by omega) (by omega) (by omega)
    have e2 : ∀ w, f_X12_isList fu (nI l) w = some (nI 1, w) := fun w => isList_y fu w hl
    have bad3 : f_bad b 1 999 → (∀ st w, Top st → Top w → f_X11_cueOf fu 1 (nI l) b c st = some (-nI 1, st) ∧ f_X12_named fu 153 (nI l) b c w = some (-nI 1, w)) := fun hb st w hT hTw => by
      have e3 : f_X11_within fu b 1 999 st = some (nI 0, st) := win_n fu st hb.1
      have e1' := e1 st
      have e2' := e2 w
      refine ⟨?_, ?_⟩
      · clear e1 e2 hb
        simp (disch := first | decide | omega) [↓bd_e, isb, ck_tt, NP, NF, NC, NB, NS, GS, kdC, tpC hT, f_X11_cueOf, b_X11_cueOf_30, ↓caO e1', ↓caO e3]
      · have hT := hTw
        rcases hb.2 with q | q
        · simp (disch := first | decide | omega) [↓bd_e, isb, ck_tt, NP, NF, NC, NB, NS, GS, kdR, tpR hT, f_X12_named, b_X12_named_29, ↓caO e2', q]
        · by_cases q' : b < nI 1
          · simp (disch := first | decide | omega) [↓bd_e, isb, ck_tt, NP, NF, NC, NB, NS, GS, kdR, tpR hT, f_X12_named, b_X12_named_29, ↓caO e2', q']
          · simp (disch := first | decide | omega) [↓bd_e, isb, ck_tt, NP, NF, NC, NB, NS, GS, kdR, tpR hT, f_X12_named, b_X12_named_29, ↓caO e2', q, q']
    rcases rngN b 1 999 (by omega) (by omega) with ⟨j, j1, j2, rfl, -⟩ | ⟨w1, w2⟩ | ⟨⟨w1, w3⟩, w2⟩
    · have e3 : ∀ st, f_X11_within fu (nI j) 1 999 st = some (nI 1, st) := fun st => win_y fu st (x := j) (lo := 1) (hi := 999) (by omega) (by omega) (by omega)
      have bad5 : f_bad c 0 99 → (∀ st w, Top st → Top w → f_X11_cueOf fu 1 (nI l) (nI j) c st = some (-nI 1, st) ∧ f_X12_named fu 153 (nI l) (nI j) c w = some (-nI 1, w)) := fun hb st w hT hTw => by
        have e5 : f_X11_within fu c 0 99 st = some (nI 0, st) := win_n fu st hb.1
        have e1' := e1 st
        have e2' := e2 w
        have e3' := e3 st
        refine ⟨?_, ?_⟩
        · clear e1 e2 e3 hb bad3
          simp (disch := first | decide | omega) [↓bd_e, isb, ck_tt, NP, NF, NC, NB, NS, GS, kdC, tpC hT, f_X11_cueOf, b_X11_cueOf_30, ↓caO e1', ↓caO e3', ↓caO e5]
        · have hT := hTw
          clear e1 e2 e3 bad3
          rcases hb.2 with q | q
          · simp (disch := first | decide | omega) [↓bd_e, isb, ck_tt, NP, NF, NC, NB, NS, GS, kdR, tpR hT, f_X12_named, b_X12_named_29, ↓caO e2', q]
          · have q2 : ¬ c ≤ nI 99 := fun z => by
              rw [Int32.lt_iff_toInt_lt] at q
              rw [Int32.le_iff_toInt_le] at z
              omega
            by_cases q' : c < nI 0
            · simp (disch := first | decide | omega) [↓bd_e, isb, ck_tt, NP, NF, NC, NB, NS, GS, kdR, tpR hT, f_X12_named, b_X12_named_29, ↓caO e2', q']
            · simp (disch := first | decide | omega) [↓bd_e, isb, ck_tt, NP, NF, NC, NB, NS, GS, kdR, tpR hT, f_X12_named, b_X12_named_29, ↓caO e2', q2, q']
      rcases rngN c 0 99 (by omega) (by omega) with ⟨m, m1, m2, rfl, -⟩ | ⟨w1, w2⟩ | ⟨⟨w1, w3⟩, w2⟩
      · refine Or.inr ⟨l, 100 * j + m, hl, rfl, fun st w hT hTw q cc aa D hq rQ hS hL hR => ?_⟩
        obtain ⟨r0, -⟩ := plR hl hT
        obtain ⟨k0, -⟩ := plK hl
        have qb := hq.b
        have qK := (sqK hq).1
        have e5 : f_X11_within fu (nI m) 0 99 st = some (nI 1, st) := win_y fu st (x := m) (lo := 0) (hi := 99) (by omega) (by omega) (by omega)
        have f1 := find_c hT hq hS hL hf (x := 100 * j + m) (by omega)
        have f2 := cueOf_r hTw hl hR hL hf (x := 100 * j + m) (by omega)
        have e1' := e1 st
        have e2' := e2 w
        have e3' := e3 st
        have q0 : q ≠ 0 := by omega
        clear hS hR bad3 bad5 e1 e2 e3
        refine ⟨?_, ?_⟩
        · simp (disch := first | decide | omega) [↓bd_e, isb, ck_tt, NP, NF, NC, NB, NS, GS, kdC, tpC hT, f_X11_cueOf, ↓caO e1', ↓caO e3', ↓caO e5, r0, k0, rQ, qK, q0, f1]
        · have hT := hTw
          simp (disch := first | decide | omega) [↓bd_e, isb, ck_tt, NP, NF, NC, NB, NS, GS, kdR, tpR hT, f_X12_named, ↓caO e2', f2]
      · exact Or.inl (bad5 ⟨w2, Or.inl w1⟩)
      · exact Or.inl (bad5 ⟨w2, Or.inr w3⟩)
    · exact Or.inl (bad3 ⟨w2, Or.inl w1⟩)
    · exact Or.inl (bad3 ⟨w2, Or.inr w3⟩)
  · refine Or.inl (fun st w hT hTw => ?_)
    have e1 : f_X11_within fu a 0 3 st = some (nI 0, st) := win_n fu st na
    have e2 : f_X12_isList fu a w = some (nI 0, w) := isList_n fu w na
    refine ⟨?_, ?_⟩
    · simp (disch := first | decide | omega) [↓bd_e, isb, ck_tt, NP, NF, NC, NB, NS, GS, kdC, tpC hT, f_X11_cueOf, b_X11_cueOf_30, ↓caO e1]
    · have hT := hTw
      simp (disch := first | decide | omega) [↓bd_e, isb, ck_tt, NP, NF, NC, NB, NS, GS, kdR, tpR hT, f_X12_named, b_X12_named_29, ↓caO e2]
theorem play_2 {k : Nat} (hk : k ≤ 64) {st : St} (hT : Top st) (h : LI k st) (fu : Nat) (hf : 400 ≤ fu) (a b c : Int32) : Two (f_X11_play fu 1 a b c) (f_X12_play fu 153 a b c) (WBc ++ WBr) (LI k) st := by
  obtain ⟨N, sp, Q, C, A, DD, L, hN, n8, hB⟩ := id h
  have no : ∀ u w, Top u → Top w → f_X11_cueOf fu 1 a b c u = some (-nI 1, u) → f_X12_named fu 153 a b c w = some (-nI 1, w) → f_X11_play fu 1 a b c u = some (nI 0, u) ∧ f_X12_play fu 153 a b c w = some (nI 0, w) := fun u w hTu hTw e1 e2 => by
    refine ⟨?_, ?_⟩
    · have hT := hTu
      clear h hB hTw
      simp (disch := first | decide | omega) [↓bd_e, isb, ck_tt, NP, NF, NC, NB, NS, GS, kdC, tpC hT, f_X11_play, ↓caO e1]
    · have hT := hTw
      clear h hB hTu
      simp (disch := first | decide | omega) [↓bd_e, isb, ck_tt, NP, NF, NC, NB, NS, GS, kdR, tpR hT, f_X12_play, ↓caO e2]
  rcases name_k (fu := fu) (by omega) a b c with bad | ⟨l, x, hl, rfl, good⟩
  · obtain ⟨e1, e2⟩ := bad st st hT hT
    obtain ⟨g1, g2⟩ := no st st hT hT e1 e2
    exact ⟨nI 0, st, st, g1, g2, Fr.rf, h⟩
  · refine two_of hT (by decide) (by decide) (fun w hTw em => ?_)
    have hB' : B2 N (fun _ => N) sp Q C A DD L (mg st w) := by rw [em]; exact hB
    obtain ⟨S, -, -, -⟩ := hB'.1.s
    obtain ⟨s1, s2, s3, s4, s5⟩ := S l hl
    have c60 := s4.1
    obtain ⟨e1, e2⟩ := good st w hT hTw _ _ _ _ s2 s1 s3 s4 s5
    cases ef : fnd (DD l) x (C l) 0 with
    | none =>
      rw [ef] at e1 e2
      obtain ⟨g1, g2⟩ := no st w hT hTw e1 e2
      exact ⟨nI 0, st, w, g1, g2, Fr.rf, Fr.rf, hT, by rw [em]; exact h⟩
    | some m =>
      rw [ef] at e1 e2
      have m2 : m < C l := by have := (fnd_s ef).2.1; omega
      have e1 : f_X11_cueOf fu 1 (nI l) b c st = some (nI m, st) := e1
      have e2 : f_X12_named fu 153 (nI l) b c w = some (nI m, w) := e2
      obtain ⟨u', w', a1, a2, p1, p2, p3, p4, p5⟩ := start_2 (hB'.one hl (fun _ _ => rfl)) rfl hT hTw (show N ≤ 100000 by omega) hf hl m2
      refine ⟨nI 1, u', w', ?_, ?_, p1, p2, p3, N, sp, Q, C, A, DD, L, hN, by rw [(mgC u' w' (o := 1) (by omega)).1, p1.ki 1 8 (by decide)]; exact n8, p5⟩
      · clear h hB hB' S s3 s4 s5 good no p5
        simp (disch := first | decide | omega) [↓bd_e, isb, ck_tt, NP, NF, NC, NB, NS, GS, kdC, tpC hT, f_X11_play, ↓caO e1, n8, ↓cvO a1]
      · have hT := hTw
        clear h hB hB' S s3 s4 s5 good no p5
        simp (disch := first | decide | omega) [↓bd_e, isb, ck_tt, NP, NF, NC, NB, NS, GS, kdR, tpR hT, f_X12_play, ↓caO e2, ↓cvO a2]
