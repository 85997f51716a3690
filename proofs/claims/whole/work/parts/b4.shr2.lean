/-! PURE: shares: the text, in the reference: the loops -/
abbrev K6 : Type := Nat → Int32 → St → Option (Int32 × St)
/-- dead: from needSign(';') on -/
theorem s230_d {s : St} (hT : Top s) {b : BY} {n T f p t s' : Nat} (h : RfD b n T f p t s' s) {fu : Nat} (K : K6) (m : Int32) : ∃ u t2 s2, b_X12_shares_230 fu K 153 m s = K 153 m u ∧ Fr WPs s u ∧ Top u ∧ RfD b n T f p t2 s2 u ∧ t ≤ t2 ∧ (s' = 1 → s2 = 1) := by
  obtain ⟨u, u1, u2⟩ := needS_d hT h fu (c := 59) (by omega) (by omega)
  have e : b_X12_shares_230 fu K 153 m s = K 153 m u := by
    clear h u2
    simp (disch := first | decide | omega) [isb, ck_tt, NP, NF, NC, NB, NS, GS, kdR, tpR hT, b_X12_shares_230, u1]
  rcases u2 with ⟨x0, x1, x2, x3⟩ | ⟨x1, x2, x3⟩
  · exact ⟨u, _, _, e, WP_5 x1, x2, x3, by omega, fun _ => by omega⟩
  · exact ⟨u, _, _, e, WP_5 x1, x2, x3, by omega, fun _ => rfl⟩
theorem s166_d {b : BY} {n T f p : Nat} {fu : Nat} (hf : 100 ≤ fu) (K : K6) (m : Int32) {pp : Nat} (hp : pp ≤ 2) : ∀ (F i t s : Nat) (x : Int32) (st : St), Top st → RfD b n T f p t s st → T - t + 1 < F → i ≤ 5000 → i + (T - t) ≤ 5000 → ∃ u t2 s2, b_X12_shares_166 fu K F 153 m (nI pp) (nI i) x st = K 153 m u ∧ Fr WPs st u ∧ Top u ∧ RfD b n T f p t2 s2 u ∧ t ≤ t2 ∧ (s = 1 → s2 = 1) := by
  intro F
  induction F with
  | zero => intro i t s x st _ _ h; omega
  | succ F ih =>
    intro i t s x st hT h hF hi hi2
    show ∃ u t2 s2, b_X12_shares_166_b fu K (b_X12_shares_166 fu K F) 153 m (nI pp) (nI i) x st = K 153 m u ∧ _
    obtain ⟨g1, g2, g3⟩ := place_r h.1
    have g8 := h.1.2.2.2.2.2.2.2.1
    have s1 := h.1.2.2.2.2.2.2.2.2
    have tT := h.1.2.2.1
    by_cases x0 : x = nI 0
    · obtain ⟨u, t2, s2, u1, u2⟩ := s230_d hT h (fu := fu) K m
      refine ⟨u, t2, s2, ?_, u2⟩
      rw [← u1]
      clear h u2 ih
      simp (disch := first | decide | omega) [isb, ck_tt, NP, NF, NC, NB, NS, GS, kdR, tpR hT, b_X12_shares_166_b, x0]
    · by_cases e0 : s = 0
      · subst e0
        have plt : p < pl b n t := by have := h.2.2; omega
        obtain ⟨a, ta, sa, a1, a2, a3, a4, a5, a6⟩ := term_d hT h hf hp
        obtain ⟨c, c1⟩ := takeS_d a2 a4 fu (c := 43) (by omega) (by omega)
        obtain ⟨r, tc, hr, c1, frc, hTc, hDc, tle⟩ : ∃ r tc, r ≤ 1 ∧ f_X12_takeSign fu 153 (nI 43) a = some (nI r, c) ∧ Fr W5 a c ∧ Top c ∧ RfD b n T f p tc sa c ∧ ta ≤ tc := by
          rcases c1 with ⟨y1, -, y2, y3, y4⟩ | ⟨y1, y2, y3, y4⟩
          · exact ⟨1, _, by omega, y1, y2, y3, y4, by omega⟩
          · exact ⟨0, _, by omega, y1, y2, y3, y4, by omega⟩
        have tcT := hDc.1.2.2.1
        have so155 := (h.1.1.sot tT).1
        have tn := tell_n hT h fu (k := 2) (q := pl b n t) (by omega) (by omega) (pl_b b n t).2 plt
        have st1 : b_X12_shares_166_b fu K (b_X12_shares_166 fu K F) 153 m (nI pp) (nI i) x st = b_X12_shares_166 fu K F 153 m (nI pp) (nI (i + 1)) (nI r) c := by
          have sb := so_b b n t
          clear h ih a4 hDc
          by_cases i4 : i = 4
          · subst i4
            by_cases z : so b n t = 0
            · rw [z] at so155
              simp (disch := first | decide | omega) [isb, ck_tt, NP, NF, NC, NB, NS, GS, kdR, tpR hT, b_X12_shares_166_b, b_X12_shares_213, x0, g8, g3, so155, a1, c1]
            · simp (disch := first | decide | omega) [isb, ck_tt, NP, NF, NC, NB, NS, GS, kdR, tpR hT, b_X12_shares_166_b, b_X12_shares_213, x0, g8, g3, so155, g1, tn, a1, c1]
          · simp (disch := first | decide | omega) [isb, ck_tt, NP, NF, NC, NB, NS, GS, kdR, tpR hT, b_X12_shares_166_b, b_X12_shares_213, x0, g8, a1, c1]
        rw [st1]
        have fr := WP_t a3 (WP_5 frc)
        by_cases sa0 : sa = 0
        · have := a6 sa0
          obtain ⟨u, t2, s2, u1, u2, u3, u4, u5, u6⟩ := ih (i + 1) tc sa (nI r) c hTc hDc (by omega) (by omega) (by omega)
          exact ⟨u, t2, s2, u1, WP_t fr u2, u3, u4, by omega, fun e => by omega⟩
        · -- stopped: the loop ends
          have sa1 : sa = 1 := by have := hDc.1.2.2.2.2.2.2.2.2; omega
          subst sa1
          obtain ⟨G, rfl⟩ : ∃ G, F = G + 1 := ⟨F - 1, by omega⟩
          obtain ⟨u, t2, s2, u1, u2, u3, u4, u5, u6⟩ := s230_d hTc hDc (fu := fu) K m
          refine ⟨u, t2, s2, ?_, WP_t fr u2, u3, u4, by omega, fun e => by omega⟩
          rw [← u1]
          have c8 := hDc.1.2.2.2.2.2.2.2.1
          have hTcc := hTc
          show b_X12_shares_166_b fu K (b_X12_shares_166 fu K G) 153 m (nI pp) (nI (i + 1)) (nI r) c = _
          clear h ih a4 hDc u4 st1
          rcases Nat.eq_zero_or_pos r with z | z
          · subst z
            simp (disch := first | decide | omega) [isb, ck_tt, NP, NF, NC, NB, NS, GS, kdR, tpR hT, b_X12_shares_166_b]
          · simp (disch := first | decide | omega) [isb, ck_tt, NP, NF, NC, NB, NS, GS, kdR, tpR hT, b_X12_shares_166_b, c8]
      · have e1 : s = 1 := by omega
        subst e1
        obtain ⟨u, t2, s2, u1, u2⟩ := s230_d hT h (fu := fu) K m
        refine ⟨u, t2, s2, ?_, u2⟩
        rw [← u1]
        clear h u2 ih
        simp (disch := first | decide | omega) [isb, ck_tt, NP, NF, NC, NB, NS, GS, kdR, tpR hT, b_X12_shares_166_b, x0, g8]
