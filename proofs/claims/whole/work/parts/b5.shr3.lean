/-! PURE: shares: the text, in the reference: in step -/
theorem term_x {st a : St} (hT : Top st) {b : BY} {n T t f p ta sa v : Nat} {fu : Nat} (hf : 100 ≤ fu) (g1 : gI st 157 t = nI (pl b n t)) (g2 : t ≤ 4000) (g3 : gI st 153 5 = nI t) {pp : Nat} (hp : pp ≤ 2) (v1 : v ≤ 100000) (a1 : f_X12_number fu 153 (nI 0) (nI 99999) st = some (nI v, a)) (fra : Fr W5 st a) (hTa : Top a) (hDa : RfD b n T f p ta sa a) (tn : ¬ (f = 0 ∨ pl b n t < p ∨ (pl b n t = p ∧ 2 < f))) : ∃ u t' s', f_X12_term fu 153 (nI pp) st = some u ∧ Top u ∧ Fr WPs st u ∧ RfD b n T f p t' s' u ∧ ta ≤ t' ∧ (sa = 1 → s' = 1) := by
  obtain ⟨c, c1⟩ := takeS_d hTa hDa fu (c := 37) (by omega) (by omega)
  rcases c1 with ⟨c1, c0, x1, x2, x3⟩ | ⟨c1, x1, x2, x3⟩
  · obtain ⟨u, t2, s2, u1, u2, u3, u4, u5⟩ := t40_d x2 x3 hf (pp := pp) (v := v) hp v1
    refine ⟨u, t2, s2, ?_, u3, WP_t (WP_5 (W5t fra x1)) u2, u4, by omega, fun e => by omega⟩
    have tl := (tell_r x2 x3.1 fu (k := 2) (q := pl b n t) (by omega) (by omega) (pl_b b n t).2).2 tn
    have pb := pl_b b n t
    have hn := x3.1.1.2.2.2.2.2
    clear hDa x3 u4
    by_cases q : v ≤ 100
    · simp (disch := first | decide | omega) [isb, ck_tt, NP, NF, NC, NB, NS, GS, kdR, tpR hT, f_X12_term, g1, g3, a1, c1, u1]
    · simp (disch := first | decide | omega) [isb, ck_tt, NP, NF, NC, NB, NS, GS, kdR, tpR hT, f_X12_term, g1, g3, a1, c1, tl, u1]
  · have fa := WPl c (o := 248) (by omega) pp (gL c 248 pp + lN v)
    have fr := WP_t (WP_5 (W5t fra x1)) (WP_a fa)
    refine ⟨sL c 248 pp (gL c 248 pp + lN v), ta, sa, ?_, WP_top hT fr, fr, ⟨x3.1.same (WPa_rf fa), x3.2⟩, by omega, fun e => e⟩
    have hTc := x2
    have pb := pl_b b n t
    have hn := x3.1.1.2.2.2.2.2
    clear hDa x3 fa fr
    simp (disch := first | decide | omega) [isb, ck_tt, NP, NF, NC, NB, NS, GS, kdR, tpR hT, f_X12_term, b_X12_term_124, g1, g3, a1, c1, tpR hTc, LF]
/-- the fifth term -/
theorem term_5 {st : St} (hT : Top st) {b : BY} {n T t : Nat} (h : RfA b n T t 2 (pl b n t) 0 st) {fu : Nat} (hf : 100 ≤ fu) {pp : Nat} (hp : pp ≤ 2) (s0 : so b n t ≠ 0) : ∃ u t' s', f_X12_term fu 153 (nI pp) st = some u ∧ Top u ∧ Fr WPs st u ∧ RfD b n T (if so b n t = 2 then 2 else 1) (pl b n t) t' s' u ∧ t ≤ t' ∧ (s' = 0 → t + 1 ≤ t') := by
  obtain ⟨g1, g2, g3⟩ := place_r h
  obtain ⟨a1, -, -, a4⟩ := num_r hT h fu (lo := 0) (hi := 99999) (by omega) (by omega)
  by_cases s2 : so b n t = 2
  · rw [if_pos s2]
    obtain ⟨u, u1, u2, u3, u4⟩ := a1 ⟨rfl, s2⟩ ⟨Nat.zero_le _, nvt_99 s2⟩
    obtain ⟨w, t', s', w1, w2, w3, w4, w5, w6⟩ := term_x hT hf g1 g2 g3 hp (nv_le _ _ _) u1 u2 u3 ⟨u4, by omega, Or.inr (pl_s s0)⟩ (by omega)
    exact ⟨w, t', s', w1, w2, w3, w4, by omega, fun _ => by omega⟩
  · rw [if_neg s2]
    obtain ⟨u, u1, u2, u3, u4⟩ := (wrong_s hT h fu).2.1 rfl (Or.inr (Or.inr ⟨rfl, by omega⟩))
    have e : f_X12_number fu 153 (nI 0) (nI 99999) st = some (nI 0, u) := by rw [a4 (fun x => s2 x.2), u1, cv_s]
    obtain ⟨w, t', s', w1, w2, w3, w4, w5, w6⟩ := term_x hT hf g1 g2 g3 hp (by omega) e u2 u3 ⟨u4, by omega, Or.inl rfl⟩ (by omega)
    exact ⟨w, t', s', w1, w2, w3, w4, by omega, fun z => by have := w6 rfl; omega⟩
theorem s166_s {b : BY} {n T : Nat} {fu : Nat} (hf : 4200 ≤ fu) (K : K6) (m : Int32) {pp : Nat} (hp : pp ≤ 2) : ∀ (j F i t : Nat) (A : Nat → Nat) (st : St), i + j = 4 → T + 10 + j < F → Top st → RS b n T t st → SrA A st → (∀ t' A', TsOK b n (5 * pp) j t t' A A' → ∃ u, b_X12_shares_166 fu K F 153 m (nI pp) (nI i) (nI 1) st = b_X12_shares_230 fu K 153 m u ∧ Fr WPs st u ∧ Top u ∧ RS b n T t' u ∧ SrA A' u ∧ t < t') ∧ (∀ f p, TsBad b n j t f p → ∃ u t2 s2, b_X12_shares_166 fu K F 153 m (nI pp) (nI i) (nI 1) st = K 153 m u ∧ Fr WPs st u ∧ Top u ∧ RfD b n T f p t2 s2 u ∧ t ≤ t2) := by
  intro j
  induction j with
  | zero =>
    intro F i t A st hij hF hT h hA
    refine ⟨fun t' A' ok => ok.elim, fun f p bad => ?_⟩
    obtain ⟨G, rfl⟩ : ∃ G, F = G + 1 := ⟨F - 1, by omega⟩
    have i4 : i = 4 := by omega
    subst i4
    show ∃ u t2 s2, b_X12_shares_166_b fu K (b_X12_shares_166 fu K G) 153 m (nI pp) (nI 4) (nI 1) st = K 153 m u ∧ _
    obtain ⟨g1, g2, g3⟩ := place_r h
    have g8 := h.2.2.2.2.2.2.2.1
    have tT := h.2.2.1
    have so155 := (h.1.sot tT).1
    have sb := so_b b n t
    have pb := pl_b b n t
    have hn := h.1.2.2.2.2.2
    -- one dead term, then the rest
    have rest : ∀ (a0 a : St) (ta sa : Nat), f_X12_term fu 153 (nI pp) a0 = some a → Fr WPs st a → Top a → RfD b n T f p ta sa a → t ≤ ta → b_X12_shares_166_b fu K (b_X12_shares_166 fu K G) 153 m (nI pp) (nI 4) (nI 1) st = b_X12_shares_213 fu K (b_X12_shares_166 fu K G) 153 m (nI pp) (nI 5) a0 → ∃ u t2 s2, b_X12_shares_166_b fu K (b_X12_shares_166 fu K G) 153 m (nI pp) (nI 4) (nI 1) st = K 153 m u ∧ Fr WPs st u ∧ Top u ∧ RfD b n T f p t2 s2 u ∧ t ≤ t2 := fun a0 a ta sa a1 fra hTa hDa tle e => by
      obtain ⟨c, c1⟩ := takeS_d hTa hDa fu (c := 43) (by omega) (by omega)
      obtain ⟨r, tc, c1, frc, hTc, hDc, tle2⟩ : ∃ r tc, f_X12_takeSign fu 153 (nI 43) a = some (nI r, c) ∧ Fr W5 a c ∧ Top c ∧ RfD b n T f p tc sa c ∧ ta ≤ tc := by
        rcases c1 with ⟨y1, -, y2, y3, y4⟩ | ⟨y1, y2, y3, y4⟩
        · exact ⟨1, _, y1, y2, y3, y4, by omega⟩
        · exact ⟨0, _, y1, y2, y3, y4, by omega⟩
      obtain ⟨u, t2, s2, u1, u2, u3, u4, u5, u6⟩ := s166_d (b := b) (n := n) (T := T) (f := f) (p := p) (fu := fu) (by omega) K m hp G 5 tc sa (nI r) c hTc hDc (by omega) (by omega) (by have := h.1.2.2.2.2.1; omega)
      refine ⟨u, t2, s2, ?_, WP_t (WP_t fra (WP_5 frc)) u2, u3, u4, by omega⟩
      rw [e, ← u1]
      clear h hDa hDc u4 u1
      simp (disch := first | decide | omega) [isb, ck_tt, NP, NF, NC, NB, NS, GS, kdR, tpR hT, b_X12_shares_213, a1, c1]
    by_cases s0 : so b n t = 0
    · have bd : f = 1 ∧ p = pl b n t := by
        rcases bad with ⟨x, -⟩ | ⟨-, x, y⟩
        · omega
        · exact ⟨x, y⟩
      obtain ⟨rfl, rfl⟩ := bd
      obtain ⟨a, ta, sa, a1, a2, a3, a4, a5, a6⟩ := (term_s hT h (fu := fu) (by omega) hp hA).2 1 (pl b n t) (Or.inl ⟨by omega, rfl, rfl⟩)
      refine rest st a ta sa a1 a3 a2 a4 a5 ?_
      rw [s0] at so155
      clear h rest hA a4
      simp (disch := first | decide | omega) [isb, ck_tt, NP, NF, NC, NB, NS, GS, kdR, tpR hT, b_X12_shares_166_b, g8, g3, so155]
    · obtain ⟨w, w1, w2, w3, w4⟩ := (tell_r hT h fu (k := 2) (q := pl b n t) (by omega) (by omega) pb.2).1 (Or.inl rfl)
      obtain ⟨a, ta, sa, a1, a2, a3, a4, a5, a6⟩ := term_5 w3 w4 (fu := fu) (by omega) hp s0
      have bd : f = (if so b n t = 2 then 2 else 1) ∧ p = pl b n t := by
        rcases bad with ⟨x, y, z⟩ | ⟨x, y, z⟩
        · rw [if_pos x]; exact ⟨y, z⟩
        · rw [if_neg x]; exact ⟨y, z⟩
      obtain ⟨rfl, rfl⟩ := bd
      refine rest w a ta sa a1 (WP_t (WP_5 w2) a3) a2 a4 a5 ?_
      clear h rest hA a4 w4
      simp (disch := first | decide | omega) [isb, ck_tt, NP, NF, NC, NB, NS, GS, kdR, tpR hT, b_X12_shares_166_b, g8, g3, so155, g1, w1]
  | succ j ih =>
    intro F i t A st hij hF hT h hA
    obtain ⟨G, rfl⟩ : ∃ G, F = G + 1 := ⟨F - 1, by omega⟩
    have un : b_X12_shares_166 fu K (G + 1) 153 m (nI pp) (nI i) (nI 1) st = b_X12_shares_166_b fu K (b_X12_shares_166 fu K G) 153 m (nI pp) (nI i) (nI 1) st := rfl
    have g8 := h.2.2.2.2.2.2.2.1
    obtain ⟨O1, B1⟩ := term_s hT h (fu := fu) (by omega) hp hA
    have hd : ∀ a, f_X12_term fu 153 (nI pp) st = some a → ∀ r c, f_X12_takeSign fu 153 (nI 43) a = some (nI r, c) → b_X12_shares_166_b fu K (b_X12_shares_166 fu K G) 153 m (nI pp) (nI i) (nI 1) st = b_X12_shares_166 fu K G 153 m (nI pp) (nI (i + 1)) (nI r) c := fun a a1 r c c1 => by
      clear h ih O1 B1 hA un
      simp (disch := first | decide | omega) [isb, ck_tt, NP, NF, NC, NB, NS, GS, kdR, tpR hT, b_X12_shares_166_b, b_X12_shares_213, g8, a1, c1]
    refine ⟨fun t' A' ok => ?_, fun f p bad => ?_⟩
    · obtain ⟨t1, k, v, tm, k4, v9, v1, ok⟩ := ok
      obtain ⟨a, a1, a2, a3, a4, a5⟩ := O1 t1 k v tm k4 v9
      have tlt : t < t1 := by
        rcases tm.2.2 with ⟨-, -, e⟩ | ⟨-, -, -, ⟨-, -, e⟩ | ⟨-, -, -, -, e⟩⟩ <;> omega
      obtain ⟨S1, S2⟩ := takeS_s a2 a4 fu (c := 43) (by omega) (by omega)
      rcases ok with ⟨s43, rfl, rfl⟩ | ⟨s43, ok⟩
      · obtain ⟨c, c1, c2, c3, c4⟩ := S2 s43
        obtain ⟨H, rfl⟩ : ∃ H, G = H + 1 := ⟨G - 1, by omega⟩
        refine ⟨c, ?_, WP_t a3 (WP_5 c2), c3, c4, a5.w5 c2, tlt⟩
        rw [un, hd a a1 0 c c1]
        show b_X12_shares_166_b fu K (b_X12_shares_166 fu K H) 153 m (nI pp) (nI (i + 1)) (nI 0) c = _
        clear h ih O1 B1 hA un hd a4 c4
        simp (disch := first | decide | omega) [isb, ck_tt, NP, NF, NC, NB, NS, GS, kdR, tpR hT, b_X12_shares_166_b]
      · obtain ⟨c, c1, c2, c3, c4⟩ := S1 s43
        obtain ⟨u, u1, u2, u3, u4, u5, u6⟩ := (ih G (i + 1) (t1 + 1) (ad A (5 * pp + k) v) c (by omega) (by omega) c3 c4 (a5.w5 c2)).1 t' A' ok
        refine ⟨u, ?_, WP_t (WP_t a3 (WP_5 c2)) u2, u3, u4, u5, by omega⟩
        rw [un, hd a a1 1 c c1, u1]
    · rcases bad with bad | ⟨t1, k, v, tm, s43, bad⟩
      · obtain ⟨a, ta, sa, a1, a2, a3, a4, a5, a6⟩ := B1 f p bad
        obtain ⟨c, c1⟩ := takeS_d a2 a4 fu (c := 43) (by omega) (by omega)
        obtain ⟨r, tc, c1, frc, hTc, hDc, tle2⟩ : ∃ r tc, f_X12_takeSign fu 153 (nI 43) a = some (nI r, c) ∧ Fr W5 a c ∧ Top c ∧ RfD b n T f p tc sa c ∧ ta ≤ tc := by
          rcases c1 with ⟨y1, -, y2, y3, y4⟩ | ⟨y1, y2, y3, y4⟩
          · exact ⟨1, _, y1, y2, y3, y4, by omega⟩
          · exact ⟨0, _, y1, y2, y3, y4, by omega⟩
        obtain ⟨u, t2, s2, u1, u2, u3, u4, u5, u6⟩ := s166_d (b := b) (n := n) (T := T) (f := f) (p := p) (fu := fu) (by omega) K m hp G (i + 1) tc sa (nI r) c hTc hDc (by omega) (by omega) (by have := h.1.2.2.2.2.1; have := h.1.2.2.2.2.2; omega)
        refine ⟨u, t2, s2, ?_, WP_t (WP_t a3 (WP_5 frc)) u2, u3, u4, by omega⟩
        rw [un, hd a a1 r c c1, u1]
      · have kk : k ≤ 4 ∧ v ≤ 99999 := by
          obtain ⟨e1, e2, e3⟩ := tm
          have := nvt_99 e1
          refine ⟨?_, by omega⟩
          rcases e3 with ⟨-, e, -⟩ | ⟨-, -, -, ⟨-, e, -⟩ | ⟨-, -, -, e, -⟩⟩ <;> omega
        obtain ⟨a, a1, a2, a3, a4, a5⟩ := O1 t1 k v tm kk.1 kk.2
        have tlt : t < t1 := by
          rcases tm.2.2 with ⟨-, -, e⟩ | ⟨-, -, -, ⟨-, -, e⟩ | ⟨-, -, -, -, e⟩⟩ <;> omega
        obtain ⟨c, c1, c2, c3, c4⟩ := (takeS_s a2 a4 fu (c := 43) (by omega) (by omega)).1 s43
        obtain ⟨u, t2, s2, u1, u2, u3, u4, u5⟩ := (ih G (i + 1) (t1 + 1) (ad A (5 * pp + k) v) c (by omega) (by omega) c3 c4 (a5.w5 c2)).2 f p bad
        refine ⟨u, t2, s2, ?_, WP_t (WP_t a3 (WP_5 c2)) u2, u3, u4, by omega⟩
        rw [un, hd a a1 1 c c1, u1]
