/-! PURE: the text of a list, in the reference: options in step -/
theorem opt_6 {st : St} (hT : Top st) {b : BY} {n T t : Nat} (h : RS b n T t st) {fu : Nat} (hf : 100 ≤ fu) (K : Nat → Int32 → Int32 → Int32 → Int32 → Int32 → Int32 → Int32 → St → Option (Int32 × St)) {c : Nat} (ho : fW b n t 2 6 = 6) (so1 : so b n t = 1) (x2 x3 x4 x5 x6 x7 : Int32) : ∃ s, Fr W5 st s ∧ Top s ∧ DM b n T 1 (pl b n t) 0 s ∧ b_X12_options_16_b fu K 153 (nI c) x2 x3 x4 x5 x6 x7 st = K 153 (nI c) x2 x3 x4 x5 x6 x7 s := by
  obtain ⟨g5, g4, g6, g7, g8, g9, g10, g11, g12⟩ := h.rd
  rw [so1] at g6
  have fk := fW_6 (b := b) (n := n) (t := t) 2
  rw [ho] at fk
  have w0 : wB b n t 2 = false := by cases e : wB b n t 2 <;> simp [e] at fk ⊢
  have w1 : wB b n t 3 = false := by cases e : wB b n t 3 <;> simp [e, w0] at fk ⊢
  have w2 : wB b n t 4 = false := by cases e : wB b n t 4 <;> simp [e, w0, w1] at fk ⊢
  have w3 : wB b n t 5 = false := by cases e : wB b n t 5 <;> simp [e, w0, w1, w2] at fk ⊢
  have w4 : wB b n t 6 = false := by cases e : wB b n t 6 <;> simp [e, w0, w1, w2, w3] at fk ⊢
  have w5 : wB b n t 7 = false := by cases e : wB b n t 7 <;> simp [e, w0, w1, w2, w3, w4] at fk ⊢
  obtain ⟨a0, e0, fr0, hT0, d0⟩ := takeW_p hT h hf (w := 2) (by omega) (by omega)
  rw [w0] at e0 d0
  simp only [Bool.toNat_false, Bool.false_eq_true, if_false] at e0 d0
  obtain ⟨a1, e1, fr1, hT1, d1⟩ := takeW_p hT0 d0 hf (w := 3) (by omega) (by omega)
  rw [w1] at e1 d1
  simp only [Bool.toNat_false, Bool.false_eq_true, if_false] at e1 d1
  obtain ⟨a2, e2, fr2, hT2, d2⟩ := takeW_p hT1 d1 hf (w := 4) (by omega) (by omega)
  rw [w2] at e2 d2
  simp only [Bool.toNat_false, Bool.false_eq_true, if_false] at e2 d2
  obtain ⟨a3, e3, fr3, hT3, d3⟩ := takeW_p hT2 d2 hf (w := 5) (by omega) (by omega)
  rw [w3] at e3 d3
  simp only [Bool.toNat_false, Bool.false_eq_true, if_false] at e3 d3
  obtain ⟨a4, e4, fr4, hT4, d4⟩ := takeW_p hT3 d3 hf (w := 6) (by omega) (by omega)
  rw [w4] at e4 d4
  simp only [Bool.toNat_false, Bool.false_eq_true, if_false] at e4 d4
  obtain ⟨a5, e5, fr5, hT5, d5⟩ := takeW_p hT4 d4 hf (w := 7) (by omega) (by omega)
  rw [w5] at e5 d5
  simp only [Bool.toNat_false, Bool.false_eq_true, if_false] at e5 d5
  obtain ⟨u, q1, q2, q3, q4⟩ := wrong_q hT5 d5 fu
  refine ⟨u, fr0.tt (fr1.tt (fr2.tt (fr3.tt (fr4.tt (fr5.tt q2))))), q3, q4, ?_⟩
  clear h d0 d1 d2 d3 d4 d5 q4 fk
  simp (disch := first | decide | omega) [↓bd_e, isb, ck_tt, NP, NF, NC, NB, NS, GS, kdR, tpR hT, ↓caO e0, ↓caO e1, ↓caO e2, ↓caO e3, ↓caO e4, ↓caO e5, ↓cvO q1, b_X12_options_16_b, b_X12_options_236, b_X12_options_248, g5, g6, g7, g9]
theorem bor {M o j : Nat} (hM : M < 64) (ho : o < 6) (hj : j < 6) : (if j = o then 1 else M / 2 ^ j % 2) = (M ||| 2 ^ o) / 2 ^ j % 2 := by
  have : ∀ M, M < 64 → ∀ o, o < 6 → ∀ j, j < 6 → (if j = o then 1 else M / 2 ^ j % 2) = (M ||| 2 ^ o) / 2 ^ j % 2 := by decide +kernel
  exact this M hM o ho j hj
theorem pOpt_b {b : BY} {n c a o t f p : Nat} {D : LD} (h : pOpt b n c a o D t = .inr (f, p)) : pl b n t ≤ p := by
  have N : ∀ lo k, pb (pNum b n lo 9999 t) (fun v t1 => .inl (st1 D k c v, t1)) = (.inr (f, p) : PR LD) → pl b n t ≤ p := fun lo k h => by
    rcases pb_inr h with h1 | ⟨x, t1, h1, h2⟩
    · have := (pNum_b h1).1; omega
    · cases h2
  unfold pOpt at h
  by_cases o0 : o = 0
  · rw [if_pos o0] at h; exact N _ _ h
  · rw [if_neg o0] at h
    by_cases o1 : o = 1
    · rw [if_pos o1] at h; exact N _ _ h
    · rw [if_neg o1] at h
      by_cases o2 : o = 2
      · rw [if_pos o2] at h; exact N _ _ h
      · rw [if_neg o2] at h
        by_cases o3 : o = 3
        · rw [if_pos o3] at h; exact N _ _ h
        · rw [if_neg o3] at h
          by_cases o4 : o = 4
          · rw [if_pos o4] at h; cases h
          · rw [if_neg o4] at h
            rcases pb_inr h with h1 | ⟨x, t1, h1, h2⟩
            · exact pName_b h1
            · cases h2
set_option maxHeartbeats 8000000 in
theorem opts_s {b : BY} {n T : Nat} {fu : Nat} (hf : 9000 ≤ fu) {c a : Nat} (hc : c < 60) : ∀ (g F M t : Nat) (D : LD) (st : St), g + pc6 M = 7 → M < 64 → 4100 + g < F → Top st → RS b n T t st → RU (c + 1) D st → (M / 2 ^ 4 % 2 = 1 → D 6 c = a) → ∃ r u1 u2, b_X12_options_16 fu F 153 (nI c) (nI (M / 2 ^ 0 % 2)) (nI (M / 2 ^ 1 % 2)) (nI (M / 2 ^ 2 % 2)) (nI (M / 2 ^ 3 % 2)) (nI (M / 2 ^ 4 % 2)) (nI (M / 2 ^ 5 % 2)) st = some (nI r, u1) ∧ r ≤ 1 ∧ f_X12_needSign fu 153 (nI 123) u1 = some u2 ∧ Fr Wp st u2 ∧ Top u2 ∧ RO b n T (T - t - 1) (pOpts b n c a g M D t) (fun D' => RU (c + 1) D' u2 ∧ (r = 1 → D' 6 c = a) ∧ (r = 0 → D' 6 c = D 6 c) ∧ (M / 2 ^ 4 % 2 = 1 → r = 1)) u2 := by
  intro g
  induction g with
  | zero =>
    intro F M t D st hg hM
    have := pc6_le hM
    omega
  | succ g ih =>
    intro F M t D st hg hM hF hT h hU h6
    obtain ⟨G, rfl⟩ : ∃ G, F = G + 1 := ⟨F - 1, by omega⟩
    obtain ⟨g5, g4, g6, g7, g8, g9, g10, g11, g12⟩ := h.rd
    have tn := h.1.2.2.2.2.1
    have n4 := h.1.2.2.2.2.2
    have un : b_X12_options_16 fu (G + 1) 153 (nI c) (nI (M / 2 ^ 0 % 2)) (nI (M / 2 ^ 1 % 2)) (nI (M / 2 ^ 2 % 2)) (nI (M / 2 ^ 3 % 2)) (nI (M / 2 ^ 4 % 2)) (nI (M / 2 ^ 5 % 2)) st = b_X12_options_16_b fu (b_X12_options_16 fu G) 153 (nI c) (nI (M / 2 ^ 0 % 2)) (nI (M / 2 ^ 1 % 2)) (nI (M / 2 ^ 2 % 2)) (nI (M / 2 ^ 3 % 2)) (nI (M / 2 ^ 4 % 2)) (nI (M / 2 ^ 5 % 2)) st := rfl
    rw [un]
    have ep : pOpts b n c a (g + 1) M D t = if fW b n t 2 6 < 6 then (if M / 2 ^ fW b n t 2 6 % 2 = 1 then .inr (3, pl b n t) else pb (pOpt b n c a (fW b n t 2 6) D (t + 1)) fun D1 t1 => pOpts b n c a g (M ||| 2 ^ fW b n t 2 6) D1 t1) else pb (pSg b n 123 t) fun _ t1 => .inl (D, t1) := rfl
    rw [ep]
    have fb : ∀ j, (fun j => M / 2 ^ j % 2) j ≤ 1 := fun j => by show M / 2 ^ j % 2 ≤ 1; omega
    have ol := fW_le b n t 6 2
    obtain ⟨o, ho⟩ : ∃ o, o = fW b n t 2 6 := ⟨_, rfl⟩
    rw [← ho]
    by_cases o6 : o < 6
    · rw [if_pos o6]
      obtain ⟨s, fr, hTs, co, e⟩ := opt_r hT h (fu := fu) (by omega) (b_X12_options_16 fu G) (a := a) hc hU (fun j => M / 2 ^ j % 2) ho o6
      have e : b_X12_options_16_b fu (b_X12_options_16 fu G) 153 (nI c) (nI (M / 2 ^ 0 % 2)) (nI (M / 2 ^ 1 % 2)) (nI (M / 2 ^ 2 % 2)) (nI (M / 2 ^ 3 % 2)) (nI (M / 2 ^ 4 % 2)) (nI (M / 2 ^ 5 % 2)) st = b_X12_options_236 fu (b_X12_options_16 fu G) 153 (nI c) (nI (if 0 = o then 1 else M / 2 ^ 0 % 2)) (nI (if 1 = o then 1 else M / 2 ^ 1 % 2)) (nI (if 2 = o then 1 else M / 2 ^ 2 % 2)) (nI (if 3 = o then 1 else M / 2 ^ 3 % 2)) (nI (if 4 = o then 1 else M / 2 ^ 4 % 2)) (nI (if 5 = o then 1 else M / 2 ^ 5 % 2)) (nI (pl b n t)) (nI (M / 2 ^ o % 2)) s := e
      rw [bor hM o6 (j := 0) (by omega), bor hM o6 (j := 1) (by omega), bor hM o6 (j := 2) (by omega), bor hM o6 (j := 3) (by omega), bor hM o6 (j := 4) (by omega), bor hM o6 (j := 5) (by omega)] at e
      have s0 : so b n t ≠ 0 := isW_s (by have := fW_t b n t 6 2 (by omega); exact this)
      have p0 := pl_s s0
      have fb' : ∀ j, (fun j => (M ||| 2 ^ o) / 2 ^ j % 2) j ≤ 1 := fun j => by show (M ||| 2 ^ o) / 2 ^ j % 2 ≤ 1; omega
      -- dead behind it
      have dead : ∀ f p s', Fr Wp st s' → Top s' → DM b n T f p (T - t - 1) s' → b_X12_options_16_b fu (b_X12_options_16 fu G) 153 (nI c) (nI (M / 2 ^ 0 % 2)) (nI (M / 2 ^ 1 % 2)) (nI (M / 2 ^ 2 % 2)) (nI (M / 2 ^ 3 % 2)) (nI (M / 2 ^ 4 % 2)) (nI (M / 2 ^ 5 % 2)) st = b_X12_options_16 fu G 153 (nI c) (nI ((M ||| 2 ^ o) / 2 ^ 0 % 2)) (nI ((M ||| 2 ^ o) / 2 ^ 1 % 2)) (nI ((M ||| 2 ^ o) / 2 ^ 2 % 2)) (nI ((M ||| 2 ^ o) / 2 ^ 3 % 2)) (nI ((M ||| 2 ^ o) / 2 ^ 4 % 2)) (nI ((M ||| 2 ^ o) / 2 ^ 5 % 2)) s' → ∃ r u1 u2, b_X12_options_16_b fu (b_X12_options_16 fu G) 153 (nI c) (nI (M / 2 ^ 0 % 2)) (nI (M / 2 ^ 1 % 2)) (nI (M / 2 ^ 2 % 2)) (nI (M / 2 ^ 3 % 2)) (nI (M / 2 ^ 4 % 2)) (nI (M / 2 ^ 5 % 2)) st = some (nI r, u1) ∧ r ≤ 1 ∧ f_X12_needSign fu 153 (nI 123) u1 = some u2 ∧ Fr Wp st u2 ∧ Top u2 ∧ DM b n T f p (T - t - 1) u2 := fun f p s' fr' hT' d' e' => by
        obtain ⟨r, u, r1, r2, r3, r4, r5⟩ := opts_D (b := b) (n := n) (fu := fu) (by omega) hc G (T - t - 1) (fun j => (M ||| 2 ^ o) / 2 ^ j % 2) s' fb' (by omega) hT' d'
        obtain ⟨u2, z1, z2, z3, z4⟩ := needS_D r4 r5 fu (c := 123) (by omega) (by omega)
        exact ⟨r, u, u2, by rw [e']; exact r1, r2, z1, fr'.tt (r3.tt (Wp_5 z2)), z3, z4.mono (by omega)⟩
      by_cases sb : M / 2 ^ o % 2 = 1
      · rw [if_pos sb]
        rw [sb] at e
        have tl : ∃ s', f_X12_tell fu 153 (nI 3) (nI (pl b n t)) s = some s' ∧ Fr W5 s s' ∧ Top s' ∧ DM b n T 3 (pl b n t) (T - t - 1) s' := by
          cases hp : pOpt b n c a o D (t + 1) with
          | inl y =>
            obtain ⟨y, t1⟩ := y
            rw [hp] at co
            have d1 : RS b n T t1 s := co.1
            have t1t := (pOpt_D hp).2.2.1
            have := pl_le (b := b) (n := n) t1t
            obtain ⟨s', x1, x2, x3, x4⟩ := tell_S hTs d1 fu (k := 3) (q := pl b n t) (by omega) (by omega) (by omega)
            exact ⟨s', x1, x2, x3, x4.mono (by omega)⟩
          | inr e' =>
            obtain ⟨f, p⟩ := e'
            rw [hp] at co
            have d1 : DM b n T f p (T - t - 1) s := co
            have := pOpt_b hp
            exact tell_M hTs d1 fu (by omega) (by omega) (by omega)
        obtain ⟨s', x1, x2, x3, x4⟩ := tl
        refine dead 3 (pl b n t) s' (fr.tt (Wp_5 x2)) x3 x4 ?_
        rw [e]
        unfold b_X12_options_236 b_X12_options_248
        rw [if_neg (by decide), ck_t (show (kd 153).1 = 12 from rfl), show f_X12_tell fu 153 3 (nI (pl b n t)) s = some s' from x1, cv_s]
      · rw [if_neg sb]
        have sb0 : M / 2 ^ o % 2 = 0 := by omega
        rw [sb0] at e
        have e2 : b_X12_options_16_b fu (b_X12_options_16 fu G) 153 (nI c) (nI (M / 2 ^ 0 % 2)) (nI (M / 2 ^ 1 % 2)) (nI (M / 2 ^ 2 % 2)) (nI (M / 2 ^ 3 % 2)) (nI (M / 2 ^ 4 % 2)) (nI (M / 2 ^ 5 % 2)) st = b_X12_options_16 fu G 153 (nI c) (nI ((M ||| 2 ^ o) / 2 ^ 0 % 2)) (nI ((M ||| 2 ^ o) / 2 ^ 1 % 2)) (nI ((M ||| 2 ^ o) / 2 ^ 2 % 2)) (nI ((M ||| 2 ^ o) / 2 ^ 3 % 2)) (nI ((M ||| 2 ^ o) / 2 ^ 4 % 2)) (nI ((M ||| 2 ^ o) / 2 ^ 5 % 2)) s := by
          rw [e]
          unfold b_X12_options_236 b_X12_options_248
          rw [if_pos (show nI 0 = 0 from rfl)]
        obtain ⟨p1, p2, p3⟩ := pc6_s hM o6 sb
        cases hp : pOpt b n c a o D (t + 1) with
        | inr e' =>
          rw [hp] at co
          exact dead e'.1 e'.2 s fr hTs co e2
        | inl y =>
          obtain ⟨D1, t1⟩ := y
          rw [hp] at co
          obtain ⟨d1, U1, c4, c4'⟩ := co
          have d1 : RS b n T t1 s := d1
          have t1t := (pOpt_D hp).2.2.1
          rw [pb_i]
          have b4 := bor hM o6 (j := 4) (by omega)
          obtain ⟨r, u1, u2, x1, x2, x3, x4, x5, x6⟩ := ih G (M ||| 2 ^ o) t1 D1 s (by omega) p2 (by omega) hTs d1 U1 (fun hb => by
            rw [← b4] at hb
            by_cases o4 : o = 4
            · exact c4 o4
            · rw [if_neg (by omega)] at hb
              rw [show D1 6 c = D 6 c from c4' o4]; exact h6 hb)
          refine ⟨r, u1, u2, by rw [e2]; exact x1, x2, x3, fr.tt x4, x5, ?_⟩
          cases hq : pOpts b n c a g (M ||| 2 ^ o) D1 t1 with
          | inr e' => rw [hq] at x6; exact DM.mono x6 (by omega)
          | inl z =>
            rw [hq] at x6
            obtain ⟨y1, y2, y3, y4, y5⟩ := x6
            rw [← b4] at y5
            refine ⟨y1, y2, y3, fun r0 => ?_, fun hb => y5 ?_⟩
            · by_cases o4 : o = 4
              · have := y5 (by rw [if_pos o4.symm])
                omega
              · rw [y4 r0]; exact c4' o4
            · by_cases o4 : o = 4
              · rw [if_pos o4.symm]
              · rw [if_neg (by omega)]; exact hb
    · rw [if_neg o6]
      by_cases so1 : so b n t = 1
      · -- a word that is none of them
        obtain ⟨s, fr, hTs, d1, e⟩ := opt_6 hT h (fu := fu) (by omega) (b_X12_options_16 fu G) (c := c) (by omega) so1 (nI (M / 2 ^ 0 % 2)) (nI (M / 2 ^ 1 % 2)) (nI (M / 2 ^ 2 % 2)) (nI (M / 2 ^ 3 % 2)) (nI (M / 2 ^ 4 % 2)) (nI (M / 2 ^ 5 % 2))
        obtain ⟨r, u, r1, r2, r3, r4, r5⟩ := opts_D (b := b) (n := n) (fu := fu) (by omega) hc G 0 (fun j => M / 2 ^ j % 2) s fb (by omega) hTs d1
        obtain ⟨u2, z1, z2, z3, z4⟩ := needS_D r4 r5 fu (c := 123) (by omega) (by omega)
        refine ⟨r, u, u2, by rw [e]; exact r1, r2, z1, (Wp_5 fr).tt (r3.tt (Wp_5 z2)), z3, ?_⟩
        have ep2 : pSg b n 123 t = .inr (1, pl b n t) := by unfold pSg; rw [if_neg (by omega)]
        rw [ep2]
        exact z4.mono (by omega)
      · obtain ⟨u2, z1, z2, z3, co⟩ := needS_q hT h fu (c := 123) (by omega) (by omega)
        have o1 := o251 (s := st) fu (fb 4)
        refine ⟨M / 2 ^ 4 % 2, st, u2, ?_, fb 4, z1, Wp_5 z2, z3, ?_⟩
        · rw [← o1]
          exact ex251 hT fu _ g5 g4 g6 g8 so1 g9 _ _ _ _ _ _
        · cases hp : pSg b n 123 t with
          | inr e' => rw [hp] at co; exact co
          | inl y =>
            rw [hp] at co
            exact ⟨co.1, hU.fr (W6_5 z2), h6, fun _ => rfl, fun hb => hb⟩
