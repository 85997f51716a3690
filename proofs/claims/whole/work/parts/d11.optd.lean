/-! PURE: the text of a list, in the reference: options, dead -/
theorem caO {α β σ : Type} {m : Option (α × σ)} {r : α} {u : σ} (e : m = some (r, u)) (K : α → σ → Option β) : ca m K = K r u := by rw [e]; rfl
theorem cvO {β σ : Type} {m : Option σ} {u : σ} (e : m = some u) (K : σ → Option β) : cv m K = K u := by rw [e]; rfl
theorem in155 {t : Nat} (h : t ≤ 4000) : (kd 155).1 = 100 ∧ inb (nI t) (kd 155).2 := ⟨rfl, by show inb (nI t) 4001; simp (disch := first | decide | omega) [NF, NC, NB, inb]⟩
theorem in157 {t : Nat} (h : t ≤ 4000) : (kd 157).1 = 100 ∧ inb (nI t) (kd 157).2 := ⟨rfl, by show inb (nI t) 4001; simp (disch := first | decide | omega) [NF, NC, NB, inb]⟩
theorem ex251 {st : St} (hT : Top st) {b : BY} {n t : Nat} (fu : Nat) (K : Nat → Int32 → Int32 → Int32 → Int32 → Int32 → Int32 → Int32 → St → Option (Int32 × St)) {c : Nat} (g5 : gI st 153 5 = nI t) (g4 : t ≤ 4000) (g6 : gI st 155 t = nI (so b n t)) (g8 : so b n t < 200) (so1 : ¬ so b n t = 1) (g9 : gI st 153 8 = nI 0) (x2 x3 x4 x5 x6 x7 : Int32) : b_X12_options_16_b fu K 153 (nI c) x2 x3 x4 x5 x6 x7 st = b_X12_options_251 fu x6 st := by
  unfold b_X12_options_16_b
  rw [ck_t (show (kd 153).1 = 12 from rfl), g9, if_pos (show nI 0 = 0 from rfl), tp_153_2 hT, ck_t (by decide), ck_t (show (kd 153).1 = 12 from rfl), bd_e, ck_t (show (kd 153).1 = 12 from rfl), g5, ck_t (in155 g4), show ix (nI t) = t from ix_nI (by omega), g6, if_neg (show ¬ nI (so b n t) = 1 from fun e => so1 ((nI_eq (a := so b n t) (b := 1) (by omega) (by omega)).mp e))]
theorem o251 {s : St} (fu : Nat) {x : Nat} (hx : x ≤ 1) : b_X12_options_251 fu (nI x) s = some (nI x, s) := by
  have : x = 0 ∨ x = 1 := by omega
  rcases this with rfl | rfl <;> rfl
theorem opts_D {b : BY} {n T f p : Nat} {fu : Nat} (hf : 100 ≤ fu) {c : Nat} (hc : c < 60) : ∀ (F M : Nat) (fl : Nat → Nat) (st : St), (∀ j, fl j ≤ 1) → M + 1 < F → Top st → DM b n T f p M st → ∃ r u, b_X12_options_16 fu F 153 (nI c) (nI (fl 0)) (nI (fl 1)) (nI (fl 2)) (nI (fl 3)) (nI (fl 4)) (nI (fl 5)) st = some (nI r, u) ∧ r ≤ 1 ∧ Fr Wp st u ∧ Top u ∧ DM b n T f p M u := by
  intro F
  induction F with
  | zero => intro M fl st hfl hF; omega
  | succ F ih =>
    intro M fl st hfl hF hT h
    have un : b_X12_options_16 fu (F + 1) 153 (nI c) (nI (fl 0)) (nI (fl 1)) (nI (fl 2)) (nI (fl 3)) (nI (fl 4)) (nI (fl 5)) st = b_X12_options_16_b fu (b_X12_options_16 fu F) 153 (nI c) (nI (fl 0)) (nI (fl 1)) (nI (fl 2)) (nI (fl 3)) (nI (fl 4)) (nI (fl 5)) st := rfl
    rw [un]
    obtain ⟨t, s, g5, g4, g6, g7, g8, g9, g10, g11, g12, g13, -, -, -, -, -, n4⟩ := h.see
    have o1 := o251 (s := st) fu (hfl 4)
    by_cases s1 : s = 1
    · subst s1
      refine ⟨fl 4, st, ?_, hfl 4, Fr.rf, hT, h⟩
      rw [← o1]
      clear ih h un hfl o1
      simp (disch := first | decide | omega) [isb, ck_tt, NP, NF, NC, NB, NS, GS, kdR, tpR hT, b_X12_options_16_b, g9]
    · have s0 : s = 0 := by omega
      subst s0
      by_cases so1 : so b n t = 1
      · rw [so1] at g6
        obtain ⟨fl', s', x9, q1, q2, q3, q4, q5, q6⟩ := opt_D hT h hf (b_X12_options_16 fu F) hc fl hfl g5 g4 g6 g7 g9 g12 n4
        have hM : 1 ≤ M := by
          have := (g13 rfl).2
          have : t ≠ T := fun e => by have := g11.mpr e; omega
          omega
        rw [q6, t236_D q4 q5 fu _ g12 (g13 rfl).1 q2]
        obtain ⟨r, u, r1, r2, r3, r4, r5⟩ := ih (M - 1) fl' s' q1 (by omega) q4 q5
        exact ⟨r, u, r1, r2, q3.tt r3, r4, r5.mono (by omega)⟩
      · refine ⟨fl 4, st, ?_, hfl 4, Fr.rf, hT, h⟩
        rw [← o1]
        exact ex251 hT fu _ g5 g4 g6 g8 so1 g9 _ _ _ _ _ _
