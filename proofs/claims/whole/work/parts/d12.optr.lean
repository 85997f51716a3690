/-! PURE: the text of a list, in the reference: an option, in step -/
set_option maxHeartbeats 8000000 in
/-- one option, in step -/
theorem opt_r {st : St} (hT : Top st) {b : BY} {n T t : Nat} (h : RS b n T t st) {fu : Nat} (hf : 100 ≤ fu) (K : Nat → Int32 → Int32 → Int32 → Int32 → Int32 → Int32 → Int32 → St → Option (Int32 × St)) {c a o : Nat} (hc : c < 60) {D : LD} (hU : RU (c + 1) D st) (fl : Nat → Nat) (ho : o = fW b n t 2 6) (ho6 : o < 6) : ∃ s, Fr Wp st s ∧ Top s ∧ RO b n T (T - t - 1) (pOpt b n c a o D (t + 1)) (fun D1 => RU (c + 1) D1 s ∧ (o = 4 → D1 6 c = a) ∧ (o ≠ 4 → D1 6 c = D 6 c)) s ∧ b_X12_options_16_b fu K 153 (nI c) (nI (fl 0)) (nI (fl 1)) (nI (fl 2)) (nI (fl 3)) (nI (fl 4)) (nI (fl 5)) st = b_X12_options_236 fu K 153 (nI c) (nI (if 0 = o then 1 else fl 0)) (nI (if 1 = o then 1 else fl 1)) (nI (if 2 = o then 1 else fl 2)) (nI (if 3 = o then 1 else fl 3)) (nI (if 4 = o then 1 else fl 4)) (nI (if 5 = o then 1 else fl 5)) (nI (pl b n t)) (nI (fl o)) s := by
  obtain ⟨g5, g4, g6, g7, g8, g9, g10, g11, g12⟩ := h.rd
  have so1 : so b n t = 1 := (fW_t b n t 6 2 (by omega)).1
  rw [so1] at g6
  have fk := fW_6 (b := b) (n := n) (t := t) 2
  rw [← ho] at fk
  -- a number that is kept
  have num : ∀ (a' : St) (lo j : Nat), lo ≤ 1 → 1 ≤ j → j ≤ 4 → o ≠ 4 → Fr W5 st a' → Top a' → RS b n T (t + 1) a' → pOpt b n c a o D (t + 1) = (pb (pNum b n lo 9999 (t + 1)) fun v t1 => .inl (st1 D j c v, t1)) → ∃ x b1, f_X12_number fu 153 (nI lo) (nI 9999) a' = some (nI x, b1) ∧ Fr Wp st (sI b1 (171 + j) c (nI x)) ∧ Top (sI b1 (171 + j) c (nI x)) ∧ RO b n T (T - t - 1) (pOpt b n c a o D (t + 1)) (fun D1 => RU (c + 1) D1 (sI b1 (171 + j) c (nI x)) ∧ (o = 4 → D1 6 c = a) ∧ (o ≠ 4 → D1 6 c = D 6 c)) (sI b1 (171 + j) c (nI x)) := fun a' lo j hlo j1 j4 o4 fr' hT' d' ep => by
    obtain ⟨x, b1, q1, q2, q3, q4, co⟩ := num_p hT' d' fu (lo := lo) (hi := 9999) (by omega) (by omega)
    refine ⟨x, b1, q1, (Wp_5 (fr'.tt q3)).tt (Wp_i (by omega) _ _ _), q4.r rfl, ?_⟩
    rw [ep]
    cases hp : pNum b n lo 9999 (t + 1) with
    | inr e' => rw [hp] at co; exact DM.same (DM.mono co (by omega)) (rf_i (by omega) _ _ _)
    | inl y =>
      rw [hp] at co
      obtain ⟨d5, hx⟩ := co
      subst hx
      exact ⟨RfA.same d5 (rf_i (by omega) _ _ _), (hU.fr (W6_5 (fr'.tt q3))).set j c _ (by omega), fun e => absurd e o4, fun _ => st1_n _ _ (by omega)⟩
  obtain ⟨a0, e0, fr0, hT0, d0⟩ := takeW_p hT h hf (w := 2) (by omega) (by omega)
  cases w0 : wB b n t 2
  · rw [w0] at e0 d0 fk
    simp only [Bool.toNat_false, Bool.false_eq_true, if_false] at e0 d0 fk
    obtain ⟨a1, e1, fr1, hT1, d1⟩ := takeW_p hT0 d0 hf (w := 3) (by omega) (by omega)
    have fr1' := fr0.tt fr1
    cases w1 : wB b n t 3
    · rw [w1] at e1 d1 fk
      simp only [Bool.toNat_false, Bool.false_eq_true, if_false] at e1 d1 fk
      obtain ⟨a2, e2, fr2, hT2, d2⟩ := takeW_p hT1 d1 hf (w := 4) (by omega) (by omega)
      have fr2' := fr1'.tt fr2
      cases w2 : wB b n t 4
      · rw [w2] at e2 d2 fk
        simp only [Bool.toNat_false, Bool.false_eq_true, if_false] at e2 d2 fk
        obtain ⟨a3, e3, fr3, hT3, d3⟩ := takeW_p hT2 d2 hf (w := 5) (by omega) (by omega)
        have fr3' := fr2'.tt fr3
        cases w3 : wB b n t 5
        · rw [w3] at e3 d3 fk
          simp only [Bool.toNat_false, Bool.false_eq_true, if_false] at e3 d3 fk
          obtain ⟨a4, e4, fr4, hT4, d4⟩ := takeW_p hT3 d3 hf (w := 6) (by omega) (by omega)
          have fr4' := fr3'.tt fr4
          cases w4 : wB b n t 6
          · rw [w4] at e4 d4 fk
            simp only [Bool.toNat_false, Bool.false_eq_true, if_false] at e4 d4 fk
            obtain ⟨a5, e5, fr5, hT5, d5⟩ := takeW_p hT4 d4 hf (w := 7) (by omega) (by omega)
            have fr5' := fr4'.tt fr5
            cases w5 : wB b n t 7
            · rw [w5] at fk
              simp only [Bool.false_eq_true, if_false] at fk
              omega
            · rw [w5] at e5 d5 fk
              simp only [Bool.toNat_true, if_true] at e5 d5 fk
              subst fk
              obtain ⟨x, b1, q1, q2, q3, q4, co, -⟩ := name_p hT5 d5 fu
              refine ⟨sI b1 (171 + 5) c (nI x), (Wp_5 fr5').tt ((Wp_6 q3).tt (Wp_i (by omega) _ _ _)), q4.r rfl, ?_, ?_⟩
              · show RO b n T (T - t - 1) (pb (pName b n (t + 1)) fun v t1 => .inl (st1 D 5 c v, t1)) _ _
                cases hp : pName b n (t + 1) with
                | inr e' => rw [hp] at co; exact DM.same (DM.mono co (by omega)) (rf_i (by omega) _ _ _)
                | inl y =>
                  rw [hp] at co
                  obtain ⟨d6, hx, -⟩ := co
                  subst hx
                  exact ⟨RfA.same d6 (rf_i (by omega) _ _ _), (hU.fr ((W6_5 fr5').tt q3)).set 5 c _ (by omega), fun e => absurd e (by decide), fun _ => by show st1 D 5 c y.1 6 c = D 6 c; exact st1_n _ _ (by omega)⟩
              · clear h d0 d1 d2 d3 d4 d5 num hU co ho
                simp (disch := first | decide | omega) [isb, ck_tt, NP, NF, NC, NB, NS, GS, kdR, tpR hT, b_X12_options_16_b, g5, g6, g7, g9, e0, e1, e2, e3, e4, e5,q1, tpR hT5]
          · rw [w4] at e4 d4 fk
            simp only [Bool.toNat_true, if_true] at e4 d4 fk
            subst fk
            refine ⟨a4, Wp_5 fr4', hT4, ⟨d4, (hU.fr (W6_5 fr4')).c (fun k x hk hx => st1_n _ _ (by omega)), fun _ => st1_e _ _ _ _, fun e => absurd rfl e⟩, ?_⟩
            clear h d0 d1 d2 d3 d4 num hU ho
            simp (disch := first | decide | omega) [isb, ck_tt, NP, NF, NC, NB, NS, GS, kdR, tpR hT, b_X12_options_16_b, g5, g6, g7, g9, e0, e1, e2, e3, e4]
        · rw [w3] at e3 d3 fk
          simp only [Bool.toNat_true, if_true] at e3 d3 fk
          subst fk
          obtain ⟨x, b1, q1, q2, q3, q4⟩ := num a3 1 4 (by omega) (by omega) (by omega) (by omega) fr3' hT3 d3 rfl
          refine ⟨_, q2, q3, q4, ?_⟩
          clear h d0 d1 d2 d3 num hU q4 ho
          simp (disch := first | decide | omega) [isb, ck_tt, NP, NF, NC, NB, NS, GS, kdR, tpR hT, b_X12_options_16_b, g5, g6, g7, g9, e0, e1, e2, e3,q1, tpR hT3]
      · rw [w2] at e2 d2 fk
        simp only [Bool.toNat_true, if_true] at e2 d2 fk
        subst fk
        obtain ⟨x, b1, q1, q2, q3, q4⟩ := num a2 0 3 (by omega) (by omega) (by omega) (by omega) fr2' hT2 d2 rfl
        refine ⟨_, q2, q3, q4, ?_⟩
        clear h d0 d1 d2 num hU q4 ho
        simp (disch := first | decide | omega) [isb, ck_tt, NP, NF, NC, NB, NS, GS, kdR, tpR hT, b_X12_options_16_b, g5, g6, g7, g9, e0, e1, e2,q1, tpR hT2]
    · rw [w1] at e1 d1 fk
      simp only [Bool.toNat_true, if_true] at e1 d1 fk
      subst fk
      obtain ⟨x, b1, q1, q2, q3, q4⟩ := num a1 0 2 (by omega) (by omega) (by omega) (by omega) fr1' hT1 d1 rfl
      refine ⟨_, q2, q3, q4, ?_⟩
      clear h d0 d1 num hU q4 ho
      simp (disch := first | decide | omega) [isb, ck_tt, NP, NF, NC, NB, NS, GS, kdR, tpR hT, b_X12_options_16_b, g5, g6, g7, g9, e0, e1,q1, tpR hT1]
  · rw [w0] at e0 d0 fk
    simp only [Bool.toNat_true, if_true] at e0 d0 fk
    subst fk
    obtain ⟨x, b1, q1, q2, q3, q4⟩ := num a0 0 1 (by omega) (by omega) (by omega) (by omega) fr0 hT0 d0 rfl
    refine ⟨_, q2, q3, q4, ?_⟩
    clear h d0 num hU q4 ho
    simp (disch := first | decide | omega) [isb, ck_tt, NP, NF, NC, NB, NS, GS, kdR, tpR hT, b_X12_options_16_b, g5, g6, g7, g9, e0,q1, tpR hT0]
