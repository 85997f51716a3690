/-! PURE: the class's layers, all of them -/
theorem lay_out {G : NW} (ok : G.ok) {L : Nat → List Nat} (hL : LKs G L) {g l : Nat → Nat} {fu : Nat} (hf : 1000 ≤ fu) {T : Nat} (hT5 : T ≤ 50) (hz : ∀ a, a < 1632 → ¬ kV G T a → g a = 0) : ∀ F (la : Nat → Option Nat) (Q : Nat → Nat) (t h fo : Nat) (st : St), h ≤ t → 612 - h < F → Top st → CD G L g st → eLC la Q t st → eB (aN G L T g) (aA L) l T la Q t → (∀ i j x, i < h → Q i < 561 → j < aA L (Q i) → aN G L T g (Q i) j = some x → la x ≠ none) → fo ≤ 1 → (fo = 1 ↔ ∃ i, i < h ∧ 561 ≤ Q i) → ∃ la' Q' t' fo' u, Top u ∧ CD G L g u ∧ eLC la' Q' t' u ∧ eB (aN G L T g) (aA L) l T la' Q' t' ∧ (∀ y, la y ≠ none → la' y = la y) ∧ (∀ i j x, i < t' → Q' i < 561 → j < aA L (Q' i) → aN G L T g (Q' i) j = some x → la' x ≠ none) ∧ fo' ≤ 1 ∧ (fo' = 1 ↔ ∃ i, i < t' ∧ 561 ≤ Q' i) ∧ Fr W_ly st u ∧ b_X10_layer_66 fu F 139 (nI T) (nI fo) (nI t) (nI h) st = some (nI fo', u) := by
  intro F
  induction F with
  | zero => intro la Q t h fo st _ h2; omega
  | succ F ih =>
    intro la Q t h fo st h1 h2 hT hC hW hB hP hf1 hfo
    have t6 := hB.le
    by_cases e : h = t
    · refine ⟨la, Q, t, fo, st, hT, hC, hW, hB, fun _ _ => rfl, fun i j x a => hP i j x (by omega), hf1, by rw [← e]; exact hfo, Fr.rf, ?_⟩
      show b_X10_layer_66_b fu (b_X10_layer_66 fu F) 139 (nI T) (nI fo) (nI t) (nI h) st = _
      have b01 : fo = 0 ∨ fo = 1 := by omega
      rw [e]
      rcases b01 with q | q <;> subst q <;> simp (disch := first | decide | omega) [↓bd_e, isb, ck_tt, NP, NF, NC, NB, NS, GS, kdC, tpC hT, b_X10_layer_66_b]
    · obtain ⟨q1, q2, k, q3, q4⟩ := hB.1 h (by omega)
      have q0 := hW.2 h (by omega)
      rcases Nat.lt_or_ge (Q h) 561 with hq | hq
      · have e1 : b_X10_layer_66 fu (F + 1) 139 (nI T) (nI fo) (nI t) (nI h) st = b_X10_layer_113 fu (b_X10_layer_66 fu F) fu 139 (nI T) (nI fo) (nI t) (nI h) (nI (Q h)) (nI (aA L (Q h))) (nI 0) st := by
          show b_X10_layer_66_b fu (b_X10_layer_66 fu F) 139 (nI T) (nI fo) (nI t) (nI h) st = _
          have c31 := (hC.2.2.1 (Q h / 51) (by omega)).1
          have l2 : (L (Q h / 51)).length + 2 = aA L (Q h) := rfl
          unfold b_X10_layer_66_b
          rw [if_neg (show ¬ nI t ≤ nI h from fun c => absurd ((nI_leI (a := t) (b := h) (by omega) (by omega)).mp c) (by omega)), tp_139_10 hT, ck_t (by decide), ck_t (by decide), bd_e, show ix (nI h) = h from ix_nI (by omega), q0, bd_e, ck_t ⟨by decide, by simp (disch := first | decide | omega) [NF, NC, NB, kdC]⟩, ck_t (by decide), if_neg (show ¬ nI (Q h) / 51 = 11 from by rw [show nI (Q h) / 51 = nI (Q h / 51) from NF.2.2.2.2 _ 51 ⟨by omega, by omega, by omega⟩]; exact fun c => absurd ((nI_eq (a := Q h / 51) (b := 11) (by omega) (by omega)).mp c) (by omega))]
          rw [tp_139_11 hT, ck_t (show ¬ (151 : Nat) = 0 by decide), ck_t (show (kd 139).1 = 10 by decide), bd_e, ck_t (by decide)]
          simp (disch := first | decide | omega) [↓bd_e, isb, ck_tt, NP, NF, NC, NB, NS, GS, kdC, tpC hT, c31, l2]
        have a22 : aA L (Q h) ≤ 22 := by
          unfold aA
          have := (hL (Q h / 51) (by omega)).1
          omega
        obtain ⟨la', Q', t', u, b1, b2, b3, b4, b5, b6, b7, b8, b9, b10⟩ := lay_in (l := l) ok hL fu hT5 hz (b_X10_layer_66 fu F) (nI fo) hq q3 fu 0 la Q t st (Nat.zero_le _) (by omega) hT hC hW hB (by omega) rfl q4
        rw [e1, b10]
        obtain ⟨la2, Q2, t2, fo2, u2, d1, d2, d3, d4, d5, d6, d7, d8, d9, d10⟩ := ih la' Q' t' (h + 1) fo u (by omega) (by omega) b1 b2 b3 b4 (fun i j x c1 c2 c3 c4 => by
          have c1' : i < t := by omega
          rw [b6 i c1'] at c2 c3 c4
          by_cases ei : i = h
          · subst ei; exact b8 j x (Nat.zero_le _) c3 c4
          · have := hP i j x (by omega) c2 c3 c4
            rw [b7 x this]; exact this) hf1 ⟨fun c => by
              obtain ⟨i, i1, i2⟩ := hfo.mp c
              exact ⟨i, by omega, by rw [b6 i (by omega)]; exact i2⟩, fun ⟨i, i1, i2⟩ => by
              rw [b6 i (by omega)] at i2
              by_cases ei : i = h
              · rw [ei] at i2; omega
              · exact hfo.mpr ⟨i, by omega, i2⟩⟩
        refine ⟨la2, Q2, t2, fo2, u2, d1, d2, d3, d4, fun y hy => ?_, d6, d7, d8, (b9.tr d9).wd (by decide), d10⟩
        have := b7 y hy
        rw [d5 y (by rw [this]; exact hy), this]
      · have e11 : Q h / 51 = 11 := by omega
        have e1 : b_X10_layer_66 fu (F + 1) 139 (nI T) (nI fo) (nI t) (nI h) st = b_X10_layer_66 fu F 139 (nI T) (nI 1) (nI t) (nI (h + 1)) st := by
          show b_X10_layer_66_b fu (b_X10_layer_66 fu F) 139 (nI T) (nI fo) (nI t) (nI h) st = _
          unfold b_X10_layer_66_b
          rw [if_neg (show ¬ nI t ≤ nI h from fun c => absurd ((nI_leI (a := t) (b := h) (by omega) (by omega)).mp c) (by omega)), tp_139_10 hT, ck_t (by decide), ck_t (by decide), bd_e, show ix (nI h) = h from ix_nI (by omega), q0, bd_e, ck_t ⟨by decide, by simp (disch := first | decide | omega) [NF, NC, NB, kdC]⟩, ck_t (by decide), if_pos (show nI (Q h) / 51 = 11 from by rw [show nI (Q h) / 51 = nI (Q h / 51) from NF.2.2.2.2 _ 51 ⟨by omega, by omega, by omega⟩, e11]; rfl)]
          simp (disch := first | decide | omega) [↓bd_e, isb, ck_tt, NP, NF, NC, NB, NS, GS, kdC, tpC hT, b_X10_layer_186]
        rw [e1]
        exact ih la Q t (h + 1) 1 st (by omega) (by omega) hT hC hW hB (fun i j x c1 c2 c3 c4 => by
          by_cases ei : i = h
          · rw [ei] at c2; omega
          · exact hP i j x (by omega) c2 c3 c4) (Nat.le_refl _) ⟨fun _ => ⟨h, by omega, hq⟩, fun _ => rfl⟩
