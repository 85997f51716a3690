/-! PURE: the class's layers, from those who are left -/
theorem lay_st {G : NW} (ok : G.ok) {L : Nat → List Nat} (hL : LKs G L) {g l : Nat → Nat} {fu : Nat} (hf : 1000 ≤ fu) {T : Nat} (hT5 : T ≤ 50) (hz : ∀ a, a < 1632 → ¬ kV G T a → g a = 0) (hl6 : ∀ v, v < 11 → l v ≤ 60) : ∀ F (la : Nat → Option Nat) (Q : Nat → Nat) (t v : Nat) (st : St), v ≤ 11 → 11 - v < F → Top st → CD G L g st → (∀ w, w < 11 → gI st 145 w = nI (l w)) → eLC la Q t st → eB (aN G L T g) (aA L) l T la Q t → (∀ w, w < v → 0 < l w → la (51 * w) = some 0) → (∀ s, la s ≠ none → ∃ w, w < v ∧ s = 51 * w) → ∃ la' fo' u, Top u ∧ CD G L g u ∧ (∀ s, s < 612 → gI u 148 s = oE (la' s)) ∧ eLY (aN G L T g) (aA L) l la' ∧ (∀ s, s < 612 → la' s ≠ none → s % 51 ≤ T) ∧ fo' ≤ 1 ∧ (fo' = 1 ↔ ∃ s, 561 ≤ s ∧ s < 612 ∧ la' s ≠ none) ∧ Fr W_ly st u ∧ b_X10_layer_15 fu F 139 (nI T) (nI 0) (nI t) (nI v) st = some (nI fo', u) := by
  intro F
  induction F with
  | zero => intro la Q t v st _ h2; omega
  | succ F ih =>
    intro la Q t v st h1 h2 hT hC hl hW hB h3 h4
    have t6 := hB.le
    by_cases e : v = 11
    · obtain ⟨la2, Q2, t2, fo2, u2, d1, d2, d3, d4, d5, d6, d7, d8, d9, d10⟩ := lay_out (l := l) ok hL hf hT5 hz fu la Q t 0 0 st (Nat.zero_le _) (by omega) hT hC hW hB (fun i j x c => by omega) (Nat.zero_le _) ⟨fun c => by omega, fun ⟨i, c, _⟩ => by omega⟩
      have r6 : ∀ s k, s < 612 → la2 s = some k → k ≤ 611 := fun s k hs hk => by
        obtain ⟨i, i1, i2⟩ := d4.2.2.1 s hs (by rw [hk]; exact fun c => by cases c)
        obtain ⟨-, -, k2, i3, i4⟩ := d4.1 i i1
        have := d4.le
        rw [i2, hk] at i4
        cases i4
        omega
      refine ⟨la2, fo2, u2, d1, d2, d3.1, ⟨fun w hw hp => ?_, d4.2.2.2.1, d4.2.2.2.2, fun s j s' a1 a2 a3 a4 => ?_, r6⟩, fun s hs hn => ?_, d7, ?_, d9, ?_⟩
      · have := h3 w (by omega) hp
        rw [d5 _ (by rw [this]; exact fun c => by cases c)]; exact this
      · obtain ⟨i, i1, i2⟩ := d4.2.2.1 s (by omega) a2
        subst i2
        exact d6 i j s' i1 a1 a3 a4
      · obtain ⟨i, i1, i2⟩ := d4.2.2.1 s hs hn
        rw [← i2]; exact (d4.1 i i1).2.1
      · rw [d8]
        exact ⟨fun ⟨i, i1, i2⟩ => ⟨Q2 i, i2, (d4.1 i i1).1, by obtain ⟨-, -, k2, -, i4⟩ := d4.1 i i1; rw [i4]; exact fun c => by cases c⟩, fun ⟨s, s1, s2, s3⟩ => by
          obtain ⟨i, i1, i2⟩ := d4.2.2.1 s s2 s3
          exact ⟨i, i1, by rw [i2]; exact s1⟩⟩
      · show b_X10_layer_15_b fu (b_X10_layer_15 fu F) 139 (nI T) (nI 0) (nI t) (nI v) st = _
        rw [e, ← d10]
        simp (disch := first | decide | omega) [↓bd_e, isb, ck_tt, NP, NF, NC, NB, NS, GS, kdC, tpC hT, b_X10_layer_15_b]
    · have v11 : v < 11 := by omega
      have l5 := hl v v11
      have l6 := hl6 v v11
      rcases Nat.eq_zero_or_pos (l v) with z | z
      · rw [z] at l5
        have e2 : b_X10_layer_15 fu (F + 1) 139 (nI T) (nI 0) (nI t) (nI v) st = b_X10_layer_15 fu F 139 (nI T) (nI 0) (nI t) (nI (v + 1)) st := by
          show b_X10_layer_15_b fu (b_X10_layer_15 fu F) 139 (nI T) (nI 0) (nI t) (nI v) st = _
          simp (disch := first | decide | omega) [↓bd_e, isb, ck_tt, NP, NF, NC, NB, NS, GS, kdC, tpC hT, b_X10_layer_15_b, b_X10_layer_57, l5]
        rw [e2]
        exact ih la Q t (v + 1) st (by omega) (by omega) hT hC hl hW hB (fun w hw hp => by
          by_cases q : w = v
          · subst q; omega
          · exact h3 w (by omega) hp) (fun s hs => by
          obtain ⟨w, w1, w2⟩ := h4 s hs
          exact ⟨w, by omega, w2⟩)
      · have nn : la (51 * v) = none := by
          cases q : la (51 * v) with
          | none => rfl
          | some k =>
            obtain ⟨w, w1, w2⟩ := h4 (51 * v) (by rw [q]; exact fun c => by cases c)
            omega
        have t7 := hB.lt (x := 51 * v) (by omega) nn
        have hB1 := hB.add (x := 51 * v) (by omega) nn (by omega) (k := 0) (Nat.zero_le _) (Or.inl ⟨rfl, v, v11, rfl, z⟩)
        obtain ⟨u1, hu1⟩ : ∃ u1, u1 = sI (sI st 148 (51 * v) (nI 0)) 150 t (nI (51 * v)) := ⟨_, rfl⟩
        have fr1 : Fr W_ly st u1 := by rw [hu1]; exact ((Fr.ia st 148 _ _).tr (Fr.ia _ 150 _ _)).wd (by decide)
        have hT1 : Top u1 := hT.r (by rw [hu1]; rfl)
        have W1 : eLC (updO la (51 * v) (some 0)) (updN Q t (51 * v)) (t + 1) u1 := by
          refine ⟨fun z hz => ?_, fun i hi => ?_⟩
          · rw [hu1, gI_sI_n _ _ _ (by decide), gI_sI]
            by_cases q : z = 51 * v
            · rw [if_pos ⟨rfl, q⟩, q, updO_s]; rfl
            · rw [if_neg fun c => q c.2, updO_n _ _ q]; exact hW.1 z hz
          · rw [hu1, gI_sI]
            by_cases q : i = t
            · rw [if_pos ⟨rfl, q⟩, q, updN_s]
            · rw [if_neg fun c => q c.2, updN_n _ _ q, gI_sI_n _ _ _ (by decide)]; exact hW.2 i (by omega)
        have e2 : b_X10_layer_15 fu (F + 1) 139 (nI T) (nI 0) (nI t) (nI v) st = b_X10_layer_15 fu F 139 (nI T) (nI 0) (nI (t + 1)) (nI (v + 1)) u1 := by
          show b_X10_layer_15_b fu (b_X10_layer_15 fu F) 139 (nI T) (nI 0) (nI t) (nI v) st = _
          rw [hu1, Nat.mul_comm 51 v]
          simp (disch := first | decide | omega) [↓bd_e, isb, ck_tt, NP, NF, NC, NB, NS, GS, kdC, tpC hT, b_X10_layer_15_b, b_X10_layer_57, l5]
        rw [e2]
        obtain ⟨la', fo', u, b1, b2, b3, b4, b5, b6, b7, b8, b9⟩ := ih _ _ (t + 1) (v + 1) u1 (by omega) (by omega) hT1 (hC.fl fr1) (fun w hw => by rw [fr1.fi 145 (by decide)]; exact hl w hw) W1 hB1 (fun w hw hp => by
          by_cases q : w = v
          · rw [q, updO_s]
          · rw [updO_n _ _ (by omega)]; exact h3 w (by omega) hp) (fun s hs => by
          by_cases q : s = 51 * v
          · exact ⟨v, by omega, q⟩
          · rw [updO_n _ _ q] at hs
            obtain ⟨w, w1, w2⟩ := h4 s hs
            exact ⟨w, by omega, w2⟩)
        exact ⟨la', fo', u, b1, b2, b3, b4, b5, b6, b7, (fr1.tr b8).wd (by decide), b9⟩
theorem layer_c {G : NW} (ok : G.ok) {L : Nat → List Nat} (hL : LKs G L) {g l : Nat → Nat} {fu : Nat} (hf : 1000 ≤ fu) {T : Nat} (hT5 : T ≤ 50) (hz : ∀ a, a < 1632 → ¬ kV G T a → g a = 0) (hl6 : ∀ v, v < 11 → l v ≤ 60) {st : St} (hT : Top st) (hC : CD G L g st) (hl : ∀ w, w < 11 → gI st 145 w = nI (l w)) : ∃ la' fo' u, Top u ∧ CD G L g u ∧ (∀ s, s < 612 → gI u 148 s = oE (la' s)) ∧ eLY (aN G L T g) (aA L) l la' ∧ (∀ s, s < 612 → la' s ≠ none → s % 51 ≤ T) ∧ fo' ≤ 1 ∧ (fo' = 1 ↔ ∃ s, 561 ≤ s ∧ s < 612 ∧ la' s ≠ none) ∧ Fr W_ly st u ∧ f_X10_layer fu 139 (nI T) st = some (nI fo', u) := by
  obtain ⟨u0, f1, f2, f3, f4⟩ := fill_c (o := 148) (N := 612) (by decide) (by omega) fu (by omega) (-1) st
  have fr0 : Fr W_ly st u0 := f2.wd (by decide)
  have hT0 : Top u0 := hT.r f3
  have W0 : eLC (fun _ => none) (fun _ => 0) 0 u0 := ⟨fun s hs => by rw [f4]; show (if s < 612 then (-1 : Int32) else _) = _; rw [if_pos hs]; rfl, fun i hi => by omega⟩
  have hB0 : eB (aN G L T g) (aA L) l T (fun _ => none) (fun _ => 0) 0 := ⟨fun i hi => by omega, fun i j _ hj => by omega, fun s _ c => absurd rfl c, fun s _ c => (by cases c), fun s k _ c => (by cases c)⟩
  obtain ⟨la', fo', u, b1, b2, b3, b4, b5, b6, b7, b8, b9⟩ := lay_st ok hL hf hT5 hz hl6 fu (fun _ => none) (fun _ => 0) 0 0 u0 (by omega) (by omega) hT0 (hC.fl fr0) (fun w hw => by rw [fr0.fi 145 (by decide)]; exact hl w hw) W0 hB0 (fun w hw => by omega) (fun s c => absurd rfl c)
  refine ⟨la', fo', u, b1, b2, b3, b4, b5, b6, b7, (fr0.tr b8).wd (by decide), ?_⟩
  rw [← b9]
  unfold f_X10_layer
  rw [tp_139_8 hT, ck_t (by decide), ck_t (by decide), bd_e, cvO f1]
  rfl
