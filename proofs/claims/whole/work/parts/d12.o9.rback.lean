/-! PURE: the reference sends along the way back -/
theorem fl_lt {N e : Nat} (h : e < 2 * N) : fl e < 2 * N ∧ fl e ≠ e := by
  unfold fl
  by_cases q : e % 2 = 0
  · rw [if_pos q]; omega
  · rw [if_neg q]; omega
set_option maxRecDepth 100000 in
theorem back_l {G : NW} {X : Nat → Prop} {N : Nat} {kap : Nat → Nat} {adj : Nat → List Nat} {g l : Nat → Nat} (fu : Nat) (hN : N ≤ 1632) (hD : ∀ e, e < 2 * N → rD G kap e < 612 ∧ rR G kap g e ≤ 6000) {st : St} (hT : Top st) (hR : RE G X N kap adj g st) {C : Nat → Option (Option Nat)} {Q : Nat → Nat} {b : Nat} (hB : rB (2 * N) (rS G kap) (rD G kap) (rR G kap g) l C Q b) (hS : SS C Q b st) {m : Nat} {P E : Nat → Nat} (hP : rP (2 * N) (rS G kap) (rD G kap) (rR G kap g) C Q b m P E) {v : Nat} (hv : v < 11) (h0 : Q (P m) = 51 * v) (hl : gI st 261 v = nI (l v)) (hl0 : 0 < l v) (hl6 : l v ≤ 60) (goal : Nat) : ∀ F j y, j ≤ m → m - j < F → 0 < y → y ≤ 6000 → ∃ z, 0 < z ∧ z ≤ y ∧ z ≤ l v ∧ (∀ k, j ≤ k → k < m → z ≤ rR G kap g (E k)) ∧ b_X12_out2_223 fu F 153 (nI goal) (nI y) (nI (Q (P j))) st = b_X12_out2_319 fu 153 (nI goal) (nI (51 * v)) (nI z) st := by
  intro F
  induction F with
  | zero => intro j y h1 h2; omega
  | succ F ih =>
    intro j y h1 h2 h3 h4
    have q6 := (hB.1 _ (hP.1 j h1)).1
    have c9 := hS.1 _ q6
    by_cases e : j = m
    · rw [e, h0] at c9
      rw [e, h0]
      have hc := hP.2.2
      rw [h0] at hc
      rw [hc] at c9
      have c9 : gI st 259 (51 * v) = -nI 1 := c9
      have dv : 51 * v / 51 = v := by omega
      by_cases q : y ≤ l v
      · refine ⟨y, h3, Nat.le_refl _, q, fun k a b => by omega, ?_⟩
        show b_X12_out2_223_b fu (b_X12_out2_223 fu F) 153 (nI goal) (nI y) (nI (51 * v)) st = _
        simp (disch := first | decide | omega) [↓bd_e, isb, ck_tt, NP, NF, NC, NB, NS, GS, kdR, tpR hT, b_X12_out2_223_b, c9, dv, hl]
      · refine ⟨l v, hl0, by omega, Nat.le_refl _, fun k a b => by omega, ?_⟩
        show b_X12_out2_223_b fu (b_X12_out2_223 fu F) 153 (nI goal) (nI y) (nI (51 * v)) st = _
        simp (disch := first | decide | omega) [↓bd_e, isb, ck_tt, NP, NF, NC, NB, NS, GS, kdR, tpR hT, b_X12_out2_223_b, c9, dv, hl]
    · obtain ⟨p1, p2, p3, p4, p5, p6⟩ := hP.2.1 j (by omega)
      rw [p2] at c9
      have c9 : gI st 259 (Q (P j)) = nI (E j) := c9
      obtain ⟨e7, e8⟩ := hR.2.2.1 _ p5
      obtain ⟨f1, f2⟩ := fl_lt p5
      have f7 := (hR.2.2.1 _ f1).1
      rw [fl_S, p3] at f7
      have r6 := (hD _ p5).2
      have xr := fl_d (E j) (by omega)
      have eN : E j < 3264 := by omega
      have fN : fl (E j) < 3264 := by omega
      obtain ⟨y', hy'⟩ : ∃ y', y' = (if y ≤ rR G kap g (E j) then y else rR G kap g (E j)) := ⟨_, rfl⟩
      have hy1 : 0 < y' ∧ y' ≤ y ∧ y' ≤ rR G kap g (E j) := by
        rw [hy']
        by_cases q : y ≤ rR G kap g (E j)
        · rw [if_pos q]; exact ⟨h3, Nat.le_refl _, q⟩
        · rw [if_neg q]; exact ⟨p6, by omega, Nat.le_refl _⟩
      obtain ⟨z, a1, a2, a3, a4, a5⟩ := ih (j + 1) y' (by omega) (by omega) hy1.1 (by omega)
      refine ⟨z, a1, by omega, a3, fun k b1 b2 => ?_, ?_⟩
      · by_cases q : k = j
        · rw [q]; omega
        · exact a4 k (by omega) b2
      · rw [← a5]
        show b_X12_out2_223_b fu (b_X12_out2_223 fu F) 153 (nI goal) (nI y) (nI (Q (P j))) st = _
        rw [hy']
        obtain ⟨s, hs⟩ : ∃ s, s = Q (P j) := ⟨_, rfl⟩
        obtain ⟨s', hs'⟩ : ∃ s', s' = Q (P (j + 1)) := ⟨_, rfl⟩
        obtain ⟨r, hr⟩ : ∃ r, r = rR G kap g (E j) := ⟨_, rfl⟩
        obtain ⟨x, hx⟩ : ∃ x, x = E j := ⟨_, rfl⟩
        obtain ⟨w, hw⟩ : ∃ w, w = fl (E j) := ⟨_, rfl⟩
        rw [← hr] at e8 r6
        rw [← hw] at xr f7 fN
        rw [← hx] at e8 c9 xr eN
        rw [← hs] at c9 q6
        rw [← hs'] at f7
        rw [← hs, ← hs', ← hr]
        by_cases q : y ≤ r
        · rw [if_pos q]
          simp (disch := first | decide | omega) [↓bd_e, isb, ck_tt, NP, NF, NC, NB, NS, GS, kdR, tpR hT, b_X12_out2_223_b, b_X12_out2_268, c9, e8, xr, f7]
        · rw [if_neg q]
          simp (disch := first | decide | omega) [↓bd_e, isb, ck_tt, NP, NF, NC, NB, NS, GS, kdR, tpR hT, b_X12_out2_223_b, b_X12_out2_268, c9, e8, xr, f7]
theorem RE.pu {G : NW} {X : Nat → Prop} {N : Nat} {kap : Nat → Nat} {adj : Nat → List Nat} {g g' : Nat → Nat} {st : St} (h : RE G X N kap adj g st) {e z : Nat} (he : e < 2 * N) (hz : z ≤ rR G kap g e) (hg1 : g' (kap (e / 2)) = if e % 2 = 0 then g (kap (e / 2)) + z else g (kap (e / 2)) - z) (hg2 : ∀ a, a ≠ kap (e / 2) → g' a = g a) : RE G X N kap adj g' (sI (sI st 258 e (nI (rR G kap g e - z))) 258 (fl e) (nI (rR G kap g (fl e) + z))) := by
  obtain ⟨h1, h2, h3, h4, h5, h6, h7⟩ := h
  obtain ⟨f1, f2⟩ := fl_lt he
  have inj : ∀ i j, i < N → j < N → kap i = kap j → i = j := fun i j hi hj q => by
    rcases Nat.lt_trichotomy i j with c | c | c
    · exact absurd q (h2.2.1 i j c hj)
    · exact c
    · exact absurd q.symm (h2.2.1 j i c hi)
  obtain ⟨u, hu⟩ : ∃ u, u = sI (sI st 258 e (nI (rR G kap g e - z))) 258 (fl e) (nI (rR G kap g (fl e) + z)) := ⟨_, rfl⟩
  have f : Fr [(258, none)] st u := by rw [hu]; exact (Fr.ia st 258 _ _).tt (Fr.ia _ 258 _ _)
  have r8 : ∀ e', gI u 258 e' = if e' = fl e then nI (rR G kap g (fl e) + z) else if e' = e then nI (rR G kap g e - z) else gI st 258 e' := fun e' => by
    rw [hu, gI_sI, gI_sI]
    by_cases q1 : e' = fl e
    · rw [if_pos ⟨rfl, q1⟩, if_pos q1]
    · rw [if_neg fun c => q1 c.2, if_neg q1]
      by_cases q2 : e' = e
      · rw [if_pos ⟨rfl, q2⟩, if_pos q2]
      · rw [if_neg fun c => q2 c.2, if_neg q2]
  rw [← hu]
  refine ⟨by rw [f.ki 153 123 (by decide)]; exact h1, h2, fun e' he' => ⟨by rw [f.fi 257 (by decide)]; exact (h3 e' he').1, ?_⟩, fun s hs => by rw [f.fi 256 (by decide), f.fi 255 (by decide)]; exact h4 s hs, h5, h6, fun j hj => ?_⟩
  · rw [r8]
    have g7 := h7 (e / 2) (by omega)
    by_cases q1 : e' = fl e
    · rw [if_pos q1, q1]
      congr 1
      unfold rR at hz ⊢
      by_cases q : e % 2 = 0
      · have ef : fl e = e + 1 := by unfold fl; rw [if_pos q]
        rw [if_pos q] at hz hg1
        rw [ef, if_neg (show ¬ (e + 1) % 2 = 0 by omega), if_neg (show ¬ (e + 1) % 2 = 0 by omega), show (e + 1) / 2 = e / 2 by omega, hg1]
      · have ef : fl e = e - 1 := by unfold fl; rw [if_neg q]
        rw [if_neg q] at hz hg1
        rw [ef, if_pos (show (e - 1) % 2 = 0 by omega), if_pos (show (e - 1) % 2 = 0 by omega), show (e - 1) / 2 = e / 2 by omega, hg1]
        omega
    · rw [if_neg q1]
      by_cases q2 : e' = e
      · rw [if_pos q2, q2]
        congr 1
        unfold rR at hz ⊢
        by_cases q : e % 2 = 0
        · rw [if_pos q] at hz hg1
          rw [if_pos q, if_pos q, hg1]
          omega
        · rw [if_neg q] at hz hg1
          rw [if_neg q, if_neg q, hg1]
      · rw [if_neg q2, (h3 e' he').2]
        congr 1
        have nk : kap (e' / 2) ≠ kap (e / 2) := fun c => by
          have := inj _ _ (by omega) (by omega) c
          unfold fl at q1
          by_cases q : e % 2 = 0
          · rw [if_pos q] at q1; omega
          · rw [if_neg q] at q1; omega
        unfold rR
        rw [hg2 _ nk]
  · have hj7 := h7 j hj
    by_cases q : kap j = kap (e / 2)
    · rw [q] at hj7 ⊢
      rw [hg1]
      unfold rR at hz
      by_cases q : e % 2 = 0
      · rw [if_pos q] at hz ⊢; omega
      · rw [if_neg q]; omega
    · rw [hg2 _ q]; exact hj7
set_option maxRecDepth 100000 in
theorem push_l {G : NW} {X : Nat → Prop} {N : Nat} {kap : Nat → Nat} {adj : Nat → List Nat} {g l : Nat → Nat} (fu : Nat) (hN : N ≤ 1632) (hD : ∀ e, e < 2 * N → rD G kap e < 612 ∧ rR G kap g e ≤ 6000) {C : Nat → Option (Option Nat)} {Q : Nat → Nat} {b : Nat} (hB : rB (2 * N) (rS G kap) (rD G kap) (rR G kap g) l C Q b) {m : Nat} {P E : Nat → Nat} (hP : rP (2 * N) (rS G kap) (rD G kap) (rR G kap g) C Q b m P E) {z : Nat} (hz : z ≤ 6000) (hzr : ∀ j, j < m → z ≤ rR G kap g (E j)) (dk : ∀ i j, i < j → j < m → kap (E i / 2) ≠ kap (E j / 2)) (hcp : ∀ j, j < N → cp G (kap j) ≤ 6000) : ∀ F i (st : St), i ≤ m → m - i < F → Top st → RE G X N kap adj (pu (fun i => kap (E i / 2)) (fun i => decide (E i % 2 = 0)) z g i) st → (∀ s, s < 612 → gI st 259 s = oC (C s)) → ∃ u, RE G X N kap adj (pu (fun i => kap (E i / 2)) (fun i => decide (E i % 2 = 0)) z g m) u ∧ Fr [(258, none)] st u ∧ gR u = gR st ∧ b_X12_out2_340 fu F 153 (nI z) (nI (Q (P i))) st = some (nI z, u) := by
  intro F
  induction F with
  | zero => intro i st h1 h2; omega
  | succ F ih =>
    intro i st h1 h2 hT hR hS
    have q6 := (hB.1 _ (hP.1 i h1)).1
    have c9 := hS _ q6
    by_cases e : i = m
    · refine ⟨st, by rw [← e]; exact hR, Fr.rf, rfl, ?_⟩
      rw [e, hP.2.2] at c9
      have c9 : gI st 259 (Q (P m)) = -nI 1 := c9
      rw [e] at q6
      show b_X12_out2_340_b fu (b_X12_out2_340 fu F) 153 (nI z) (nI (Q (P i))) st = _
      rw [e]
      simp (disch := first | decide | omega) [↓bd_e, isb, ck_tt, NP, NF, NC, NB, NS, GS, kdR, tpR hT, b_X12_out2_340_b, c9]
    · obtain ⟨p1, p2, p3, p4, p5, p6⟩ := hP.2.1 i (by omega)
      rw [p2] at c9
      have c9 : gI st 259 (Q (P i)) = nI (E i) := c9
      have e0 : pu (fun i => kap (E i / 2)) (fun i => decide (E i % 2 = 0)) z g i (kap (E i / 2)) = g (kap (E i / 2)) := pu_o i fun j hj => dk j i hj (by omega)
      have er : rR G kap (pu (fun i => kap (E i / 2)) (fun i => decide (E i % 2 = 0)) z g i) (E i) = rR G kap g (E i) := by
        unfold rR
        rw [e0]
      obtain ⟨e7, e8⟩ := hR.2.2.1 _ p5
      obtain ⟨f1, f2⟩ := fl_lt p5
      obtain ⟨f7, f8⟩ := hR.2.2.1 _ f1
      rw [fl_S, p3] at f7
      have r6 := (hD _ p5).2
      have zr := hzr i (by omega)
      have R2 := hR.pu (g' := pu (fun i => kap (E i / 2)) (fun i => decide (E i % 2 = 0)) z g (i + 1)) p5 (z := z) (by rw [er]; exact zr) (by
        show (if kap (E i / 2) = kap (E i / 2) then (if decide (E i % 2 = 0) = true then pu (fun i => kap (E i / 2)) (fun i => decide (E i % 2 = 0)) z g i (kap (E i / 2)) + z else pu (fun i => kap (E i / 2)) (fun i => decide (E i % 2 = 0)) z g i (kap (E i / 2)) - z) else pu (fun i => kap (E i / 2)) (fun i => decide (E i % 2 = 0)) z g i (kap (E i / 2))) = _
        rw [if_pos rfl]
        by_cases q : E i % 2 = 0
        · rw [if_pos (decide_eq_true q), if_pos q]
        · rw [if_neg (fun c => q (of_decide_eq_true c)), if_neg q]) (fun a ha => by
        show (if a = kap (E i / 2) then (if decide (E i % 2 = 0) = true then pu (fun i => kap (E i / 2)) (fun i => decide (E i % 2 = 0)) z g i a + z else pu (fun i => kap (E i / 2)) (fun i => decide (E i % 2 = 0)) z g i a - z) else pu (fun i => kap (E i / 2)) (fun i => decide (E i % 2 = 0)) z g i a) = _
        rw [if_neg ha])
      have fr6 : rR G kap (pu (fun i => kap (E i / 2)) (fun i => decide (E i % 2 = 0)) z g i) (fl (E i)) ≤ 6000 := by
        have a1 := hcp (fl (E i) / 2) (by omega)
        have a2 := hR.2.2.2.2.2.2 (fl (E i) / 2) (by omega)
        unfold rR
        by_cases q : fl (E i) % 2 = 0
        · rw [if_pos q]; omega
        · rw [if_neg q]; omega
      rw [er] at R2 e8
      obtain ⟨u1, hu1⟩ : ∃ u1, u1 = sI (sI st 258 (E i) (nI (rR G kap g (E i) - z))) 258 (fl (E i)) (nI (rR G kap (pu (fun i => kap (E i / 2)) (fun i => decide (E i % 2 = 0)) z g i) (fl (E i)) + z)) := ⟨_, rfl⟩
      rw [← hu1] at R2
      have fr1 : Fr [(258, none)] st u1 := by rw [hu1]; exact (Fr.ia st 258 _ _).tt (Fr.ia _ 258 _ _)
      have g1 : gR u1 = gR st := by rw [hu1]; rfl
      obtain ⟨u, a1, a2, a3, a4⟩ := ih (i + 1) u1 (by omega) (by omega) (hT.r g1) R2 (fun s hs => by rw [fr1.fi 259 (by decide)]; exact hS s hs)
      refine ⟨u, a1, fr1.tt a2, a3.trans g1, ?_⟩
      rw [← a4]
      show b_X12_out2_340_b fu (b_X12_out2_340 fu F) 153 (nI z) (nI (Q (P i))) st = _
      rw [hu1]
      have xr := fl_d (E i) (by omega)
      have eN : E i < 3264 := by omega
      have fN : fl (E i) < 3264 := by omega
      obtain ⟨s, hs⟩ : ∃ s, s = Q (P i) := ⟨_, rfl⟩
      obtain ⟨s', hs'⟩ : ∃ s', s' = Q (P (i + 1)) := ⟨_, rfl⟩
      obtain ⟨r, hr⟩ : ∃ r, r = rR G kap g (E i) := ⟨_, rfl⟩
      obtain ⟨r', hr'⟩ : ∃ r', r' = rR G kap (pu (fun i => kap (E i / 2)) (fun i => decide (E i % 2 = 0)) z g i) (fl (E i)) := ⟨_, rfl⟩
      rw [← hr] at e8 r6 zr
      rw [← hr'] at f8 fr6
      rw [← hs] at c9 q6
      rw [← hs'] at f7
      rw [← hs, ← hs', ← hr, ← hr']
      obtain ⟨w, hw⟩ : ∃ w, w = fl (E i) := ⟨_, rfl⟩
      rw [← hw] at f7 f8 fN xr f2
      rw [← hw]
      obtain ⟨x, hx⟩ : ∃ x, x = E i := ⟨_, rfl⟩
      rw [← hx] at e8 c9 eN xr f2
      rw [← hx]
      simp (disch := first | decide | omega) [↓bd_e, isb, ck_tt, NP, NF, NC, NB, NS, GS, kdR, tpR hT, b_X12_out2_340_b, c9, e8, xr, f7, f8]
