/-! PURE: the reference's search, spot by spot -/
theorem RE.bf {G : NW} {X : Nat → Prop} {N : Nat} {kap : Nat → Nat} {adj : Nat → List Nat} {g : Nat → Nat} {st u : St} (h : RE G X N kap adj g st) (f : Fr W_bf st u) : RE G X N kap adj g u := h.fr (f.ki 153 123 (by decide)) (f.fi 255 (by decide)) (f.fi 256 (by decide)) (f.fi 257 (by decide)) (f.fi 258 (by decide))
set_option maxRecDepth 100000 in
theorem inner_l {G : NW} {X : Nat → Prop} {N : Nat} {kap : Nat → Nat} {adj : Nat → List Nat} {g l : Nat → Nat} (fu : Nat) (k85 : Nat → Int32 → Int32 → Int32 → St → Option (Int32 × St)) (hN : N ≤ 1632) (hD : ∀ e, e < 2 * N → rD G kap e < 612 ∧ rR G kap g e ≤ 6000) (a : Nat) {goal s0 : Nat} : ∀ (L : List Nat) F b C Q (st : St) (x : Int32), L.length < F → Top st → RE G X N kap adj g st → rB (2 * N) (rS G kap) (rD G kap) (rR G kap g) l C Q b → SS C Q b st → chn (gI st 256) x L → (∀ e, e ∈ L → e < 2 * N ∧ rS G kap e = s0) → (∃ k, k < b ∧ Q k = s0) → ∃ b' C' Q' u, rB (2 * N) (rS G kap) (rD G kap) (rR G kap g) l C' Q' b' ∧ SS C' Q' b' u ∧ b ≤ b' ∧ (∀ s, C s ≠ none → C' s ≠ none) ∧ (∀ i, i < b → Q' i = Q i) ∧ (∀ e, e ∈ L → 0 < rR G kap g e → C' (rD G kap e) ≠ none) ∧ Fr W_bf st u ∧ gR u = gR st ∧ b_X12_out2_122 fu k85 F 153 (nI a) (nI b) (nI goal) x st = k85 153 (nI a) (nI b') (nI goal) u := by
  intro L
  induction L with
  | nil =>
    intro F b C Q st x hF hT hR hB hS hx he hk
    obtain ⟨F, rfl⟩ : ∃ F', F = F' + 1 := ⟨F - 1, by have : ([] : List Nat).length = 0 := rfl; omega⟩
    refine ⟨b, C, Q, st, hB, hS, Nat.le_refl _, fun _ h => h, fun _ _ => rfl, fun e he => absurd he (by simp), Fr.rf, rfl, ?_⟩
    have hx : x = -nI 1 := hx
    show b_X12_out2_122_b fu k85 (b_X12_out2_122 fu k85 F) 153 (nI a) (nI b) (nI goal) x st = _
    rw [hx]
    simp (disch := first | decide | omega) [↓bd_e, isb, ck_tt, NP, NF, NC, NB, NS, GS, kdR, tpR hT, b_X12_out2_122_b]
  | cons e L ih =>
    intro F b C Q st x hF hT hR hB hS hx he hk
    rw [List.length_cons] at hF
    obtain ⟨F, rfl⟩ : ∃ F', F = F' + 1 := ⟨F - 1, by omega⟩
    obtain ⟨x1, x2⟩ := hx
    obtain ⟨q1, q2⟩ := he e (List.mem_cons_self ..)
    obtain ⟨q3, q4⟩ := hD e q1
    obtain ⟨e7, e8⟩ := hR.2.2.1 e q1
    have heL : ∀ e, e ∈ L → e < 2 * N ∧ rS G kap e = s0 := fun e' h => he e' (List.mem_cons_of_mem _ h)
    have c9 := hS.1 _ q3
    have skip : (0 < rR G kap g e → C (rD G kap e) ≠ none) → b_X12_out2_122 fu k85 (F + 1) 153 (nI a) (nI b) (nI goal) x st = b_X12_out2_122 fu k85 F 153 (nI a) (nI b) (nI goal) (gI st 256 e) st → ∃ b' C' Q' u, rB (2 * N) (rS G kap) (rD G kap) (rR G kap g) l C' Q' b' ∧ SS C' Q' b' u ∧ b ≤ b' ∧ (∀ s, C s ≠ none → C' s ≠ none) ∧ (∀ i, i < b → Q' i = Q i) ∧ (∀ e', e' ∈ e :: L → 0 < rR G kap g e' → C' (rD G kap e') ≠ none) ∧ Fr W_bf st u ∧ gR u = gR st ∧ b_X12_out2_122 fu k85 (F + 1) 153 (nI a) (nI b) (nI goal) x st = k85 153 (nI a) (nI b') (nI goal) u := fun hc hp => by
      obtain ⟨b', C', Q', u, a1, a2, a3, a4, a5, a6, a7, a8, a9⟩ := ih F b C Q st (gI st 256 e) (by omega) hT hR hB hS x2 heL hk
      refine ⟨b', C', Q', u, a1, a2, a3, a4, a5, fun e' h hr => ?_, a7, a8, hp.trans a9⟩
      rcases List.mem_cons.mp h with h | h
      · rw [h] at hr ⊢; exact a4 _ (hc hr)
      · exact a6 e' h hr
    obtain ⟨d, hd⟩ : ∃ d, d = rD G kap e := ⟨_, rfl⟩
    obtain ⟨r, hr⟩ : ∃ r, r = rR G kap g e := ⟨_, rfl⟩
    rw [← hd] at e7 c9 q3 skip
    rw [← hr] at e8 q4 skip
    have eN : e < 3264 := by omega
    rcases Nat.eq_zero_or_pos r with z | z
    · refine skip (fun c => by omega) ?_
      show b_X12_out2_122_b fu k85 (b_X12_out2_122 fu k85 F) 153 (nI a) (nI b) (nI goal) x st = _
      rw [x1]
      rw [z] at e8
      simp (disch := first | decide | omega) [↓bd_e, isb, ck_tt, NP, NF, NC, NB, NS, GS, kdR, tpR hT, b_X12_out2_122_b, b_X12_out2_185, e8]
    · cases hC : C d with
      | some y =>
        refine skip (fun _ => by rw [hC]; exact fun c => by cases c) ?_
        have ne : (gI st 259 d = -nI 2) = False := by
          rw [c9, hC]
          cases y with
          | none => exact m12
          | some e' =>
            obtain ⟨i, i1, i2⟩ := hB.2.2.1 d q3 (by rw [hC]; exact fun c => by cases c)
            have := (hB.2.2.2.2 i e' i1 (by rw [i2]; exact hC)).1
            exact eq_m2 (by omega)
        show b_X12_out2_122_b fu k85 (b_X12_out2_122 fu k85 F) 153 (nI a) (nI b) (nI goal) x st = _
        rw [x1]
        simp (disch := first | decide | omega) [↓bd_e, isb, ck_tt, NP, NF, NC, NB, NS, GS, kdR, tpR hT, b_X12_out2_122_b, b_X12_out2_185, e8, e7, ne]
      | none =>
        have b6 := hB.lt pig q3 hC
        obtain ⟨k, k1, k2⟩ := hk
        rw [hC] at c9
        have c9 : gI st 259 d = -nI 2 := c9
        obtain ⟨u1, hu1⟩ : ∃ u1, u1 = sI (sI st 259 d (oC (some (some e)))) 260 b (nI d) := ⟨_, rfl⟩
        have f1 : Fr W_bf st u1 := by rw [hu1]; exact ((Fr.ia st 259 _ _).tr (Fr.ia _ 260 b _)).wd (by decide)
        have g1 : gR u1 = gR st := by rw [hu1]; rfl
        have B1 := hB.add q3 hC (y := some e) (Or.inr ⟨e, k, rfl, q1, hd.symm, by rw [← hr]; exact z, k1, by rw [q2, k2]⟩)
        obtain ⟨b', C', Q', u, a1, a2, a3, a4, a5, a6, a7, a8, a9⟩ := ih F (b + 1) _ _ u1 (gI st 256 e) (by omega) (hT.r g1) (hR.bf f1) B1 (by rw [hu1]; exact hS.add (some e)) (by rw [f1.fi 256 (by decide)]; exact x2) heL ⟨k, by omega, by rw [updN_n _ _ (by omega)]; exact k2⟩
        have up : ∀ s, C s ≠ none → C' s ≠ none := fun s hs => a4 s (by
          by_cases q : s = d
          · rw [q, updC_s]; exact fun c => by cases c
          · rw [updC_n _ _ q]; exact hs)
        refine ⟨b', C', Q', u, a1, a2, by omega, up, fun i hi => by rw [a5 i (by omega), updN_n _ _ (by omega)], fun e' h hr' => ?_, f1.tt a7, a8.trans g1, ?_⟩
        · rcases List.mem_cons.mp h with h | h
          · rw [h, ← hd]; exact a4 _ (by rw [updC_s]; exact fun c => by cases c)
          · exact a6 e' h hr'
        · rw [← a9]
          show b_X12_out2_122_b fu k85 (b_X12_out2_122 fu k85 F) 153 (nI a) (nI b) (nI goal) x st = _
          rw [x1, hu1]
          simp (disch := first | decide | omega) [↓bd_e, isb, ck_tt, NP, NF, NC, NB, NS, GS, kdR, tpR hT, b_X12_out2_122_b, b_X12_out2_185, e8, e7, c9, oC]
set_option maxRecDepth 100000 in
theorem outer_l {G : NW} {X : Nat → Prop} {N : Nat} {kap : Nat → Nat} {adj : Nat → List Nat} {g l : Nat → Nat} {fu : Nat} (hf : 9000 ≤ fu) (hN : N ≤ 1632) (hD : ∀ e, e < 2 * N → rD G kap e < 612 ∧ rR G kap g e ≤ 6000) {goal : Nat} (hg : goal < 612) : ∀ F a b C Q (st : St), a ≤ b → 612 - a < F → Top st → RE G X N kap adj g st → rB (2 * N) (rS G kap) (rD G kap) (rR G kap g) l C Q b → SS C Q b st → (∀ k, k < a → ∀ e, e < 2 * N → rS G kap e = Q k → 0 < rR G kap g e → C (rD G kap e) ≠ none) → (∀ w, w < 11 → 0 < l w → C (51 * w) ≠ none) → ∃ b' C' Q' u, rB (2 * N) (rS G kap) (rD G kap) (rR G kap g) l C' Q' b' ∧ SS C' Q' b' u ∧ (∀ w, w < 11 → 0 < l w → C' (51 * w) ≠ none) ∧ (C' goal = none → ∀ e, e < 2 * N → rS G kap e < 612 → C' (rS G kap e) ≠ none → 0 < rR G kap g e → C' (rD G kap e) ≠ none) ∧ Fr W_bf st u ∧ gR u = gR st ∧ b_X12_out2_85 fu F 153 (nI a) (nI b) (nI goal) st = b_X12_out2_200 fu 153 (nI goal) u := by
  intro F
  induction F with
  | zero => intro a b C Q st h1 h2; omega
  | succ F ih =>
    intro a b C Q st h1 h2 hT hR hB hS hp hs
    have b6 : b ≤ 612 := pig 612 b Q (fun i hi => (hB.1 i hi).1) hB.2.1
    by_cases e : a = b
    · refine ⟨b, C, Q, st, hB, hS, hs, fun _ e' he hl hc hr => ?_, Fr.rf, rfl, ?_⟩
      · obtain ⟨i, i1, i2⟩ := hB.2.2.1 _ hl hc
        exact hp i (by omega) e' he i2.symm hr
      · show b_X12_out2_85_b fu (b_X12_out2_85 fu F) 153 (nI a) (nI b) (nI goal) st = _
        rw [e]
        simp (disch := first | decide | omega) [↓bd_e, isb, ck_tt, NP, NF, NC, NB, NS, GS, kdR, tpR hT, b_X12_out2_85_b]
    · have c9 := hS.1 goal hg
      cases hC : C goal with
      | some y =>
        refine ⟨b, C, Q, st, hB, hS, hs, fun c => (by rw [hC] at c; cases c), Fr.rf, rfl, ?_⟩
        have ne : (gI st 259 goal = -nI 2) = False := by
          rw [c9, hC]
          cases y with
          | none => exact m12
          | some e' =>
            obtain ⟨i, i1, i2⟩ := hB.2.2.1 goal hg (by rw [hC]; exact fun c => by cases c)
            have := (hB.2.2.2.2 i e' i1 (by rw [i2]; exact hC)).1
            exact eq_m2 (by omega)
        show b_X12_out2_85_b fu (b_X12_out2_85 fu F) 153 (nI a) (nI b) (nI goal) st = _
        simp (disch := first | decide | omega) [↓bd_e, isb, ck_tt, NP, NF, NC, NB, NS, GS, kdR, tpR hT, b_X12_out2_85_b, ne]
      | none =>
        rw [hC] at c9
        have c9 : gI st 259 goal = -nI 2 := c9
        have qa := hS.2 a (by omega)
        have q6 := (hB.1 a (by omega)).1
        have len := hR.2.2.2.2.2.1 (Q a)
        obtain ⟨b', C', Q', u1, a1, a2, a3, a4, a5, a6, a7, a8, a9⟩ := inner_l (X := X) (adj := adj) (l := l) fu (b_X12_out2_85 fu F) hN hD (a + 1) (goal := goal) (s0 := Q a) (adj (Q a)) fu b C Q st (gI st 255 (Q a)) (by omega) hT hR hB hS (hR.2.2.2.1 _ q6) (fun e' he => (hR.2.2.2.2.1 _ e' q6).mp he) ⟨a, by omega, rfl⟩
        obtain ⟨b2, C2, Q2, u, c1, c2, c3, c4, c5, c6, c7⟩ := ih (a + 1) b' C' Q' u1 (by omega) (by omega) (hT.r a8) (hR.bf a7) a1 a2 (fun k hk e' he hq hr => by
          rw [a5 k (by omega)] at hq
          by_cases z : k = a
          · rw [z] at hq
            exact a6 e' ((hR.2.2.2.2.1 _ e' q6).mpr ⟨he, hq⟩) hr
          · exact a4 _ (hp k (by omega) e' he hq hr)) (fun w hw hl => a4 _ (hs w hw hl))
        refine ⟨b2, C2, Q2, u, c1, c2, c3, c4, a7.tt c5, c6.trans a8, ?_⟩
        rw [← c7, ← a9]
        show b_X12_out2_85_b fu (b_X12_out2_85 fu F) 153 (nI a) (nI b) (nI goal) st = _
        simp (disch := first | decide | omega) [↓bd_e, isb, ck_tt, NP, NF, NC, NB, NS, GS, kdR, tpR hT, b_X12_out2_85_b, c9, qa]
