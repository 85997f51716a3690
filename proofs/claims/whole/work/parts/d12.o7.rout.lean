/-! PURE: the reference's search in its cells -/
def oC : Option (Option Nat) → Int32
  | none => -nI 2
  | some none => -nI 1
  | some (some e) => nI e
theorem eq_m2 {a : Nat} (h : a < 2147483648) : (nI a = -nI 2) = False := eq_false (fun q => by
  have h1 := congrArg Int32.toInt q
  rw [nI_toInt h] at h1
  have : (-nI 2).toInt = -2 := by decide +kernel
  omega)
theorem m12 : (-nI 1 = -nI 2) = False := eq_false (by decide +kernel)
def fl (e : Nat) : Nat := if e % 2 = 0 then e + 1 else e - 1
set_option maxRecDepth 1000000 in
theorem fl_k : ∀ k, k < 64 → ∀ r, r < 51 → nI (51 * k + r) ^^^ nI 1 = nI (fl (51 * k + r)) := by decide +kernel
theorem fl_d (e : Nat) (h : e < 3264) : nI e ^^^ nI 1 = nI (fl e) := by
  have := fl_k (e / 51) (by omega) (e % 51) (by omega)
  rwa [show 51 * (e / 51) + e % 51 = e by omega] at this
theorem fl_S {G : NW} {kap : Nat → Nat} (e : Nat) : rD G kap (fl e) = rS G kap e := by
  unfold rD rS fl
  by_cases q : e % 2 = 0
  · rw [if_pos q, if_pos q, if_neg (by omega), show (e + 1) / 2 = e / 2 by omega]
  · rw [if_neg q, if_neg q, if_pos (by omega), show (e - 1) / 2 = e / 2 by omega]
/-- the search, in the cells -/
def SS (C : Nat → Option (Option Nat)) (Q : Nat → Nat) (b : Nat) (st : St) : Prop := (∀ s, s < 612 → gI st 259 s = oC (C s)) ∧ ∀ i, i < b → gI st 260 i = nI (Q i)
theorem SS.add {C : Nat → Option (Option Nat)} {Q : Nat → Nat} {b : Nat} {st : St} (h : SS C Q b st) {x : Nat} (y : Option Nat) : SS (updC C x (some y)) (updN Q b x) (b + 1) (sI (sI st 259 x (oC (some y))) 260 b (nI x)) := by
  refine ⟨fun s hs => ?_, fun i hi => ?_⟩
  · rw [gI_sI, if_neg (fun c => absurd c.1 (by decide)), gI_sI]
    by_cases q : s = x
    · rw [if_pos ⟨rfl, q⟩, q, updC_s]
    · rw [if_neg fun c => q c.2, updC_n _ _ q]; exact h.1 s hs
  · rw [gI_sI]
    by_cases q : i = b
    · rw [if_pos ⟨rfl, q⟩, q, updN_s]
    · rw [if_neg fun c => q c.2, gI_sI, if_neg (fun c => absurd c.1 (by decide)), updN_n _ _ q]; exact h.2 i (by omega)
set_option maxRecDepth 100000 in
theorem fill2_l (fu : Nat) (X1 : Int32) : ∀ F i (st : St), i ≤ 612 → 612 - i < F → Top st → (∀ s, s < i → gI st 259 s = -nI 2) → ∃ u, (∀ s, s < 612 → gI u 259 s = -nI 2) ∧ Fr [(259, none)] st u ∧ gR u = gR st ∧ b_X12_out2_2 fu F 153 X1 (nI i) st = b_X12_out2_30 fu fu 153 X1 (nI 0) (nI 0) (nI 0) u := by
  intro F
  induction F with
  | zero => intro i st h1 h2; omega
  | succ F ih =>
    intro i st h1 h2 hT h
    by_cases e : i = 612
    · refine ⟨st, fun s hs => h s (by omega), Fr.rf, rfl, ?_⟩
      show b_X12_out2_2_b fu (b_X12_out2_2 fu F) 153 X1 (nI i) st = _
      rw [e]
      simp (disch := first | decide | omega) [↓bd_e, isb, ck_tt, NP, NF, NC, NB, NS, GS, kdR, tpR hT, b_X12_out2_2_b]
    · obtain ⟨u, a1, a2, a3, a4⟩ := ih (i + 1) (sI st 259 i (-nI 2)) (by omega) (by omega) (hT.r rfl) (fun s hs => by
        rw [gI_sI]
        by_cases q : s = i
        · rw [if_pos ⟨rfl, q⟩]
        · rw [if_neg fun c => q c.2]; exact h s (by omega))
      refine ⟨u, a1, (Fr.ia st 259 i (-nI 2)).tt a2, a3, ?_⟩
      rw [← a4]
      show b_X12_out2_2_b fu (b_X12_out2_2 fu F) 153 X1 (nI i) st = _
      simp (disch := first | decide | omega) [↓bd_e, isb, ck_tt, NP, NF, NC, NB, NS, GS, kdR, tpR hT, b_X12_out2_2_b]
def W_bf : List PL := [(259, none), (260, none)]
set_option maxRecDepth 100000 in
theorem starts_l (fu : Nat) {T : Nat} (hT5 : T ≤ 50) {M : Nat} {es ed er l : Nat → Nat} (hl : ∀ v, v < 11 → l v ≤ 60) : ∀ F v b C Q (st : St), v ≤ 11 → 11 - v < F → b ≤ v → Top st → (∀ v, v < 11 → gI st 261 v = nI (l v)) → rB M es ed er l C Q b → SS C Q b st → (∀ s, C s ≠ none → ∃ w, w < v ∧ s = 51 * w) → (∀ w, w < v → 0 < l w → C (51 * w) ≠ none) → ∃ b' C' Q' u, rB M es ed er l C' Q' b' ∧ SS C' Q' b' u ∧ (∀ w, w < 11 → 0 < l w → C' (51 * w) ≠ none) ∧ Fr W_bf st u ∧ gR u = gR st ∧ b_X12_out2_30 fu F 153 (nI T) (nI 0) (nI b) (nI v) st = b_X12_out2_85 fu fu 153 (nI 0) (nI b') (nI (561 + T)) u := by
  intro F
  induction F with
  | zero => intro v b C Q st h1 h2; omega
  | succ F ih =>
    intro v b C Q st h1 h2 hbv hT hw hB hS hc hd
    by_cases e : v = 11
    · refine ⟨b, C, Q, st, hB, hS, fun w hw => hd w (by omega), Fr.rf, rfl, ?_⟩
      show b_X12_out2_30_b fu (b_X12_out2_30 fu F) 153 (nI T) (nI 0) (nI b) (nI v) st = _
      rw [e]
      simp (disch := first | decide | omega) [↓bd_e, isb, ck_tt, NP, NF, NC, NB, NS, GS, kdR, tpR hT, b_X12_out2_30_b]
    · have w1 := hw v (by omega)
      have l6 := hl v (by omega)
      rcases Nat.eq_zero_or_pos (l v) with z | z
      · obtain ⟨b', C', Q', u, a1, a2, a3, a4, a5, a6⟩ := ih (v + 1) b C Q st (by omega) (by omega) (by omega) hT hw hB hS (fun s hs => by
          obtain ⟨w, q1, q2⟩ := hc s hs
          exact ⟨w, by omega, q2⟩) (fun w hw hl => by
          by_cases q : w = v
          · rw [q] at hl; omega
          · exact hd w (by omega) hl)
        refine ⟨b', C', Q', u, a1, a2, a3, a4, a5, ?_⟩
        rw [← a6]
        rw [z] at w1
        show b_X12_out2_30_b fu (b_X12_out2_30 fu F) 153 (nI T) (nI 0) (nI b) (nI v) st = _
        simp (disch := first | decide | omega) [↓bd_e, isb, ck_tt, NP, NF, NC, NB, NS, GS, kdR, tpR hT, b_X12_out2_30_b, b_X12_out2_72, w1]
      · have hn : C (51 * v) = none := Classical.byContradiction fun c => by
          obtain ⟨w, q1, q2⟩ := hc _ c
          omega
        obtain ⟨b', C', Q', u, a1, a2, a3, a4, a5, a6⟩ := ih (v + 1) (b + 1) _ _ (sI (sI st 259 (51 * v) (oC (some none))) 260 b (nI (51 * v))) (by omega) (by omega) (by omega) (hT.r rfl) (fun w hw' => by
          rw [gI_sI, if_neg (fun c => absurd c.1 (by decide)), gI_sI, if_neg (fun c => absurd c.1 (by decide))]; exact hw w hw') (hB.add (y := none) (show 51 * v < 612 by omega) hn (Or.inl ⟨rfl, v, by omega, rfl, z⟩)) (hS.add none) (fun s hs => by
          by_cases q : s = 51 * v
          · exact ⟨v, by omega, q⟩
          · rw [updC_n _ _ q] at hs
            obtain ⟨w, q1, q2⟩ := hc s hs
            exact ⟨w, by omega, q2⟩) (fun w hw hl => by
          by_cases q : w = v
          · rw [q, updC_s]; exact fun c => by cases c
          · rw [updC_n _ _ (by omega)]; exact hd w (by omega) hl)
        refine ⟨b', C', Q', u, a1, a2, a3, (((Fr.ia st 259 _ _).tr (Fr.ia _ 260 b _)).wd (by decide)).tt a4, a5, ?_⟩
        rw [← a6]
        show b_X12_out2_30_b fu (b_X12_out2_30 fu F) 153 (nI T) (nI 0) (nI b) (nI v) st = _
        simp (disch := first | decide | omega) [↓bd_e, isb, ck_tt, NP, NF, NC, NB, NS, GS, kdR, tpR hT, b_X12_out2_30_b, b_X12_out2_72, w1, oC]
