/-! PURE: the class's walk: the next spot -/
theorem oE_lt : (oE none < nI 0) = True := by decide
theorem nextBy_l {G : NW} (ok : G.ok) {L : Nat → List Nat} (hL : LKs G L) {g : Nat → Nat} {st : St} (hT : Top st) (hC : CD G L g st) (fu : Nat) {T s m : Nat} (hT5 : T ≤ 50) (hs : s < 612) {la : Nat → Option Nat} (hla : ∀ u, u < 612 → gI st 148 u = oE (la u)) (hm : la s = some m) (hb : ∀ u k, u < 612 → la u = some k → k ≤ 611) (hx : ∀ j x, aN G L T g s j = some x → x < 612) : ∀ F i, i ≤ aA L s → aA L s - i < F → (∃ j x, i ≤ j ∧ j < aA L s ∧ aN G L T g s j = some x ∧ la x = some (m + 1) ∧ (∀ k, i ≤ k → k < j → ∀ y, aN G L T g s k = some y → la y ≠ some (m + 1)) ∧ b_X10_nextBy_20 fu F 139 (nI s) (nI T) (nI (aA L s)) (nI i) st = some (nI x, sI st 149 s (nI j))) ∨ ((∀ k, i ≤ k → k < aA L s → ∀ y, aN G L T g s k = some y → la y ≠ some (m + 1)) ∧ b_X10_nextBy_20 fu F 139 (nI s) (nI T) (nI (aA L s)) (nI i) st = some (-nI 1, sI st 149 s (nI (aA L s)))) := by
  have hA : aA L s ≤ 22 := by unfold aA; have := (hL (s / 51) (by omega)).1; omega
  have m6 := hb s m hs hm
  have s8 : gI st 148 s = nI m := by rw [hla s hs, hm]; rfl
  intro F
  induction F with
  | zero => intro i h1 h2; omega
  | succ F ih =>
    intro i h1 h2
    show (∃ j x, i ≤ j ∧ j < aA L s ∧ aN G L T g s j = some x ∧ la x = some (m + 1) ∧ (∀ k, i ≤ k → k < j → ∀ y, aN G L T g s k = some y → la y ≠ some (m + 1)) ∧ b_X10_nextBy_20_b fu (b_X10_nextBy_20 fu F) 139 (nI s) (nI T) (nI (aA L s)) (nI i) st = some (nI x, sI st 149 s (nI j))) ∨ ((∀ k, i ≤ k → k < aA L s → ∀ y, aN G L T g s k = some y → la y ≠ some (m + 1)) ∧ b_X10_nextBy_20_b fu (b_X10_nextBy_20 fu F) 139 (nI s) (nI T) (nI (aA L s)) (nI i) st = some (-nI 1, sI st 149 s (nI (aA L s))))
    by_cases h3 : i = aA L s
    · refine Or.inr ⟨fun k a b => by omega, ?_⟩
      rw [h3]
      simp (disch := first | decide | omega) [↓bd_e, isb, ck_tt, NP, NF, NC, NB, NS, GS, kdC, tpC hT, b_X10_nextBy_20_b]
    · have eo := endOf_c ok hL hT hC fu hT5 hs (show i < aA L s by omega)
      have go : (∀ y, aN G L T g s i = some y → la y ≠ some (m + 1)) → b_X10_nextBy_20_b fu (b_X10_nextBy_20 fu F) 139 (nI s) (nI T) (nI (aA L s)) (nI i) st = b_X10_nextBy_20 fu F 139 (nI s) (nI T) (nI (aA L s)) (nI (i + 1)) st := fun hn => by
        cases e : aN G L T g s i with
        | none =>
          rw [e] at eo
          simp (disch := first | decide | omega) [↓bd_e, isb, ck_tt, NP, NF, NC, NB, NS, GS, kdC, tpC hT, b_X10_nextBy_20_b, b_X10_nextBy_70, ↓caO eo, oE_lt]
        | some x =>
          rw [e] at eo
          have x6 := hx i x e
          have x8 := hla x x6
          have hn := hn x e
          have eo : f_X10_endOf fu 139 (nI s) (nI i) (nI T) st = some (nI x, st) := eo
          cases e2 : la x with
          | none =>
            rw [e2] at x8
            have x8 : gI st 148 x = -nI 1 := x8
            simp (disch := first | decide | omega) [↓bd_e, isb, ck_tt, NP, NF, NC, NB, NS, GS, kdC, tpC hT, b_X10_nextBy_20_b, b_X10_nextBy_70, ↓caO eo, x8, s8]
          | some k =>
            rw [e2] at x8
            have x8 : gI st 148 x = nI k := x8
            have k6 := hb x k x6 e2
            have nk : k ≠ m + 1 := fun q => hn (by rw [e2, q])
            simp (disch := first | decide | omega) [↓bd_e, isb, ck_tt, NP, NF, NC, NB, NS, GS, kdC, tpC hT, b_X10_nextBy_20_b, b_X10_nextBy_70, ↓caO eo, x8, s8]
      by_cases h4 : ∃ x, aN G L T g s i = some x ∧ la x = some (m + 1)
      · obtain ⟨x, e1, e2⟩ := h4
        rw [e1] at eo
        have x6 := hx i x e1
        have x8 := hla x x6
        rw [e2] at x8
        have k6 := hb x _ x6 e2
        have x8 : gI st 148 x = nI (m + 1) := x8
        have eo : f_X10_endOf fu 139 (nI s) (nI i) (nI T) st = some (nI x, st) := eo
        refine Or.inl ⟨i, x, Nat.le_refl _, by omega, e1, e2, fun k a b => by omega, ?_⟩
        simp (disch := first | decide | omega) [↓bd_e, isb, ck_tt, NP, NF, NC, NB, NS, GS, kdC, tpC hT, b_X10_nextBy_20_b, ↓caO eo, x8, s8]
      · have hn : ∀ y, aN G L T g s i = some y → la y ≠ some (m + 1) := fun y a b => h4 ⟨y, a, b⟩
        rw [go hn]
        rcases ih (i + 1) (by omega) (by omega) with ⟨j, x, a1, a2, a3, a4, a5, a6⟩ | ⟨a5, a6⟩
        · refine Or.inl ⟨j, x, by omega, a2, a3, a4, fun k b1 b2 => ?_, a6⟩
          by_cases e : k = i
          · subst e; exact hn
          · exact a5 k (by omega) b2
        · refine Or.inr ⟨fun k b1 b2 => ?_, a6⟩
          by_cases e : k = i
          · subst e; exact hn
          · exact a5 k (by omega) b2
theorem nextBy_c {G : NW} (ok : G.ok) {L : Nat → List Nat} (hL : LKs G L) {g : Nat → Nat} {st : St} (hT : Top st) (hC : CD G L g st) {fu : Nat} (hf : 100 ≤ fu) {T s m : Nat} (hT5 : T ≤ 50) (hs : s < 612) {la : Nat → Option Nat} (hla : ∀ u, u < 612 → gI st 148 u = oE (la u)) (hm : la s = some m) (hb : ∀ u k, u < 612 → la u = some k → k ≤ 611) (hx : ∀ j x, aN G L T g s j = some x → x < 612) {i : Nat} (ht : gI st 149 s = nI i) (hi : i ≤ aA L s) : (∃ j x, i ≤ j ∧ j < aA L s ∧ aN G L T g s j = some x ∧ la x = some (m + 1) ∧ (∀ k, i ≤ k → k < j → ∀ y, aN G L T g s k = some y → la y ≠ some (m + 1)) ∧ f_X10_nextBy fu 139 (nI s) (nI T) st = some (nI x, sI st 149 s (nI j))) ∨ ((∀ k, i ≤ k → k < aA L s → ∀ y, aN G L T g s k = some y → la y ≠ some (m + 1)) ∧ f_X10_nextBy fu 139 (nI s) (nI T) st = some (-nI 1, sI st 149 s (nI (aA L s)))) := by
  have hA : aA L s ≤ 22 := by unfold aA; have := (hL (s / 51) (by omega)).1; omega
  have c31 := (hC.2.2.1 (s / 51) (by omega)).1
  have e : f_X10_nextBy fu 139 (nI s) (nI T) st = b_X10_nextBy_20 fu fu 139 (nI s) (nI T) (nI (aA L s)) (nI i) st := by
    have : (L (s / 51)).length + 2 = aA L s := rfl
    simp (disch := first | decide | omega) [↓bd_e, isb, ck_tt, NP, NF, NC, NB, NS, GS, kdC, tpC hT, f_X10_nextBy, c31, ht, this]
  rw [e]
  exact nextBy_l ok hL hT hC fu hT5 hs hla hm hb hx fu i hi (by omega)
