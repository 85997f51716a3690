/-! PURE: layers, and the walk by layers -/
/-- arcs tried in vain lead to spots that lead nowhere -/
def eDI (E : Nat → Nat → Option Nat) (A : Nat → Nat) (la : Nat → Option Nat) (tr : Nat → Nat) : Prop := ∀ s j s' k, s < 561 → j < tr s → E s j = some s' → la s = some k → la s' = some (k + 1) → s' < 561 ∧ A s' ≤ tr s'
def eWS (E : Nat → Nat → Option Nat) (A : Nat → Nat) (la : Nat → Option Nat) (tr p : Nat → Nat) (m : Nat) : Prop := (∀ i, i ≤ m → p i < 612 ∧ la (p i) = some i) ∧ (∀ i, i < m → p i < 561 ∧ tr (p i) < A (p i) ∧ E (p i) (tr (p i)) = some (p (i + 1))) ∧ ∀ s, s < 612 → tr s ≤ A s
def updN (f : Nat → Nat) (k v : Nat) : Nat → Nat := fun j => if j = k then v else f j
theorem updN_s (f : Nat → Nat) (k v : Nat) : updN f k v k = v := if_pos rfl
theorem updN_n (f : Nat → Nat) {k j : Nat} (v : Nat) (h : j ≠ k) : updN f k v j = f j := if_neg h
theorem eWS.ne {E : Nat → Nat → Option Nat} {A : Nat → Nat} {la : Nat → Option Nat} {tr p : Nat → Nat} {m : Nat} (h : eWS E A la tr p m) {i j : Nat} (hi : i ≤ m) (hj : j ≤ m) (n : i ≠ j) : p i ≠ p j := fun e => by
  have a := (h.1 i hi).2
  have b := (h.1 j hj).2
  rw [e, b] at a
  cases a
  exact n rfl
theorem eWS.next {E : Nat → Nat → Option Nat} {A : Nat → Nat} {la : Nat → Option Nat} {tr p : Nat → Nat} {m : Nat} (h : eWS E A la tr p m) {D : Prop} (hD : D → eDI E A la tr) (h1 : p m < 561) {j s' : Nat} (h2 : tr (p m) ≤ j) (h3 : j < A (p m)) (h4 : E (p m) j = some s') (h5 : la s' = some (m + 1)) (h6 : s' < 612) (h7 : ∀ i, tr (p m) ≤ i → i < j → ∀ x, E (p m) i = some x → la x ≠ some (m + 1)) : eWS E A la (updN tr (p m) j) (updN p (m + 1) s') (m + 1) ∧ (D → eDI E A la (updN tr (p m) j)) := by
  refine ⟨⟨fun i hi => ?_, fun i hi => ?_, fun s hs => ?_⟩, fun d s i x k a1 a2 a3 a4 a5 => ?_⟩
  · by_cases e : i = m + 1
    · subst e; rw [updN_s]; exact ⟨h6, h5⟩
    · rw [updN_n _ _ e]; exact h.1 i (by omega)
  · by_cases e : i = m
    · subst e
      rw [updN_n p _ (show i ≠ i + 1 by omega), updN_s, updN_s]
      exact ⟨h1, h3, h4⟩
    · rw [updN_n p _ (show i ≠ m + 1 by omega), updN_n p _ (show i + 1 ≠ m + 1 by omega), updN_n tr _ (h.ne (by omega) (Nat.le_refl _) e)]
      exact h.2.1 i (by omega)
  · by_cases e : s = p m
    · rw [e, updN_s]; omega
    · rw [updN_n _ _ e]; exact h.2.2 s hs
  · have dead : ∀ y, y < 561 → A y ≤ tr y → y ≠ p m → y < 561 ∧ A y ≤ updN tr (p m) j y := fun y b1 b2 b3 => ⟨b1, by rw [updN_n _ _ b3]; exact b2⟩
    have np : ∀ y, la y = some (k + 1) → A y ≤ tr y → y < 561 → y < 561 ∧ A y ≤ updN tr (p m) j y := fun y c1 c2 c3 => by
      refine dead y c3 c2 fun e => ?_
      rw [e] at c2
      omega
    by_cases e : s = p m
    · subst e
      rw [updN_s] at a2
      have ek : k = m := by have := (h.1 m (Nat.le_refl _)).2; rw [this] at a4; cases a4; rfl
      subst ek
      rcases Nat.lt_or_ge i (tr (p k)) with q | q
      · obtain ⟨b1, b2⟩ := hD d _ i x k a1 q a3 a4 a5
        exact np x a5 b2 b1
      · exact absurd a5 (h7 i q a2 x a3)
    · rw [updN_n _ _ e] at a2
      obtain ⟨b1, b2⟩ := hD d s i x k a1 a2 a3 a4 a5
      exact np x a5 b2 b1
theorem eWS.dead {E : Nat → Nat → Option Nat} {A : Nat → Nat} {la : Nat → Option Nat} {tr p : Nat → Nat} {m : Nat} (h : eWS E A la tr p m) {D : Prop} (hD : D → eDI E A la tr) (h7 : ∀ i, tr (p m) ≤ i → i < A (p m) → ∀ x, E (p m) i = some x → la x ≠ some (m + 1)) : eWS E A la (updN tr (p m) (A (p m))) p m ∧ (D → eDI E A la (updN tr (p m) (A (p m)))) := by
  refine ⟨⟨h.1, fun i hi => ?_, fun s hs => ?_⟩, fun d s i x k a1 a2 a3 a4 a5 => ?_⟩
  · rw [updN_n tr _ (h.ne (by omega) (Nat.le_refl _) (by omega))]
    exact h.2.1 i (by omega)
  · by_cases e : s = p m
    · rw [e, updN_s]; exact Nat.le_refl _
    · rw [updN_n _ _ e]; exact h.2.2 s hs
  · have np : ∀ y, A y ≤ tr y → y < 561 → y < 561 ∧ A y ≤ updN tr (p m) (A (p m)) y := fun y c2 c3 => by
      refine ⟨c3, ?_⟩
      by_cases e : y = p m
      · rw [e, updN_s]; exact Nat.le_refl _
      · rw [updN_n _ _ e]; exact c2
    by_cases e : s = p m
    · subst e
      rw [updN_s] at a2
      have ek : k = m := by have := (h.1 m (Nat.le_refl _)).2; rw [this] at a4; cases a4; rfl
      subst ek
      rcases Nat.lt_or_ge i (tr (p k)) with q | q
      · obtain ⟨b1, b2⟩ := hD d _ i x k a1 q a3 a4 a5
        exact np x b2 b1
      · exact absurd a5 (h7 i q a2 x a3)
    · rw [updN_n _ _ e] at a2
      obtain ⟨b1, b2⟩ := hD d s i x k a1 a2 a3 a4 a5
      exact np x b2 b1
theorem eWS.back {E : Nat → Nat → Option Nat} {A : Nat → Nat} {la : Nat → Option Nat} {tr p : Nat → Nat} {m : Nat} (h : eWS E A la tr p (m + 1)) {D : Prop} (hD : D → eDI E A la tr) (h1 : p (m + 1) < 561) (h2 : A (p (m + 1)) ≤ tr (p (m + 1))) : eWS E A la (updN tr (p m) (tr (p m) + 1)) p m ∧ (D → eDI E A la (updN tr (p m) (tr (p m) + 1))) := by
  have w := h.2.1 m (by omega)
  refine ⟨⟨fun i hi => h.1 i (by omega), fun i hi => ?_, fun s hs => ?_⟩, fun d s i x k a1 a2 a3 a4 a5 => ?_⟩
  · rw [updN_n tr _ (h.ne (by omega) (by omega) (by omega))]
    exact h.2.1 i (by omega)
  · by_cases e : s = p m
    · rw [e, updN_s]; exact w.2.1
    · rw [updN_n _ _ e]; exact h.2.2 s hs
  · have np : ∀ y, A y ≤ tr y → y < 561 → y < 561 ∧ A y ≤ updN tr (p m) (tr (p m) + 1) y := fun y c2 c3 => by
      refine ⟨c3, ?_⟩
      by_cases e : y = p m
      · rw [e] at c2; omega
      · rw [updN_n _ _ e]; exact c2
    by_cases e : s = p m
    · subst e
      rw [updN_s] at a2
      rcases Nat.lt_or_ge i (tr (p m)) with q | q
      · obtain ⟨b1, b2⟩ := hD d _ i x k a1 q a3 a4 a5
        exact np x b2 b1
      · have ei : i = tr (p m) := by omega
        rw [ei, w.2.2] at a3
        cases a3
        exact np _ h2 h1
    · rw [updN_n _ _ e] at a2
      obtain ⟨b1, b2⟩ := hD d s i x k a1 a2 a3 a4 a5
      exact np x b2 b1
/-- how far a walk can still go -/
def eM (A tr : Nat → Nat) (m : Nat) : Nat := 2 * sn 612 (fun s => A s - tr s) + (612 - m)
theorem eM_next {A tr : Nat → Nat} {s j m : Nat} (h : tr s ≤ j) (hm : m < 612) : eM A (updN tr s j) (m + 1) + 1 ≤ eM A tr m := by
  have := sn_le (n := 612) (f := fun x => A x - updN tr s j x) (g := fun x => A x - tr x) fun i _ => by
    show A i - updN tr s j i ≤ A i - tr i
    by_cases e : i = s
    · rw [e, updN_s]; omega
    · rw [updN_n _ _ e]; exact Nat.le_refl _
  unfold eM
  omega
theorem eM_back {A tr : Nat → Nat} {s u m : Nat} (hs : s < 612) (h : tr s < A s) (hu : u ≠ s) (h2 : tr u ≤ A u) : eM A (updN (updN tr u (A u)) s (tr s + 1)) m + 1 ≤ eM A tr (m + 1) := by
  have := sn_lt (n := 612) (f := fun x => A x - updN (updN tr u (A u)) s (tr s + 1) x) (g := fun x => A x - tr x) (fun i _ => by
    show A i - updN (updN tr u (A u)) s (tr s + 1) i ≤ A i - tr i
    by_cases e : i = s
    · rw [e, updN_s]; omega
    · rw [updN_n _ _ e]
      by_cases e2 : i = u
      · rw [e2, updN_s]; omega
      · rw [updN_n _ _ e2]; exact Nat.le_refl _) hs (by
    show A s - updN (updN tr u (A u)) s (tr s + 1) s < A s - tr s
    rw [updN_s]; omega)
  unfold eM
  omega
/-- layers from those who are left (l), all over (E) -/
def eLY (E : Nat → Nat → Option Nat) (A l : Nat → Nat) (la : Nat → Option Nat) : Prop := (∀ v, v < 11 → 0 < l v → la (51 * v) = some 0) ∧ (∀ s, s < 612 → la s = some 0 → ∃ v, v < 11 ∧ s = 51 * v ∧ 0 < l v) ∧ (∀ s k, s < 612 → la s = some (k + 1) → ∃ s0 j, s0 < 561 ∧ j < A s0 ∧ la s0 = some k ∧ E s0 j = some s) ∧ (∀ s j s', s < 561 → la s ≠ none → j < A s → E s j = some s' → la s' ≠ none) ∧ ∀ s k, s < 612 → la s = some k → k ≤ 611
/-- if all who are left were tried in vain, no layer comes to the outside -/
theorem eLY.no {E : Nat → Nat → Option Nat} {A l : Nat → Nat} {la : Nat → Option Nat} (h : eLY E A l la) {tr : Nat → Nat} (hD : eDI E A la tr) (h0 : ∀ v, v < 11 → 0 < l v → A (51 * v) ≤ tr (51 * v)) : ∀ k s, s < 612 → la s = some k → s < 561 ∧ A s ≤ tr s := by
  intro k
  induction k with
  | zero =>
    intro s hs e
    obtain ⟨v, hv, rfl, hl⟩ := h.2.1 s hs e
    exact ⟨by omega, h0 v hv hl⟩
  | succ k ih =>
    intro s hs e
    obtain ⟨s0, j, a1, a2, a3, a4⟩ := h.2.2.1 s k hs e
    obtain ⟨b1, b2⟩ := ih s0 (by omega) a3
    exact hD s0 j s k a1 (by omega) a4 a3 e
