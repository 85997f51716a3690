/-! PURE: the reference's search over its edges -/
def updC (f : Nat → Option (Option Nat)) (k : Nat) (v : Option (Option Nat)) : Nat → Option (Option Nat) := fun j => if j = k then v else f j
theorem updC_s (f : Nat → Option (Option Nat)) (k : Nat) (v : Option (Option Nat)) : updC f k v k = v := if_pos rfl
theorem updC_n (f : Nat → Option (Option Nat)) {k j : Nat} (v : Option (Option Nat)) (h : j ≠ k) : updC f k v j = f j := if_neg h
/-- how far the search is: queue Q of b spots; C: how each spot was come to (none: not yet; some none: from there; some (some e): over e) -/
def rB (M : Nat) (es ed er l : Nat → Nat) (C : Nat → Option (Option Nat)) (Q : Nat → Nat) (b : Nat) : Prop := (∀ i, i < b → Q i < 612 ∧ C (Q i) ≠ none) ∧ (∀ i j, i < j → j < b → Q i ≠ Q j) ∧ (∀ s, s < 612 → C s ≠ none → ∃ i, i < b ∧ Q i = s) ∧ (∀ s, s < 612 → C s = some none → ∃ v, v < 11 ∧ s = 51 * v ∧ 0 < l v) ∧ ∀ i e, i < b → C (Q i) = some (some e) → e < M ∧ ed e = Q i ∧ 0 < er e ∧ ∃ k, k < i ∧ es e = Q k
theorem rB.lt {M : Nat} {es ed er l : Nat → Nat} {C : Nat → Option (Option Nat)} {Q : Nat → Nat} {b : Nat} (pig : ∀ (m n : Nat) (f : Nat → Nat), (∀ i, i < n → f i < m) → (∀ i j, i < j → j < n → f i ≠ f j) → n ≤ m) (h : rB M es ed er l C Q b) {x : Nat} (hx : x < 612) (hn : C x = none) : b < 612 := by
  have nq : ∀ i, i < b → Q i ≠ x := fun i hi e => (h.1 i hi).2 (by rw [e]; exact hn)
  have := pig 612 (b + 1) (updN Q b x) (fun i hi => by
    by_cases e : i = b
    · rw [e, updN_s]; exact hx
    · rw [updN_n _ _ e]; exact (h.1 i (by omega)).1) (fun i j hi hj => by
    by_cases e : j = b
    · rw [e, updN_s, updN_n _ _ (by omega)]; exact nq i (by omega)
    · rw [updN_n _ _ e, updN_n _ _ (by omega)]; exact h.2.1 i j hi (by omega))
  omega
theorem rB.add {M : Nat} {es ed er l : Nat → Nat} {C : Nat → Option (Option Nat)} {Q : Nat → Nat} {b : Nat} (h : rB M es ed er l C Q b) {x : Nat} {y : Option Nat} (hx : x < 612) (hn : C x = none) (hy : (y = none ∧ ∃ v, v < 11 ∧ x = 51 * v ∧ 0 < l v) ∨ ∃ e k, y = some e ∧ e < M ∧ ed e = x ∧ 0 < er e ∧ k < b ∧ es e = Q k) : rB M es ed er l (updC C x (some y)) (updN Q b x) (b + 1) := by
  obtain ⟨h1, h2, h3, h4, h5⟩ := h
  have nq : ∀ i, i < b → Q i ≠ x := fun i hi e => (h1 i hi).2 (by rw [e]; exact hn)
  refine ⟨fun i hi => ?_, fun i j hi hj => ?_, fun s hs hc => ?_, fun s hs hc => ?_, fun i e hi hc => ?_⟩
  · by_cases e : i = b
    · rw [e, updN_s, updC_s]; exact ⟨hx, fun c => by cases c⟩
    · rw [updN_n _ _ e, updC_n _ _ (nq i (by omega))]; exact h1 i (by omega)
  · by_cases e : j = b
    · rw [e, updN_s, updN_n _ _ (by omega)]; exact nq i (by omega)
    · rw [updN_n _ _ e, updN_n _ _ (by omega)]; exact h2 i j hi (by omega)
  · by_cases e : s = x
    · exact ⟨b, by omega, by rw [updN_s, e]⟩
    · rw [updC_n _ _ e] at hc
      obtain ⟨i, hi, q⟩ := h3 s hs hc
      exact ⟨i, by omega, by rw [updN_n _ _ (by omega)]; exact q⟩
  · by_cases e : s = x
    · rw [e, updC_s] at hc
      rcases hy with ⟨-, v, v1, v2, v3⟩ | ⟨e', k, y1, -⟩
      · exact ⟨v, v1, by rw [e, v2], v3⟩
      · rw [y1] at hc; simp at hc
    · rw [updC_n _ _ e] at hc; exact h4 s hs hc
  · by_cases q : i = b
    · rw [q, updN_s, updC_s] at hc
      rcases hy with ⟨y1, -⟩ | ⟨e', k, y1, y2, y3, y4, y5, y6⟩
      · rw [y1] at hc; simp at hc
      · have ee : e' = e := by rw [y1] at hc; simpa using hc
        subst ee
        exact ⟨y2, by rw [q, updN_s]; exact y3, y4, k, by omega, by rw [updN_n _ _ (by omega)]; exact y6⟩
    · rw [updN_n _ _ q, updC_n _ _ (nq i (by omega))] at hc
      obtain ⟨a1, a2, a3, k, a4, a5⟩ := h5 i e (by omega) hc
      exact ⟨a1, by rw [updN_n _ _ q]; exact a2, a3, k, a4, by rw [updN_n _ _ (by omega)]; exact a5⟩
/-- the way back from a spot of the queue -/
def rP (M : Nat) (es ed er : Nat → Nat) (C : Nat → Option (Option Nat)) (Q : Nat → Nat) (b m : Nat) (P E : Nat → Nat) : Prop := (∀ j, j ≤ m → P j < b) ∧ (∀ j, j < m → P (j + 1) < P j ∧ C (Q (P j)) = some (some (E j)) ∧ es (E j) = Q (P (j + 1)) ∧ ed (E j) = Q (P j) ∧ E j < M ∧ 0 < er (E j)) ∧ C (Q (P m)) = some none
theorem rB.path {M : Nat} {es ed er l : Nat → Nat} {C : Nat → Option (Option Nat)} {Q : Nat → Nat} {b : Nat} (h : rB M es ed er l C Q b) : ∀ n i, i < n → i < b → ∃ m P E, P 0 = i ∧ m ≤ i ∧ rP M es ed er C Q b m P E := by
  intro n
  induction n with
  | zero => intro i hi; omega
  | succ n ih =>
    intro i hi hb
    cases q : C (Q i) with
    | none => exact absurd q (h.1 i hb).2
    | some y =>
      cases y with
      | none => exact ⟨0, fun _ => i, fun _ => 0, rfl, Nat.zero_le _, fun _ _ => hb, fun j hj => by omega, q⟩
      | some e =>
        obtain ⟨a1, a2, a3, k, a4, a5⟩ := h.2.2.2.2 i e hb q
        obtain ⟨m, P, E, b1, b2, b3, b4, b5⟩ := ih k (by omega) (by omega)
        refine ⟨m + 1, fun j => if j = 0 then i else P (j - 1), fun j => if j = 0 then e else E (j - 1), rfl, by omega, fun j hj => ?_, fun j hj => ?_, ?_⟩
        · show (if j = 0 then i else P (j - 1)) < b
          by_cases z : j = 0
          · rw [if_pos z]; exact hb
          · rw [if_neg z]; exact b3 _ (by omega)
        · show (if j + 1 = 0 then i else P (j + 1 - 1)) < (if j = 0 then i else P (j - 1)) ∧ C (Q (if j = 0 then i else P (j - 1))) = some (some (if j = 0 then e else E (j - 1))) ∧ es (if j = 0 then e else E (j - 1)) = Q (if j + 1 = 0 then i else P (j + 1 - 1)) ∧ ed (if j = 0 then e else E (j - 1)) = Q (if j = 0 then i else P (j - 1)) ∧ (if j = 0 then e else E (j - 1)) < M ∧ 0 < er (if j = 0 then e else E (j - 1))
          rw [if_neg (show ¬ j + 1 = 0 by omega), show j + 1 - 1 = j by omega]
          by_cases z : j = 0
          · rw [if_pos z, if_pos z, z, b1]; exact ⟨a4, q, a5, a2, a1, a3⟩
          · rw [if_neg z, if_neg z]
            have := b4 (j - 1) (by omega)
            rw [show j - 1 + 1 = j by omega] at this
            exact this
        · show C (Q (if m + 1 = 0 then i else P (m + 1 - 1))) = some none
          rw [if_neg (by omega), show m + 1 - 1 = m by omega]; exact b5
theorem rP.ne {M : Nat} {es ed er : Nat → Nat} {C : Nat → Option (Option Nat)} {Q : Nat → Nat} {b m : Nat} {P E : Nat → Nat} (h : rP M es ed er C Q b m P E) : ∀ d i, i + (d + 1) ≤ m → P (i + (d + 1)) < P i := by
  intro d
  induction d with
  | zero => intro i hi; exact (h.2.1 i (by omega)).1
  | succ d ih =>
    intro i hi
    have a := ih i (by omega)
    have b := (h.2.1 (i + (d + 1)) (by omega)).1
    rw [show i + (d + 1) + 1 = i + (d + 1 + 1) by omega] at b
    omega
/-! PURE: the reference's edges: 2 j along key kap j, 2 j + 1 back -/
def cp (G : NW) (a : Nat) : Nat := if a < 1020 then G.wd (a / 51) else 6000
def rS (G : NW) (kap : Nat → Nat) (e : Nat) : Nat := if e % 2 = 0 then kS G (kap (e / 2)) else kD G (kap (e / 2))
def rD (G : NW) (kap : Nat → Nat) (e : Nat) : Nat := if e % 2 = 0 then kD G (kap (e / 2)) else kS G (kap (e / 2))
def rR (G : NW) (kap g : Nat → Nat) (e : Nat) : Nat := if e % 2 = 0 then cp G (kap (e / 2)) - g (kap (e / 2)) else g (kap (e / 2))
/-- the keys of the pairs of edges -/
def KA (X : Nat → Prop) (N : Nat) (kap : Nat → Nat) : Prop := (∀ j, j < N → X (kap j)) ∧ (∀ i j, i < j → j < N → kap i ≠ kap j) ∧ ∀ a, X a → ∃ j, j < N ∧ kap j = a
theorem KA.add {X : Nat → Prop} {N : Nat} {kap : Nat → Nat} (h : KA X N kap) {k : Nat} (hk : ¬ X k) : KA (fun a => X a ∨ a = k) (N + 1) (updN kap N k) := by
  refine ⟨fun j hj => ?_, fun i j hi hj => ?_, fun a ha => ?_⟩
  · show X (updN kap N k j) ∨ updN kap N k j = k
    by_cases e : j = N
    · rw [e, updN_s]; exact Or.inr rfl
    · rw [updN_n _ _ e]; exact Or.inl (h.1 j (by omega))
  · rw [updN_n _ _ (show i ≠ N by omega)]
    by_cases e : j = N
    · rw [e, updN_s]; exact fun c => hk (c ▸ h.1 i (by omega))
    · rw [updN_n _ _ e]; exact h.2.1 i j hi (by omega)
  · rcases ha with ha | ha
    · obtain ⟨j, hj, e⟩ := h.2.2 a ha
      exact ⟨j, by omega, by rw [updN_n _ _ (by omega)]; exact e⟩
    · exact ⟨N, by omega, by rw [updN_s, ha]⟩
theorem KA.c {X Y : Nat → Prop} {N : Nat} {kap : Nat → Nat} (h : KA X N kap) (e : ∀ a, X a ↔ Y a) : KA Y N kap := ⟨fun j hj => (e _).mp (h.1 j hj), h.2.1, fun a ha => h.2.2 a ((e a).mpr ha)⟩
/-- the keys whose edges stand: by t - 1, and of time t the first w ways and v waits -/
def kX (G : NW) (t w v a : Nat) : Prop := (a < 1020 ∧ a / 51 < G.n ∧ (a % 51 + G.tm (a / 51) < t ∨ (a % 51 + G.tm (a / 51) = t ∧ a / 51 < w))) ∨ (1020 ≤ a ∧ a < 1632 ∧ ((a - 1020) % 51 + 1 < t ∨ ((a - 1020) % 51 + 1 = t ∧ (a - 1020) / 51 < v)))
theorem kX_V {G : NW} (t a : Nat) : kX G t G.n 12 a ↔ kV G t a := by
  unfold kX kV
  constructor
  · rintro (⟨a1, a2, a3⟩ | ⟨a1, a2, a3⟩)
    · exact Or.inl ⟨a1, a2, by omega⟩
    · exact Or.inr ⟨a1, a2, by omega⟩
  · rintro (⟨a1, a2, a3⟩ | ⟨a1, a2, a3⟩)
    · exact Or.inl ⟨a1, a2, by omega⟩
    · exact Or.inr ⟨a1, a2, by omega⟩
theorem kV_X {G : NW} (t a : Nat) : kV G t a ↔ kX G (t + 1) 0 0 a := by
  unfold kX kV
  constructor
  · rintro (⟨a1, a2, a3⟩ | ⟨a1, a2, a3⟩)
    · exact Or.inl ⟨a1, a2, by omega⟩
    · exact Or.inr ⟨a1, a2, by omega⟩
  · rintro (⟨a1, a2, a3⟩ | ⟨a1, a2, a3⟩)
    · exact Or.inl ⟨a1, a2, by omega⟩
    · exact Or.inr ⟨a1, a2, by omega⟩
theorem kX_50 {G : NW} {t w v a : Nat} (ht : t ≤ 50) (h : kX G t w v a) : kV G 50 a := by
  unfold kX at h
  unfold kV
  rcases h with ⟨a1, a2, a3⟩ | ⟨a1, a2, a3⟩
  · exact Or.inl ⟨a1, a2, by omega⟩
  · exact Or.inr ⟨a1, a2, by omega⟩
theorem kX_w1 {G : NW} {t w v : Nat} (hw : w < G.n) (hn : G.n ≤ 20) (ht : t ≤ 50) (h1 : 1 ≤ G.tm w) (h : G.tm w ≤ t) : (¬ kX G t w v (51 * w + (t - G.tm w))) ∧ ∀ a, (kX G t w v a ∨ a = 51 * w + (t - G.tm w)) ↔ kX G t (w + 1) v a := by
  have d1 : (51 * w + (t - G.tm w)) / 51 = w := by omega
  have d2 : (51 * w + (t - G.tm w)) % 51 = t - G.tm w := by omega
  refine ⟨fun c => ?_, fun a => ⟨fun c => ?_, fun c => ?_⟩⟩
  · unfold kX at c
    rw [d1, d2] at c
    omega
  · rcases c with c | c
    · unfold kX at c ⊢
      rcases c with ⟨a1, a2, a3⟩ | c
      · exact Or.inl ⟨a1, a2, by omega⟩
      · exact Or.inr c
    · unfold kX
      rw [c, d1, d2]
      exact Or.inl ⟨by omega, by omega, Or.inr ⟨by omega, by omega⟩⟩
  · unfold kX at c ⊢
    rcases c with ⟨a1, a2, a3⟩ | c
    · by_cases e : a / 51 = w
      · rw [e] at a3
        rcases a3 with a3 | a3
        · exact Or.inl (Or.inl ⟨a1, a2, by rw [e]; exact Or.inl a3⟩)
        · exact Or.inr (by omega)
      · exact Or.inl (Or.inl ⟨a1, a2, by omega⟩)
    · exact Or.inl (Or.inr c)
theorem kX_w0 {G : NW} {t w v : Nat} (h : t < G.tm w) : ∀ a, kX G t w v a ↔ kX G t (w + 1) v a := fun a => by
  unfold kX
  constructor
  · rintro (⟨a1, a2, a3⟩ | c)
    · exact Or.inl ⟨a1, a2, by omega⟩
    · exact Or.inr c
  · rintro (⟨a1, a2, a3⟩ | c)
    · refine Or.inl ⟨a1, a2, ?_⟩
      by_cases e : a / 51 = w
      · rw [e] at a3 ⊢; omega
      · omega
    · exact Or.inr c
theorem kX_v1 {G : NW} {t w v : Nat} (hv : v < 12) (ht : t ≤ 50) (h : 0 < t) : (¬ kX G t w v (1020 + (51 * v + (t - 1)))) ∧ ∀ a, (kX G t w v a ∨ a = 1020 + (51 * v + (t - 1))) ↔ kX G t w (v + 1) a := by
  refine ⟨fun c => ?_, fun a => ⟨fun c => ?_, fun c => ?_⟩⟩
  · unfold kX at c
    omega
  · rcases c with c | c
    · unfold kX at c ⊢
      rcases c with c | ⟨a1, a2, a3⟩
      · exact Or.inl c
      · exact Or.inr ⟨a1, a2, by omega⟩
    · unfold kX
      rw [c]
      exact Or.inr ⟨by omega, by omega, Or.inr ⟨by omega, by omega⟩⟩
  · unfold kX at c ⊢
    rcases c with c | ⟨a1, a2, a3⟩
    · exact Or.inl (Or.inl c)
    · rcases a3 with a3 | ⟨a3, a4⟩
      · exact Or.inl (Or.inr ⟨a1, a2, Or.inl a3⟩)
      · by_cases e : (a - 1020) / 51 = v
        · exact Or.inr (by omega)
        · exact Or.inl (Or.inr ⟨a1, a2, Or.inr ⟨a3, by omega⟩⟩)
/-- at time 0 nobody waits -/
theorem kX_v0 {G : NW} {w v v' : Nat} : ∀ a, kX G 0 w v a ↔ kX G 0 w v' a := fun a => by
  unfold kX
  constructor
  · rintro (c | ⟨a1, a2, a3⟩)
    · exact Or.inl c
    · omega
  · rintro (c | ⟨a1, a2, a3⟩)
    · exact Or.inl c
    · omega
/-- no way is through in no time -/
theorem kX_0 {G : NW} : ∀ a, ¬ kX G 0 0 0 a := fun a c => by
  unfold kX at c
  omega
