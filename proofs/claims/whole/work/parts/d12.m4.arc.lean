/-! PURE: the arcs of a spot, as the class counts them: the ways that touch its node, waiting, taking back -/
def LKs (G : NW) (L : Nat → List Nat) : Prop := ∀ v, v < 12 → (L v).length ≤ 20 ∧ (∀ j x : Nat, (L v)[j]? = some x → (x < 20 → x < G.n ∧ G.fr x = v) ∧ (20 ≤ x → x - 20 < G.n ∧ G.to (x - 20) = v)) ∧ ∀ w, w < G.n → (G.fr w = v → ∃ j : Nat, (L v)[j]? = some w) ∧ (G.to w = v → ∃ j : Nat, (L v)[j]? = some (w + 20))
def aA (L : Nat → List Nat) (s : Nat) : Nat := (L (s / 51)).length + 2
def aX (L : Nat → List Nat) (s j : Nat) : Nat := ((L (s / 51))[j]?).getD 0
def aN (G : NW) (L : Nat → List Nat) (T : Nat) (g : Nat → Nat) (s j : Nat) : Option Nat :=
  if j = (L (s / 51)).length then (if s % 51 < T then some (s + 1) else none)
  else if j < (L (s / 51)).length then
    (if aX L s j < 20 then (if s % 51 + G.tm (aX L s j) ≤ T ∧ g (51 * aX L s j + s % 51) < G.wd (aX L s j) then some (51 * G.to (aX L s j) + (s % 51 + G.tm (aX L s j))) else none)
     else (if G.tm (aX L s j - 20) ≤ s % 51 ∧ 0 < g (51 * (aX L s j - 20) + (s % 51 - G.tm (aX L s j - 20))) then some (51 * G.fr (aX L s j - 20) + (s % 51 - G.tm (aX L s j - 20))) else none))
  else (if 0 < s % 51 ∧ 0 < g (1020 + (s - 1)) then some (s - 1) else none)
def aK (G : NW) (L : Nat → List Nat) (s j : Nat) : Nat :=
  if j = (L (s / 51)).length then 1020 + s
  else if j < (L (s / 51)).length then (if aX L s j < 20 then 51 * aX L s j + s % 51 else 51 * (aX L s j - 20) + (s % 51 - G.tm (aX L s j - 20)))
  else 1020 + (s - 1)
def aF (L : Nat → List Nat) (s j : Nat) : Bool := decide (j = (L (s / 51)).length) || (decide (j < (L (s / 51)).length) && decide (aX L s j < 20))
theorem aX_of {L : Nat → List Nat} {s j x : Nat} (h : (L (s / 51))[j]? = some x) : aX L s j = x ∧ j < (L (s / 51)).length := by
  refine ⟨by unfold aX; rw [h]; rfl, ?_⟩
  rcases Nat.lt_or_ge j (L (s / 51)).length with q | q
  · exact q
  · rw [List.getElem?_eq_none q] at h; cases h
theorem aX_get {L : Nat → List Nat} {s j : Nat} (h : j < (L (s / 51)).length) : (L (s / 51))[j]? = some (aX L s j) := by
  unfold aX; rw [List.getElem?_eq_getElem h]; rfl
theorem aN_key {G : NW} (ok : G.ok) {L : Nat → List Nat} (hL : LKs G L) {T : Nat} (hT : T ≤ 50) {g : Nat → Nat} (hz : ∀ a, a < 1632 → ¬ kV G T a → g a = 0) {s j s' : Nat} (hs : s < 612) (hs1 : s % 51 ≤ T) (h : aN G L T g s j = some s') : (kV G T (aK G L s j) ∧ s' < 612 ∧ s' % 51 ≤ T ∧ s' ≠ s) ∧ (aF L s j = true → kS G (aK G L s j) = s ∧ kD G (aK G L s j) = s' ∧ (aK G L s j < 1020 → g (aK G L s j) < G.wd (aK G L s j / 51))) ∧ (aF L s j = false → kD G (aK G L s j) = s ∧ kS G (aK G L s j) = s' ∧ 0 < g (aK G L s j)) := by
  have pos : ∀ a, a < 1632 → 0 < g a → kV G T a := fun a ha hp => Classical.byContradiction fun q => by rw [hz a ha q] at hp; omega
  unfold aN at h
  unfold aK aF
  by_cases h1 : j = (L (s / 51)).length
  · rw [if_pos h1] at h
    rw [if_pos h1]
    by_cases h2 : s % 51 < T
    · rw [if_pos h2] at h
      have e : s + 1 = s' := by simpa using h
      subst e
      refine ⟨⟨Or.inr ⟨by omega, by omega, by omega⟩, by omega, by omega, by omega⟩, fun _ => ⟨?_, ?_, fun c => by omega⟩, fun c => by simp [h1] at c⟩
      · unfold kS; rw [if_neg (by omega)]; omega
      · unfold kD; rw [if_neg (by omega)]; omega
    · rw [if_neg h2] at h; cases h
  · rw [if_neg h1] at h
    rw [if_neg h1]
    by_cases h2 : j < (L (s / 51)).length
    · rw [if_pos h2] at h
      rw [if_pos h2]
      have m := (hL (s / 51) (by omega)).2.1 j _ (aX_get h2)
      obtain ⟨x, hx⟩ : ∃ x, x = aX L s j := ⟨_, rfl⟩
      rw [← hx] at h m ⊢
      by_cases h3 : x < 20
      · rw [if_pos h3] at h
        rw [if_pos h3]
        obtain ⟨m1, m2⟩ := m.1 h3
        have o := ok.2 x m1
        by_cases h4 : s % 51 + G.tm x ≤ T ∧ g (51 * x + s % 51) < G.wd x
        · rw [if_pos h4] at h
          have e : 51 * G.to x + (s % 51 + G.tm x) = s' := by simpa using h
          have d1 : (51 * x + s % 51) / 51 = x := by omega
          have d2 : (51 * x + s % 51) % 51 = s % 51 := by omega
          refine ⟨⟨Or.inl ⟨by omega, by rw [d1]; exact m1, by rw [d1, d2]; exact h4.1⟩, by omega, by omega, by omega⟩, fun _ => ⟨?_, ?_, fun _ => by rw [d1]; exact h4.2⟩, fun c => by simp [h1, h2, h3] at c⟩
          · unfold kS; rw [if_pos (by omega), d1, d2, m2]; omega
          · unfold kD; rw [if_pos (by omega), d1, d2]; exact e
        · rw [if_neg h4] at h; cases h
      · rw [if_neg h3] at h
        rw [if_neg h3]
        obtain ⟨m1, m2⟩ := m.2 (by omega)
        have hn := ok.1
        obtain ⟨w, hw⟩ : ∃ w, w = x - 20 := ⟨_, rfl⟩
        rw [← hw] at h m1 m2 ⊢
        have o := ok.2 w m1
        by_cases h4 : G.tm w ≤ s % 51 ∧ 0 < g (51 * w + (s % 51 - G.tm w))
        · rw [if_pos h4] at h
          have e : 51 * G.fr w + (s % 51 - G.tm w) = s' := by simpa using h
          have d1 : (51 * w + (s % 51 - G.tm w)) / 51 = w := by omega
          have d2 : (51 * w + (s % 51 - G.tm w)) % 51 = s % 51 - G.tm w := by omega
          refine ⟨⟨pos _ (by omega) h4.2, by omega, by omega, by omega⟩, fun c => by simp [h1, h3] at c, fun _ => ⟨?_, ?_, h4.2⟩⟩
          · unfold kD; rw [if_pos (by omega), d1, d2, m2]; omega
          · unfold kS; rw [if_pos (by omega), d1, d2]; exact e
        · rw [if_neg h4] at h; cases h
    · rw [if_neg h2] at h
      rw [if_neg h2]
      by_cases h4 : 0 < s % 51 ∧ 0 < g (1020 + (s - 1))
      · rw [if_pos h4] at h
        have e : s - 1 = s' := by simpa using h
        refine ⟨⟨pos _ (by omega) h4.2, by omega, by omega, by omega⟩, fun c => by simp [h1, h2] at c, fun _ => ⟨?_, ?_, h4.2⟩⟩
        · unfold kD; rw [if_neg (by omega)]; omega
        · unfold kS; rw [if_neg (by omega)]; omega
      · rw [if_neg h4] at h; cases h
theorem aN_fw {G : NW} (ok : G.ok) {L : Nat → List Nat} (hL : LKs G L) {T : Nat} (hT : T ≤ 50) {g : Nat → Nat} {a : Nat} (hk : kV G T a) (hr : a < 1020 → g a < G.wd (a / 51)) : ∃ j, j < aA L (kS G a) ∧ aN G L T g (kS G a) j = some (kD G a) := by
  rcases hk with ⟨k1, k2, k3⟩ | ⟨k1, k2, k3⟩
  · have o := ok.2 _ k2
    have hn := ok.1
    have eS : kS G a = 51 * G.fr (a / 51) + a % 51 := by unfold kS; rw [if_pos k1]
    have eD : kD G a = 51 * G.to (a / 51) + (a % 51 + G.tm (a / 51)) := by unfold kD; rw [if_pos k1]
    have d1 : kS G a / 51 = G.fr (a / 51) := by omega
    have d2 : kS G a % 51 = a % 51 := by omega
    obtain ⟨j, hj⟩ := ((hL (G.fr (a / 51)) (by omega)).2.2 (a / 51) k2).1 rfl
    rw [← d1] at hj
    obtain ⟨x1, x2⟩ := aX_of hj
    refine ⟨j, by unfold aA; omega, ?_⟩
    unfold aN
    rw [if_neg (by omega), if_pos x2, x1, if_pos (by omega), d2, if_pos ⟨k3, by rw [show 51 * (a / 51) + a % 51 = a by omega]; exact hr k1⟩, eD]
  · have eS : kS G a = a - 1020 := by unfold kS; rw [if_neg (by omega)]
    have eD : kD G a = a - 1020 + 1 := by unfold kD; rw [if_neg (by omega)]
    refine ⟨(L (kS G a / 51)).length, by unfold aA; omega, ?_⟩
    unfold aN
    rw [if_pos rfl, eS, if_pos k3, eD]
theorem aN_bw {G : NW} (ok : G.ok) {L : Nat → List Nat} (hL : LKs G L) {T : Nat} (hT : T ≤ 50) {g : Nat → Nat} {a : Nat} (hk : kV G T a) (hr : 0 < g a) : ∃ j, j < aA L (kD G a) ∧ aN G L T g (kD G a) j = some (kS G a) := by
  rcases hk with ⟨k1, k2, k3⟩ | ⟨k1, k2, k3⟩
  · have o := ok.2 _ k2
    have hn := ok.1
    have eS : kS G a = 51 * G.fr (a / 51) + a % 51 := by unfold kS; rw [if_pos k1]
    have eD : kD G a = 51 * G.to (a / 51) + (a % 51 + G.tm (a / 51)) := by unfold kD; rw [if_pos k1]
    have d1 : kD G a / 51 = G.to (a / 51) := by omega
    have d2 : kD G a % 51 = a % 51 + G.tm (a / 51) := by omega
    obtain ⟨j, hj⟩ := ((hL (G.to (a / 51)) (by omega)).2.2 (a / 51) k2).2 rfl
    rw [← d1] at hj
    obtain ⟨x1, x2⟩ := aX_of hj
    refine ⟨j, by unfold aA; omega, ?_⟩
    unfold aN
    rw [if_neg (by omega), if_pos x2, x1, if_neg (by omega), show a / 51 + 20 - 20 = a / 51 by omega, d2, show a % 51 + G.tm (a / 51) - G.tm (a / 51) = a % 51 by omega, if_pos ⟨by omega, by rw [show 51 * (a / 51) + a % 51 = a by omega]; exact hr⟩, eS]
  · have eS : kS G a = a - 1020 := by unfold kS; rw [if_neg (by omega)]
    have eD : kD G a = a - 1020 + 1 := by unfold kD; rw [if_neg (by omega)]
    refine ⟨(L (kD G a / 51)).length + 1, by unfold aA; omega, ?_⟩
    unfold aN
    rw [if_neg (by omega), if_neg (by omega), eD, if_pos ⟨by omega, by rw [show 1020 + (a - 1020 + 1 - 1) = a by omega]; exact hr⟩, eS, show a - 1020 + 1 - 1 = a - 1020 by omega]
theorem stuck_of {G : NW} (ok : G.ok) {L : Nat → List Nat} (hL : LKs G L) {T : Nat} (hT : T ≤ 50) {g l : Nat → Nat} {R : Nat → Bool} (h1 : ∀ v, v < 11 → 0 < l v → R (51 * v) = true) (h2 : ∀ s, 561 ≤ s → s < 612 → R s = false) (h3 : ∀ s j s', s < 561 → R s = true → j < aA L s → aN G L T g s j = some s' → R s' = true) : Stuck G T l (iN g) := by
  have lt : ∀ s, s < 612 → R s = true → s < 561 := fun s hs hr => by
    rcases Nat.lt_or_ge s 561 with q | q
    · exact q
    · rw [h2 s q hs] at hr; cases hr
  refine ⟨R, h1, h2, fun a hk hr hc => ?_, fun a hk hr hc => ?_⟩
  · have hc : a < 1020 → g a < G.wd (a / 51) := fun c => by
      have : ((g a : Nat) : Int) < ((G.wd (a / 51) : Nat) : Int) := hc c
      omega
    obtain ⟨j, hj, e⟩ := aN_fw ok hL hT hk hc
    exact h3 _ j _ (lt _ (hk.dst ok hT).2 hr) hr hj e
  · have hc : 0 < g a := by
      have : (0 : Int) < ((g a : Nat) : Int) := hc
      omega
    obtain ⟨j, hj, e⟩ := aN_bw ok hL hT hk hc
    exact h3 _ j _ (lt _ (hk.dst ok hT).1 hr) hr hj e
/-- a path by arcs over different spots uses no key twice -/
theorem key_ne {G : NW} {p q : Nat → Nat} {m : Nat} (hp : ∀ i j, i < j → j ≤ m → p i ≠ p j) (h : ∀ i, i < m → (kS G (q i) = p i ∧ kD G (q i) = p (i + 1)) ∨ (kD G (q i) = p i ∧ kS G (q i) = p (i + 1))) : ∀ i j, i < j → j < m → q i ≠ q j := fun i j hi hj e => by
  have a := h i (by omega)
  have b := h j hj
  rw [e] at a
  have n1 := hp i j hi (by omega)
  have n2 := hp i (j + 1) (by omega) (by omega)
  rcases a with ⟨a1, a2⟩ | ⟨a1, a2⟩ <;> rcases b with ⟨b1, b2⟩ | ⟨b1, b2⟩
  · exact n1 (a1.symm.trans b1)
  · exact n2 (a1.symm.trans b2)
  · exact n2 (a1.symm.trans b2)
  · exact n1 (a1.symm.trans b1)
