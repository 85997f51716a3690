/-! PURE: the class sends along a walk -/
theorem min_n {st : St} (fu : Nat) {a b : Nat} (ha : a < 2147483648) (hb : b < 2147483648) : f_J9_min_7cf53 fu (nI a) (nI b) st = some (nI (if b < a then b else a), st) := by
  by_cases h : b < a
  · rw [if_pos h]; simp (disch := omega) [f_J9_min_7cf53, b_J9_min_7cf53_10, NF, NC]
  · rw [if_neg h]; simp (disch := omega) [f_J9_min_7cf53, b_J9_min_7cf53_10, NF, NC]
theorem aR_key {G : NW} (ok : G.ok) {L : Nat → List Nat} (hL : LKs G L) {T : Nat} {g : Nat → Nat} {s j s' : Nat} (hs : s < 612) (h : aN G L T g s j = some s') : 0 < aR G L g s j ∧ (aF L s j = true → aK G L s j < 1020 → g (aK G L s j) + aR G L g s j ≤ G.wd (aK G L s j / 51)) ∧ (aF L s j = false → aR G L g s j ≤ g (aK G L s j)) := by
  have hn := ok.1
  unfold aN at h
  unfold aK aF aR
  by_cases h1 : j = (L (s / 51)).length
  · rw [if_pos h1, if_pos h1]
    exact ⟨by omega, fun _ c => by omega, fun c => by simp [h1] at c⟩
  · rw [if_neg h1] at h
    rw [if_neg h1, if_neg h1]
    by_cases h2 : j < (L (s / 51)).length
    · rw [if_pos h2] at h
      rw [if_pos h2, if_pos h2]
      have m := (hL (s / 51) (by omega)).2.1 j _ (aX_get h2)
      obtain ⟨x, hx⟩ : ∃ x, x = aX L s j := ⟨_, rfl⟩
      rw [← hx] at h m ⊢
      by_cases h3 : x < 20
      · rw [if_pos h3] at h
        rw [if_pos h3, if_pos h3]
        by_cases h4 : s % 51 + G.tm x ≤ T ∧ g (51 * x + s % 51) < G.wd x
        · have h5 := h4.2
          exact ⟨by omega, fun _ _ => by rw [show (51 * x + s % 51) / 51 = x by omega]; omega, fun c => by simp [h1, h2, h3] at c⟩
        · rw [if_neg h4] at h; cases h
      · rw [if_neg h3] at h
        rw [if_neg h3, if_neg h3]
        by_cases h4 : G.tm (x - 20) ≤ s % 51 ∧ 0 < g (51 * (x - 20) + (s % 51 - G.tm (x - 20)))
        · exact ⟨h4.2, fun c => by simp [h1, h3] at c, fun _ => Nat.le_refl _⟩
        · rw [if_neg h4] at h; cases h
    · rw [if_neg h2] at h
      rw [if_neg h2, if_neg h2]
      by_cases h4 : 0 < s % 51 ∧ 0 < g (1020 + (s - 1))
      · exact ⟨h4.2, fun c => by simp [h1, h2] at c, fun _ => Nat.le_refl _⟩
      · rw [if_neg h4] at h; cases h
theorem aR_up {G : NW} (ok : G.ok) {L : Nat → List Nat} (hL : LKs G L) {g : Nat → Nat} (hg : ∀ a, g a ≤ 1000) {s j : Nat} (hs : s < 612) : aR G L g s j ≤ 1000000 := by
  unfold aR
  by_cases h1 : j = (L (s / 51)).length
  · rw [if_pos h1]; omega
  · rw [if_neg h1]
    by_cases h2 : j < (L (s / 51)).length
    · rw [if_pos h2]
      have m := (hL (s / 51) (by omega)).2.1 j _ (aX_get h2)
      by_cases h3 : aX L s j < 20
      · rw [if_pos h3]
        have := (ok.2 _ (m.1 h3).1).2.2.2.2.1
        omega
      · rw [if_neg h3]; have := hg (51 * (aX L s j - 20) + (s % 51 - G.tm (aX L s j - 20))); omega
    · rw [if_neg h2]; have := hg (1020 + (s - 1)); omega
theorem narrow_l {G : NW} (ok : G.ok) {L : Nat → List Nat} (hL : LKs G L) {g : Nat → Nat} {st : St} (hT : Top st) (hC : CD G L g st) (fu : Nat) {T : Nat} {la : Nat → Option Nat} {tr p : Nat → Nat} {m : Nat} (hm : m ≤ 611) (hW : eWT la tr p m st) (hE : eWS (aN G L T g) (aA L) la tr p m) : ∀ F i y, i ≤ m → m - i < F → y ≤ 1000000 → ∃ z, z ≤ y ∧ (∀ k, i ≤ k → k < m → z ≤ aR G L g (p k) (tr (p k))) ∧ (0 < y → 0 < z) ∧ b_X10_narrowest_5 fu F 139 (nI m) (nI y) (nI i) st = some (nI z, st) := by
  intro F
  induction F with
  | zero => intro i y h1 h2; omega
  | succ F ih =>
    intro i y h1 h2 h3
    by_cases e : i = m
    · refine ⟨y, Nat.le_refl _, fun k a b => by omega, fun h => h, ?_⟩
      show b_X10_narrowest_5_b fu (b_X10_narrowest_5 fu F) 139 (nI m) (nI y) (nI i) st = _
      rw [e]
      simp (disch := first | decide | omega) [↓bd_e, isb, ck_tt, NP, NF, NC, NB, NS, GS, kdC, tpC hT, b_X10_narrowest_5_b]
    · obtain ⟨a1, a2, a3⟩ := hE.2.1 i (by omega)
      have w := hW.2.2 i (by omega)
      have t := hW.2.1 (p i) (by omega)
      have ro := roomOf_c ok hL hT hC fu (by omega) a2 a3
      have rk := aR_key ok hL (show p i < 612 by omega) a3
      have ru := aR_up ok hL (g := g) hC.2.2.2.2.2 (j := tr (p i)) (show p i < 612 by omega)
      have mn := min_n (st := st) fu (a := y) (b := aR G L g (p i) (tr (p i))) (by omega) (by omega)
      have p6 : p i < 612 := by omega
      obtain ⟨y', hy'⟩ : ∃ y', y' = (if aR G L g (p i) (tr (p i)) < y then aR G L g (p i) (tr (p i)) else y) := ⟨_, rfl⟩
      rw [← hy'] at mn
      have hy1 : y' ≤ y ∧ y' ≤ aR G L g (p i) (tr (p i)) ∧ (0 < y → 0 < y') := by
        rw [hy']
        by_cases q : aR G L g (p i) (tr (p i)) < y
        · rw [if_pos q]; exact ⟨by omega, Nat.le_refl _, fun _ => rk.1⟩
        · rw [if_neg q]; exact ⟨Nat.le_refl _, by omega, fun h => h⟩
      have e2 : b_X10_narrowest_5 fu (F + 1) 139 (nI m) (nI y) (nI i) st = b_X10_narrowest_5 fu F 139 (nI m) (nI y') (nI (i + 1)) st := by
        show b_X10_narrowest_5_b fu (b_X10_narrowest_5 fu F) 139 (nI m) (nI y) (nI i) st = _
        simp (disch := first | decide | omega) [↓bd_e, isb, ck_tt, NP, NF, NC, NB, NS, GS, kdC, tpC hT, b_X10_narrowest_5_b, w, t, ↓caO ro, ↓caO mn]
      obtain ⟨z, b1, b2, b3, b4⟩ := ih (i + 1) y' (by omega) (by omega) (by omega)
      refine ⟨z, by omega, fun k c1 c2 => ?_, fun h => b3 (hy1.2.2 h), by rw [e2]; exact b4⟩
      by_cases ek : k = i
      · subst ek; omega
      · exact b2 k (by omega) c2
/-- a walk that came to the outside is a path with room -/
theorem path_of {G : NW} (ok : G.ok) {L : Nat → List Nat} (hL : LKs G L) {T : Nat} (hT : T ≤ 50) {g : Nat → Nat} (hz : ∀ a, a < 1632 → ¬ kV G T a → g a = 0) {la : Nat → Option Nat} {tr p : Nat → Nat} {m x : Nat} (hE : eWS (aN G L T g) (aA L) la tr p m) (ht : ∀ s, s < 612 → la s ≠ none → s % 51 ≤ T) (hx : ∀ k, k < m → x ≤ aR G L g (p k) (tr (p k))) : Pth G T g p (fun i => aK G L (p i) (tr (p i))) (fun i => aF L (p i) (tr (p i))) x m := by
  have key : ∀ i, i < m → (kV G T (aK G L (p i) (tr (p i))) ∧ p (i + 1) < 612 ∧ p (i + 1) % 51 ≤ T ∧ p (i + 1) ≠ p i) ∧ (aF L (p i) (tr (p i)) = true → kS G (aK G L (p i) (tr (p i))) = p i ∧ kD G (aK G L (p i) (tr (p i))) = p (i + 1) ∧ (aK G L (p i) (tr (p i)) < 1020 → g (aK G L (p i) (tr (p i))) < G.wd (aK G L (p i) (tr (p i)) / 51))) ∧ (aF L (p i) (tr (p i)) = false → kD G (aK G L (p i) (tr (p i))) = p i ∧ kS G (aK G L (p i) (tr (p i))) = p (i + 1) ∧ 0 < g (aK G L (p i) (tr (p i)))) := fun i hi => by
    obtain ⟨a1, a2, a3⟩ := hE.2.1 i hi
    obtain ⟨b1, b2⟩ := hE.1 i (by omega)
    exact aN_key ok hL hT hz b1 (ht _ b1 (by rw [b2]; exact fun c => by cases c)) a3
  refine ⟨fun i hi => ?_, key_ne (G := G) (p := p) (fun i j a b => hE.ne (by omega) b (by omega)) fun i hi => ?_⟩
  · obtain ⟨k1, k2, k3⟩ := key i hi
    obtain ⟨a1, a2, a3⟩ := hE.2.1 i hi
    have rk := aR_key ok hL (show p i < 612 by omega) a3
    have hxi := hx i hi
    refine ⟨k1.1, fun hb => ⟨(k2 hb).1, (k2 hb).2.1, fun c => ?_⟩, fun hb => ⟨(k3 hb).1, (k3 hb).2.1, ?_⟩⟩
    · have := rk.2.1 hb c
      show g (aK G L (p i) (tr (p i))) + x ≤ G.wd (aK G L (p i) (tr (p i)) / 51)
      omega
    · have := rk.2.2 hb
      show x ≤ g (aK G L (p i) (tr (p i)))
      omega
  · obtain ⟨k1, k2, k3⟩ := key i hi
    by_cases hb : aF L (p i) (tr (p i)) = true
    · exact Or.inl ⟨(k2 hb).1, (k2 hb).2.1⟩
    · have hb : aF L (p i) (tr (p i)) = false := by simpa using hb
      exact Or.inr ⟨(k3 hb).1, (k3 hb).2.1⟩
theorem pu_step {G : NW} {L : Nat → List Nat} {g : Nat → Nat} {tr p : Nat → Nat} {x i : Nat} : aP G L (pu (fun i => aK G L (p i) (tr (p i))) (fun i => aF L (p i) (tr (p i))) x g i) (p i) (tr (p i)) x = pu (fun i => aK G L (p i) (tr (p i))) (fun i => aF L (p i) (tr (p i))) x g (i + 1) := by
  funext a
  unfold aP updN
  show _ = (if a = aK G L (p i) (tr (p i)) then (if aF L (p i) (tr (p i)) = true then pu (fun i => aK G L (p i) (tr (p i))) (fun i => aF L (p i) (tr (p i))) x g i a + x else pu (fun i => aK G L (p i) (tr (p i))) (fun i => aF L (p i) (tr (p i))) x g i a - x) else pu (fun i => aK G L (p i) (tr (p i))) (fun i => aF L (p i) (tr (p i))) x g i a)
  by_cases e : a = aK G L (p i) (tr (p i))
  · rw [if_pos e, if_pos e, e]
  · rw [if_neg e, if_neg e]
set_option maxRecDepth 100000 in
theorem pushes_l {G : NW} (ok : G.ok) {L : Nat → List Nat} (hL : LKs G L) {g : Nat → Nat} (fu : Nat) {T : Nat} (hT5 : T ≤ 50) {la : Nat → Option Nat} {tr p : Nat → Nat} {m x v : Nat} (hv : v < 11) (hm : m ≤ 611) (hx : x ≤ 60) (hg : ∀ a, g a + x ≤ 1000) (hE : eWS (aN G L T g) (aA L) la tr p m) (hP : Pth G T g p (fun i => aK G L (p i) (tr (p i))) (fun i => aF L (p i) (tr (p i))) x m) (k5 : Nat → Int32 → Int32 → Int32 → Int32 → St → Option (Int32 × St)) (X3 X4 : Int32) : ∀ F i (st : St), i ≤ m → m - i < F → Top st → CD G L (pu (fun i => aK G L (p i) (tr (p i))) (fun i => aF L (p i) (tr (p i))) x g i) st → eWT la tr p m st → ∃ u, Fr [(146, none), (147, none)] st u ∧ Top u ∧ CD G L (pu (fun i => aK G L (p i) (tr (p i))) (fun i => aF L (p i) (tr (p i))) x g m) u ∧ eWT la tr p m u ∧ b_X10_sendFrom_57 fu k5 F 139 (nI v) (nI T) X3 X4 (nI m) (nI x) (nI i) st = k5 139 (nI v) (nI T) (X3 + nI x) (X4 + 1) (sI u 145 v (gI u 145 v - nI x)) := by
  intro F
  induction F with
  | zero => intro i st h1 h2; omega
  | succ F ih =>
    intro i st h1 h2 hT hC hW
    by_cases e : i = m
    · refine ⟨st, Fr.rf, hT, by rw [← e]; exact hC, hW, ?_⟩
      show b_X10_sendFrom_57_b fu k5 (b_X10_sendFrom_57 fu k5 F) 139 (nI v) (nI T) X3 X4 (nI m) (nI x) (nI i) st = _
      rw [e]
      simp (disch := first | decide | omega) [↓bd_e, isb, ck_tt, NP, NF, NC, NB, NS, GS, kdC, tpC hT, b_X10_sendFrom_57_b]
    · obtain ⟨a1, a2, a3⟩ := hE.2.1 i (by omega)
      obtain ⟨q1, q2, q3⟩ := hP.1 i (by omega)
      have w := hW.2.2 i (by omega)
      have t := hW.2.1 (p i) (by omega)
      have e0 : pu (fun i => aK G L (p i) (tr (p i))) (fun i => aF L (p i) (tr (p i))) x g i (aK G L (p i) (tr (p i))) = g (aK G L (p i) (tr (p i))) := pu_o i fun j hj => hP.2 j i hj (by omega)
      have p6 : p i < 612 := by omega
      obtain ⟨u1, b1, b2, b3⟩ := push_c ok hL hT hC fu hT5 p6 a2 hx ⟨q1, fun _ => by rw [e0]; exact hg _, fun hb => ⟨by rw [e0]; exact (q3 hb).2.2, (q3 hb).1⟩⟩
      rw [pu_step] at b2
      have hT1 : Top u1 := hT.fr (b3.same (by decide))
      have W1 : eWT la tr p m u1 := by
        unfold eWT at hW ⊢
        rw [b3.fi 148 (by decide), b3.fi 149 (by decide), b3.fi 150 (by decide)]
        exact hW
      have e2 : b_X10_sendFrom_57 fu k5 (F + 1) 139 (nI v) (nI T) X3 X4 (nI m) (nI x) (nI i) st = b_X10_sendFrom_57 fu k5 F 139 (nI v) (nI T) X3 X4 (nI m) (nI x) (nI (i + 1)) u1 := by
        show b_X10_sendFrom_57_b fu k5 (b_X10_sendFrom_57 fu k5 F) 139 (nI v) (nI T) X3 X4 (nI m) (nI x) (nI i) st = _
        have ai : aA L (p i) ≤ 22 := by unfold aA; have := (hL (p i / 51) (by omega)).1; omega
        simp (disch := first | decide | omega) [↓bd_e, isb, ck_tt, NP, NF, NC, NB, NS, GS, kdC, tpC hT, b_X10_sendFrom_57_b, w, t, ↓cvO b1]
      obtain ⟨u, c1, c2, c3, c4, c5⟩ := ih (i + 1) u1 (by omega) (by omega) hT1 b2 W1
      exact ⟨u, (b3.tr c1).wd (by decide), c2, c3, c4, by rw [e2]; exact c5⟩
