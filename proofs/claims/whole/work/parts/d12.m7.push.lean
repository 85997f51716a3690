/-! PURE: the class's arcs: their room, and more over them -/
def aR (G : NW) (L : Nat → List Nat) (g : Nat → Nat) (s j : Nat) : Nat :=
  if j = (L (s / 51)).length then 1000000
  else if j < (L (s / 51)).length then (if aX L s j < 20 then G.wd (aX L s j) - g (51 * aX L s j + s % 51) else g (51 * (aX L s j - 20) + (s % 51 - G.tm (aX L s j - 20))))
  else g (1020 + (s - 1))
theorem roomOf_c {G : NW} (ok : G.ok) {L : Nat → List Nat} (hL : LKs G L) {g : Nat → Nat} {st : St} (hT : Top st) (hC : CD G L g st) (fu : Nat) {T s j s' : Nat} (hs : s < 612) (hj : j < aA L s) (ha : aN G L T g s j = some s') : f_X10_roomOf fu 139 (nI s) (nI j) st = some (nI (aR G L g s j), st) := by
  obtain ⟨c1, c2, c3, c4, c5, c6⟩ := hC
  obtain ⟨c31, c32⟩ := c3 (s / 51) (by omega)
  obtain ⟨l1, l2, l3⟩ := hL (s / 51) (by omega)
  have hn := ok.1
  have hm := md51 s
  unfold aA at hj
  unfold aN at ha
  unfold aR f_X10_roomOf
  rw [ck_t (by decide), bd_e, ck_t (by decide), bd_e]
  obtain ⟨n, hnn⟩ : ∃ n, n = (L (s / 51)).length := ⟨_, rfl⟩
  rw [← hnn] at ha c31 l1 hj ⊢
  by_cases h1 : j = n
  · rw [if_pos h1]
    simp (disch := first | decide | omega) [↓bd_e, isb, ck_tt, NP, NF, NC, NB, NS, GS, kdC, tpC hT, hm, c31, h1]
  · rw [if_neg h1] at ha ⊢
    by_cases h2 : j < n
    · rw [if_pos h2] at ha ⊢
      have hx := aX_get (L := L) (s := s) (j := j) (by omega)
      have m := l2 j _ hx
      have hw := c32 j _ hx
      obtain ⟨x, hxx⟩ : ∃ x, x = aX L s j := ⟨_, rfl⟩
      rw [← hxx] at m hw ha ⊢
      have hw' : gI st 152 (s / 51 * 2 * 20 + j) = nI x := by rw [← hw]; congr 1; omega
      by_cases h3 : x < 20
      · rw [if_pos h3] at ha ⊢
        obtain ⟨m1, m2⟩ := m.1 h3
        have o := ok.2 x m1
        obtain ⟨w1, w2, w3, w4⟩ := c2 x m1
        by_cases h4 : s % 51 + G.tm x ≤ T ∧ g (51 * x + s % 51) < G.wd x
        · have w6 : gI st 146 (x * 51 + s % 51) = nI (g (51 * x + s % 51)) := by rw [c4 _ (by omega), Nat.mul_comm]
          have g6 := h4.2
          clear h4 ha
          obtain ⟨gg, hgg⟩ : ∃ gg, gg = g (51 * x + s % 51) := ⟨_, rfl⟩
          rw [← hgg] at w6 g6 ⊢
          simp (disch := first | decide | omega) [↓bd_e, isb, ck_tt, NP, NF, NC, NB, NS, GS, kdC, tpC hT, hm, c31, h1, hw', w3, w6]
        · rw [if_neg h4] at ha; cases ha
      · rw [if_neg h3] at ha ⊢
        obtain ⟨m1, m2⟩ := m.2 (by omega)
        obtain ⟨w, hww⟩ : ∃ w, w = x - 20 := ⟨_, rfl⟩
        have ex : x = w + 20 := by omega
        rw [← hww] at m1 m2 ha ⊢
        rw [ex] at hw'
        have o := ok.2 w m1
        obtain ⟨w1, w2, w3, w4⟩ := c2 w m1
        by_cases h4 : G.tm w ≤ s % 51 ∧ 0 < g (51 * w + (s % 51 - G.tm w))
        · have w6 : gI st 146 (w * 51 + (s % 51 - G.tm w)) = nI (g (51 * w + (s % 51 - G.tm w))) := by rw [c4 _ (by omega), Nat.mul_comm]
          have h5 := h4.1
          simp (disch := first | decide | omega) [↓bd_e, isb, ck_tt, NP, NF, NC, NB, NS, GS, kdC, tpC hT, hm, c31, h1, hw', w4, w6, b_X10_roomOf_136]
        · rw [if_neg h4] at ha; cases ha
    · rw [if_neg h2] at ha ⊢
      by_cases h4 : 0 < s % 51 ∧ 0 < g (1020 + (s - 1))
      · have w7 := c5 (s - 1) (by omega)
        have h5 := h4.1
        simp (disch := first | decide | omega) [↓bd_e, isb, ck_tt, NP, NF, NC, NB, NS, GS, kdC, tpC hT, hm, c31, h1, w7, b_X10_roomOf_51]
      · rw [if_neg h4] at ha; cases ha
theorem CD.s146 {G : NW} {L : Nat → List Nat} {g : Nat → Nat} {st : St} (h : CD G L g st) {k v : Nat} (hk : k < 1020) (hv : v ≤ 1000) : CD G L (updN g k v) (sI st 146 k (nI v)) := by
  obtain ⟨c1, c2, c3, c4, c5, c6⟩ := h
  unfold CD
  rw [gI_sI_n _ _ _ (show (139 : Nat) ≠ 146 by decide), gI_sI_n _ _ _ (show (140 : Nat) ≠ 146 by decide), gI_sI_n _ _ _ (show (141 : Nat) ≠ 146 by decide), gI_sI_n _ _ _ (show (142 : Nat) ≠ 146 by decide), gI_sI_n _ _ _ (show (143 : Nat) ≠ 146 by decide), gI_sI_n _ _ _ (show (151 : Nat) ≠ 146 by decide), gI_sI_n _ _ _ (show (152 : Nat) ≠ 146 by decide), gI_sI_n _ _ _ (show (147 : Nat) ≠ 146 by decide)]
  refine ⟨c1, c2, c3, fun a ha => ?_, fun s hs => ?_, fun a => ?_⟩
  · rw [gI_sI]
    by_cases e : a = k
    · rw [if_pos ⟨rfl, e⟩, e, updN_s]
    · rw [if_neg fun q => e q.2, updN_n _ _ e]; exact c4 a ha
  · rw [updN_n _ _ (by omega)]; exact c5 s hs
  · by_cases e : a = k
    · rw [e, updN_s]; exact hv
    · rw [updN_n _ _ e]; exact c6 a
theorem CD.s147 {G : NW} {L : Nat → List Nat} {g : Nat → Nat} {st : St} (h : CD G L g st) {k v : Nat} (hk : k < 612) (hv : v ≤ 1000) : CD G L (updN g (1020 + k) v) (sI st 147 k (nI v)) := by
  obtain ⟨c1, c2, c3, c4, c5, c6⟩ := h
  unfold CD
  rw [gI_sI_n _ _ _ (show (139 : Nat) ≠ 147 by decide), gI_sI_n _ _ _ (show (140 : Nat) ≠ 147 by decide), gI_sI_n _ _ _ (show (141 : Nat) ≠ 147 by decide), gI_sI_n _ _ _ (show (142 : Nat) ≠ 147 by decide), gI_sI_n _ _ _ (show (143 : Nat) ≠ 147 by decide), gI_sI_n _ _ _ (show (151 : Nat) ≠ 147 by decide), gI_sI_n _ _ _ (show (152 : Nat) ≠ 147 by decide), gI_sI_n _ _ _ (show (146 : Nat) ≠ 147 by decide)]
  refine ⟨c1, c2, c3, fun a ha => ?_, fun s hs => ?_, fun a => ?_⟩
  · rw [updN_n _ _ (by omega)]; exact c4 a ha
  · rw [gI_sI]
    by_cases e : s = k
    · rw [if_pos ⟨rfl, e⟩, e, updN_s]
    · rw [if_neg fun q => e q.2, updN_n _ _ (by omega)]; exact c5 s hs
  · by_cases e : a = 1020 + k
    · rw [e, updN_s]; exact hv
    · rw [updN_n _ _ e]; exact c6 a
/-- x more over one arc -/
def aP (G : NW) (L : Nat → List Nat) (g : Nat → Nat) (s j x : Nat) : Nat → Nat := updN g (aK G L s j) (if aF L s j = true then g (aK G L s j) + x else g (aK G L s j) - x)
theorem push_c {G : NW} (ok : G.ok) {L : Nat → List Nat} (hL : LKs G L) {g : Nat → Nat} {st : St} (hT : Top st) (hC : CD G L g st) (fu : Nat) {T s j x : Nat} (hT5 : T ≤ 50) (hs : s < 612) (hj : j < aA L s) (hx : x ≤ 60) (hq : kV G T (aK G L s j) ∧ (aF L s j = true → g (aK G L s j) + x ≤ 1000) ∧ (aF L s j = false → x ≤ g (aK G L s j) ∧ kD G (aK G L s j) = s)) : ∃ u, f_X10_push fu 139 (nI s) (nI j) (nI x) st = some u ∧ CD G L (aP G L g s j x) u ∧ Fr [(146, none), (147, none)] st u := by
  have hC0 := hC
  obtain ⟨c1, c2, c3, c4, c5, c6⟩ := hC
  obtain ⟨c31, c32⟩ := c3 (s / 51) (by omega)
  obtain ⟨l1, l2, l3⟩ := hL (s / 51) (by omega)
  have hn := ok.1
  have hm := md51 s
  unfold aA at hj
  unfold aP
  unfold aK aF at hq ⊢
  unfold f_X10_push
  rw [ck_t (by decide), bd_e, ck_t (by decide), bd_e]
  obtain ⟨n, hnn⟩ : ∃ n, n = (L (s / 51)).length := ⟨_, rfl⟩
  rw [← hnn] at hq c31 l1 hj ⊢
  by_cases h1 : j = n
  · rw [if_pos h1] at hq ⊢
    simp only [h1, decide_true, Bool.true_or, if_true, Bool.true_eq_false] at hq ⊢
    have q2 := hq.2.1 trivial
    refine ⟨sI st 147 s (nI (g (1020 + s) + x)), ?_, hC0.s147 hs q2, (Fr.ia st 147 _ _).wd (by decide)⟩
    simp (disch := first | decide | omega) [↓bd_e, isb, ck_tt, NP, NF, NC, NB, NS, GS, kdC, tpC hT, hm, c31, c5 s hs]
  · rw [if_neg h1] at hq ⊢
    by_cases h2 : j < n
    · rw [if_pos h2] at hq ⊢
      have hx' := aX_get (L := L) (s := s) (j := j) (by omega)
      have m := l2 j _ hx'
      have hw := c32 j _ hx'
      obtain ⟨y, hy⟩ : ∃ y, y = aX L s j := ⟨_, rfl⟩
      rw [← hy] at m hw hq ⊢
      have hw' : gI st 152 (s / 51 * 2 * 20 + j) = nI y := by rw [← hw]; congr 1; omega
      by_cases h3 : y < 20
      · simp only [h1, h2, h3, decide_true, decide_false, Bool.false_or, Bool.true_and, if_true, Bool.true_eq_false] at hq ⊢
        have q2 := hq.2.1 trivial
        have w6 : gI st 146 (y * 51 + s % 51) = nI (g (51 * y + s % 51)) := by rw [c4 _ (by omega), Nat.mul_comm]
        refine ⟨sI st 146 (51 * y + s % 51) (nI (g (51 * y + s % 51) + x)), ?_, hC0.s146 (by omega) q2, (Fr.ia st 146 _ _).wd (by decide)⟩
        rw [Nat.mul_comm 51 y] at q2 w6 ⊢
        simp (disch := first | decide | omega) [↓bd_e, isb, ck_tt, NP, NF, NC, NB, NS, GS, kdC, tpC hT, hm, c31, h1, hw', w6]
      · obtain ⟨m1, m2⟩ := m.2 (by omega)
        obtain ⟨w, hww⟩ : ∃ w, w = y - 20 := ⟨_, rfl⟩
        have ex : y = w + 20 := by omega
        rw [← hww] at m1 m2 hq ⊢
        simp only [h1, h2, h3, decide_true, decide_false, Bool.false_or, Bool.true_and, if_false, Bool.false_eq_true] at hq ⊢
        rw [ex] at hw'
        have o := ok.2 w m1
        obtain ⟨w1, w2, w3, w4⟩ := c2 w m1
        have q2 := (hq.2.2 trivial).1
        have q3 := (hq.2.2 trivial).2
        have q4 : G.tm w ≤ s % 51 := by
          unfold kD at q3
          rw [if_pos (by omega), show (51 * w + (s % 51 - G.tm w)) / 51 = w by omega, show (51 * w + (s % 51 - G.tm w)) % 51 = s % 51 - G.tm w by omega] at q3
          omega
        have w6 : gI st 146 (w * 51 + (s % 51 - G.tm w)) = nI (g (51 * w + (s % 51 - G.tm w))) := by rw [c4 _ (by omega), Nat.mul_comm]
        have g6 := c6 (51 * w + (s % 51 - G.tm w))
        refine ⟨sI st 146 (51 * w + (s % 51 - G.tm w)) (nI (g (51 * w + (s % 51 - G.tm w)) - x)), ?_, hC0.s146 (by omega) (by omega), (Fr.ia st 146 _ _).wd (by decide)⟩
        clear hq q3
        rw [Nat.mul_comm 51 w] at q2 g6 w6 ⊢
        simp (disch := first | decide | omega) [↓bd_e, isb, ck_tt, NP, NF, NC, NB, NS, GS, kdC, tpC hT, hm, c31, h1, hw', w4, w6, b_X10_push_144]
    · rw [if_neg h2] at hq ⊢
      simp only [h1, h2, decide_false, Bool.false_or, Bool.false_and, if_false, Bool.false_eq_true] at hq ⊢
      have q2 := (hq.2.2 trivial).1
      have q3 := (hq.2.2 trivial).2
      have q4 : 0 < s % 51 := by
        unfold kD at q3
        rw [if_neg (by omega)] at q3
        rcases hq.1 with ⟨a1, a2, a3⟩ | ⟨a1, a2, a3⟩ <;> omega
      have w7 := c5 (s - 1) (by omega)
      have g7 := c6 (1020 + (s - 1))
      have j1 : j = n + 1 := by omega
      subst j1
      refine ⟨sI st 147 (s - 1) (nI (g (1020 + (s - 1)) - x)), ?_, hC0.s147 (by omega) (by omega), (Fr.ia st 147 _ _).wd (by decide)⟩
      clear hq q3
      simp (disch := first | decide | omega) [↓bd_e, isb, ck_tt, NP, NF, NC, NB, NS, GS, kdC, tpC hT, hm, c31, w7, b_X10_push_62]
