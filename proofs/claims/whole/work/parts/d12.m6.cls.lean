/-! PURE: the class's arcs -/
def CD (G : NW) (L : Nat → List Nat) (g : Nat → Nat) (st : St) : Prop := gI st 139 13 = nI G.n ∧ (∀ w, w < G.n → gI st 140 w = nI (G.fr w) ∧ gI st 141 w = nI (G.to w) ∧ gI st 142 w = nI (G.wd w) ∧ gI st 143 w = nI (G.tm w)) ∧ (∀ v, v < 12 → gI st 151 v = nI (L v).length ∧ ∀ j x : Nat, (L v)[j]? = some x → gI st 152 (40 * v + j) = nI x) ∧ (∀ a, a < 1020 → gI st 146 a = nI (g a)) ∧ (∀ s, s < 612 → gI st 147 s = nI (g (1020 + s))) ∧ ∀ a, g a ≤ 1000
def oE : Option Nat → Int32
  | none => -nI 1
  | some x => nI x
theorem md51 (s : Nat) : s - s / 51 * 51 = s % 51 := by omega
theorem sub_ng {a b : Nat} (h : a < b) (hb : b < 1000000) : nI a - nI b < nI 0 := by
  rw [nI_z (show a < 2147483648 by omega), nI_z (show b < 2147483648 by omega), zI_sub, nI_z (show 0 < 2147483648 by omega), zI_lt (by omega)]
  omega
theorem endOf_1 {G : NW} {L : Nat → List Nat} {st : St} (hT : Top st) (fu : Nat) {T s : Nat} (hT5 : T ≤ 50) (hs : s < 612) (l1 : (L (s / 51)).length ≤ 20) (c31 : gI st 151 (s / 51) = nI (L (s / 51)).length) : f_X10_endOf fu 139 (nI s) (nI (L (s / 51)).length) (nI T) st = some (oE (if s % 51 < T then some (s + 1) else none), st) := by
  have hm := md51 s
  by_cases h2 : s % 51 < T
  · rw [if_pos h2]
    unfold f_X10_endOf
    rw [ck_t (by decide), bd_e, ck_t (by decide), bd_e]
    simp (disch := first | decide | omega) [↓bd_e, isb, ck_tt, NP, NF, NC, NB, NS, GS, kdC, tpC hT, b_X10_endOf_40, oE, hm, c31]
  · rw [if_neg h2]
    unfold f_X10_endOf
    rw [ck_t (by decide), bd_e, ck_t (by decide), bd_e]
    simp (disch := first | decide | omega) [↓bd_e, isb, ck_tt, NP, NF, NC, NB, NS, GS, kdC, tpC hT, b_X10_endOf_40, oE, hm, c31]
theorem endOf_2 {G : NW} {st : St} (hT : Top st) (fu : Nat) {T s j n x gg : Nat} (hT5 : T ≤ 50) (hs : s < 612) (l1 : n ≤ 20) (h2 : j < n) (c31 : gI st 151 (s / 51) = nI n) (hw' : gI st 152 (s / 51 * 2 * 20 + j) = nI x) (h3 : x < 20) (o : G.fr x ≤ 11 ∧ G.to x ≤ 11 ∧ G.wd x ≤ 50 ∧ G.tm x ≤ 20) (w2 : gI st 141 x = nI (G.to x)) (w3 : gI st 142 x = nI (G.wd x)) (w4 : gI st 143 x = nI (G.tm x)) (w6 : gI st 146 (x * 51 + s % 51) = nI gg) (g6 : gg ≤ 1000) : f_X10_endOf fu 139 (nI s) (nI j) (nI T) st = some (oE (if s % 51 + G.tm x ≤ T ∧ gg < G.wd x then some (51 * G.to x + (s % 51 + G.tm x)) else none), st) := by
  have hm := md51 s
  by_cases h4 : s % 51 + G.tm x ≤ T
  · by_cases h5 : gg < G.wd x
    · rw [if_pos ⟨h4, h5⟩, Nat.mul_comm 51]
      unfold f_X10_endOf
      rw [ck_t (by decide), bd_e, ck_t (by decide), bd_e]
      simp (disch := first | decide | omega) [↓bd_e, isb, ck_tt, NP, NF, NC, NB, NS, GS, kdC, tpC hT, b_X10_endOf_152, b_X10_endOf_151, oE, hm, c31, hw', w2, w3, w4, w6]
    · rw [if_neg fun q => h5 q.2]
      unfold f_X10_endOf
      rw [ck_t (by decide), bd_e, ck_t (by decide), bd_e]
      simp (disch := first | decide | omega) [↓bd_e, isb, ck_tt, NP, NF, NC, NB, NS, GS, kdC, tpC hT, b_X10_endOf_152, b_X10_endOf_151, oE, hm, c31, hw', w2, w3, w4, w6]
  · rw [if_neg fun q => h4 q.1]
    unfold f_X10_endOf
    rw [ck_t (by decide), bd_e, ck_t (by decide), bd_e]
    simp (disch := first | decide | omega) [↓bd_e, isb, ck_tt, NP, NF, NC, NB, NS, GS, kdC, tpC hT, b_X10_endOf_152, b_X10_endOf_151, oE, hm, c31, hw', w2, w3, w4]
theorem endOf_3 {G : NW} {st : St} (hT : Top st) (fu : Nat) {T s j n w gg : Nat} (hT5 : T ≤ 50) (hs : s < 612) (l1 : n ≤ 20) (h2 : j < n) (c31 : gI st 151 (s / 51) = nI n) (hw' : gI st 152 (s / 51 * 2 * 20 + j) = nI (w + 20)) (h3 : w < 20) (o : G.fr w ≤ 11 ∧ G.to w ≤ 11 ∧ G.wd w ≤ 50 ∧ G.tm w ≤ 20) (w1 : gI st 140 w = nI (G.fr w)) (w4 : gI st 143 w = nI (G.tm w)) (w6 : G.tm w ≤ s % 51 → gI st 146 (w * 51 + (s % 51 - G.tm w)) = nI gg) (g6 : gg ≤ 1000) : f_X10_endOf fu 139 (nI s) (nI j) (nI T) st = some (oE (if G.tm w ≤ s % 51 ∧ 0 < gg then some (51 * G.fr w + (s % 51 - G.tm w)) else none), st) := by
  have hm := md51 s
  by_cases h4 : G.tm w ≤ s % 51
  · have w6 := w6 h4
    by_cases h5 : 0 < gg
    · rw [if_pos ⟨h4, h5⟩, Nat.mul_comm 51]
      unfold f_X10_endOf
      rw [ck_t (by decide), bd_e, ck_t (by decide), bd_e]
      simp (disch := first | decide | omega) [↓bd_e, isb, ck_tt, NP, NF, NC, NB, NS, GS, kdC, tpC hT, b_X10_endOf_210, b_X10_endOf_209, oE, hm, c31, hw', w1, w4, w6]
    · rw [if_neg fun q => h5 q.2]
      have h5 : gg = 0 := by omega
      subst h5
      unfold f_X10_endOf
      rw [ck_t (by decide), bd_e, ck_t (by decide), bd_e]
      simp (disch := first | decide | omega) [↓bd_e, isb, ck_tt, NP, NF, NC, NB, NS, GS, kdC, tpC hT, b_X10_endOf_210, b_X10_endOf_209, oE, hm, c31, hw', w1, w4, w6]
  · rw [if_neg fun q => h4 q.1]
    have ng := sub_ng (a := s % 51) (b := G.tm w) (by omega) (by omega)
    unfold f_X10_endOf
    rw [ck_t (by decide), bd_e, ck_t (by decide), bd_e]
    simp (disch := first | decide | omega) [↓bd_e, isb, ck_tt, NP, NF, NC, NB, NS, GS, kdC, tpC hT, b_X10_endOf_210, b_X10_endOf_209, oE, hm, c31, hw', w1, w4, ng]
theorem endOf_4 {st : St} (hT : Top st) (fu : Nat) {T s n gg : Nat} (hT5 : T ≤ 50) (hs : s < 612) (l1 : n ≤ 20) (c31 : gI st 151 (s / 51) = nI n) (w7 : 0 < s % 51 → gI st 147 (s - 1) = nI gg) (g7 : gg ≤ 1000) : f_X10_endOf fu 139 (nI s) (nI (n + 1)) (nI T) st = some (oE (if 0 < s % 51 ∧ 0 < gg then some (s - 1) else none), st) := by
  have hm := md51 s
  by_cases h3 : 0 < s % 51
  · have w7 := w7 h3
    by_cases h4 : 0 < gg
    · rw [if_pos ⟨h3, h4⟩]
      unfold f_X10_endOf
      rw [ck_t (by decide), bd_e, ck_t (by decide), bd_e]
      simp (disch := first | decide | omega) [↓bd_e, isb, ck_tt, NP, NF, NC, NB, NS, GS, kdC, tpC hT, b_X10_endOf_70, b_X10_endOf_69, oE, hm, c31, w7]
    · rw [if_neg fun q => h4 q.2]
      have h4 : gg = 0 := by omega
      subst h4
      unfold f_X10_endOf
      rw [ck_t (by decide), bd_e, ck_t (by decide), bd_e]
      simp (disch := first | decide | omega) [↓bd_e, isb, ck_tt, NP, NF, NC, NB, NS, GS, kdC, tpC hT, b_X10_endOf_70, b_X10_endOf_69, oE, hm, c31, w7]
  · rw [if_neg fun q => h3 q.1]
    have h3 : s % 51 = 0 := by omega
    unfold f_X10_endOf
    rw [ck_t (by decide), bd_e, ck_t (by decide), bd_e]
    simp (disch := first | decide | omega) [↓bd_e, isb, ck_tt, NP, NF, NC, NB, NS, GS, kdC, tpC hT, b_X10_endOf_70, b_X10_endOf_69, oE, hm, c31, h3]
theorem endOf_c {G : NW} (ok : G.ok) {L : Nat → List Nat} (hL : LKs G L) {g : Nat → Nat} {st : St} (hT : Top st) (hC : CD G L g st) (fu : Nat) {T s j : Nat} (hT5 : T ≤ 50) (hs : s < 612) (hj : j < aA L s) : f_X10_endOf fu 139 (nI s) (nI j) (nI T) st = some (oE (aN G L T g s j), st) := by
  obtain ⟨c1, c2, c3, c4, c5, c6⟩ := hC
  obtain ⟨c31, c32⟩ := c3 (s / 51) (by omega)
  obtain ⟨l1, l2, l3⟩ := hL (s / 51) (by omega)
  have hn := ok.1
  unfold aA at hj
  unfold aN
  by_cases h1 : j = (L (s / 51)).length
  · rw [if_pos h1, h1]
    exact endOf_1 (G := G) hT fu hT5 hs l1 c31
  · rw [if_neg h1]
    by_cases h2 : j < (L (s / 51)).length
    · rw [if_pos h2]
      have hx := aX_get h2
      have m := l2 j _ hx
      have hw := c32 j _ hx
      obtain ⟨x, hxx⟩ : ∃ x, x = aX L s j := ⟨_, rfl⟩
      rw [← hxx] at m hw ⊢
      have hw' : gI st 152 (s / 51 * 2 * 20 + j) = nI x := by rw [← hw]; congr 1; omega
      by_cases h3 : x < 20
      · rw [if_pos h3]
        obtain ⟨m1, m2⟩ := m.1 h3
        have o := ok.2 x m1
        obtain ⟨w1, w2, w3, w4⟩ := c2 x m1
        exact endOf_2 hT fu hT5 hs l1 h2 c31 hw' h3 ⟨o.1, o.2.1, o.2.2.2.2.1, o.2.2.2.2.2.2⟩ w2 w3 w4 (by rw [c4 _ (by omega), Nat.mul_comm]) (c6 _)
      · rw [if_neg h3]
        obtain ⟨m1, m2⟩ := m.2 (by omega)
        have o := ok.2 _ m1
        obtain ⟨w1, w2, w3, w4⟩ := c2 _ m1
        exact endOf_3 hT fu hT5 hs l1 h2 c31 (w := x - 20) (by rw [hw']; congr 1; omega) (by omega) ⟨o.1, o.2.1, o.2.2.2.2.1, o.2.2.2.2.2.2⟩ w1 w4 (fun q => by rw [c4 _ (by omega), Nat.mul_comm]) (c6 _)
    · rw [if_neg h2, show j = (L (s / 51)).length + 1 by omega]
      exact endOf_4 hT fu hT5 hs l1 c31 (fun q => c5 (s - 1) (by omega)) (c6 _)
