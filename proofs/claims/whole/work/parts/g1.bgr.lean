/-! PURE: lists: a cue begins, reference: the channels -/
theorem LV_now {g h N sp : Nat} (hs : 0 < sp) : LV g h N sp N = h := by
  have e := (LV_on (tg := g) (s0 := h) (sn := N) (now := N) hs (Nat.le_refl _) (by omega)).1
  have z : (2 * ((g : Int) - h) * ((N : Int) - N) + sp) / (2 * sp) = 0 := by
    rw [Int.sub_self, Int.mul_zero, Int.zero_add]
    exact Int.ediv_eq_zero_of_lt (by omega) (by omega)
  rw [z] at e
  omega
def PLr (l N : Nat) (X : Nat → Nat → Nat) (ch : Nat) (st : St) : Prop := gI st 191 (65 * l + (ch + 1)) = nI (X 0 ch) ∧ gI st 190 (65 * l + (ch + 1)) = nI (LV (X 0 ch) (X 1 ch) (X 2 ch) (X 3 ch) N) ∧ ((X 3 ch = 0 ∨ X 2 ch + X 3 ch ≤ N) → gI st 194 (65 * l + (ch + 1)) = nI 0) ∧ (¬ (X 3 ch = 0 ∨ X 2 ch + X 3 ch ≤ N) → gI st 194 (65 * l + (ch + 1)) = nI (X 3 ch) ∧ gI st 192 (65 * l + (ch + 1)) = nI (X 1 ch) ∧ gI st 193 (65 * l + (ch + 1)) = nI (X 2 ch))
def W21 : List PL := [(190, none), (191, none), (192, none), (193, none), (194, none), (195, none)]
/-- nothing of the other lists -/
def O21 (l : Nat) (s u : St) : Prop := ∀ j, j < 65 * l + 1 ∨ 65 * l + 65 ≤ j → gI u 190 j = gI s 190 j ∧ gI u 191 j = gI s 191 j ∧ gI u 192 j = gI s 192 j ∧ gI u 193 j = gI s 193 j ∧ gI u 194 j = gI s 194 j
def fdR (p g h N v : Nat) (st : St) : St := sI (sI (sI (sI st 191 p (nI g)) 192 p (nI h)) 193 p (nI N)) 194 p (nI v)
def fdR2 (p g v : Nat) (st : St) : St := if v = 0 then sI st 190 p (nI g) else st
def fdR3 (l ch : Nat) (st : St) : St := if 48 ≤ ch then sI st 195 (ch + 1) (nI l) else st
theorem fdR_f (l ch p g h N v : Nat) (st : St) : Fr W21 st (fdR3 l ch (fdR2 p g v (fdR p g h N v st))) ∧ gR (fdR3 l ch (fdR2 p g v (fdR p g h N v st))) = gR st := by
  have f1 : Fr W21 st (fdR p g h N v st) := Fr.wd ((((Fr.i st 191 p (nI g)).tr (Fr.i _ 192 p (nI h))).tr (Fr.i _ 193 p (nI N))).tr (Fr.i _ 194 p (nI v))) (by simp [within', W21])
  have f2 : Fr W21 (fdR p g h N v st) (fdR2 p g v (fdR p g h N v st)) := by
    unfold fdR2
    split
    · exact Fr.wd (Fr.i _ 190 p (nI g)) (by simp [within', W21])
    · exact Fr.rf
  have f3 : ∀ s : St, Fr W21 s (fdR3 l ch s) := fun s => by
    unfold fdR3
    split
    · exact Fr.wd (Fr.i _ 195 (ch + 1) (nI l)) (by simp [within', W21])
    · exact Fr.rf
  refine ⟨(f1.tt f2).tt (f3 _), ?_⟩
  unfold fdR3 fdR2 fdR
  split <;> split <;> rfl
theorem fdR_g (l ch p g h N v : Nat) (st : St) (j : Nat) : gI (fdR3 l ch (fdR2 p g v (fdR p g h N v st))) 191 j = (if j = p then nI g else gI st 191 j) ∧ gI (fdR3 l ch (fdR2 p g v (fdR p g h N v st))) 192 j = (if j = p then nI h else gI st 192 j) ∧ gI (fdR3 l ch (fdR2 p g v (fdR p g h N v st))) 193 j = (if j = p then nI N else gI st 193 j) ∧ gI (fdR3 l ch (fdR2 p g v (fdR p g h N v st))) 194 j = (if j = p then nI v else gI st 194 j) ∧ gI (fdR3 l ch (fdR2 p g v (fdR p g h N v st))) 190 j = (if j = p ∧ v = 0 then nI g else gI st 190 j) ∧ gI (fdR3 l ch (fdR2 p g v (fdR p g h N v st))) 195 j = (if j = ch + 1 ∧ 48 ≤ ch then nI l else gI st 195 j) := by
  unfold fdR3 fdR2 fdR
  by_cases v0 : v = 0
  · by_cases c : 48 ≤ ch
    · rw [if_pos v0, if_pos c]; simp [gI_sI, v0, c]
    · rw [if_pos v0, if_neg c]; simp [gI_sI, v0, c]
  · by_cases c : 48 ≤ ch
    · rw [if_neg v0, if_pos c]; simp [gI_sI, v0, c]
    · rw [if_neg v0, if_neg c]; simp [gI_sI, v0, c]
def Z21 (ch : Nat) (X Y : Nat → Nat → Nat) (k c : Nat) : Nat := if c < ch then Y k c else X k c
/-- one channel, in the reference -/
theorem bg21_1 {st : St} (hT : Top st) {l N c a i ch : Nat} {D : LD} {X : Nat → Nat → Nat} (hl : l < 4) (hN : N ≤ 100000) (hi60 : i < 60) (hc : ch < 64) (hx0 : X 0 ch ≤ 255) (hx1 : X 1 ch ≤ 255) (hx2 : X 2 ch ≤ N) (tb : trk D i ch ≤ 255) (d1 : D 1 i ≤ 9999) (d2 : D 2 i ≤ 9999) (hP : PLr l N X ch st) (n40 : gI st 153 40 = nI N) (t0 : gI st 167 (65 * (l * 60 + i) + (ch + 1)) = nI (trk D i ch)) (t1 : gI st 160 (l * 60 + i) = nI (D 1 i)) (t2 : gI st 161 (l * 60 + i) = nI (D 2 i)) (fu : Nat) (rp : Nat → Int32 → Int32 → Int32 → St → Option St) (rb : Nat → Int32 → St → Option St) (K : Nat → Int32 → Int32 → Int32 → St → Option St) : b_X12_begins_21_b fu rp rb K 153 (nI l) (nI (l * 60 + i)) (nI (ch + 1)) st = K 153 (nI l) (nI (l * 60 + i)) (nI (ch + 2)) (if trk D i ch = X 0 ch then st else fdR3 l ch (fdR2 (65 * l + (ch + 1)) (trk D i ch) (nxF D i N X 3 ch) (fdR (65 * l + (ch + 1)) (trk D i ch) (nxF D i N X 1 ch) N (nxF D i N X 3 ch) st))) := by
  obtain ⟨p1, p2, -⟩ := hP
  have hh := LV_le (sp := X 3 ch) hx2 hx0 hx1
  by_cases e : trk D i ch = X 0 ch
  · rw [if_pos e]
    simp (disch := first | decide | omega) [↓bd_e, isb, ck_tt, NP, NF, NC, NB, NS, GS, kdR, tpR hT, b_X12_begins_21_b, b_X12_begins_160, t0, p1, e]
  · rw [if_neg e]
    have n1 : nxF D i N X 1 ch = LV (X 0 ch) (X 1 ch) (X 2 ch) (X 3 ch) N := by unfold nxF; rw [if_neg e]; rfl
    have n3 : nxF D i N X 3 ch = if LV (X 0 ch) (X 1 ch) (X 2 ch) (X 3 ch) N < trk D i ch then D 1 i else D 2 i := by unfold nxF; rw [if_neg e]; rfl
    rw [n1, n3]
    generalize LV (X 0 ch) (X 1 ch) (X 2 ch) (X 3 ch) N = h at *
    clear n1 n3
    by_cases cg : h < trk D i ch
    · rw [if_pos cg]
      by_cases v0 : D 1 i = 0
      · by_cases c48 : 48 ≤ ch
        · simp (disch := first | decide | omega) [↓bd_e, isb, ck_tt, NP, NF, NC, NB, NS, GS, kdR, tpR hT, b_X12_begins_21_b, b_X12_begins_127, b_X12_begins_147, b_X12_begins_160, fdR, fdR2, fdR3, t0, p1, p2, e, t1, n40, gI_sI, v0, c48]
        · simp (disch := first | decide | omega) [↓bd_e, isb, ck_tt, NP, NF, NC, NB, NS, GS, kdR, tpR hT, b_X12_begins_21_b, b_X12_begins_127, b_X12_begins_147, b_X12_begins_160, fdR, fdR2, fdR3, t0, p1, p2, e, t1, n40, gI_sI, v0, c48]
      · by_cases c48 : 48 ≤ ch
        · simp (disch := first | decide | omega) [↓bd_e, isb, ck_tt, NP, NF, NC, NB, NS, GS, kdR, tpR hT, b_X12_begins_21_b, b_X12_begins_127, b_X12_begins_147, b_X12_begins_160, fdR, fdR2, fdR3, t0, p1, p2, e, t1, n40, gI_sI, v0, c48]
        · simp (disch := first | decide | omega) [↓bd_e, isb, ck_tt, NP, NF, NC, NB, NS, GS, kdR, tpR hT, b_X12_begins_21_b, b_X12_begins_127, b_X12_begins_147, b_X12_begins_160, fdR, fdR2, fdR3, t0, p1, p2, e, t1, n40, gI_sI, v0, c48]
    · rw [if_neg cg]
      by_cases v0 : D 2 i = 0
      · by_cases c48 : 48 ≤ ch
        · simp (disch := first | decide | omega) [↓bd_e, isb, ck_tt, NP, NF, NC, NB, NS, GS, kdR, tpR hT, b_X12_begins_21_b, b_X12_begins_127, b_X12_begins_147, b_X12_begins_160, fdR, fdR2, fdR3, t0, p1, p2, e, t2, n40, gI_sI, v0, c48]
        · simp (disch := first | decide | omega) [↓bd_e, isb, ck_tt, NP, NF, NC, NB, NS, GS, kdR, tpR hT, b_X12_begins_21_b, b_X12_begins_127, b_X12_begins_147, b_X12_begins_160, fdR, fdR2, fdR3, t0, p1, p2, e, t2, n40, gI_sI, v0, c48]
      · by_cases c48 : 48 ≤ ch
        · simp (disch := first | decide | omega) [↓bd_e, isb, ck_tt, NP, NF, NC, NB, NS, GS, kdR, tpR hT, b_X12_begins_21_b, b_X12_begins_127, b_X12_begins_147, b_X12_begins_160, fdR, fdR2, fdR3, t0, p1, p2, e, t2, n40, gI_sI, v0, c48]
        · simp (disch := first | decide | omega) [↓bd_e, isb, ck_tt, NP, NF, NC, NB, NS, GS, kdR, tpR hT, b_X12_begins_21_b, b_X12_begins_127, b_X12_begins_147, b_X12_begins_160, fdR, fdR2, fdR3, t0, p1, p2, e, t2, n40, gI_sI, v0, c48]
