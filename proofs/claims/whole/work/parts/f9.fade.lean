/-! PURE: lists: fades, class -/
theorem SQ.ne {q : Nat} (hq : SQ q) {l j m : Nat} (hl : l < 4) (hj : j ≤ 12) (hm : m < 4) : q + j ≠ 57 + 18 * l + m ∧ q + j ≠ 43 + 18 * l := by
  have : l = 0 ∨ l = 1 ∨ l = 2 ∨ l = 3 := by omega
  unfold SQ at hq
  omega
theorem SQ.f3 {q : Nat} (hq : SQ q) {l j ch : Nat} (hl : l < 4) (hj : j ≤ 12) : ([(58 + 18 * l, some ch), (57 + 18 * l, some ch), (59 + 18 * l, some ch)] : List PL).all (fun b => !(b.1 == q + j)) = true := by
  have a0 := (hq.ne hl hj (m := 0) (by omega)).1
  have a1 := (hq.ne hl hj (m := 1) (by omega)).1
  have a2 := (hq.ne hl hj (m := 2) (by omega)).1
  have e0 : 57 + 18 * l ≠ q + j := fun z => a0 (by omega)
  have e1 : 58 + 18 * l ≠ q + j := fun z => a1 (by omega)
  have e2 : 59 + 18 * l ≠ q + j := fun z => a2 (by omega)
  simp [e0, e1, e2]
/-- what a cue does to a channel -/
def nxF (D : LD) (i N : Nat) (X : Nat → Nat → Nat) (k ch : Nat) : Nat :=
  if trk D i ch = X 0 ch then X k ch else
  if k = 0 then trk D i ch else if k = 1 then LV (X 0 ch) (X 1 ch) (X 2 ch) (X 3 ch) N else if k = 2 then N else if LV (X 0 ch) (X 1 ch) (X 2 ch) (X 3 ch) N < trk D i ch then D 1 i else D 2 i
def XB (N : Nat) (X : Nat → Nat → Nat) : Prop := ∀ ch, ch < 64 → X 0 ch ≤ 255 ∧ X 1 ch ≤ 255 ∧ X 2 ch ≤ N ∧ X 3 ch ≤ 9999
def CHX (l : Nat) (X : Nat → Nat → Nat) (st : St) : Prop := ∀ k, k < 4 → ∀ ch, ch < 64 → gI st (57 + 18 * l + k) ch = nI (X k ch)
def fdS (l ch h g N v : Nat) (st : St) : St := sI (sI (sI (sI st (58 + 18 * l) ch (nI h)) (57 + 18 * l) ch (nI g)) (59 + 18 * l) ch (nI N)) (60 + 18 * l) ch (nI v)
theorem fade_c {st : St} (hT : Top st) {l N q c a i ch g : Nat} {D : LD} {X : Nat → Nat → Nat} (hl : l < 4) (hN : N ≤ 100000) (hc : ch < 64) (hg : g ≤ 255) (x0 : gI st (57 + 18 * l) ch = nI (X 0 ch)) (x1 : gI st (58 + 18 * l) ch = nI (X 1 ch)) (x2 : gI st (59 + 18 * l) ch = nI (X 2 ch)) (x3 : gI st (60 + 18 * l) ch = nI (X 3 ch)) (hB : XB N X) (hq : SQ q) (rQ : gR st (43 + 18 * l) 0 = q) (h5 : gI st (43 + 18 * l) 5 = nI i) (hS : SC q c a D st) (hL : LOK c a D) (hi : i < c) (fu : Nat) : f_X3_fade fu (43 + 18 * l) (nI ch) (nI g) (nI N) st = some (fdS l ch (LV (X 0 ch) (X 1 ch) (X 2 ch) (X 3 ch) N) g N (if LV (X 0 ch) (X 1 ch) (X 2 ch) (X 3 ch) N < g then D 1 i else D 2 i) st) := by
  obtain ⟨b0, b1, b2, b3⟩ := hB ch hc
  obtain ⟨r0, r1, r2, r3, r4⟩ := plR hl hT
  obtain ⟨k0, k1, k2, k3, k4⟩ := plK hl
  have lv := levelAt_c (st := st) fu k0 r1 r2 r3 r4 k1 k2 k3 k4 (by omega) (by omega) (by omega) (by omega) hc x0 x1 x2 x3 b0 b1 b2 b3 hN
  have hh := LV_le (sp := X 3 ch) b2 b0 b1
  have qb := hq.b
  have qR := sqR hq hT
  have qK := sqK hq
  have c60 := hL.1
  have u1 : gI st (q + 2) i = nI (D 1 i) := hS.2.1 i hi 1 (by omega)
  have u2 : gI st (q + 3) i = nI (D 2 i) := hS.2.1 i hi 2 (by omega)
  generalize LV (X 0 ch) (X 1 ch) (X 2 ch) (X 3 ch) N = h at *
  clear hS hL hB x0 x1 x2 x3 b0 b1 b2 b3
  obtain ⟨s8, h8⟩ : ∃ s8, s8 = sI (sI (sI st (58 + 18 * l) ch (nI h)) (57 + 18 * l) ch (nI g)) (59 + 18 * l) ch (nI N) := ⟨_, rfl⟩
  have fr8 : Fr [(58 + 18 * l, some ch), (57 + 18 * l, some ch), (59 + 18 * l, some ch)] st s8 := by
    rw [h8]
    exact (((Fr.i st _ ch _).tr (Fr.i _ _ ch _)).tr (Fr.i _ _ ch _)).sub (by simp)
  have t5 : gI s8 (43 + 18 * l) 5 = nI i := by rw [fr8.fi (43 + 18 * l) (by simp <;> omega)]; exact h5
  have t2 : gI s8 (q + 2) i = nI (D 1 i) := by rw [fr8.fi (q + 2) (hq.f3 hl (by omega))]; exact u1
  have t3 : gI s8 (q + 3) i = nI (D 2 i) := by rw [fr8.fi (q + 3) (hq.f3 hl (by omega))]; exact u2
  have g8 : gR s8 = gR st := by rw [h8]; rfl
  have mid : ∀ y : Nat, y ≤ 1 → b_X3_fade_19 fu (43 + 18 * l) (nI ch) (nI g) (nI N) (nI h) (nI y) st = some (sI s8 (60 + 18 * l) ch (nI (if y = 0 then D 2 i else D 1 i))) := fun y hy => by
    unfold b_X3_fade_19
    have ib : ∀ (N x : Nat), x < N → N ≤ 300 → (inb (nI x) N) := fun N x hx hN => by
      simp (disch := first | decide | omega) [NF, NC, NB, inb]
    have K3 : (kd (43 + 18 * l)).1 = 3 := by rw [k0]
    have KA : ∀ o, kd o = (100, 64) → (kd o).1 = 100 ∧ inb (nI ch) (kd o).2 := fun o ho => by rw [ho]; exact ⟨rfl, ib _ _ hc (by omega)⟩
    have ic : ix (nI ch) = ch := ix_nI (by omega)
    have ii : ix (nI i) = i := ix_nI (by omega)
    rw [r2, ck_t (show ¬ 58 + 18 * l = 0 by omega), ck_t K3, bd_e, ck_t (KA _ k2), ic, bd_e, show gR (sI st (58 + 18 * l) ch (nI h)) = gR st from rfl, r1, ck_t (show ¬ 57 + 18 * l = 0 by omega), ck_t K3, bd_e, ck_t (KA _ k1), bd_e, show gR (sI (sI st (58 + 18 * l) ch (nI h)) (57 + 18 * l) ch (nI g)) = gR st from rfl, r3, ck_t (show ¬ 59 + 18 * l = 0 by omega), ck_t K3, bd_e, ck_t (KA _ k3), bd_e, ← h8, g8, r4, ck_t (show ¬ 60 + 18 * l = 0 by omega), ck_t K3, bd_e]
    by_cases y0 : y = 0
    · subst y0
      rw [if_pos (show nI 0 = 0 from rfl), if_pos rfl, rQ, ck_t (show ¬ q = 0 by omega), ck_t K3, bd_e, qR.2.2.1, ck_t (show ¬ q + 3 = 0 by omega), ck_t (show (kd q).1 = 8 by rw [qK.1]), bd_e, ck_t K3, t5, ck_t (show (kd (q + 3)).1 = 100 ∧ inb (nI i) (kd (q + 3)).2 by rw [qK.2.2.2.1]; exact ⟨rfl, ib _ _ (by omega) (by omega)⟩), ii, t3]
      unfold b_X3_fade_80
      rw [ck_t (KA _ k4), ic]
      rfl
    · have y1 : y = 1 := by omega
      subst y1
      rw [if_neg (show ¬ nI 1 = 0 by decide), if_neg y0, rQ, ck_t (show ¬ q = 0 by omega), ck_t K3, bd_e, qR.2.1, ck_t (show ¬ q + 2 = 0 by omega), ck_t (show (kd q).1 = 8 by rw [qK.1]), bd_e, ck_t K3, t5, ck_t (show (kd (q + 2)).1 = 100 ∧ inb (nI i) (kd (q + 2)).2 by rw [qK.2.2.1]; exact ⟨rfl, ib _ _ (by omega) (by omega)⟩), ii, t2]
      unfold b_X3_fade_80
      rw [ck_t (KA _ k4), ic]
      rfl
  unfold f_X3_fade
  rw [ck_t (show (kd (43 + 18 * l)).1 = 3 by rw [k0]), lv, ca_s]
  by_cases cg : h < g
  · rw [if_neg (fun z => by have := (nI_leI (a := g) (b := h) (by omega) (by omega)).mp z; omega), if_pos cg]
    have := mid 1 (by omega)
    rw [h8, if_neg (by omega)] at this
    exact this
  · rw [if_pos ((nI_leI (by omega) (by omega)).mpr (by omega)), if_neg cg]
    have := mid 0 (by omega)
    rw [h8, if_pos rfl] at this
    exact this
