/-! PURE: axes: a tick of all of them, as data -/
theorem rest_0 (a : Nat) (p : Int) : rest a p 0 = p := by
  unfold rest
  rw [if_pos (by omega)]
  show p + ((brk a 0 0 : Nat) : Int) = p
  show p + ((0 : Nat) : Int) = p
  omega
theorem rest_p (a : Nat) (p : Int) (x : Nat) : rest a p (x : Int) = p + (brk a x x : Nat) := by
  unfold rest
  rw [if_pos (by omega), show ((x : Int)).natAbs = x by omega]
theorem rest_m {a : Nat} (p : Int) {x : Nat} (hx : 0 < x) : rest a p (-(x : Int)) = p - (brk a x x : Nat) := by
  unfold rest
  rw [if_neg (by omega), show (-(x : Int)).natAbs = x by omega]
theorem restN {a : Nat} (ha : 1 ≤ a) (p v : Int) : rest a (p + spN a v) (spN a v) = rest a p v := by
  unfold spN
  by_cases c : 0 < v
  · rw [if_pos c]
    obtain ⟨m, rfl⟩ : ∃ m : Nat, v = m := ⟨v.toNat, by omega⟩
    rw [rest_p a p m, brk_d ha]
    by_cases d : a < m
    · rw [if_pos (show (0 : Int) < (m : Int) - a by omega), if_pos d, show ((m : Int) - a) = ((m - a : Nat) : Int) by omega, rest_p]
      show _ = p + ((m - a + brk a (m - a) (m - a) : Nat) : Int)
      omega
    · rw [if_neg (by omega), if_neg d, Int.add_zero, rest_0]
      show p = p + ((0 : Nat) : Int)
      omega
  · rw [if_neg c]
    by_cases z : v = 0
    · subst z
      rw [if_neg (by omega), Int.add_zero]
    · obtain ⟨m, hm, rfl⟩ : ∃ m : Nat, 0 < m ∧ v = -(m : Int) := ⟨(-v).toNat, by omega, by omega⟩
      rw [rest_m p hm, brk_d ha]
      by_cases d : a < m
      · rw [if_pos (show -(m : Int) + a < 0 by omega), if_pos d, show (-(m : Int) + a) = -((m - a : Nat) : Int) by omega, rest_m _ (by omega)]
        show _ = p - ((m - a + brk a (m - a) (m - a) : Nat) : Int)
        omega
      · rw [if_neg (by omega), if_neg d, Int.add_zero, rest_0]
        show p = p - ((0 : Nat) : Int)
        omega
theorem rest_in {a : Nat} {p v : Int} (h1 : 0 ≤ rest a (p + v) v) (h2 : rest a (p + v) v ≤ 99999) (hp : 0 ≤ p ∧ p ≤ 99999) : 0 ≤ p + v ∧ p + v ≤ 99999 := by
  by_cases c : 0 ≤ v
  · obtain ⟨m, rfl⟩ : ∃ m : Nat, v = m := ⟨v.toNat, by omega⟩
    rw [rest_p] at h2
    omega
  · obtain ⟨m, hm, rfl⟩ : ∃ m : Nat, 0 < m ∧ v = -(m : Int) := ⟨(-v).toNat, by omega, by omega⟩
    rw [rest_m _ hm] at h1
    omega
theorem spT_k {a M : Nat} (ha : 1 ≤ a) (p v : Int) (t : Nat) : spT a M p v t = spN a v ∨ ∃ x : Nat, x ≤ M ∧ ((spT a M p v t = (x : Int) ∧ p + dst a x ≤ t) ∨ (spT a M p v t = -(x : Int) ∧ (t : Int) ≤ p - dst a x)) := by
  have top : ∀ w : Nat, (if w + a < M then w + a else M) ≤ M := fun w => by split <;> omega
  by_cases c : (t : Int) < p
  · by_cases d : -v < 0
    · rw [spT_1 c d]
      left
      by_cases e : -v + (a : Int) < 0
      · rw [if_pos e, spN_a (by omega) (by omega)]; omega
      · rw [if_neg e, spN_b (by omega) (by omega)]; rfl
    · rw [spT_2 c d]
      obtain ⟨w, hw⟩ : ∃ w : Nat, v = -(w : Int) := ⟨(-v).toNat, by omega⟩
      subst hw
      rw [show (- -(w : Int)).toNat = w by omega]
      unfold spd
      rcases bst_b (a := a) (d := (p - (t : Int)).toNat) (least := w - a) (if w + a < M then w + a else M) with e | ⟨-, e1, e2⟩
      · left
        rw [e]
        by_cases q : -(w : Int) + a < 0
        · rw [spN_c (by omega) q]; omega
        · rw [spN_d (by omega) q]; omega
      · right
        exact ⟨_, Nat.le_trans e1 (top w), Or.inr ⟨rfl, by omega⟩⟩
  · by_cases d : v < 0
    · rw [spT_3 c d]
      left
      by_cases e : v + (a : Int) < 0
      · rw [if_pos e, spN_c (by omega) e]
      · rw [if_neg e, spN_d (by omega) e]
    · rw [spT_4 c d]
      obtain ⟨w, hw⟩ : ∃ w : Nat, v = (w : Int) := ⟨v.toNat, by omega⟩
      subst hw
      rw [show ((w : Int)).toNat = w by omega]
      unfold spd
      rcases bst_b (a := a) (d := ((t : Int) - p).toNat) (least := w - a) (if w + a < M then w + a else M) with e | ⟨-, e1, e2⟩
      · left
        rw [e]
        by_cases z : (0 : Int) < w
        · by_cases q : (0 : Int) < (w : Int) - a
          · rw [spN_a z q]; omega
          · rw [spN_b z q]; omega
        · rw [spN_d z (by omega)]; omega
      · right
        exact ⟨_, Nat.le_trans e1 (top w), Or.inl ⟨rfl, by omega⟩⟩
theorem mv_b {a M : Nat} (ha : 1 ≤ a) (hM : M ≤ 999) {p v : Int} {tg : Option Nat} (hp : 0 ≤ p ∧ p ≤ 99999) (hv : -999 ≤ v ∧ v ≤ 999) (ht : ∀ t, tg = some t → t ≤ 99999) (h1 : 0 ≤ rest a p v) (h2 : rest a p v ≤ 99999) : (-999 ≤ mvV a M p v tg ∧ mvV a M p v tg ≤ 999) ∧ (0 ≤ p + mvV a M p v tg ∧ p + mvV a M p v tg ≤ 99999) ∧ 0 ≤ rest a (p + mvV a M p v tg) (mvV a M p v tg) ∧ rest a (p + mvV a M p v tg) (mvV a M p v tg) ≤ 99999 := by
  have sN : -999 ≤ spN a v ∧ spN a v ≤ 999 := by
    unfold spN
    by_cases c : 0 < v
    · rw [if_pos c]; split <;> omega
    · rw [if_neg c]; split <;> omega
  have rN : 0 ≤ rest a (p + spN a v) (spN a v) ∧ rest a (p + spN a v) (spN a v) ≤ 99999 := by rw [restN ha]; exact ⟨h1, h2⟩
  cases tg with
  | none => exact ⟨sN, rest_in rN.1 rN.2 hp, rN⟩
  | some t =>
    have t9 := ht t rfl
    show (-999 ≤ spT a M p v t ∧ spT a M p v t ≤ 999) ∧ (0 ≤ p + spT a M p v t ∧ p + spT a M p v t ≤ 99999) ∧ 0 ≤ rest a (p + spT a M p v t) (spT a M p v t) ∧ rest a (p + spT a M p v t) (spT a M p v t) ≤ 99999
    rcases spT_k (M := M) ha p v t with e | ⟨x, hx, ⟨e, q⟩ | ⟨e, q⟩⟩
    · rw [e]; exact ⟨sN, rest_in rN.1 rN.2 hp, rN⟩
    · have d : dst a x = x + brk a x x := rfl
      have r : 0 ≤ rest a (p + (x : Int)) (x : Int) ∧ rest a (p + (x : Int)) (x : Int) ≤ 99999 := by rw [rest_p]; omega
      rw [e]
      exact ⟨by omega, rest_in r.1 r.2 hp, r⟩
    · have d : dst a x = x + brk a x x := rfl
      by_cases z : x = 0
      · subst z
        rw [e]
        show (-999 ≤ (-((0 : Nat) : Int)) ∧ _) ∧ _
        have : (-((0 : Nat) : Int)) = 0 := rfl
        rw [this, Int.add_zero, rest_0]
        omega
      · have r : 0 ≤ rest a (p + -(x : Int)) (-(x : Int)) ∧ rest a (p + -(x : Int)) (-(x : Int)) ≤ 99999 := by rw [rest_m _ (by omega)]; omega
        rw [e]
        exact ⟨by omega, rest_in r.1 r.2 hp, r⟩
/-! data of one axis: fields 0 .. 11 -/
def axP (f : Nat → Int32) : Int := (f 5).toInt
def axV (f : Nat → Int32) : Int := (f 6).toInt
def axAc (f : Nat → Int32) : Nat := (f 4).toInt.toNat
def axM (f : Nat → Int32) : Nat := tpS (f 3).toInt.toNat (f 10).toInt.toNat
def axT (f : Nat → Int32) : Option Nat := if f 7 = -nI 1 then none else some (f 7).toInt.toNat
def AXM (f : Nat → Int32) (k : Nat) : Int32 := if f 0 = nI 0 then f k else if k = 6 then zI (mvV (axAc f) (axM f) (axP f) (axV f) (axT f)) else if k = 5 then zI (axP f + mvV (axAc f) (axM f) (axP f) (axV f) (axT f)) else if k = 7 then mvT (axAc f) (axM f) (axP f) (axV f) (axT f) else f k
def AXL (f : Nat → Int32) (k : Nat) : Int32 := if f 0 = nI 0 then f k else if k = 9 then f 8 else if k = 8 then (if f 10 &&& 2 = 0 then f 5 else f 8) else f k
/-- what an axis that is there looks like -/
theorem ax_d {f : Nat → Int32} (h : axOK f) (h0 : ¬ f 0 = nI 0) : ∃ sp a fl : Nat, f 3 = nI sp ∧ f 4 = nI a ∧ f 10 = nI fl ∧ 1 ≤ sp ∧ sp ≤ 999 ∧ 1 ≤ a ∧ a ≤ 999 ∧ fl ≤ 7 ∧ f 5 = zI (axP f) ∧ f 6 = zI (axV f) ∧ f 7 = tgI (axT f) ∧ (∀ t, axT f = some t → t ≤ 99999) ∧ (0 ≤ axP f ∧ axP f ≤ 99999) ∧ (-999 ≤ axV f ∧ axV f ≤ 999) ∧ axAc f = a ∧ axM f = tpS sp fl ∧ 0 ≤ rest a (axP f) (axV f) ∧ rest a (axP f) (axV f) ≤ 99999 := by
  rcases h with ⟨o1, -⟩ | ⟨o1, lo, hi, sp, ac, fl, p1, p2, p3, p4, p5, p6, p7, p8, p9, p10, p11, p12, p13, q1, q2, q3, q4, q5, q6⟩
  · exact absurd o1 h0
  · have n32 : ∀ x : Nat, x ≤ 99999 → (nI x).toInt.toNat = x := fun x hx => by rw [nI_toInt (by omega)]; omega
    refine ⟨sp, ac, fl, p3, p4, p5, p8, p9, p10, p11, p12, (zI_x _).symm, (zI_x _).symm, ?_, ?_, ⟨q1, q2⟩, ⟨q3, q4⟩, ?_, ?_, q5, q6⟩
    · unfold axT
      rcases p13 with e | ⟨t, t1, t2, e⟩
      · rw [if_pos (show f 7 = -nI 1 from e), e]; rfl
      · rw [e, if_neg (fun z => m1N (N := t) (by omega) z.symm), n32 t (by omega)]; rfl
    · intro t ht
      unfold axT at ht
      rcases p13 with e | ⟨t', t1, t2, e⟩
      · rw [if_pos (show f 7 = -nI 1 from e)] at ht; cases ht
      · rw [e, if_neg (fun z => m1N (N := t') (by omega) z.symm), n32 t' (by omega)] at ht
        injection ht with ht
        omega
    · unfold axAc; rw [p4, n32 ac (by omega)]
    · unfold axM; rw [p3, p5, n32 sp (by omega), n32 fl (by omega)]
theorem axOK.mv {f : Nat → Int32} (h : axOK f) : axOK (AXM f) := by
  by_cases h0 : f 0 = nI 0
  · exact h.congr (fun k _ => by unfold AXM; rw [if_pos h0])
  · have hh := id h
    obtain ⟨sp, a, fl, e3, e4, e10, s1, s2, a1, a2, f7, e5, e6, e7, ht, hp, hv, ea, eM, r1, r2⟩ := ax_d h h0
    have tb := tpS_b (fl := fl) s1 s2
    obtain ⟨m1, m2, m3, m4⟩ := mv_b (M := tpS sp fl) (tg := axT f) a1 tb.2 hp hv ht r1 r2
    have g : ∀ k, k ≠ 5 → k ≠ 6 → k ≠ 7 → AXM f k = f k := fun k k5 k6 k7 => by unfold AXM; rw [if_neg h0, if_neg k6, if_neg k5, if_neg k7]
    have g5 : AXM f 5 = zI (axP f + mvV a (tpS sp fl) (axP f) (axV f) (axT f)) := by unfold AXM; rw [if_neg h0, if_neg (by decide), if_pos rfl, ea, eM]
    have g6 : AXM f 6 = zI (mvV a (tpS sp fl) (axP f) (axV f) (axT f)) := by unfold AXM; rw [if_neg h0, if_pos rfl, ea, eM]
    have g7 : AXM f 7 = mvT a (tpS sp fl) (axP f) (axV f) (axT f) := by unfold AXM; rw [if_neg h0, if_neg (by decide), if_neg (by decide), if_pos rfl, ea, eM]
    obtain ⟨V, hV⟩ : ∃ V, V = mvV a (tpS sp fl) (axP f) (axV f) (axT f) := ⟨_, rfl⟩
    rw [← hV] at g5 g6 m1 m2 m3 m4
    rcases hh with ⟨o1, -⟩ | ⟨o1, lo, hi, sp', ac, fl', p1, p2, p3, p4, p5, p6, p7, p8, p9, p10, p11, p12, p13, q⟩
    · exact absurd o1 h0
    · right
      have eac : ac = a := by
        have := p4.symm.trans e4
        exact (nI_eq (by omega) (by omega)).mp this
      subst eac
      rw [g 0 (by decide) (by decide) (by decide), g 1 (by decide) (by decide) (by decide), g 2 (by decide) (by decide) (by decide), g 3 (by decide) (by decide) (by decide), g 4 (by decide) (by decide) (by decide), g 10 (by decide) (by decide) (by decide), g5, g6, g7, zI_t (by omega), zI_t (by omega)]
      refine ⟨o1, lo, hi, sp', ac, fl', p1, p2, p3, p4, p5, p6, p7, p8, p9, p10, p11, p12, ?_, m2.1, m2.2, m1.1, m1.2, m3, m4⟩
      cases eT : axT f with
      | none => exact Or.inl rfl
      | some t =>
        have et : f 7 = nI t := by rw [e7, eT]; rfl
        have hmt : mvT ac (tpS sp fl) (axP f) (axV f) (some t) = -nI 1 ∨ mvT ac (tpS sp fl) (axP f) (axV f) (some t) = nI t := by
          by_cases q : axP f + spT ac (tpS sp fl) (axP f) (axV f) t = t ∧ spT ac (tpS sp fl) (axP f) (axV f) t = 0
          · exact Or.inl (if_pos q)
          · exact Or.inr (if_neg q)
        rcases hmt with e | e
        · exact Or.inl e
        · right
          rcases p13 with e' | ⟨t', t1, t2, e'⟩
          · exact absurd (et.symm.trans e').symm (m1N (N := t) (by have := ht t eT; omega))
          · have : t = t' := (nI_eq (by have := ht t eT; omega) (by omega)).mp (et.symm.trans e')
            subst this
            exact ⟨t, t1, t2, e⟩
theorem axOK.lk {f : Nat → Int32} (h : axOK f) : axOK (AXL f) := by
  have g : ∀ k, k ≠ 8 → k ≠ 9 → AXL f k = f k := fun k k8 k9 => by
    unfold AXL
    by_cases h0 : f 0 = nI 0
    · rw [if_pos h0]
    · rw [if_neg h0, if_neg k9, if_neg k8]
  unfold axOK at h ⊢
  rw [g 0 (by decide) (by decide), g 1 (by decide) (by decide), g 2 (by decide) (by decide), g 3 (by decide) (by decide), g 4 (by decide) (by decide), g 5 (by decide) (by decide), g 6 (by decide) (by decide), g 7 (by decide) (by decide), g 10 (by decide) (by decide)]
  exact h
