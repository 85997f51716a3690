/-! PURE: axes: class, a move -/
theorem itq {α : Type} {P Q : Prop} {iP : Decidable P} [iQ : Decidable Q] (e : P = Q) (a b : α) : @ite α P iP a b = @ite α Q iQ a b := by
  by_cases h : Q
  · rw [if_pos h, if_pos (e.mpr h)]
  · rw [if_neg h, if_neg (fun x => h (e.mp x))]
theorem mn_z {st : St} (fu : Nat) {x y : Int} (hx : -2147483648 ≤ x ∧ x < 2147483648) (hy : -2147483648 ≤ y ∧ y < 2147483648) : f_J9_min_7cf53 fu (zI x) (zI y) st = some (zI (if y < x then y else x), st) := by
  unfold f_J9_min_7cf53 b_J9_min_7cf53_10
  by_cases c : y < x
  · rw [if_pos (by rw [zI_lt ⟨hy, hx⟩]; exact c), if_pos c]
  · rw [if_neg (by rw [zI_lt ⟨hy, hx⟩]; exact c), if_neg c]
theorem mx_z {st : St} (fu : Nat) {x y : Int} (hx : -2147483648 ≤ x ∧ x < 2147483648) (hy : -2147483648 ≤ y ∧ y < 2147483648) : f_J9_max_7cf53 fu (zI x) (zI y) st = some (zI (if x < y then y else x), st) := by
  unfold f_J9_max_7cf53 b_J9_max_7cf53_10
  by_cases c : x < y
  · rw [if_pos (by rw [zI_lt ⟨hx, hy⟩]; exact c), if_pos c]
  · rw [if_neg (by rw [zI_lt ⟨hx, hy⟩]; exact c), if_neg c]
/-- the greatest speed, under the fault -/
def tpS (sp fl : Nat) : Nat := if fl / 4 % 2 = 1 then (if sp / 2 < 1 then 1 else sp / 2) else sp
theorem tpS_b {sp fl : Nat} (h1 : 1 ≤ sp) (h2 : sp ≤ 999) : 1 ≤ tpS sp fl ∧ tpS sp fl ≤ 999 := by
  unfold tpS
  by_cases c : fl / 4 % 2 = 1
  · rw [if_pos c]
    by_cases d : sp / 2 < 1
    · rw [if_pos d]; omega
    · rw [if_neg d]; omega
  · rw [if_neg c]; omega
/-- the speed on the way to something d away, from w on -/
def spd (a M d w : Nat) : Nat := bst a d (w - a) (if w + a < M then w + a else M)
theorem pace_c {st : St} {o a sp fl d w : Nat} (ko : kd o = (0, 0)) (h3 : gI st o 3 = nI sp) (h4 : gI st o 4 = nI a) (h10 : gI st o 10 = nI fl) (s1 : 1 ≤ sp) (s2 : sp ≤ 999) (ha : 1 ≤ a) (ha2 : a ≤ 999) (hf : fl ≤ 7) (hw : w ≤ 999) (hd : d ≤ 100000) {fu : Nat} (hfu : 100 ≤ fu) : f_X0_paceFor fu o (nI w) (nI d) st = some (nI (spd a (tpS sp fl) d w), st) := by
  have fd : ∀ fl, fl ≤ 7 → ((nI fl &&& 4 = 0) ↔ fl / 4 % 2 ≠ 1) := by decide +kernel
  have fd := fd fl hf
  obtain ⟨m1, m2⟩ := tpS_b (fl := fl) s1 s2
  have k26 : ∀ M, M ≤ 999 → b_X0_paceFor_26 fu o (nI w) (nI d) (nI M) st = some (nI (spd a M d w), st) := fun M hM => by
    unfold b_X0_paceFor_26 b_X0_paceFor_68
    have e1 : f_J9_max_7cf53 fu 0 (nI w - nI a) st = some (nI (w - a), st) := by
      rw [nI_z (by omega), nI_z (by omega), zI_sub, zI0, mx_z fu (by omega) (by omega)]
      congr 2
      rw [nI_z (by omega)]
      congr 1
      by_cases c : (0 : Int) < (w : Int) - a
      · rw [if_pos c]; omega
      · rw [if_neg c]; omega
    have e2 : f_J9_min_7cf53 fu (nI w + nI a) (nI M) st = some (nI (if w + a < M then w + a else M), st) := by
      rw [nI_add, nI_z (by omega), nI_z (by omega), mn_z fu (by omega) (by omega)]
      congr 2
      rw [nI_z (by split <;> omega)]
      congr 1
      by_cases c : w + a < M
      · rw [if_pos c, if_neg (by omega)]
      · rw [if_neg c]
        by_cases c2 : (M : Int) < ((w + a : Nat) : Int)
        · rw [if_pos c2]
        · rw [if_neg c2]; omega
    obtain ⟨tp, htp⟩ : ∃ tp, tp = if w + a < M then w + a else M := ⟨_, rfl⟩
    have tb : tp ≤ w + a ∧ tp ≤ M := by
      rw [htp]
      by_cases c : w + a < M
      · rw [if_pos c]; omega
      · rw [if_neg c]; omega
    rw [ck_t (show (kd o).1 = 0 by rw [ko]), h4, e1, ca_s, ck_t (show (kd o).1 = 0 by rw [ko]), h4, e2, ca_s]
    unfold spd
    rw [← htp]
    by_cases c : tp ≤ w - a
    · rw [if_pos ((nI_leI (by omega) (by omega)).mpr c), bst_l ha tp (Or.inl c)]
    · rw [if_neg (fun q => c ((nI_leI (by omega) (by omega)).mp q)), ck_t (show (kd o).1 = 0 by rw [ko]), rests_c ko h4 ha ha2 (by omega) hd fu, ca_s]
      by_cases q : dst a (w - a) ≤ d
      · rw [if_pos q, if_neg (show ¬ nI 1 = 0 by decide)]
        exact pf74 ko h4 ha ha2 (top := tp) (least := w - a) (by omega) hd fu fu 0 (w - a) tp (by omega) (by omega) (by omega) (Nat.le_refl _) (Nat.le_refl _) q (fun z => by omega) (by show _ < 4096; omega)
      · rw [if_neg q, if_pos (show nI 0 = 0 from rfl), bst_l ha tp (Or.inr (by omega))]
  unfold f_X0_paceFor tpS
  rw [ck_t (show (kd o).1 = 0 by rw [ko]), h10]
  by_cases c : fl / 4 % 2 = 1
  · rw [if_neg (fun z => fd.mp z c), if_pos c, ck_t (show (kd o).1 = 0 by rw [ko]), ck_t (by decide), h3]
    have e : f_J9_max_7cf53 fu 1 (nI sp / 2) st = some (nI (if sp / 2 < 1 then 1 else sp / 2), st) := by
      rw [show (2 : Int32) = nI 2 from rfl, pk_div (by omega) (by omega) (by omega), show (1 : Int32) = zI 1 from rfl, nI_z (by omega), mx_z fu (by omega) (by omega)]
      congr 2
      rw [nI_z (by split <;> omega)]
      congr 1
      by_cases d : sp / 2 < 1
      · rw [if_pos d, if_neg (by omega)]; rfl
      · rw [if_neg d]
        by_cases d2 : (1 : Int) < ((sp / 2 : Nat) : Int)
        · rw [if_pos d2]
        · rw [if_neg d2]; omega
    rw [e, ca_s]
    have := k26 (if sp / 2 < 1 then 1 else sp / 2) (by split <;> omega)
    exact this
  · rw [if_pos (fd.mpr c), if_neg c, ck_t (show (kd o).1 = 0 by rw [ko]), h3]
    exact k26 sp (by omega)
/-- at p with speed v, for target t (or none): the new speed -/
def spN (a : Nat) (v : Int) : Int := if 0 < v then (if 0 < v - a then v - a else 0) else (if v + a < 0 then v + a else 0)
def spT (a M : Nat) (p v : Int) (t : Nat) : Int :=
  if (t : Int) < p then (if -v < 0 then - (if -v + a < 0 then -v + a else 0) else - ((spd a M (p - t).toNat (-v).toNat : Nat) : Int))
  else (if v < 0 then (if v + a < 0 then v + a else 0) else ((spd a M ((t : Int) - p).toNat v.toNat : Nat) : Int))
theorem spT_1 {a M : Nat} {p v : Int} {t : Nat} (h : (t : Int) < p) (h2 : -v < 0) : spT a M p v t = - (if -v + a < 0 then -v + a else 0) := by unfold spT; rw [if_pos h, if_pos h2]
theorem spT_2 {a M : Nat} {p v : Int} {t : Nat} (h : (t : Int) < p) (h2 : ¬ -v < 0) : spT a M p v t = - ((spd a M (p - t).toNat (-v).toNat : Nat) : Int) := by unfold spT; rw [if_pos h, if_neg h2]
theorem spT_3 {a M : Nat} {p v : Int} {t : Nat} (h : ¬ (t : Int) < p) (h2 : v < 0) : spT a M p v t = if v + a < 0 then v + a else 0 := by unfold spT; rw [if_neg h, if_pos h2]
theorem spT_4 {a M : Nat} {p v : Int} {t : Nat} (h : ¬ (t : Int) < p) (h2 : ¬ v < 0) : spT a M p v t = ((spd a M ((t : Int) - p).toNat v.toNat : Nat) : Int) := by unfold spT; rw [if_neg h, if_neg h2]
def mvV (a M : Nat) (p v : Int) : Option Nat → Int
  | none => spN a v
  | some t => spT a M p v t
def mvT (a M : Nat) (p v : Int) : Option Nat → Int32
  | none => -nI 1
  | some t => if p + spT a M p v t = t ∧ spT a M p v t = 0 then -nI 1 else nI t
def tgI : Option Nat → Int32
  | none => -nI 1
  | some t => nI t
theorem spd_0 {a M w : Nat} (ha : 1 ≤ a) : spd a M 0 w = w - a := by
  unfold spd
  by_cases z : w - a = 0
  · by_cases c : (if w + a < M then w + a else M) = 0
    · rw [c]; rfl
    · have := bst_u ha (d := 0) (least := w - a) (if w + a < M then w + a else M) 0 (by omega) (by omega) (by rw [dst_0]; exact Nat.le_refl _) (fun _ => by have := dst_m ha 0; omega)
      omega
  · refine bst_l ha _ (Or.inr ?_)
    have := dst_m ha (w - a - 1)
    rw [show w - a - 1 + 1 = w - a by omega] at this
    omega
theorem spd_b {a M d w : Nat} (hM : M ≤ 999) (hw : w ≤ 999) : spd a M d w ≤ 999 := by
  unfold spd
  rcases bst_b (a := a) (d := d) (least := w - a) (if w + a < M then w + a else M) with e | ⟨-, e, -⟩
  · rw [e]; omega
  · have : (if w + a < M then w + a else M) ≤ M := by split <;> omega
    omega
def mvS (o : Nat) (p x : Int) (T : Int32) (st : St) : St := sI (sI (sI st o 6 (zI x)) o 5 (zI (p + x))) o 7 T
theorem m151 {st : St} {o t : Nat} {p x : Int} (ko : kd o = (0, 0)) (h5 : gI st o 5 = zI p) (h7 : gI st o 7 = nI t) (ht : t ≤ 99999) (hp : 0 ≤ p ∧ p ≤ 99999) (hx : -2000 ≤ x ∧ x ≤ 2000) (fu : Nat) : b_X0_move_151 fu o o (zI x) st = some (mvS o p x (if p + x = t ∧ x = 0 then -nI 1 else nI t) st) := by
  obtain ⟨s7, hs7⟩ : ∃ s7, s7 = sI (sI st o 6 (zI x)) o 5 (zI (p + x)) := ⟨_, rfl⟩
  have g5 : gI (sI st o 6 (zI x)) o 5 = zI p := by rw [gI_sI, if_neg (by omega)]; exact h5
  have g6 : gI (sI st o 6 (zI x)) o 6 = zI x := by rw [gI_sI, if_pos ⟨rfl, rfl⟩]
  have k5 : gI s7 o 5 = zI (p + x) := by rw [hs7, gI_sI, if_pos ⟨rfl, rfl⟩]
  have k6 : gI s7 o 6 = zI x := by rw [hs7, gI_sI, if_neg (by omega)]; exact g6
  have k7 : gI s7 o 7 = nI t := by rw [hs7, gI_sI, if_neg (by omega), gI_sI, if_neg (by omega)]; exact h7
  have fin : sI s7 o 7 (nI t) = s7 := by rw [← k7]; exact sI_id _ _ _
  unfold b_X0_move_151 b_X0_move_190 mvS
  rw [ck_t (show (kd o).1 = 0 by rw [ko]), bd_e, ck_t (show (kd o).1 = 0 by rw [ko]), ck_t (show (kd o).1 = 0 by rw [ko]), ck_t (show (kd o).1 = 0 by rw [ko]), g5, g6, zI_add, ← hs7, bd_e, ck_t (show (kd o).1 = 0 by rw [ko]), ck_t (show (kd o).1 = 0 by rw [ko]), k5, k7, k6]
  have e1 : (zI (p + x) = nI t) = (p + x = t) := by rw [nI_z (by omega), zI_eq (by omega)]
  have e2 : (zI x = (0 : Int32)) = (x = 0) := by rw [zI0, zI_eq (by omega)]
  rw [itq e1, itq e2]
  by_cases c : p + x = t
  · rw [if_pos c, ck_t (show (kd o).1 = 0 by rw [ko])]
    by_cases d : x = 0
    · rw [if_pos d, if_pos ⟨c, d⟩, ck_t (show (kd o).1 = 0 by rw [ko]), bd_e]; rfl
    · rw [if_neg d, if_neg (fun z => d z.2), fin]
  · rw [if_neg c, if_neg (fun z => c z.1), fin]
theorem abs_z {st : St} (fu : Nat) {x : Int} (hx : -200000 ≤ x ∧ x ≤ 200000) : f_J9_abs_0f7a4 fu (zI x) st = some (nI x.natAbs, st) := by
  unfold f_J9_abs_0f7a4 b_J9_abs_0f7a4_10
  have e : ((0 : Int32) ≤ zI x) = (0 ≤ x) := by rw [zI0, zI_le (by omega)]
  rw [itq e]
  by_cases c : 0 ≤ x
  · rw [if_pos c, nI_z (by omega)]
    congr 3
    omega
  · rw [if_neg c, zI_neg, nI_z (by omega)]
    congr 3
    omega
theorem m109 {st : St} {o a sp fl t : Nat} {p y : Int} {x2 : Nat} (ko : kd o = (0, 0)) (h3 : gI st o 3 = nI sp) (h4 : gI st o 4 = nI a) (h10 : gI st o 10 = nI fl) (s1 : 1 ≤ sp) (s2 : sp ≤ 999) (ha : 1 ≤ a) (ha2 : a ≤ 999) (hf : fl ≤ 7) (h5 : gI st o 5 = zI p) (h7 : gI st o 7 = nI t) (ht : t ≤ 99999) (hp : 0 ≤ p ∧ p ≤ 99999) (hy : -999 ≤ y ∧ y ≤ 999) {fu : Nat} (hfu : 100 ≤ fu) (hx2 : x2 ≤ 1) : b_X0_move_109 fu o (zI ((t : Int) - p)) (nI x2) (zI y) st = some (mvS o p ((if x2 = 0 then -1 else 1) * (if 0 ≤ y then ((spd a (tpS sp fl) ((t : Int) - p).natAbs y.toNat : Nat) : Int) else (if y + a < 0 then y + a else 0))) (if p + ((if x2 = 0 then -1 else 1) * (if 0 ≤ y then ((spd a (tpS sp fl) ((t : Int) - p).natAbs y.toNat : Nat) : Int) else (if y + a < 0 then y + a else 0))) = t ∧ ((if x2 = 0 then -1 else 1) * (if 0 ≤ y then ((spd a (tpS sp fl) ((t : Int) - p).natAbs y.toNat : Nat) : Int) else (if y + a < 0 then y + a else 0))) = 0 then -nI 1 else nI t) st) := by
  have k136 : ∀ x : Int, -1000 ≤ x → x ≤ 1000 → b_X0_move_136 fu o (nI x2) (zI x) st = some (mvS o p ((if x2 = 0 then -1 else 1) * x) (if p + ((if x2 = 0 then -1 else 1) * x) = t ∧ ((if x2 = 0 then -1 else 1) * x) = 0 then -nI 1 else nI t) st) := fun x xa xb => by
    unfold b_X0_move_136
    by_cases c : x2 = 0
    · subst c
      rw [if_pos (show nI 0 = 0 from rfl), if_pos rfl, zI_neg, show (-1 : Int) * x = -x by omega]
      exact m151 ko h5 h7 ht hp (by omega) fu
    · have : x2 = 1 := by omega
      subst this
      rw [if_neg (show ¬ nI 1 = 0 by decide), if_neg (by decide), show (1 : Int) * x = x by omega]
      exact m151 ko h5 h7 ht hp (by omega) fu
  obtain ⟨m1, m2⟩ := tpS_b (fl := fl) s1 s2
  unfold b_X0_move_109
  have e0 : ((0 : Int32) ≤ zI y) = (0 ≤ y) := by rw [zI0, zI_le (by omega)]
  rw [itq e0]
  by_cases c : 0 ≤ y
  · have sb := spd_b (a := a) (d := ((t : Int) - p).natAbs) (w := y.toNat) m2 (by omega)
    have pc := pace_c ko h3 h4 h10 s1 s2 ha ha2 hf (w := y.toNat) (d := ((t : Int) - p).natAbs) (by omega) (by omega) hfu
    obtain ⟨S, hS⟩ : ∃ S, S = spd a (tpS sp fl) ((t : Int) - p).natAbs y.toNat := ⟨_, rfl⟩
    rw [← hS] at sb pc ⊢
    have kk := k136 (S : Int) (by omega) (by omega)
    rw [if_pos c, if_pos c, abs_z fu (by omega), ca_s, ck_t (show (kd o).1 = 0 by rw [ko]), zI_n c (by omega), pc, ca_s, nI_z (by omega)]
    exact kk
  · rw [if_neg c, if_neg c, ck_t (show (kd o).1 = 0 by rw [ko]), h4, nI_z (by omega), zI_add, zI0, mn_z fu (by omega) (by omega), ca_s]
    have kk := k136 (if y + a < 0 then y + a else 0) (by split <;> omega) (by split <;> omega)
    exact kk
theorem move_c {st : St} {o a sp fl : Nat} {p v : Int} {tg : Option Nat} (ko : kd o = (0, 0)) (h3 : gI st o 3 = nI sp) (h4 : gI st o 4 = nI a) (h10 : gI st o 10 = nI fl) (s1 : 1 ≤ sp) (s2 : sp ≤ 999) (ha : 1 ≤ a) (ha2 : a ≤ 999) (hf : fl ≤ 7) (h5 : gI st o 5 = zI p) (h6 : gI st o 6 = zI v) (h7 : gI st o 7 = tgI tg) (ht : ∀ t, tg = some t → t ≤ 99999) (hp : 0 ≤ p ∧ p ≤ 99999) (hv : -999 ≤ v ∧ v ≤ 999) {fu : Nat} (hfu : 100 ≤ fu) : f_X0_move fu o st = some (mvS o p (mvV a (tpS sp fl) p v tg) (mvT a (tpS sp fl) p v tg) st) := by
  unfold f_X0_move
  rw [ck_t (show (kd o).1 = 0 by rw [ko])]
  have e0 : (zI v ≤ (0 : Int32)) = (v ≤ 0) := by rw [zI0, zI_le (by omega)]
  cases tg with
  | none =>
    have h7 : gI st o 7 = -nI 1 := h7
    have k45 : ∀ x : Int, -1000 ≤ x → x ≤ 1000 → b_X0_move_45 fu o o (zI x) st = some (mvS o p x (-nI 1) st) := fun x xa xb => by
      have g5 : gI (sI st o 6 (zI x)) o 5 = zI p := by rw [gI_sI, if_neg (by omega)]; exact h5
      have g6 : gI (sI st o 6 (zI x)) o 6 = zI x := by rw [gI_sI, if_pos ⟨rfl, rfl⟩]
      have g7 : gI (sI (sI st o 6 (zI x)) o 5 (zI (p + x))) o 7 = -nI 1 := by rw [gI_sI, if_neg (by omega), gI_sI, if_neg (by omega)]; exact h7
      have fin : sI (sI (sI st o 6 (zI x)) o 5 (zI (p + x))) o 7 (-nI 1) = sI (sI st o 6 (zI x)) o 5 (zI (p + x)) := by
        have := sI_id (sI (sI st o 6 (zI x)) o 5 (zI (p + x))) o 7
        rw [g7] at this
        exact this
      unfold b_X0_move_45 mvS
      rw [ck_t (show (kd o).1 = 0 by rw [ko]), bd_e, ck_t (show (kd o).1 = 0 by rw [ko]), ck_t (show (kd o).1 = 0 by rw [ko]), ck_t (show (kd o).1 = 0 by rw [ko]), g5, g6, zI_add, bd_e, fin]
    rw [h7, if_pos (show (-nI 1 : Int32) = -1 from rfl), ck_t (show (kd o).1 = 0 by rw [ko]), h6, itq e0]
    show _ = some (mvS o p (spN a v) (-nI 1) st)
    unfold spN
    by_cases c : v ≤ 0
    · rw [if_pos c, if_neg (by omega), ck_t (show (kd o).1 = 0 by rw [ko]), ck_t (show (kd o).1 = 0 by rw [ko]), h4, nI_z (by omega), zI_add, zI0, mn_z fu (by omega) (by omega), ca_s]
      exact k45 _ (by split <;> omega) (by split <;> omega)
    · rw [if_neg c, if_pos (by omega), ck_t (show (kd o).1 = 0 by rw [ko]), ck_t (show (kd o).1 = 0 by rw [ko]), h4, nI_z (by omega), zI_sub, zI0, mx_z fu (by omega) (by omega), ca_s]
      exact k45 _ (by split <;> omega) (by split <;> omega)
  | some t =>
    have t9 := ht t rfl
    have h7 : gI st o 7 = nI t := h7
    have nt : ¬ nI t = (-1 : Int32) := fun z => m1N (N := t) (by omega) (show (-nI 1 : Int32) = nI t from z.symm)
    have ew : nI t - zI p = zI ((t : Int) - p) := by rw [nI_z (by omega), zI_sub]
    have e1 : ((0 : Int32) < zI ((t : Int) - p)) = (0 < (t : Int) - p) := by rw [zI0, zI_lt (by omega)]
    have e2 : (zI ((t : Int) - p) = (0 : Int32)) = ((t : Int) - p = 0) := by rw [zI0, zI_eq (by omega)]
    rw [h7, if_neg nt, ck_t (show (kd o).1 = 0 by rw [ko]), ck_t (show (kd o).1 = 0 by rw [ko]), h5, ew, bd_e, itq e1, itq e2]
    have fwd := m109 (y := v) (x2 := 1) ko h3 h4 h10 s1 s2 ha ha2 hf h5 h7 t9 hp hv hfu (by omega)
    have bwd := m109 (y := -v) (x2 := 0) ko h3 h4 h10 s1 s2 ha ha2 hf h5 h7 t9 hp (by omega) hfu (by omega)
    rw [if_neg (show ¬ (1 : Nat) = 0 by decide), Int.one_mul] at fwd
    rw [if_pos rfl] at bwd
    have f87 : b_X0_move_87 fu o (zI ((t : Int) - p)) st = b_X0_move_109 fu o (zI ((t : Int) - p)) (nI 1) (zI v) st := by
      unfold b_X0_move_87 b_X0_move_92
      rw [if_neg (show ¬ (1 : Int32) = 0 by decide), ck_t (show (kd o).1 = 0 by rw [ko]), h6]; rfl
    have f91 : b_X0_move_91 fu o (zI ((t : Int) - p)) st = b_X0_move_109 fu o (zI ((t : Int) - p)) (nI 0) (zI (-v)) st := by
      unfold b_X0_move_91 b_X0_move_92
      rw [if_pos rfl, ck_t (show (kd o).1 = 0 by rw [ko]), h6, zI_neg]; rfl
    have go : ∀ X : Int, X = spT a (tpS sp fl) p v t → some (mvS o p X (if p + X = t ∧ X = 0 then -nI 1 else nI t) st) = some (mvS o p (mvV a (tpS sp fl) p v (some t)) (mvT a (tpS sp fl) p v (some t)) st) := fun X hX => by
      subst hX; rfl
    by_cases c1 : 0 < (t : Int) - p
    · rw [if_pos c1, f87, fwd]
      apply go
      by_cases q : 0 ≤ v
      · rw [if_pos q, spT_4 (by omega) (by omega), show ((t : Int) - p).natAbs = ((t : Int) - p).toNat by omega]
      · rw [if_neg q, spT_3 (by omega) (by omega)]
    · rw [if_neg c1]
      by_cases c2 : (t : Int) - p = 0
      · rw [if_pos c2, ck_t (show (kd o).1 = 0 by rw [ko]), h6, itq e0]
        by_cases q : v ≤ 0
        · rw [if_pos q, f91, bwd]
          apply go
          rw [if_pos (show 0 ≤ -v by omega), show ((t : Int) - p).natAbs = 0 by omega, spd_0 ha]
          by_cases z : v < 0
          · rw [spT_3 (by omega) z]
            by_cases y : v + a < 0
            · rw [if_pos y]; omega
            · rw [if_neg y]; omega
          · have : v = 0 := by omega
            subst this
            rw [spT_4 (by omega) (by omega), show ((t : Int) - p).toNat = 0 by omega, spd_0 ha]
            simp
        · rw [if_neg q, f87, fwd]
          apply go
          rw [if_pos (show 0 ≤ v by omega), spT_4 (by omega) (by omega), show ((t : Int) - p).natAbs = ((t : Int) - p).toNat by omega]
      · rw [if_neg c2, f91, bwd]
        apply go
        by_cases q : 0 ≤ -v
        · rw [if_pos q, spT_2 (by omega) (by omega), show ((t : Int) - p).natAbs = (p - (t : Int)).toNat by omega]; omega
        · rw [if_neg q, spT_1 (by omega) (by omega)]; omega
