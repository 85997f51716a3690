/-! PURE: share -/
def TwoL (fC fR : St → Option (Int64 × St)) (W : List PL) (Q : St → Prop) (st : St) : Prop := ∃ r u w, fC st = some (r, u) ∧ fR u = some (r, w) ∧ Fr W st w ∧ Q w
theorem ab2 {x y X Y : Int} (hx : -X ≤ x ∧ x ≤ X) (hy : -Y ≤ y ∧ y ≤ Y) : -(X * Y) ≤ x * y ∧ x * y ≤ X * Y := by
  have h1 := Int.mul_nonneg (show 0 ≤ X - x by omega) (show 0 ≤ Y + y by omega)
  have h2 := Int.mul_nonneg (show 0 ≤ X + x by omega) (show 0 ≤ Y - y by omega)
  have h3 := Int.mul_nonneg (show 0 ≤ X - x by omega) (show 0 ≤ Y - y by omega)
  have h4 := Int.mul_nonneg (show 0 ≤ X + x by omega) (show 0 ≤ Y + y by omega)
  simp only [Int.sub_mul, Int.mul_sub, Int.add_mul, Int.mul_add] at h1 h2 h3 h4
  omega
def dtI (a b c d e f g h i : Int) : Int := a * (e * i - f * h) - b * (d * i - f * g) + c * (d * h - e * g)
theorem dt_z (a b c d e f g h i : Int) : dt (zL a) (zL b) (zL c) (zL d) (zL e) (zL f) (zL g) (zL h) (zL i) = zL (dtI a b c d e f g h i) := by
  unfold dt dtI
  simp only [zL_mul, zL_sub, zL_add]
theorem dtI_b {a b c d e f g h i A B C : Int} (ha : -A ≤ a ∧ a ≤ A) (hb : -B ≤ b ∧ b ≤ B) (hc : -C ≤ c ∧ c ≤ C) (hd : -A ≤ d ∧ d ≤ A) (he : -B ≤ e ∧ e ≤ B) (hf : -C ≤ f ∧ f ≤ C) (hg : -A ≤ g ∧ g ≤ A) (hh : -B ≤ h ∧ h ≤ B) (hi : -C ≤ i ∧ i ≤ C) : -(2 * (A * (B * C)) + 2 * (B * (A * C)) + 2 * (C * (A * B))) ≤ dtI a b c d e f g h i ∧ dtI a b c d e f g h i ≤ 2 * (A * (B * C)) + 2 * (B * (A * C)) + 2 * (C * (A * B)) := by
  have t1 := ab2 ha (ab2 he hi)
  have t2 := ab2 ha (ab2 hh hf)
  have t3 := ab2 hb (ab2 hd hi)
  have t4 := ab2 hb (ab2 hg hf)
  have t5 := ab2 hc (ab2 hd hh)
  have t6 := ab2 hc (ab2 hg he)
  have e1 : f * h = h * f := Int.mul_comm _ _
  have e2 : f * g = g * f := Int.mul_comm _ _
  have e3 : e * g = g * e := Int.mul_comm _ _
  unfold dtI
  rw [Int.mul_sub, Int.mul_sub, Int.mul_sub, e1, e2, e3]
  omega
/-- the greatest common part, by turns: the product halves -/
theorem gcd_h {l m k : Nat} (h1 : 0 < l) (h2 : l ≤ m) (h3 : l * m < 2 ^ (k + 1)) : (m % l) * l < 2 ^ k := by
  have hd := Nat.div_add_mod m l
  have hq : 1 ≤ m / l := (Nat.one_le_div_iff h1).mpr h2
  have hm : l * 1 ≤ l * (m / l) := Nat.mul_le_mul_left l hq
  have hl : m % l < l := Nat.mod_lt _ h1
  have h5 : 2 * (m % l) ≤ m := by omega
  have h6 : 2 * (m % l) * l ≤ m * l := Nat.mul_le_mul_right l h5
  rw [Nat.mul_comm l m] at h3
  rw [Nat.pow_succ] at h3
  rw [Nat.mul_assoc] at h6
  omega
theorem lcmp0 {a : Nat} (h : a < 9223372036854775808) : (lN a ≤ lN 0) = (a = 0) := by
  rw [lle (by omega)]
  exact propext (by omega)
theorem gcd_c {st : St} (fu : Nat) : ∀ (k F i l m : Nat), l ≤ m → 0 < m → m < 9223372036854775808 → l * m < 2 ^ k → k + i < 100 → k < F → b_X5_commonOf_9 fu F (lN l) (lN m) (nI i) st = some (lN (Nat.gcd l m), st) := by
  intro k
  induction k with
  | zero =>
    intro F i l m h1 h2 h3 h4 h5 h6
    have : l = 0 := by
      have : l * m = 0 := by omega
      rcases Nat.mul_eq_zero.mp this with h | h
      · exact h
      · omega
    subst this
    obtain ⟨G, rfl⟩ : ∃ G, F = G + 1 := ⟨F - 1, by omega⟩
    show b_X5_commonOf_9_b fu (b_X5_commonOf_9 fu G) (lN 0) (lN m) (nI i) st = _
    have z := lcmp0 h3
    rw [eq_false (show ¬ m = 0 by omega)] at z
    rw [Nat.gcd_zero_left]
    simp (disch := omega) [b_X5_commonOf_9_b, b_X5_commonOf_44, b_X5_commonOf_57, NF, NC, LF, LC, lcmp0]
    omega
  | succ k ih =>
    intro F i l m h1 h2 h3 h4 h5 h6
    obtain ⟨G, rfl⟩ : ∃ G, F = G + 1 := ⟨F - 1, by omega⟩
    show b_X5_commonOf_9_b fu (b_X5_commonOf_9 fu G) (lN l) (lN m) (nI i) st = _
    rcases Nat.eq_zero_or_pos l with z | z
    · subst z
      rw [Nat.gcd_zero_left]
      simp (disch := omega) [b_X5_commonOf_9_b, b_X5_commonOf_44, b_X5_commonOf_57, NF, NC, LF, LC, lcmp0]
      omega
    · have e := ih G (i + 1) (m % l) l (Nat.le_of_lt (Nat.mod_lt _ z)) z (by omega) (gcd_h z h1 h4) (by omega) (by omega)
      have rm : lN m - lN m / lN l * lN l = lN (m % l) := pk_lRem (by omega) z (by omega)
      have nz : ¬ lN l = lN 0 := by rw [leq (by omega)]; omega
      have nz2 : ¬ lN l ≤ lN 0 := by rw [lle (by omega)]; omega
      rw [Nat.gcd_rec l m, ← e]
      unfold b_X5_commonOf_9_b
      rw [if_neg (show ¬ (100 : Int32) ≤ nI i from fun q => by have := (nI_leI (a := 100) (b := i) (by omega) (by omega)).mp q; omega), if_neg (show ¬ lg_cmp (lN l) 0 ≤ 0 from fun q => nz2 ((lg_cmp_le _ _).mp q)), ck_t (show ¬ lN l = 0 from nz), bd_e, bd_e, rm, show nI i + 1 = nI (i + 1) from nI_add i 1]
theorem gcd_r {st : St} (fu : Nat) : ∀ (k F l m : Nat), l ≤ m → m < 9223372036854775808 → l * m < 2 ^ k → k < F → b_X12_common_6 fu F (lN m) (lN l) st = some (lN (Nat.gcd l m), st) := by
  intro k
  induction k with
  | zero =>
    intro F l m h1 h3 h4 h6
    obtain ⟨G, rfl⟩ : ∃ G, F = G + 1 := ⟨F - 1, by omega⟩
    show b_X12_common_6_b fu (b_X12_common_6 fu G) (lN m) (lN l) st = _
    have : l = 0 := by
      have : l * m = 0 := by omega
      rcases Nat.mul_eq_zero.mp this with h | h
      · exact h
      · omega
    subst this
    unfold b_X12_common_6_b
    rw [Nat.gcd_zero_left, if_pos (show lg_cmp (lN 0) 0 = 0 from (lg_cmp_eq _ _).mpr rfl)]
  | succ k ih =>
    intro F l m h1 h3 h4 h6
    obtain ⟨G, rfl⟩ : ∃ G, F = G + 1 := ⟨F - 1, by omega⟩
    show b_X12_common_6_b fu (b_X12_common_6 fu G) (lN m) (lN l) st = _
    unfold b_X12_common_6_b
    rcases Nat.eq_zero_or_pos l with z | z
    · subst z
      rw [Nat.gcd_zero_left, if_pos (show lg_cmp (lN 0) 0 = 0 from (lg_cmp_eq _ _).mpr rfl)]
    · have e := ih G (m % l) l (Nat.le_of_lt (Nat.mod_lt _ z)) (by omega) (gcd_h z h1 h4) (by omega)
      have rm : lN m - lN m / lN l * lN l = lN (m % l) := pk_lRem (by omega) z (by omega)
      have nz : ¬ lN l = lN 0 := by rw [leq (by omega)]; omega
      rw [Nat.gcd_rec l m, ← e, if_neg (show ¬ lg_cmp (lN l) 0 = 0 from fun q => nz ((lg_cmp_eq _ _).mp q)), ck_t (show ¬ lN l = 0 from nz), bd_e, rm]
theorem common_r {st : St} (fu : Nat) {k l m : Nat} (h1 : l < m) (h3 : m < 9223372036854775808) (h4 : l * m < 2 ^ k) (h6 : k + 1 < fu) : f_X12_common fu (lN l) (lN m) st = some (lN (Nat.gcd l m), st) := by
  obtain ⟨G, rfl⟩ : ∃ G, fu = G + 1 := ⟨fu - 1, by omega⟩
  show b_X12_common_6_b (G + 1) (b_X12_common_6 (G + 1) G) (lN l) (lN m) st = _
  have rm : lN l - lN l / lN m * lN m = lN (l % m) := pk_lRem (by omega) (by omega) (by omega)
  have nz : ¬ lN m = lN 0 := by rw [leq (by omega)]; omega
  unfold b_X12_common_6_b
  rw [if_neg (show ¬ lg_cmp (lN m) 0 = 0 from fun q => nz ((lg_cmp_eq _ _).mp q)), ck_t (show ¬ lN m = 0 from nz), bd_e, rm, Nat.mod_eq_of_lt h1]
  exact gcd_r (G + 1) k G l m (by omega) h3 h4 (by omega)
/-- what is told of a part and a whole above 0 -/
theorem tell_92 {st u : St} {fu : Nat} (hf : 200 ≤ fu) (what : Int32) {w p : Int} (hw : 0 < w ∧ w < 1073741824) (hp : -4611686018427387904 < p ∧ p < 4611686018427387904) : ∃ v, b_X5_tell_92 fu what (zL w) (zL p) st = some (v, st) ∧ b_X12_share_319 fu what (zL w) (zL p) u = some (v, u) := by
  have fm := fmodL (st := st) fu (a := p) (b := w) (by omega) (by omega)
  have fd := fdivL (st := st) fu (a := p) (b := w) (by omega) (by omega)
  obtain ⟨d1, d2⟩ := ed_b (x := p) hw.1
  obtain ⟨r, hr⟩ : ∃ r : Nat, (r : Int) = p - p / w * w := ⟨(p - p / w * w).toNat, by omega⟩
  obtain ⟨W, hW⟩ : ∃ W : Nat, (W : Int) = w := ⟨w.toNat, by omega⟩
  have rW : r < W := by omega
  have prod : r * W < 2 ^ 60 := by
    have : r * W ≤ W * W := Nat.mul_le_mul_right W (by omega)
    have h2 : W * W ≤ 1073741824 * 1073741824 := Nat.mul_le_mul (by omega) (by omega)
    have h3 : W * W < 1073741824 * 1073741824 := by
      have : W * W ≤ 1073741823 * 1073741823 := Nat.mul_le_mul (by omega) (by omega)
      omega
    omega
  rw [← hr, ← lN_z (by omega)] at fm
  have gc := gcd_c (st := st) fu 60 fu 0 r W (by omega) (by omega) (by omega) prod (by omega) (by omega)
  have gc' : f_X5_commonOf fu (lN r) (lN W) st = some (lN (Nat.gcd r W), st) := gc
  have gr := common_r (st := u) fu rW (by omega) prod (show 60 + 1 < fu by omega)
  have gpos : 0 < Nat.gcd r W := Nat.gcd_pos_of_pos_right _ (by omega)
  have gle : Nat.gcd r W ≤ W := Nat.gcd_le_right _ (by omega)
  have gnz : ¬ lN (Nat.gcd r W) = 0 := by rw [show (0 : Int64) = lN 0 from rfl, leq (by omega)]; omega
  have zW : zL w = lN W := by rw [← hW, lN_z (by omega)]
  have wnz : ¬ zL w = 0 := by rw [zW, show (0 : Int64) = lN 0 from rfl, leq (by omega)]; omega
  -- the reference's two divisions
  have ref : b_X12_share_319 fu what (zL w) (zL p) u = b_X12_share_353 fu what (zL w) (zL (p / w)) (lN r) u := by
    have tf := td_f (x := p) hw.1
    have hr2 := td_r (x := p) hw.1
    have dv := zL_div (a := p) (b := w) (by omega) (by omega)
    unfold b_X12_share_319
    rw [ck_t wnz, bd_e, ck_t wnz, bd_e, dv, zL_mul, zL_sub]
    by_cases h0 : 0 ≤ p
    · have e := tf.1 h0
      rw [e, ← hr, if_pos, lN_z (by omega)]
      rw [lg_cmp_ge, show (0 : Int64) = lN 0 from rfl, ← lN_z (by omega), lle (by omega)]
      omega
    · obtain ⟨t1, t2, t3, t4, t5⟩ := tf.2 (by omega)
      by_cases hq : p.tdiv w * w = p
      · have e := t1 hq
        rw [e, ← hr, if_pos, lN_z (by omega)]
        rw [lg_cmp_ge, show (0 : Int64) = lN 0 from rfl, ← lN_z (by omega), lle (by omega)]
        omega
      · have e := t2 hq
        have lt : p - p.tdiv w * w < 0 := by omega
        rw [if_neg, bd_e, bd_e, show (1 : Int64) = zL 1 from rfl, zL_sub, zL_add, e]
        · have : p - p.tdiv w * w + w = (r : Int) := by
            rw [hr, ← e, Int.sub_mul]
            omega
          rw [this, lN_z (by omega)]
        · rw [lg_cmp_ge, show (0 : Int64) = zL 0 from rfl, Int64.le_iff_toInt_le, zL_t (by omega), zL_t (by omega)]
          omega
  rw [ref]
  unfold b_X5_tell_92 b_X12_share_353 b_X5_tell_134 b_X12_share_387
  rw [fm, ca_s]
  by_cases w0 : what = 0
  · rw [if_pos w0, if_pos w0, fd, ca_s]
    exact ⟨_, rfl, rfl⟩
  · rw [if_neg w0, if_neg w0, zW, gc', ca_s, gr, ca_s]
    by_cases w1 : what = 1
    · rw [if_pos w1, if_pos w1, ck_t gnz, ck_t gnz]
      exact ⟨_, rfl, rfl⟩
    · rw [if_neg w1, if_neg w1, ck_t gnz, ck_t gnz]
      exact ⟨_, rfl, rfl⟩
def P_sh (st : St) : Prop := ∃ (o q : Nat) (A : Nat → Nat), gR st 134 0 = o ∧ gR st 134 1 = q ∧ ((o = 135 ∧ q = 136) ∨ (o = 136 ∧ q = 135)) ∧ (∀ k, k < 15 → gI st o k = nI (A k) ∧ A k ≤ 400000 ∧ (k % 5 ≠ 4 → A k ≤ 400)) ∧ (∀ p, p < 3 → gL st 243 p = lN (A (5 * p + 3)) ∧ gL st 245 p = lN (A (5 * p + 4)) ∧ ∀ q, q < 3 → gL st 244 (3 * p + q) = lN (A (5 * p + q)))
def S_sh : List PL := [(134, some 0), (134, some 1), (135, none), (136, none), (243, none), (244, none), (245, none)]
theorem P_sh.fr {st u : St} (h : P_sh st) (hs : Same S_sh st u) : P_sh u := by
  obtain ⟨o, q, A, h1, h2, h3, h4, h5⟩ := h
  have eo : gI u o = gI st o := by
    rcases h3 with ⟨rfl, -⟩ | ⟨rfl, -⟩
    · exact hs.fi (by decide)
    · exact hs.fi (by decide)
  refine ⟨o, q, A, ?_, ?_, h3, ?_, ?_⟩
  · rw [hs.r (by decide)]; exact h1
  · rw [hs.r (by decide)]; exact h2
  · rw [eo]; exact h4
  · rw [hs.fl (o := 243) (by decide), hs.fl (o := 244) (by decide), hs.fl (o := 245) (by decide)]; exact h5
