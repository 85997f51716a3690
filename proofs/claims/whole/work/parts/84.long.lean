/-! PURE: numbers of either sign, longs -/
def zI (z : Int) : Int32 := Int32.ofInt z
def zL (z : Int) : Int64 := Int64.ofInt z
theorem zI_t {z : Int} (h : -2147483648 ≤ z ∧ z < 2147483648) : (zI z).toInt = z := Int32.toInt_ofInt_of_le (by omega) (by omega)
theorem zL_t {z : Int} (h : -9223372036854775808 ≤ z ∧ z < 9223372036854775808) : (zL z).toInt = z := Int64.toInt_ofInt_of_le (by omega) (by omega)
theorem zI_add (a b : Int) : zI a + zI b = zI (a + b) := (Int32.ofInt_add a b).symm
theorem zI_sub (a b : Int) : zI a - zI b = zI (a - b) := (Int32.ofInt_sub a b).symm
theorem zI_mul (a b : Int) : zI a * zI b = zI (a * b) := (Int32.ofInt_mul a b).symm
theorem zI_neg (a : Int) : - zI a = zI (-a) := (Int32.ofInt_neg a).symm
theorem zL_add (a b : Int) : zL a + zL b = zL (a + b) := (Int64.ofInt_add a b).symm
theorem zL_sub (a b : Int) : zL a - zL b = zL (a - b) := (Int64.ofInt_sub a b).symm
theorem zL_mul (a b : Int) : zL a * zL b = zL (a * b) := (Int64.ofInt_mul a b).symm
theorem zL_neg (a : Int) : - zL a = zL (-a) := (Int64.ofInt_neg a).symm
theorem zI_x (x : Int32) : zI x.toInt = x := Int32.ofInt_toInt x
theorem zL_x (x : Int64) : zL x.toInt = x := Int64.ofInt_toInt x
theorem nI_z {n : Nat} (h : n < 2147483648) : nI n = zI n := by
  apply Int32.toInt_inj.mp
  rw [nI_toInt (by omega), zI_t (by omega)]
theorem zI_n {z : Int} (h0 : 0 ≤ z) (h : z < 2147483648) : zI z = nI z.toNat := by
  rw [nI_z (by omega)]
  congr 1
  omega
theorem lN_z {n : Nat} (h : n < 9223372036854775808) : lN n = zL n := by
  apply Int64.toInt_inj.mp
  rw [zL_t (by omega)]
  exact lg_ofNat_toInt (by omega)
theorem zI_l {z : Int} (h : -2147483648 ≤ z ∧ z < 2147483648) : (zI z).toInt64 = zL z := Int64.toInt_inj.mp (by rw [Int32.toInt_toInt64, zI_t h, zL_t (by omega)])
theorem zL_i {z : Int} (h : -2147483648 ≤ z ∧ z < 2147483648) : (zL z).toInt32 = zI z := by
  rw [← zI_l h]
  exact lg_l2i_i2l _
theorem zI_le {a b : Int} (h : (-2147483648 ≤ a ∧ a < 2147483648) ∧ -2147483648 ≤ b ∧ b < 2147483648) : (zI a ≤ zI b) = (a ≤ b) := by rw [Int32.le_iff_toInt_le, zI_t h.1, zI_t h.2]
theorem zI_lt {a b : Int} (h : (-2147483648 ≤ a ∧ a < 2147483648) ∧ -2147483648 ≤ b ∧ b < 2147483648) : (zI a < zI b) = (a < b) := by rw [Int32.lt_iff_toInt_lt, zI_t h.1, zI_t h.2]
theorem zI_eq {a b : Int} (h : (-2147483648 ≤ a ∧ a < 2147483648) ∧ -2147483648 ≤ b ∧ b < 2147483648) : (zI a = zI b) = (a = b) := by rw [← Int32.toInt_inj, zI_t h.1, zI_t h.2]
theorem ed_b {x y : Int} (hy : 0 < y) : (x / y) * y ≤ x ∧ x < (x / y) * y + y := by
  have h1 := Int.emod_nonneg x (show y ≠ 0 by omega)
  have h2 := Int.emod_lt_of_pos x hy
  have h3 : x % y = x - x / y * y := by rw [Int.emod_def, Int.mul_comm]
  omega
theorem ed_u {x y q : Int} (hy : 0 < y) (h1 : q * y ≤ x) (h2 : x < q * y + y) : x / y = q := by
  obtain ⟨a, b⟩ := ed_b (x := x) hy
  have c1 : ¬ x / y < q := fun h => by
    have := Int.mul_le_mul_of_nonneg_right (show x / y + 1 ≤ q by omega) (show 0 ≤ y by omega)
    rw [Int.add_mul] at this
    omega
  have c2 : ¬ q < x / y := fun h => by
    have := Int.mul_le_mul_of_nonneg_right (show q + 1 ≤ x / y by omega) (show 0 ≤ y by omega)
    rw [Int.add_mul] at this
    omega
  omega
/-- the machine's division by a number above 0, and the floor -/
theorem td_f {x y : Int} (hy : 0 < y) : (0 ≤ x → x.tdiv y = x / y) ∧ (x < 0 → (x.tdiv y * y = x → x.tdiv y = x / y) ∧ (x.tdiv y * y ≠ x → x.tdiv y - 1 = x / y) ∧ x ≤ x.tdiv y * y ∧ x.tdiv y * y - y < x ∧ x.tdiv y ≤ 0) := by
  refine ⟨fun h => Int.tdiv_eq_ediv_of_nonneg h, fun h => ?_⟩
  have e : x.tdiv y = -((-x) / y) := by
    have : x.tdiv y = (-(-x)).tdiv y := by rw [Int.neg_neg]
    rw [this, Int.neg_tdiv, Int.tdiv_eq_ediv_of_nonneg (by omega)]
  obtain ⟨b1, b2⟩ := ed_b (x := -x) hy
  have q0 : 0 ≤ (-x) / y := Int.ediv_nonneg (by omega) (by omega)
  rw [e]
  rw [Int.neg_mul]
  refine ⟨fun q => ?_, fun q => ?_, by omega, by omega, by omega⟩
  · exact (ed_u hy (by rw [Int.neg_mul]; omega) (by rw [Int.neg_mul]; omega)).symm
  · exact (ed_u hy (by rw [Int.sub_mul, Int.neg_mul]; omega) (by rw [Int.sub_mul, Int.neg_mul]; omega)).symm
theorem td_r {x y : Int} (hy : 0 < y) : (0 ≤ x → 0 ≤ x.tdiv y ∧ x.tdiv y ≤ x) ∧ (x < 0 → x ≤ x.tdiv y ∧ x.tdiv y ≤ 0) := by
  refine ⟨fun h => ?_, fun h => ?_⟩
  · rw [(td_f hy).1 h]
    exact ⟨Int.ediv_nonneg h (by omega), Int.ediv_le_self _ h⟩
  · have e : x.tdiv y = -((-x) / y) := by
      have : x.tdiv y = (-(-x)).tdiv y := by rw [Int.neg_neg]
      rw [this, Int.neg_tdiv, Int.tdiv_eq_ediv_of_nonneg (by omega)]
    have q0 : 0 ≤ (-x) / y := Int.ediv_nonneg (by omega) (by omega)
    have q1 := Int.ediv_le_self (a := -x) y (by omega)
    omega
theorem zL_div {a b : Int} (ha : -9223372036854775808 ≤ a ∧ a < 9223372036854775808) (hb : 0 < b ∧ b < 9223372036854775808) : zL a / zL b = zL (a.tdiv b) := by
  apply Int64.toInt_inj.mp
  have hr := td_r (x := a) hb.1
  rw [Int64.toInt_div, zL_t ha, zL_t (by omega), zL_t]
  · exact Int.bmod_eq_of_le (by omega) (by omega)
  · omega
theorem zI_div {a b : Int} (ha : -2147483648 ≤ a ∧ a < 2147483648) (hb : 0 < b ∧ b < 2147483648) : zI a / zI b = zI (a.tdiv b) := by
  apply Int32.toInt_inj.mp
  have hr := td_r (x := a) hb.1
  rw [Int32.toInt_div, zI_t ha, zI_t (by omega), zI_t]
  · exact Int.bmod_eq_of_le (by omega) (by omega)
  · omega
theorem xorI (x y : Int32) (hy : 0 ≤ y.toInt) : (0 ≤ x ^^^ y) ↔ 0 ≤ x.toInt := by
  rw [Int32.le_iff_toInt_le]
  have h1 : (x ^^^ y).toBitVec.msb = Bool.xor x.toBitVec.msb y.toBitVec.msb := by rw [Int32.toBitVec_xor, BitVec.msb_xor]
  rw [BitVec.msb_eq_toInt, BitVec.msb_eq_toInt, BitVec.msb_eq_toInt] at h1
  have e : ∀ z : Int32, z.toBitVec.toInt = z.toInt := fun _ => rfl
  rw [e, e, e, show decide (y.toInt < 0) = false by simp; omega, Bool.xor_false] at h1
  have := decide_eq_decide.mp h1
  show (0 : Int32).toInt ≤ _ ↔ _
  rw [show (0 : Int32).toInt = 0 by decide]
  omega
theorem xorL (x y : Int64) (hy : 0 ≤ y.toInt) : (0 ≤ x ^^^ y) ↔ 0 ≤ x.toInt := by
  rw [Int64.le_iff_toInt_le]
  have h1 : (x ^^^ y).toBitVec.msb = Bool.xor x.toBitVec.msb y.toBitVec.msb := by rw [Int64.toBitVec_xor, BitVec.msb_xor]
  rw [BitVec.msb_eq_toInt, BitVec.msb_eq_toInt, BitVec.msb_eq_toInt] at h1
  have e : ∀ z : Int64, z.toBitVec.toInt = z.toInt := fun _ => rfl
  rw [e, e, e, show decide (y.toInt < 0) = false by simp; omega, Bool.xor_false] at h1
  have := decide_eq_decide.mp h1
  show (0 : Int64).toInt ≤ _ ↔ _
  rw [show (0 : Int64).toInt = 0 by decide]
  omega
theorem zI0 : (0 : Int32) = zI 0 := rfl
theorem zL0 : (0 : Int64) = zL 0 := rfl
theorem fdivI {st : St} (fu : Nat) {a b : Int} (ha : -2147483647 ≤ a ∧ a < 2147483648) (hb : 0 < b ∧ b < 2147483648) : f_J9_floorDiv_7cf53 fu (zI a) (zI b) st = some (zI (a / b), st) := by
  have hr := td_r (x := a) hb.1
  have tf := td_f (x := a) hb.1
  have e0 : ¬ zI b = 0 := by rw [zI0, zI_eq (by omega)]; omega
  unfold f_J9_floorDiv_7cf53 b_J9_floorDiv_7cf53_21
  simp only [ck, bd, if_pos e0, zI_div (a := a) (b := b) (by omega) hb]
  by_cases h : 0 ≤ a
  · rw [if_pos ((xorI _ _ (by rw [zI_t (by omega)]; omega)).mpr (by rw [zI_t (by omega)]; exact h)), tf.1 h]
  · rw [if_neg (fun q => h (by have := (xorI _ _ (by rw [zI_t (by omega)]; omega)).mp q; rw [zI_t (by omega)] at this; exact this))]
    obtain ⟨t1, t2, t3, t4, t5⟩ := tf.2 (by omega)
    rw [zI_mul]
    by_cases hq : a.tdiv b * b = a
    · rw [hq, if_pos rfl, t1 hq]
    · rw [if_neg, show (1 : Int32) = zI 1 from rfl, zI_sub, t2 hq]
      rw [zI_eq (by omega)]
      exact hq
theorem fdivL {st : St} (fu : Nat) {a b : Int} (ha : -9223372036854775807 ≤ a ∧ a < 9223372036854775808) (hb : 0 < b ∧ b < 9223372036854775807) : f_J9_floorDiv_f86c9 fu (zL a) (zL b) st = some (zL (a / b), st) := by
  have hr := td_r (x := a) hb.1
  have tf := td_f (x := a) hb.1
  have el : ∀ {c d : Int}, ((-9223372036854775808 ≤ c ∧ c < 9223372036854775808) ∧ -9223372036854775808 ≤ d ∧ d < 9223372036854775808) → (zL c = zL d ↔ c = d) := fun h => by rw [← Int64.toInt_inj, zL_t h.1, zL_t h.2]
  have e0 : ¬ zL b = 0 := by rw [zL0, el (by omega)]; omega
  unfold f_J9_floorDiv_f86c9 b_J9_floorDiv_f86c9_27
  simp only [ck, bd, if_pos e0, zL_div (a := a) (b := b) (by omega) (by omega), lg_cmp_ge, lg_cmp_eq]
  by_cases h : 0 ≤ a
  · rw [if_pos ((xorL _ _ (by rw [zL_t (by omega)]; omega)).mpr (by rw [zL_t (by omega)]; exact h)), tf.1 h]
  · rw [if_neg (fun q => h (by have := (xorL _ _ (by rw [zL_t (by omega)]; omega)).mp q; rw [zL_t (by omega)] at this; exact this))]
    obtain ⟨t1, t2, t3, t4, t5⟩ := tf.2 (by omega)
    rw [zL_mul]
    by_cases hq : a.tdiv b * b = a
    · rw [hq, if_pos rfl, t1 hq]
    · rw [if_neg, show (1 : Int64) = zL 1 from rfl, zL_sub, t2 hq]
      rw [el (by omega)]
      exact hq
theorem fmodL {st : St} (fu : Nat) {a b : Int} (ha : -9223372036854775807 ≤ a ∧ a < 9223372036854775808) (hb : 0 < b ∧ b < 9223372036854775807) : f_J9_floorMod_f86c9 fu (zL a) (zL b) st = some (zL (a - a / b * b), st) := by
  have hr := td_r (x := a) hb.1
  have tf := td_f (x := a) hb.1
  have el : ∀ {c d : Int}, ((-9223372036854775808 ≤ c ∧ c < 9223372036854775808) ∧ -9223372036854775808 ≤ d ∧ d < 9223372036854775808) → (zL c = zL d ↔ c = d) := fun h => by rw [← Int64.toInt_inj, zL_t h.1, zL_t h.2]
  have e0 : ¬ zL b = 0 := by rw [zL0, el (by omega)]; omega
  unfold f_J9_floorMod_f86c9 b_J9_floorMod_f86c9_25
  simp only [ck, bd, if_pos e0, zL_div (a := a) (b := b) (by omega) (by omega), lg_cmp_ge, lg_cmp_eq, zL_mul, zL_sub]
  by_cases h : 0 ≤ a
  · rw [if_pos ((xorL _ _ (by rw [zL_t (by omega)]; omega)).mpr (by rw [zL_t (by omega)]; exact h)), tf.1 h]
  · rw [if_neg (fun q => h (by have := (xorL _ _ (by rw [zL_t (by omega)]; omega)).mp q; rw [zL_t (by omega)] at this; exact this))]
    obtain ⟨t1, t2, t3, t4, t5⟩ := tf.2 (by omega)
    by_cases hq : a.tdiv b * b = a
    · rw [← t1 hq, hq, Int.sub_self, if_pos zL0.symm]
    · rw [if_neg, zL_add, ← t2 hq, Int.sub_mul]
      · congr 3
        omega
      · rw [zL0, el (by omega)]
        omega
/-- the reference's nearest -/
theorem nearL {st : St} (fu : Nat) {a b : Int} (ha : -1152921504606846976 ≤ a ∧ a ≤ 1152921504606846976) (hb : 0 < b ∧ b ≤ 1152921504606846976) : f_X12_nearest fu (zL a) (zL b) st = some (zL ((2 * a + b) / (2 * b)), st) := by
  have hb2 : 0 < 2 * b := by omega
  have hr := td_r (x := 2 * a + b) hb2
  have tf := td_f (x := 2 * a + b) hb2
  have el : ∀ {c d : Int}, ((-9223372036854775808 ≤ c ∧ c < 9223372036854775808) ∧ -9223372036854775808 ≤ d ∧ d < 9223372036854775808) → (zL c = zL d ↔ c = d) := fun h => by rw [← Int64.toInt_inj, zL_t h.1, zL_t h.2]
  have ll : ∀ {c d : Int}, ((-9223372036854775808 ≤ c ∧ c < 9223372036854775808) ∧ -9223372036854775808 ≤ d ∧ d < 9223372036854775808) → (zL c ≤ zL d ↔ c ≤ d) := fun h => by rw [Int64.le_iff_toInt_le, zL_t h.1, zL_t h.2]
  have e0 : ¬ zL (2 * b) = 0 := by rw [zL0, el (by omega)]; omega
  unfold f_X12_nearest b_X12_nearest_41
  simp only [show (2 : Int64) = zL 2 from rfl, zL_mul, zL_add, ck, bd, if_pos e0, zL_div (a := 2 * a + b) (b := 2 * b) (by omega) (by omega), lg_cmp_ge, zL_sub]
  by_cases h : 0 ≤ 2 * a + b
  · have e := tf.1 h
    have b1 := ed_b (x := 2 * a + b) hb2
    rw [e, if_pos]
    rw [zL0, ll (by omega)]
    omega
  · obtain ⟨t1, t2, t3, t4, t5⟩ := tf.2 (by omega)
    by_cases hq : (2 * a + b).tdiv (2 * b) * (2 * b) = 2 * a + b
    · rw [if_pos, t1 hq]
      rw [hq, Int.sub_self]
      rw [zL0, ll (by omega)]
      omega
    · rw [if_neg, show (1 : Int64) = zL 1 from rfl, zL_sub, t2 hq]
      rw [zL0, ll (by omega)]
      omega
theorem lit_lN (n : Nat) : (OfNat.ofNat n : Int64) = lN (OfNat.ofNat n) := rfl
theorem lN_t {n : Nat} (h : n < 9223372036854775808) : (lN n).toInt = n := lg_ofNat_toInt (by omega)
theorem lle {a b : Nat} (h : a < 9223372036854775808 ∧ b < 9223372036854775808) : (lN a ≤ lN b) = (a ≤ b) := by rw [Int64.le_iff_toInt_le, lN_t h.1, lN_t h.2, Int.ofNat_le]
theorem llt {a b : Nat} (h : a < 9223372036854775808 ∧ b < 9223372036854775808) : (lN a < lN b) = (a < b) := by rw [Int64.lt_iff_toInt_lt, lN_t h.1, lN_t h.2, Int.ofNat_lt]
theorem leq {a b : Nat} (h : a < 9223372036854775808 ∧ b < 9223372036854775808) : (lN a = lN b) = (a = b) := by rw [← Int64.toInt_inj, lN_t h.1, lN_t h.2, Int.ofNat_inj]
theorem ldv {a d : Nat} (h : a < 9223372036854775808 ∧ 0 < d ∧ d < 9223372036854775808) : lN a / lN d = lN (a / d) := by
  apply Int64.toInt_inj.mp
  rw [lg_ldiv_nonneg (by rw [lN_t h.1]; omega) (by rw [lN_t h.2.2]; omega), lN_t h.1, lN_t h.2.2, lN_t (Nat.lt_of_le_of_lt (Nat.div_le_self a d) h.1)]
  first | rfl | exact (Int.natCast_ediv _ _).symm
/-- longs -/
theorem LF : (∀ n : Nat, (OfNat.ofNat n : Int64) = lN (OfNat.ofNat n)) ∧ (∀ a b : Nat, lN a + lN b = lN (a + b)) ∧ (∀ a b : Nat, b ≤ a → lN a - lN b = lN (a - b)) ∧ (∀ a b : Nat, lN a * lN b = lN (a * b)) ∧ (∀ a d : Nat, (a < 9223372036854775808 ∧ 0 < d ∧ d < 9223372036854775808) → lN a / lN d = lN (a / d)) ∧ (∀ n : Nat, n < 2147483648 → (nI n).toInt64 = lN n) ∧ (∀ n : Nat, (lN n).toInt32 = nI n) := ⟨lit_lN, lN_add, fun _ _ => lN_sub, lN_mul, fun _ _ => ldv, fun _ h => nI_l (by omega), lN_i⟩
theorem LC : (∀ a b : Nat, (a < 9223372036854775808 ∧ b < 9223372036854775808) → (lN a ≤ lN b) = (a ≤ b)) ∧ (∀ a b : Nat, (a < 9223372036854775808 ∧ b < 9223372036854775808) → (lN a < lN b) = (a < b)) ∧ (∀ a b : Nat, (a < 9223372036854775808 ∧ b < 9223372036854775808) → (lN a = lN b) = (a = b)) ∧ (∀ x y : Int64, (nI 0 ≤ lg_cmp x y) = (y ≤ x)) ∧ (∀ x y : Int64, (lg_cmp x y ≤ nI 0) = (x ≤ y)) ∧ (∀ x y : Int64, (nI 0 < lg_cmp x y) = (y < x)) ∧ (∀ x y : Int64, (lg_cmp x y < nI 0) = (x < y)) ∧ (∀ x y : Int64, (lg_cmp x y = nI 0) = (x = y)) := ⟨fun _ _ => lle, fun _ _ => llt, fun _ _ => leq, fun x y => propext (lg_cmp_ge x y), fun x y => propext (lg_cmp_le x y), fun x y => propext (lg_cmp_gt x y), fun x y => propext (lg_cmp_lt x y), fun x y => propext (lg_cmp_eq x y)⟩
