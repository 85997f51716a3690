/-! PURE: bits of a long: the lowest -/
theorem low_ex : ∀ m : Nat, m ≠ 0 → ∃ j k, m = 2 ^ j * (2 * k + 1) := fun m => by
  induction m using Nat.strongRecOn with
  | ind m ih =>
    intro h
    rcases Nat.mod_two_eq_zero_or_one m with q | q
    · obtain ⟨j, k, e⟩ := ih (m / 2) (by omega) (by omega)
      refine ⟨j + 1, k, ?_⟩
      rw [Nat.pow_succ, Nat.mul_right_comm, ← e]
      omega
    · exact ⟨0, m / 2, by omega⟩
theorem low_t (j k i : Nat) : (2 ^ j * (2 * k + 1)).testBit i = (decide (i = j) || (2 ^ (j + 1) * k).testBit i) := by
  rw [show 2 ^ j * (2 * k + 1) = 2 ^ (j + 1) * k + 2 ^ j by rw [Nat.pow_succ, Nat.mul_add, Nat.mul_assoc, Nat.mul_one], Nat.testBit_two_pow_mul_add _ (Nat.pow_lt_pow_right (by omega) (by omega)), Nat.testBit_two_pow_mul]
  by_cases c : i < j + 1
  · rw [if_pos c, Nat.testBit_two_pow]
    by_cases d : j = i
    · subst d
      simp
    · have : ¬ i = j := fun q => d q.symm
      simp [d, this]
      omega
  · rw [if_neg c]
    have d : ¬ i = j := by omega
    have d2 : j + 1 ≤ i := by omega
    simp [d, d2]
theorem low_p (j k i : Nat) : (2 ^ j * (2 * k + 1) - 1).testBit i = (decide (i < j) || (2 ^ (j + 1) * k).testBit i) := by
  have p : 0 < 2 ^ j := Nat.pow_pos (by omega)
  rw [show 2 ^ j * (2 * k + 1) - 1 = 2 ^ (j + 1) * k + (2 ^ j - 1) by rw [Nat.pow_succ, Nat.mul_add, Nat.mul_assoc, Nat.mul_one]; omega, Nat.testBit_two_pow_mul_add _ (by rw [Nat.pow_succ]; omega), Nat.testBit_two_pow_mul]
  by_cases c : i < j + 1
  · rw [if_pos c, Nat.testBit_two_pow_sub_one]
    have : ¬ j + 1 ≤ i := by omega
    simp [this]
  · rw [if_neg c]
    have d : ¬ i < j := by omega
    have d2 : j + 1 ≤ i := by omega
    simp [d, d2]
theorem low_k (j k i : Nat) (h : i ≤ j) : (2 ^ (j + 1) * k).testBit i = false := by
  rw [Nat.testBit_two_pow_mul]
  have : ¬ j + 1 ≤ i := by omega
  simp [this]
/-- m and m - 1: the lowest bit goes -/
theorem low_a (j k : Nat) : (2 ^ j * (2 * k + 1)) &&& (2 ^ j * (2 * k + 1) - 1) = 2 ^ (j + 1) * k := by
  apply Nat.eq_of_testBit_eq
  intro i
  rw [Nat.testBit_and, low_t, low_p]
  rcases Nat.lt_trichotomy i j with q | q | q
  · rw [low_k j k i (by omega)]
    have : ¬ i = j := by omega
    simp [this]
  · rw [low_k j k i (by omega)]
    have : ¬ i < j := by omega
    simp [this]
  · have a : ¬ i < j := by omega
    have b : ¬ i = j := by omega
    simp [a, b]
theorem low_n {W j k : Nat} (hm : 2 ^ j * (2 * k + 1) < 2 ^ W) : ((2 ^ W - 1) ^^^ (2 ^ j * (2 * k + 1))) &&& (2 ^ j * (2 * k + 1) - 1) = 2 ^ j - 1 := by
  apply Nat.eq_of_testBit_eq
  intro i
  have hj : j < W := by
    apply Nat.lt_of_not_le
    intro q
    have := Nat.pow_le_pow_right (show 0 < 2 by omega) q
    have p : 0 < 2 ^ j := Nat.pow_pos (by omega)
    have := Nat.mul_le_mul_left (2 ^ j) (show 1 ≤ 2 * k + 1 by omega)
    omega
  rw [Nat.testBit_and, Nat.testBit_xor, Nat.testBit_two_pow_sub_one, Nat.testBit_two_pow_sub_one, low_p, low_t]
  rcases Nat.lt_trichotomy i j with q | q | q
  · rw [low_k j k i (by omega)]
    have : ¬ i = j := by omega
    have : i < W := by omega
    simp [*]
  · rw [low_k j k i (by omega)]
    have : ¬ i < j := by omega
    simp [this]
  · have a : ¬ i < j := by omega
    have b : ¬ i = j := by omega
    by_cases c : i < W
    · simp [a, b, c]
    · have : (2 ^ (j + 1) * k).testBit i = false := by
        apply Nat.testBit_lt_two_pow
        have : 2 ^ W ≤ 2 ^ i := Nat.pow_le_pow_right (by omega) (by omega)
        have e : 2 ^ j * (2 * k + 1) = 2 ^ (j + 1) * k + 2 ^ j := by rw [Nat.pow_succ, Nat.mul_add, Nat.mul_assoc, Nat.mul_one]
        exact Nat.lt_of_lt_of_le (Nat.lt_of_le_of_lt (by rw [e]; exact Nat.le_add_right _ _) hm) this
      simp [a, this]
theorem nI_bv (n : Nat) : (nI n).toBitVec.toNat = n % 2 ^ 32 := by
  show (BitVec.ofNat 32 n).toNat = _
  exact BitVec.toNat_ofNat n 32
theorem nI_m (n : Nat) : nI n = nI (n % 2 ^ 32) := by
  apply Int32.toBitVec_inj.mp
  apply BitVec.eq_of_toNat_eq
  rw [nI_bv, nI_bv, Nat.mod_mod]
theorem tz_v {m : Nat} (h0 : m ≠ 0) (hm : m < 2 ^ 32) : (nI m ^^^ (-1)) &&& (nI m - 1) = nI (((2 ^ 32 - 1) ^^^ m) &&& (m - 1)) := by
  rw [show nI m - 1 = nI (m - 1) from nsub_nI (b := 1) (by omega)]
  apply Int32.toBitVec_inj.mp
  rw [Int32.toBitVec_and, Int32.toBitVec_xor]
  apply BitVec.eq_of_toNat_eq
  rw [BitVec.toNat_and, BitVec.toNat_xor, nI_bv, nI_bv, nI_bv, Nat.mod_eq_of_lt hm, Nat.mod_eq_of_lt (show m - 1 < 2 ^ 32 by omega), Nat.mod_eq_of_lt (Nat.lt_of_le_of_lt Nat.and_le_right (show m - 1 < 2 ^ 32 by omega)), Nat.xor_comm]
  rfl
theorem tz62 (fu : Nat) (x y : Int32) (st : St) : b_J6_numberOfTrailingZeros_0f7a4_62 fu x y st = (b_J6_numberOfTrailingZeros_0f7a4_62 0 x y st0).map (fun r => (r.1, st)) := by
  unfold b_J6_numberOfTrailingZeros_0f7a4_62
  by_cases h : x ≤ 4
  · rw [if_pos h, if_pos h]; rfl
  · rw [if_neg h, if_neg h]; rfl
theorem tz49 (fu : Nat) (x y : Int32) (st : St) : b_J6_numberOfTrailingZeros_0f7a4_49 fu x y st = (b_J6_numberOfTrailingZeros_0f7a4_49 0 x y st0).map (fun r => (r.1, st)) := by
  unfold b_J6_numberOfTrailingZeros_0f7a4_49
  by_cases h : x ≤ 16
  · rw [if_pos h, if_pos h]; exact tz62 _ _ _ _
  · rw [if_neg h, if_neg h, bd_e, bd_e, bd_e, bd_e]; exact tz62 _ _ _ _
theorem tz34 (fu : Nat) (x y : Int32) (st : St) : b_J6_numberOfTrailingZeros_0f7a4_34 fu x y st = (b_J6_numberOfTrailingZeros_0f7a4_34 0 x y st0).map (fun r => (r.1, st)) := by
  unfold b_J6_numberOfTrailingZeros_0f7a4_34
  by_cases h : x ≤ 256
  · rw [if_pos h, if_pos h]; exact tz49 _ _ _ _
  · rw [if_neg h, if_neg h, bd_e, bd_e, bd_e, bd_e]; exact tz49 _ _ _ _
def tzG (fu : Nat) (v : Int32) (st : St) : Option (Int32 × St) := if 0 < v then (if v ≤ 65536 then b_J6_numberOfTrailingZeros_0f7a4_34 fu v 1 st else b_J6_numberOfTrailingZeros_0f7a4_34 fu ((v.toUInt32 >>> ((16 : Int32).toUInt32 &&& Int32.toUInt32 31)).toInt32) (1 + 16) st) else some (v &&& 32, st)
theorem tzG_m (fu : Nat) (v : Int32) (st : St) : tzG fu v st = (tzG 0 v st0).map (fun r => (r.1, st)) := by
  unfold tzG
  by_cases h : 0 < v
  · rw [if_pos h, if_pos h]
    by_cases h2 : v ≤ 65536
    · rw [if_pos h2, if_pos h2]; exact tz34 _ _ _ _
    · rw [if_neg h2, if_neg h2]; exact tz34 _ _ _ _
  · rw [if_neg h, if_neg h]; rfl
theorem tzG_j {j : Nat} (hj : j < 32) (fu : Nat) (st : St) : tzG fu (nI (2 ^ j - 1)) st = some (nI j, st) := by
  have h : ∀ j, j < 32 → (tzG 0 (nI (2 ^ j - 1)) st0).map (fun r => r.1) = some (nI j) := by decide +kernel
  have := h j hj
  rw [tzG_m]
  rcases q : tzG 0 (nI (2 ^ j - 1)) st0 with _ | ⟨r, s⟩
  · rw [q] at this; cases this
  · rw [q] at this
    have := Option.some.inj this
    subst this
    rfl
theorem ntz32 {j k : Nat} (hm : 2 ^ j * (2 * k + 1) < 2 ^ 32) (fu : Nat) (st : St) : f_J6_numberOfTrailingZeros_0f7a4 fu (nI (2 ^ j * (2 * k + 1))) st = some (nI j, st) := by
  have p : 0 < 2 ^ j := Nat.pow_pos (by omega)
  have pm := Nat.mul_pos p (show 0 < 2 * k + 1 by omega)
  have hj : j < 32 := by
    apply Nat.lt_of_not_le
    intro q
    have := Nat.pow_le_pow_right (show 0 < 2 by omega) q
    have := Nat.mul_le_mul_left (2 ^ j) (show 1 ≤ 2 * k + 1 by omega)
    omega
  rw [← tzG_j hj fu st, ← low_n hm, ← tz_v (by omega) hm]
  rfl
theorem ntz64 {j k : Nat} (hm : 2 ^ j * (2 * k + 1) < 2 ^ 64) (fu : Nat) (st : St) : j < 64 ∧ f_J13_numberOfTrailingZeros_95d88 fu (lN (2 ^ j * (2 * k + 1))) st = some (nI j, st) := by
  have p : 0 < 2 ^ j := Nat.pow_pos (by omega)
  have pm := Nat.mul_pos p (show 0 < 2 * k + 1 by omega)
  have hj : j < 64 := by
    apply Nat.lt_of_not_le
    intro q
    have := Nat.pow_le_pow_right (show 0 < 2 by omega) q
    have := Nat.mul_le_mul_left (2 ^ j) (show 1 ≤ 2 * k + 1 by omega)
    omega
  have k32 : ((32 : Int32).toInt64.toUInt64 &&& Int64.toUInt64 63) = UInt64.ofNat 32 := by decide
  refine ⟨hj, ?_⟩
  unfold f_J13_numberOfTrailingZeros_95d88
  rw [k32, lN_shr hm (by omega), lN_i, lN_i]
  rcases Nat.lt_or_ge j 32 with q | q
  · have e : 2 ^ j * (2 * k + 1) % 2 ^ 32 = 2 ^ j * (2 * (k % 2 ^ (31 - j)) + 1) := by
      rw [show (2 : Nat) ^ 32 = 2 ^ j * (2 * 2 ^ (31 - j)) by rw [← Nat.pow_succ', ← Nat.pow_add]; congr 1; omega, Nat.mul_mod_mul_left]
      congr 1
      have d := Nat.div_add_mod k (2 ^ (31 - j))
      have l := Nat.mod_lt k (show 0 < 2 ^ (31 - j) from Nat.pow_pos (by omega))
      generalize k % 2 ^ (31 - j) = r at *
      generalize k / 2 ^ (31 - j) = w at *
      generalize 2 ^ (31 - j) = N at *
      rw [show 2 * k + 1 = 2 * r + 1 + 2 * N * w by rw [← d, Nat.mul_assoc]; omega, Nat.add_mul_mod_self_left, Nat.mod_eq_of_lt (by omega)]
    have pm2 := Nat.mul_pos p (show 0 < 2 * (k % 2 ^ (31 - j)) + 1 by omega)
    have lt : 2 ^ j * (2 * (k % 2 ^ (31 - j)) + 1) < 2 ^ 32 := by rw [← e]; exact Nat.mod_lt _ (by omega)
    have n0 : ¬ nI (2 ^ j * (2 * (k % 2 ^ (31 - j)) + 1)) = 0 := fun z => by
      have := congrArg (fun x : Int32 => x.toBitVec.toNat) z
      simp only [nI_bv] at this
      rw [Nat.mod_eq_of_lt lt] at this
      have h0 : (0 : Int32).toBitVec.toNat = 0 := rfl
      omega
    rw [nI_m (2 ^ j * (2 * k + 1)), e, if_neg n0, ntz32 lt]
    rfl
  · have e0 : 2 ^ j * (2 * k + 1) = 2 ^ 32 * (2 ^ (j - 32) * (2 * k + 1)) := by
      rw [← Nat.mul_assoc, ← Nat.pow_add]
      congr 2
      omega
    have e1 : 2 ^ j * (2 * k + 1) % 2 ^ 32 = 0 := by rw [e0]; exact Nat.mul_mod_right _ _
    have e2 : 2 ^ j * (2 * k + 1) / 2 ^ 32 = 2 ^ (j - 32) * (2 * k + 1) := by rw [e0]; exact Nat.mul_div_cancel_left _ (by omega)
    have lt : 2 ^ (j - 32) * (2 * k + 1) < 2 ^ 32 := by rw [← e2]; omega
    rw [nI_m (2 ^ j * (2 * k + 1)), e1, if_pos (show nI 0 = 0 from rfl), e2, ntz32 lt]
    show some (nI 32 + nI (j - 32), st) = _
    rw [nI_add]
    congr 3
    omega
