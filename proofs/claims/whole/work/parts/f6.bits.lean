/-! PURE: bits of a long: how many -/
theorem lN_bv (n : Nat) : (lN n).toBitVec.toNat = n % 2 ^ 64 := by
  show (BitVec.ofNat 64 n).toNat = _
  exact BitVec.toNat_ofNat n 64
theorem lN_and (a b : Nat) : lN a &&& lN b = lN (a &&& b) := by
  apply Int64.toBitVec_inj.mp
  rw [Int64.toBitVec_and]
  apply BitVec.eq_of_toNat_eq
  rw [BitVec.toNat_and, lN_bv, lN_bv, lN_bv, Nat.and_mod_two_pow]
theorem lN_shr {a s : Nat} (ha : a < 2 ^ 64) (hs : s < 64) : ((lN a).toUInt64 >>> UInt64.ofNat s).toInt64 = lN (a / 2 ^ s) := by
  apply Int64.toBitVec_inj.mp
  apply BitVec.eq_of_toNat_eq
  have e2 : (UInt64.ofNat s).toNat = s := by
    rw [UInt64.toNat_ofNat', Nat.mod_eq_of_lt (by omega)]
  have e1 : (lN a).toUInt64.toNat = a := by
    show (BitVec.ofNat 64 a).toNat = _
    rw [BitVec.toNat_ofNat, Nat.mod_eq_of_lt ha]
  rw [lN_bv]
  show ((lN a).toUInt64 >>> UInt64.ofNat s).toNat = _
  rw [UInt64.toNat_shiftRight, e1, e2, Nat.mod_eq_of_lt hs, Nat.shiftRight_eq_div_pow, Nat.mod_eq_of_lt (Nat.lt_of_le_of_lt (Nat.div_le_self _ _) ha)]
theorem and256 {a b c d : Nat} (hb : b < 256) (hd : d < 256) : (256 * a + b) &&& (256 * c + d) = 256 * (a &&& c) + (b &&& d) := by
  have e1 : ((256 * a + b) &&& (256 * c + d)) % 2 ^ 8 = b &&& d := by
    rw [Nat.and_mod_two_pow, show (256 * a + b) % 2 ^ 8 = b by omega, show (256 * c + d) % 2 ^ 8 = d by omega]
  have e2 : ((256 * a + b) &&& (256 * c + d)) / 2 ^ 8 = a &&& c := by
    rw [← Nat.shiftRight_eq_div_pow, Nat.shiftRight_and_distrib, Nat.shiftRight_eq_div_pow, Nat.shiftRight_eq_div_pow, show (256 * a + b) / 2 ^ 8 = a by omega, show (256 * c + d) / 2 ^ 8 = c by omega]
  have e3 := Nat.div_add_mod ((256 * a + b) &&& (256 * c + d)) (2 ^ 8)
  rw [e1, e2] at e3
  omega
def q1 (M x : Nat) : Nat := x - (x / 2 &&& M)
def q2 (M x : Nat) : Nat := (x &&& M) + (x / 4 &&& M)
def q3 (M x : Nat) : Nat := (x + x / 16) &&& M
theorem q1_le (M x : Nat) : (x / 2 &&& M) ≤ x := Nat.le_trans Nat.and_le_left (Nat.div_le_self _ _)
theorem q1_s (M y : Nat) {b : Nat} (hb : b < 256) : q1 (256 * M + 85) (256 * y + b) = 256 * q1 M y + q1 85 b := by
  have h : ∀ t, t < 2 → ∀ b, b < 256 → (128 * t + b / 2) &&& 85 = (b / 2 &&& 85) := by decide +kernel
  unfold q1
  rw [show (256 * y + b) / 2 = 256 * (y / 2) + (128 * (y % 2) + b / 2) by omega, and256 (by omega) (by omega), h (y % 2) (by omega) b hb]
  have := q1_le M y
  have := q1_le 85 b
  omega
theorem q2_s (M y : Nat) {b : Nat} (hb : b < 256) : q2 (256 * M + 51) (256 * y + b) = 256 * q2 M y + q2 51 b := by
  have h : ∀ t, t < 4 → ∀ b, b < 256 → (64 * t + b / 4) &&& 51 = (b / 4 &&& 51) := by decide +kernel
  unfold q2
  rw [show (256 * y + b) / 4 = 256 * (y / 4) + (64 * (y % 4) + b / 4) by omega, and256 (by omega) (by omega), and256 (by omega) (by omega), h (y % 4) (by omega) b hb]
  omega
def pcn (x : Nat) (n : Nat) : Nat := sm n (fun i => (x.testBit i).toNat)
def mkN (d : Nat) : Nat → Nat
  | 0 => 0
  | n + 1 => 256 * mkN d n + d
def bpN : Nat → Nat → Nat
  | 0, _ => 0
  | n + 1, x => 256 * bpN n (x / 256) + pcn (x % 256) 8
theorem q3_d : ∀ t, t < 5 → ∀ b, b < 256 → q1 85 b < 256 ∧ q2 51 (q1 85 b) < 256 ∧ q2 51 (q1 85 b) % 16 ≤ 4 ∧ q2 51 (q1 85 b) + q2 51 (q1 85 b) / 16 + 16 * t < 256 ∧ (q2 51 (q1 85 b) + q2 51 (q1 85 b) / 16 + 16 * t) &&& 15 = pcn b 8 := by decide +kernel
theorem bp_q : ∀ n x, x < 256 ^ n → q2 (mkN 51 n) (q1 (mkN 85 n) x) % 16 ≤ 4 ∧ q3 (mkN 15 n) (q2 (mkN 51 n) (q1 (mkN 85 n) x)) = bpN n x
  | 0, x, h => by
    have : x = 0 := by simpa using h
    subst this
    decide
  | n + 1, x, h => by
    obtain ⟨i1, i2⟩ := bp_q n (x / 256) (by rw [Nat.div_lt_iff_lt_mul (by omega)]; rw [Nat.pow_succ] at h; exact h)
    have hb : x % 256 < 256 := Nat.mod_lt _ (by omega)
    obtain ⟨Y, hY⟩ : ∃ Y, Y = q2 (mkN 51 n) (q1 (mkN 85 n) (x / 256)) := ⟨_, rfl⟩
    obtain ⟨d1, d2, d3, d4, d5⟩ := q3_d (Y % 16) (by rw [hY]; omega) (x % 256) hb
    have e : q2 (mkN 51 (n + 1)) (q1 (mkN 85 (n + 1)) x) = 256 * Y + q2 51 (q1 85 (x % 256)) := by
      show q2 (256 * mkN 51 n + 51) (q1 (256 * mkN 85 n + 85) x) = _
      have hx : q1 (256 * mkN 85 n + 85) x = 256 * q1 (mkN 85 n) (x / 256) + q1 85 (x % 256) := by
        rw [← q1_s _ _ hb, show 256 * (x / 256) + x % 256 = x by omega]
      rw [hx, q2_s _ _ d1, hY]
    obtain ⟨c, hc⟩ : ∃ c, c = q2 51 (q1 85 (x % 256)) := ⟨_, rfl⟩
    rw [← hc] at d2 d3 d4 d5 e
    refine ⟨by rw [e]; omega, ?_⟩
    rw [e]
    show ((256 * Y + c) + (256 * Y + c) / 16) &&& (256 * mkN 15 n + 15) = 256 * bpN n (x / 256) + pcn (x % 256) 8
    rw [show (256 * Y + c) + (256 * Y + c) / 16 = 256 * (Y + Y / 16) + (c + c / 16 + 16 * (Y % 16)) by omega, and256 d4 (by omega), d5, ← i2, ← hY]
    rfl
theorem sm_add (f : Nat → Nat) (a : Nat) : ∀ b, sm (a + b) f = sm a f + sm b (fun i => f (a + i))
  | 0 => rfl
  | b + 1 => by
    show sm (a + b) f + f (a + b) = sm a f + (sm b (fun i => f (a + i)) + f (a + b))
    rw [sm_add f a b]; omega
theorem pcn_s (x n : Nat) : pcn x (8 + n) = pcn (x % 256) 8 + pcn (x / 256) n := by
  unfold pcn
  rw [sm_add]
  congr 1
  · apply sm_c
    intro i hi
    rw [show 256 = 2 ^ 8 from rfl, Nat.testBit_mod_two_pow]
    simp [hi]
  · apply sm_c
    intro i hi
    rw [show 256 = 2 ^ 8 from rfl, Nat.testBit_div_two_pow, Nat.add_comm]
theorem pcn_b (x n : Nat) : pcn x n ≤ n := by
  have := sm_b (f := fun i => (x.testBit i).toNat) (b := 1) (n := n) (fun i _ => by cases x.testBit i <;> simp)
  unfold pcn
  omega
theorem nI_127 (a : Nat) : nI a &&& 127 = nI (a % 128) := by
  apply Int32.toBitVec_inj.mp
  rw [Int32.toBitVec_and]
  apply BitVec.eq_of_toNat_eq
  have e : ∀ n, (nI n).toBitVec.toNat = n % 2 ^ 32 := fun n => by
    show (BitVec.ofNat 32 n).toNat = _
    exact BitVec.toNat_ofNat n 32
  rw [BitVec.toNat_and, e, e]
  show a % 2 ^ 32 &&& (2 ^ 7 - 1) = _
  rw [Nat.and_two_pow_sub_one_eq_mod]
  omega
theorem d256 {a b : Nat} (h : a < 256) : (a + 256 * b) / 256 = b := by omega
/-- the eight bytes' sums together -/
theorem cnt8 {a0 a1 a2 a3 a4 a5 a6 a7 z : Nat} (p0 : a0 ≤ 8) (p1 : a1 ≤ 8) (p2 : a2 ≤ 8) (p3 : a3 ≤ 8) (p4 : a4 ≤ 8) (p5 : a5 ≤ 8) (p6 : a6 ≤ 8) (p7 : a7 ≤ 8) (hz : z = 256 * (256 * (256 * (256 * (256 * (256 * (256 * (256 * 0 + a7) + a6) + a5) + a4) + a3) + a2) + a1) + a0) : ((z + z / 256 + (z + z / 256) / 256 / 256) + (z + z / 256 + (z + z / 256) / 256 / 256) / 256 / 256 / 256 / 256) % 128 = a0 + (a1 + (a2 + (a3 + (a4 + (a5 + (a6 + (a7 + 0))))))) := by
  obtain ⟨b6, h6⟩ : ∃ b, b = a6 + 256 * a7 := ⟨_, rfl⟩
  obtain ⟨b5, h5⟩ : ∃ b, b = a5 + 256 * b6 := ⟨_, rfl⟩
  obtain ⟨b4, h4⟩ : ∃ b, b = a4 + 256 * b5 := ⟨_, rfl⟩
  obtain ⟨b3, h3⟩ : ∃ b, b = a3 + 256 * b4 := ⟨_, rfl⟩
  obtain ⟨b2, h2⟩ : ∃ b, b = a2 + 256 * b3 := ⟨_, rfl⟩
  obtain ⟨b1, h1⟩ : ∃ b, b = a1 + 256 * b2 := ⟨_, rfl⟩
  have h0 : z = a0 + 256 * b1 := by
    rw [hz, h1, h2, h3, h4, h5, h6, Nat.mul_zero, Nat.zero_add, Nat.add_comm a6, Nat.add_comm a5, Nat.add_comm a4, Nat.add_comm a3, Nat.add_comm a2, Nat.add_comm a1, Nat.add_comm a0]
  clear hz
  have c6 : b6 + a7 = (a6 + a7) + 256 * a7 := by rw [h6]; omega
  have c5 : b5 + b6 = (a5 + a6) + 256 * (b6 + a7) := by clear h0 h1 h2 h3 h4 c6; omega
  have c4 : b4 + b5 = (a4 + a5) + 256 * (b5 + b6) := by clear h0 h1 h2 h3 h6 c6 c5; omega
  have c3 : b3 + b4 = (a3 + a4) + 256 * (b4 + b5) := by clear h0 h1 h2 h5 h6 c6 c5 c4; omega
  have c2 : b2 + b3 = (a2 + a3) + 256 * (b3 + b4) := by clear h0 h1 h4 h5 h6 c6 c5 c4 c3; omega
  have c1 : b1 + b2 = (a1 + a2) + 256 * (b2 + b3) := by clear h0 h3 h4 h5 h6 c6 c5 c4 c3 c2; omega
  have c0 : z + b1 = (a0 + a1) + 256 * (b1 + b2) := by clear h2 h3 h4 h5 h6 c6 c5 c4 c3 c2 c1; omega
  rw [show z / 256 = b1 by rw [h0]; exact d256 (by omega)]
  generalize z + b1 = C0 at c0 ⊢
  clear h0 h1 h2 h3 h4 h5 h6
  generalize b1 + b2 = C1 at *
  generalize b2 + b3 = C2 at *
  generalize b3 + b4 = C3 at *
  generalize b4 + b5 = C4 at *
  generalize b5 + b6 = C5 at *
  generalize b6 + a7 = C6 at *
  have e2 : C0 / 256 / 256 = C2 := by rw [c0, d256 (by omega), c1, d256 (by omega)]
  rw [e2]
  clear e2
  have d4 : C4 + C6 = (a4 + a5 + (a6 + a7)) + 256 * (C5 + a7) := by clear c0 c1 c2 c3 c5; omega
  have d3 : C3 + C5 = (a3 + a4 + (a5 + a6)) + 256 * (C4 + C6) := by clear c0 c1 c2 c4 c6 d4; omega
  have d2 : C2 + C4 = (a2 + a3 + (a4 + a5)) + 256 * (C3 + C5) := by clear c0 c1 c3 c5 c6 d4 d3; omega
  have d1 : C1 + C3 = (a1 + a2 + (a3 + a4)) + 256 * (C2 + C4) := by clear c0 c2 c4 c5 c6 d4 d3 d2; omega
  have d0 : C0 + C2 = (a0 + a1 + (a2 + a3)) + 256 * (C1 + C3) := by clear c1 c3 c4 c5 c6 d4 d3 d2 d1; omega
  clear c0 c1 c2 c3 c4 c5 c6
  generalize C0 + C2 = E0 at *
  generalize C1 + C3 = E1 at *
  generalize C2 + C4 = E2 at *
  generalize C3 + C5 = E3 at *
  generalize C4 + C6 = E4 at *
  generalize C5 + a7 = E5 at *
  have e4 : E0 / 256 / 256 / 256 / 256 = E4 := by rw [d0, d256 (by omega), d1, d256 (by omega), d2, d256 (by omega), d3, d256 (by omega)]
  rw [e4]
  clear e4 d1 d2 d3
  omega
theorem bitCount_c {x : Nat} (hx : x < 2 ^ 64) (fu : Nat) (st : St) : f_J13_bitCount_95d88 fu (lN x) st = some (nI (pcn x 64), st) := by
  obtain ⟨-, hq⟩ := bp_q 8 x (by simpa using hx)
  have m1 : mkN 85 8 = 6148914691236517205 := by decide
  have m2 : mkN 51 8 = 3689348814741910323 := by decide
  have m3 : mkN 15 8 = 1085102592571150095 := by decide
  have k1 : ((1 : Int32).toInt64.toUInt64 &&& Int64.toUInt64 63) = UInt64.ofNat 1 := by decide
  have k2 : ((2 : Int32).toInt64.toUInt64 &&& Int64.toUInt64 63) = UInt64.ofNat 2 := by decide
  have k4 : ((4 : Int32).toInt64.toUInt64 &&& Int64.toUInt64 63) = UInt64.ofNat 4 := by decide
  have k8 : ((8 : Int32).toInt64.toUInt64 &&& Int64.toUInt64 63) = UInt64.ofNat 8 := by decide
  have k16 : ((16 : Int32).toInt64.toUInt64 &&& Int64.toUInt64 63) = UInt64.ofNat 16 := by decide
  have k32 : ((32 : Int32).toInt64.toUInt64 &&& Int64.toUInt64 63) = UInt64.ofNat 32 := by decide
  rw [m1, m2, m3] at hq
  unfold f_J13_bitCount_95d88
  rw [k1, k2, k4, k8, k16, k32]
  have w1 : lN x - (((lN x).toUInt64 >>> UInt64.ofNat 1).toInt64 &&& 6148914691236517205) = lN (q1 6148914691236517205 x) := by
    rw [lN_shr hx (by omega), show (6148914691236517205 : Int64) = lN 6148914691236517205 from rfl, lN_and, lN_sub (q1_le _ _)]
    rfl
  rw [w1, bd_e]
  have b1 : q1 6148914691236517205 x < 2 ^ 64 := Nat.lt_of_le_of_lt (Nat.sub_le _ _) hx
  obtain ⟨y1, hy1⟩ : ∃ y, y = q1 6148914691236517205 x := ⟨_, rfl⟩
  rw [← hy1] at b1 hq ⊢
  have w2 : (lN y1 &&& 3689348814741910323) + (((lN y1).toUInt64 >>> UInt64.ofNat 2).toInt64 &&& 3689348814741910323) = lN (q2 3689348814741910323 y1) := by
    rw [lN_shr b1 (by omega), show (3689348814741910323 : Int64) = lN 3689348814741910323 from rfl, lN_and, lN_and, lN_add]
    rfl
  rw [w2, bd_e]
  have b2 : q2 3689348814741910323 y1 ≤ 7378697629483820646 := by
    have u1 : y1 &&& 3689348814741910323 ≤ 3689348814741910323 := Nat.and_le_right
    have u2 : y1 / 4 &&& 3689348814741910323 ≤ 3689348814741910323 := Nat.and_le_right
    unfold q2
    omega
  obtain ⟨y2, hy2⟩ : ∃ y, y = q2 3689348814741910323 y1 := ⟨_, rfl⟩
  rw [← hy2] at b2 hq ⊢
  have w3 : lN y2 + ((lN y2).toUInt64 >>> UInt64.ofNat 4).toInt64 &&& 1085102592571150095 = lN (q3 1085102592571150095 y2) := by
    rw [lN_shr (by omega) (by omega), show (1085102592571150095 : Int64) = lN 1085102592571150095 from rfl, lN_add, lN_and]
    rfl
  rw [w3, bd_e, hq]
  clear w1 w2 w3 m1 m2 m3 k1 k2 k4 k8 k16 k32 hy1 hy2 b1 b2
  have hB : bpN 8 x ≤ 1085102592571150095 := by rw [← hq]; exact Nat.and_le_right
  have hS : bpN 8 x = 256 * (256 * (256 * (256 * (256 * (256 * (256 * (256 * 0 + pcn (x / 256 / 256 / 256 / 256 / 256 / 256 / 256 % 256) 8) + pcn (x / 256 / 256 / 256 / 256 / 256 / 256 % 256) 8) + pcn (x / 256 / 256 / 256 / 256 / 256 % 256) 8) + pcn (x / 256 / 256 / 256 / 256 % 256) 8) + pcn (x / 256 / 256 / 256 % 256) 8) + pcn (x / 256 / 256 % 256) 8) + pcn (x / 256 % 256) 8) + pcn (x % 256) 8 := rfl
  have hP : pcn x 64 = pcn (x % 256) 8 + (pcn (x / 256 % 256) 8 + (pcn (x / 256 / 256 % 256) 8 + (pcn (x / 256 / 256 / 256 % 256) 8 + (pcn (x / 256 / 256 / 256 / 256 % 256) 8 + (pcn (x / 256 / 256 / 256 / 256 / 256 % 256) 8 + (pcn (x / 256 / 256 / 256 / 256 / 256 / 256 % 256) 8 + (pcn (x / 256 / 256 / 256 / 256 / 256 / 256 / 256 % 256) 8 + 0))))))) := by
    rw [show 64 = 8 + (8 + (8 + (8 + (8 + (8 + (8 + (8 + 0))))))) from rfl, pcn_s, pcn_s, pcn_s, pcn_s, pcn_s, pcn_s, pcn_s, pcn_s]
    rfl
  have p0 := pcn_b (x % 256) 8
  have p1 := pcn_b (x / 256 % 256) 8
  have p2 := pcn_b (x / 256 / 256 % 256) 8
  have p3 := pcn_b (x / 256 / 256 / 256 % 256) 8
  have p4 := pcn_b (x / 256 / 256 / 256 / 256 % 256) 8
  have p5 := pcn_b (x / 256 / 256 / 256 / 256 / 256 % 256) 8
  have p6 := pcn_b (x / 256 / 256 / 256 / 256 / 256 / 256 % 256) 8
  have p7 := pcn_b (x / 256 / 256 / 256 / 256 / 256 / 256 / 256 % 256) 8
  have hF := cnt8 p0 p1 p2 p3 p4 p5 p6 p7 hS
  rw [← hP] at hF
  generalize bpN 8 x = z at hF hB ⊢
  clear hS hP hq p0 p1 p2 p3 p4 p5 p6 p7
  have v8 : z / 2 ^ 8 = z / 256 := rfl
  rw [lN_shr (a := z) (by omega) (by omega), v8, lN_add, bd_e]
  have hB4 : z + z / 256 ≤ 2170205185142300190 := by omega
  generalize z + z / 256 = z4 at hF hB4 ⊢
  have v16 : z4 / 2 ^ 16 = z4 / 256 / 256 := by rw [Nat.div_div_eq_div_mul]
  rw [lN_shr (a := z4) (by omega) (by omega), v16, lN_add, bd_e]
  have hB5 : z4 + z4 / 256 / 256 ≤ 4340410370284600380 := by omega
  generalize z4 + z4 / 256 / 256 = z5 at hF hB5 ⊢
  have v32 : z5 / 2 ^ 32 = z5 / 256 / 256 / 256 / 256 := by rw [Nat.div_div_eq_div_mul, Nat.div_div_eq_div_mul, Nat.div_div_eq_div_mul]
  rw [lN_shr (a := z5) (by omega) (by omega), v32, lN_add, bd_e, lN_i, nI_127, hF]
