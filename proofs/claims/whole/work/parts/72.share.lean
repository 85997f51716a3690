/-! PURE: shares: what a party has -/
theorem ix_0 : ix (0 : Int32) = 0 := rfl
theorem ix_1 : ix (1 : Int32) = 1 := rfl
theorem ix_2 : ix (2 : Int32) = 2 := rfl
theorem ix_3 : ix (3 : Int32) = 3 := rfl
theorem ix_4 : ix (4 : Int32) = 4 := rfl
theorem ix_5 : ix (5 : Int32) = 5 := rfl
theorem ix_6 : ix (6 : Int32) = 6 := rfl
theorem ix_7 : ix (7 : Int32) = 7 := rfl
theorem ix_8 : ix (8 : Int32) = 8 := rfl
theorem ix_9 : ix (9 : Int32) = 9 := rfl
theorem ix_10 : ix (10 : Int32) = 10 := rfl
theorem ix_11 : ix (11 : Int32) = 11 := rfl
theorem ix_12 : ix (12 : Int32) = 12 := rfl
theorem ix_13 : ix (13 : Int32) = 13 := rfl
theorem ix_14 : ix (14 : Int32) = 14 := rfl
theorem ix_15 : ix (15 : Int32) = 15 := rfl
def r9 (a0 a1 a2 a3 a4 a5 a6 a7 a8 b0 b1 b2 : Int64) (st : St) : St := sL (sL (sL (sL (sL (sL (sL (sL (sL (sL (sL (sL (st) 137 0 a0) 137 1 a1) 137 2 a2) 138 0 b0) 137 3 a3) 137 4 a4) 137 5 a5) 138 1 b1) 137 6 a6) 137 7 a7) 137 8 a8) 138 2 b2
theorem r9_0 (a0 a1 a2 a3 a4 a5 a6 a7 a8 b0 b1 b2 : Int64) (st : St) : gL (r9 a0 a1 a2 a3 a4 a5 a6 a7 a8 b0 b1 b2 st) 137 0 = a0 := by simp [r9, gL_sL]
theorem r9_1 (a0 a1 a2 a3 a4 a5 a6 a7 a8 b0 b1 b2 : Int64) (st : St) : gL (r9 a0 a1 a2 a3 a4 a5 a6 a7 a8 b0 b1 b2 st) 137 1 = a1 := by simp [r9, gL_sL]
theorem r9_2 (a0 a1 a2 a3 a4 a5 a6 a7 a8 b0 b1 b2 : Int64) (st : St) : gL (r9 a0 a1 a2 a3 a4 a5 a6 a7 a8 b0 b1 b2 st) 137 2 = a2 := by simp [r9, gL_sL]
theorem r9_3 (a0 a1 a2 a3 a4 a5 a6 a7 a8 b0 b1 b2 : Int64) (st : St) : gL (r9 a0 a1 a2 a3 a4 a5 a6 a7 a8 b0 b1 b2 st) 137 3 = a3 := by simp [r9, gL_sL]
theorem r9_4 (a0 a1 a2 a3 a4 a5 a6 a7 a8 b0 b1 b2 : Int64) (st : St) : gL (r9 a0 a1 a2 a3 a4 a5 a6 a7 a8 b0 b1 b2 st) 137 4 = a4 := by simp [r9, gL_sL]
theorem r9_5 (a0 a1 a2 a3 a4 a5 a6 a7 a8 b0 b1 b2 : Int64) (st : St) : gL (r9 a0 a1 a2 a3 a4 a5 a6 a7 a8 b0 b1 b2 st) 137 5 = a5 := by simp [r9, gL_sL]
theorem r9_6 (a0 a1 a2 a3 a4 a5 a6 a7 a8 b0 b1 b2 : Int64) (st : St) : gL (r9 a0 a1 a2 a3 a4 a5 a6 a7 a8 b0 b1 b2 st) 137 6 = a6 := by simp [r9, gL_sL]
theorem r9_7 (a0 a1 a2 a3 a4 a5 a6 a7 a8 b0 b1 b2 : Int64) (st : St) : gL (r9 a0 a1 a2 a3 a4 a5 a6 a7 a8 b0 b1 b2 st) 137 7 = a7 := by simp [r9, gL_sL]
theorem r9_8 (a0 a1 a2 a3 a4 a5 a6 a7 a8 b0 b1 b2 : Int64) (st : St) : gL (r9 a0 a1 a2 a3 a4 a5 a6 a7 a8 b0 b1 b2 st) 137 8 = a8 := by simp [r9, gL_sL]
theorem r9_b0 (a0 a1 a2 a3 a4 a5 a6 a7 a8 b0 b1 b2 : Int64) (st : St) : gL (r9 a0 a1 a2 a3 a4 a5 a6 a7 a8 b0 b1 b2 st) 138 0 = b0 := by simp [r9, gL_sL]
theorem r9_b1 (a0 a1 a2 a3 a4 a5 a6 a7 a8 b0 b1 b2 : Int64) (st : St) : gL (r9 a0 a1 a2 a3 a4 a5 a6 a7 a8 b0 b1 b2 st) 138 1 = b1 := by simp [r9, gL_sL]
theorem r9_b2 (a0 a1 a2 a3 a4 a5 a6 a7 a8 b0 b1 b2 : Int64) (st : St) : gL (r9 a0 a1 a2 a3 a4 a5 a6 a7 a8 b0 b1 b2 st) 138 2 = b2 := by simp [r9, gL_sL]
theorem r9_R (a0 a1 a2 a3 a4 a5 a6 a7 a8 b0 b1 b2 : Int64) (st : St) : gR (r9 a0 a1 a2 a3 a4 a5 a6 a7 a8 b0 b1 b2 st) = gR st := rfl
theorem r9_I (a0 a1 a2 a3 a4 a5 a6 a7 a8 b0 b1 b2 : Int64) (st : St) : gI (r9 a0 a1 a2 a3 a4 a5 a6 a7 a8 b0 b1 b2 st) = gI st := rfl
theorem r9_F (a0 a1 a2 a3 a4 a5 a6 a7 a8 b0 b1 b2 : Int64) (st : St) : Fr [(137, none), (138, none)] st (r9 a0 a1 a2 a3 a4 a5 a6 a7 a8 b0 b1 b2 st) := by
  unfold r9
  exact (((((((((((((Fr.l st 137 0 a0).tr (Fr.l _ 137 1 a1)).tr (Fr.l _ 137 2 a2)).tr (Fr.l _ 138 0 b0)).tr (Fr.l _ 137 3 a3)).tr (Fr.l _ 137 4 a4)).tr (Fr.l _ 137 5 a5)).tr (Fr.l _ 138 1 b1)).tr (Fr.l _ 137 6 a6)).tr (Fr.l _ 137 7 a7)).tr (Fr.l _ 137 8 a8)).tr (Fr.l _ 138 2 b2))).wd (by decide)
abbrev rw9 (o : Nat) (tk : Int32) (st : St) : St := r9 (100 - (gI st o 0).toInt64) (-(gI st o 1).toInt64) (-(gI st o 2).toInt64) (-(gI st o 5).toInt64) (100 - (gI st o 6).toInt64) (-(gI st o 7).toInt64) (-(gI st o 10).toInt64) (-(gI st o 11).toInt64) (100 - (gI st o 12).toInt64) ((gI st o 3).toInt64 * tk.toInt64 + 100 * (gI st o 4).toInt64) ((gI st o 8).toInt64 * tk.toInt64 + 100 * (gI st o 9).toInt64) ((gI st o 13).toInt64 * tk.toInt64 + 100 * (gI st o 14).toInt64) st
theorem fillRows_c {st : St} (hT : Top st) (F : Nat) {o : Nat} (ho : gR st 134 0 = o) (hk : kd o = (100, 15)) (hoz : o ≠ 0) (tk : Int32) : f_X5_fillRows (F + 10) 134 tk st = some (rw9 o tk st) := by
  unfold f_X5_fillRows
  simp [b_X5_fillRows_2, b_X5_fillRows_2_b, b_X5_fillRows_14, b_X5_fillRows_14_b, b_X5_fillRows_43, ck, bd, ho, hk, hoz, tp_134_3 hT, tp_134_4 hT, kd_134, kd_137, kd_138, gR_sL, gI_sL, r9, -ix, ix_0, ix_1, ix_2, ix_3, ix_4, ix_5, ix_6, ix_7, ix_8, ix_9, ix_10, ix_11, ix_12, ix_13, ix_14, ix_15]
/-- the determinant of nine numbers -/
def dt (a b c d e f g h i : Int64) : Int64 := a * (e * i - f * h) - b * (d * i - f * g) + c * (d * h - e * g)
theorem det_c {st : St} (hT : Top st) (fu : Nat) : f_X5_determinant fu 134 st = some (dt (gL st 137 0) (gL st 137 1) (gL st 137 2) (gL st 137 3) (gL st 137 4) (gL st 137 5) (gL st 137 6) (gL st 137 7) (gL st 137 8), st) := by
  unfold f_X5_determinant
  simp [ck, bd, tp_134_3 hT, kd_134, kd_137, dt, -ix, ix_0, ix_1, ix_2, ix_3, ix_4, ix_5, ix_6, ix_7, ix_8, ix_9, ix_10, ix_11, ix_12, ix_13, ix_14, ix_15]
theorem three_c {st : St} (fu : Nat) (a b c d e f g h i : Int64) : f_X12_three fu a b c d e f g h i st = some (dt a b c d e f g h i, st) := rfl
theorem det_9 (o : Nat) (tk : Int32) {st : St} (hT : Top st) (fu : Nat) : f_X5_determinant fu 134 (rw9 o tk st) = some (dt (100 - (gI st o 0).toInt64) (-(gI st o 1).toInt64) (-(gI st o 2).toInt64) (-(gI st o 5).toInt64) (100 - (gI st o 6).toInt64) (-(gI st o 7).toInt64) (-(gI st o 10).toInt64) (-(gI st o 11).toInt64) (100 - (gI st o 12).toInt64), rw9 o tk st) := by
  rw [det_c (hT.r (r9_R _ _ _ _ _ _ _ _ _ _ _ _ st)), r9_0, r9_1, r9_2, r9_3, r9_4, r9_5, r9_6, r9_7, r9_8]
