/-! PURE: levels by the clock -/
def LV (tg s0 sn sp now : Nat) : Nat := if sp = 0 ∨ sn + sp ≤ now then tg else ((s0 : Int) + (2 * ((tg : Int) - s0) * ((now : Int) - sn) + sp) / (2 * sp)).toNat
theorem lv_q {w g s : Int} (hg : 0 ≤ g) (hs : g < s) : (0 ≤ w → 0 ≤ (2 * w * g + s) / (2 * s) ∧ (2 * w * g + s) / (2 * s) ≤ w) ∧ (w < 0 → w ≤ (2 * w * g + s) / (2 * s) ∧ (2 * w * g + s) / (2 * s) ≤ 0) := by
  have s2 : 0 < 2 * s := by omega
  obtain ⟨b1, b2⟩ := ed_b (x := 2 * w * g + s) s2
  obtain ⟨q, hq⟩ : ∃ q, q = (2 * w * g + s) / (2 * s) := ⟨_, rfl⟩
  rw [← hq] at b1 b2 ⊢
  have e : 2 * w * g = 2 * (w * g) := Int.mul_assoc _ _ _
  rw [e] at b1 b2
  have eq2 : q * (2 * s) = 2 * (q * s) := by rw [← Int.mul_assoc, Int.mul_comm q 2, Int.mul_assoc]
  rw [eq2] at b1 b2
  refine ⟨fun hw => ?_, fun hw => ?_⟩
  · have m1 : 0 ≤ w * g := Int.mul_nonneg hw hg
    have m2 : w * g ≤ w * s := Int.mul_le_mul_of_nonneg_left (by omega) hw
    refine ⟨?_, ?_⟩
    · apply Int.not_lt.mp
      intro h
      have := Int.mul_le_mul_of_nonneg_right (show q ≤ -1 by omega) (show 0 ≤ s by omega)
      omega
    · apply Int.not_lt.mp
      intro h
      have := Int.mul_le_mul_of_nonneg_right (show w + 1 ≤ q by omega) (show 0 ≤ s by omega)
      rw [Int.add_mul] at this
      omega
  · have m1 : w * g ≤ 0 := Int.mul_nonpos_of_nonpos_of_nonneg (by omega) hg
    have m2 : w * s ≤ w * g := Int.mul_le_mul_of_nonpos_left (by omega) (by omega)
    refine ⟨?_, ?_⟩
    · apply Int.not_lt.mp
      intro h
      have := Int.mul_le_mul_of_nonneg_right (show q + 1 ≤ w by omega) (show 0 ≤ s by omega)
      rw [Int.add_mul] at this
      omega
    · apply Int.not_lt.mp
      intro h
      have := Int.mul_le_mul_of_nonneg_right (show 1 ≤ q by omega) (show 0 ≤ s by omega)
      omega
theorem LV_on {tg s0 sn sp now : Nat} (h0 : 0 < sp) (h1 : sn ≤ now) (h2 : now < sn + sp) : ((LV tg s0 sn sp now : Nat) : Int) = (s0 : Int) + (2 * ((tg : Int) - s0) * ((now : Int) - sn) + sp) / (2 * sp) ∧ (tg ≤ 255 → s0 ≤ 255 → LV tg s0 sn sp now ≤ 255) := by
  obtain ⟨a, b⟩ := lv_q (w := (tg : Int) - s0) (g := (now : Int) - sn) (s := sp) (by omega) (by omega)
  have e : LV tg s0 sn sp now = ((s0 : Int) + (2 * ((tg : Int) - s0) * ((now : Int) - sn) + sp) / (2 * sp)).toNat := if_neg (by omega)
  rw [e]
  by_cases h : (0 : Int) ≤ (tg : Int) - s0
  · have := a h
    omega
  · have := b (by omega)
    omega
theorem LV_off {tg s0 sn sp now : Nat} (h : sp = 0 ∨ sn + sp ≤ now) : LV tg s0 sn sp now = tg := if_pos h
theorem LV_le {tg s0 sn sp now : Nat} (h1 : sn ≤ now) (ht : tg ≤ 255) (hs : s0 ≤ 255) : LV tg s0 sn sp now ≤ 255 := by
  by_cases h : sp = 0 ∨ sn + sp ≤ now
  · rw [LV_off h]; exact ht
  · exact (LV_on (by omega) h1 (by omega)).2 ht hs
/-- the class's level -/
theorem levelAt_c {st : St} (fu : Nat) {P ta sa ia pa c tg s0 sn sp now : Nat} (kP : kd P = (3, 0)) (r1 : gR st P 1 = ta) (r2 : gR st P 2 = sa) (r3 : gR st P 3 = ia) (r4 : gR st P 4 = pa) (k1 : kd ta = (100, 64)) (k2 : kd sa = (100, 64)) (k3 : kd ia = (100, 64)) (k4 : kd pa = (100, 64)) (z1 : ta ≠ 0) (z2 : sa ≠ 0) (z3 : ia ≠ 0) (z4 : pa ≠ 0) (hc : c < 64) (e1 : gI st ta c = nI tg) (e2 : gI st sa c = nI s0) (e3 : gI st ia c = nI sn) (e4 : gI st pa c = nI sp) (b1 : tg ≤ 255) (b2 : s0 ≤ 255) (b3 : sn ≤ now) (b4 : sp ≤ 9999) (b5 : now ≤ 100000) : f_X3_levelAt fu P (nI c) (nI now) st = some (nI (LV tg s0 sn sp now), st) := by
  by_cases h : sp = 0 ∨ sn + sp ≤ now
  · rw [LV_off h]
    rcases Nat.eq_zero_or_pos sp with z | z
    · subst z
      simp (disch := first | decide | omega) [NF, NC, NB, f_X3_levelAt, b_X3_levelAt_27, ck_tt, NP, kP, r1, r2, r3, r4, k1, k2, k3, k4, z1, z2, z3, z4, e1, e2, e3, e4]
    · have h' : sn + sp ≤ now := by omega
      simp (disch := first | decide | omega) [NF, NC, NB, f_X3_levelAt, b_X3_levelAt_27, ck_tt, NP, kP, r1, r2, r3, r4, k1, k2, k3, k4, z1, z2, z3, z4, e1, e2, e3, e4]
  · have h0 : 0 < sp := by omega
    have h1 : now < sn + sp := by omega
    obtain ⟨lv, -⟩ := LV_on (tg := tg) (s0 := s0) h0 b3 h1
    have hle := LV_le (sp := sp) b3 b1 b2
    obtain ⟨q1, q2⟩ := lv_q (w := (tg : Int) - s0) (g := (now : Int) - sn) (s := sp) (by omega) (by omega)
    have m := ab2 (x := (tg : Int) - s0) (y := (now : Int) - sn) (X := 255) (Y := 9999) (by omega) (by omega)
    have e5 : 2 * ((tg : Int) - s0) * ((now : Int) - sn) = 2 * (((tg : Int) - s0) * ((now : Int) - sn)) := Int.mul_assoc _ _ _
    have fd := fdivI (st := st) fu (a := 2 * ((tg : Int) - s0) * ((now : Int) - sn) + sp) (b := 2 * sp) (by omega) (by omega)
    have ea : nI 2 * (nI tg - nI s0) * nI (now - sn) + nI sp = zI (2 * ((tg : Int) - s0) * ((now : Int) - sn) + sp) := by
      rw [nI_z (n := tg) (by omega), nI_z (n := s0) (by omega), nI_z (n := now - sn) (by omega), nI_z (n := sp) (by omega), nI_z (n := 2) (by omega), zI_sub, zI_mul, zI_mul, zI_add, show ((now - sn : Nat) : Int) = (now : Int) - sn by omega]
      rfl
    have eb : nI (2 * sp) = zI (2 * sp) := by
      rw [nI_z (by omega)]
      congr 1
    have ec : nI s0 + zI ((2 * ((tg : Int) - s0) * ((now : Int) - sn) + sp) / (2 * sp)) = nI (LV tg s0 sn sp now) := by
      rw [nI_z (n := s0) (by omega), zI_add, ← lv, nI_z (by omega)]
    rw [← ea, ← eb] at fd
    clear ea eb e5 m q1 q2 lv
    have sb : nI now - nI sn = nI (now - sn) := pk_sub (by omega)
    unfold f_X3_levelAt
    rw [r4, ck_t z4, kP, ck_t (show ((3, 0) : Nat × Nat).1 = 3 from rfl), bd_e, k4]
    have ib : ∀ (n : Nat), n = 64 → (((100, n) : Nat × Nat).1 = 100 ∧ inb (nI c) ((100, n) : Nat × Nat).2) := fun n hn => by
      subst hn
      refine ⟨rfl, ?_⟩
      simp (disch := first | decide | omega) [NF, NC, NB, inb]
    have ic : ix (nI c) = c := ix_nI (by omega)
    rw [ck_t (ib 64 rfl), bd_e, r3, ck_t z3, ck_t (show ((3, 0) : Nat × Nat).1 = 3 from rfl), bd_e, k3, ck_t (ib 64 rfl), bd_e, ic, e4, e3, sb]
    rw [if_neg (show ¬ nI sp ≤ 0 from fun q => by have := (nI_leI (a := sp) (b := 0) (by omega) (by omega)).mp q; omega), if_pos (show nI (now - sn) < nI sp from (nI_ltI (by omega) (by omega)).mpr (by omega)), r1, ck_t z1, ck_t (show ((3, 0) : Nat × Nat).1 = 3 from rfl), bd_e, k1, ck_t (ib 64 rfl), r2, ck_t z2, ck_t (show ((3, 0) : Nat × Nat).1 = 3 from rfl), bd_e, k2, ck_t (ib 64 rfl), bd_e, ck_t z2, ck_t (show ((3, 0) : Nat × Nat).1 = 3 from rfl), bd_e, k2, ck_t (ib 64 rfl), e1, e2, show (2 : Int32) = nI 2 from rfl, pk_mul 2 sp, fd, ca_s, ec]
