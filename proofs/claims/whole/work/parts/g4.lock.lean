/-! PURE: locks: what is true, class -/
theorem nI_shr {a k : Nat} (ha : a < 2147483648) (b : Int32) (hb : (b.toBitVec.smod 32).toNat = k) : nI a >>> b = nI (a / 2 ^ k) := by
  have hd : a / 2 ^ k < 2147483648 := Nat.lt_of_le_of_lt (Nat.div_le_self _ _) ha
  apply Int32.toInt_inj.mp
  rw [nI_toInt hd]
  show (nI a >>> b).toBitVec.toInt = _
  rw [Int32.toBitVec_shiftRight, BitVec.sshiftRight_eq', BitVec.toInt_sshiftRight, hb, Int.shiftRight_eq_div_pow]
  show (nI a).toInt / _ = _
  rw [nI_toInt ha]
  first | rfl | exact (Int.natCast_ediv _ _).symm | simp
theorem and7 {a : Nat} (h : a < 2147483648) : nI a &&& nI 7 = nI (a % 8) := pk_andN (n := a) (m := nI 7) (by omega) 3 (by decide +kernel)
theorem and15 {a : Nat} (h : a < 2147483648) : nI a &&& nI 15 = nI (a % 16) := pk_andN (n := a) (m := nI 15) (by omega) 4 (by decide +kernel)
/-- what a code says of events E and axes A -/
def tmV (E : Nat → Int32) (A : Nat → Nat → Int32) (x : Nat) : Bool :=
  if x % 8 = 6 then decide (E (x / 8 % 16) ≠ 0) else
  if x % 8 = 5 then decide (A (x / 8 % 8) 0 = 0) || decide (A (x / 8 % 8) 8 = A (x / 8 % 8) 9) else
  decide (A (x / 8 % 8) 0 ≠ 0) && (if x % 8 = 3 then decide (A (x / 8 % 8) 8 < nI (x / 128)) else decide (nI (x / 128) < A (x / 8 % 8) 8))
def axA (st : St) (n k : Nat) : Int32 := gI st (8 + 2 * n) k
theorem axR {n : Nat} (hn : n < 8) {st : St} (hT : Top st) : gR st 5 n = 8 + 2 * n ∧ kd (8 + 2 * n) = (0, 0) := by
  have : n = 0 ∨ n = 1 ∨ n = 2 ∨ n = 3 ∨ n = 4 ∨ n = 5 ∨ n = 6 ∨ n = 7 := by omega
  rcases this with rfl | rfl | rfl | rfl | rfl | rfl | rfl | rfl
  · exact ⟨tp_5_0 hT, rfl⟩
  · exact ⟨tp_5_1 hT, rfl⟩
  · exact ⟨tp_5_2 hT, rfl⟩
  · exact ⟨tp_5_3 hT, rfl⟩
  · exact ⟨tp_5_4 hT, rfl⟩
  · exact ⟨tp_5_5 hT, rfl⟩
  · exact ⟨tp_5_6 hT, rfl⟩
  · exact ⟨tp_5_7 hT, rfl⟩
theorem term_c {st : St} (hT : Top st) (hE : ∀ k, gI st 6 k = 0 ∨ gI st 6 k = 1) {x : Nat} (hx : x ≤ 12900000) (h3 : 3 ≤ x % 8 ∧ x % 8 ≤ 6) (hn : x % 8 ≠ 6 → x / 8 % 16 < 8) (fu : Nat) : f_X7_termTrue fu 4 (nI x) st = some (nI (tmV (gI st 6) (axA st) x).toNat, st) := by
  have s3 : nI x >>> ((3 : Int32) &&& 31) = nI (x / 2 ^ 3) := nI_shr (by omega) _ (by decide)
  have s7 : nI x >>> ((7 : Int32) &&& 31) = nI (x / 2 ^ 7) := nI_shr (by omega) _ (by decide)
  have a15 : nI (x / 2 ^ 3) &&& 15 = nI (x / 8 % 16) := and15 (by omega)
  have a7 : nI x &&& 7 = nI (x % 8) := and7 (by omega)
  unfold f_X7_termTrue tmV
  rw [s3, s7, a15, a7, bd_e, bd_e]
  clear s3 s7 a15 a7
  by_cases k6 : x % 8 = 6
  · rw [if_pos k6]
    rcases hE (x / 8 % 16) with q | q
    · simp (disch := first | decide | omega) [↓bd_e, isb, ck_tt, NP, NF, NC, NB, NS, GS, kdC, tpC hT, k6, q]
    · simp (disch := first | decide | omega) [↓bd_e, isb, ck_tt, NP, NF, NC, NB, NS, GS, kdC, tpC hT, k6, q]
  · have n8 := hn k6
    have e8 : x / 8 % 16 = x / 8 % 8 := by omega
    have b7 : nI (x / 8 % 16) &&& 7 = nI (x / 8 % 8) := by
      rw [show (7 : Int32) = nI 7 from rfl, and7 (by omega)]
      congr 1
      omega
    obtain ⟨r5, k5⟩ := axR (n := x / 8 % 8) (by omega) hT
    rw [b7, if_neg k6]
    clear b7 e8
    have x7 : x / 2 ^ 7 = x / 128 := rfl
    rw [x7]
    by_cases c5 : x % 8 = 5
    · rw [if_pos c5]
      by_cases z : gI st (8 + 2 * (x / 8 % 8)) 0 = 0
      · have z' : axA st (x / 8 % 8) 0 = 0 := z
        simp (disch := first | decide | omega) [↓bd_e, isb, ck_tt, NP, NF, NC, NB, NS, GS, kdC, tpC hT, c5, r5, k5, z, z', b_X7_termTrue_62, b_X7_termTrue_67]
      · have z' : ¬ axA st (x / 8 % 8) 0 = nI 0 := z
        replace z : ¬ gI st (8 + 2 * (x / 8 % 8)) 0 = nI 0 := z
        by_cases w : gI st (8 + 2 * (x / 8 % 8)) 8 = gI st (8 + 2 * (x / 8 % 8)) 9
        · have w' : axA st (x / 8 % 8) 8 = axA st (x / 8 % 8) 9 := w
          simp (disch := first | decide | omega) [↓bd_e, isb, ck_tt, NP, NF, NC, NB, NS, GS, kdC, tpC hT, c5, r5, k5, z, z', w, w', b_X7_termTrue_62, b_X7_termTrue_67]
        · have w' : ¬ axA st (x / 8 % 8) 8 = axA st (x / 8 % 8) 9 := w
          simp (disch := first | decide | omega) [↓bd_e, isb, ck_tt, NP, NF, NC, NB, NS, GS, kdC, tpC hT, c5, r5, k5, z, z', w, w', b_X7_termTrue_62, b_X7_termTrue_67]
    · rw [if_neg c5]
      by_cases z : gI st (8 + 2 * (x / 8 % 8)) 0 = 0
      · have z' : axA st (x / 8 % 8) 0 = 0 := z
        simp (disch := first | decide | omega) [↓bd_e, isb, ck_tt, NP, NF, NC, NB, NS, GS, kdC, tpC hT, k6, c5, r5, k5, z, z', b_X7_termTrue_114, b_X7_termTrue_115]
      · have z' : ¬ axA st (x / 8 % 8) 0 = nI 0 := z
        replace z : ¬ gI st (8 + 2 * (x / 8 % 8)) 0 = nI 0 := z
        by_cases c3 : x % 8 = 3
        · by_cases w : gI st (8 + 2 * (x / 8 % 8)) 8 < nI (x / 128)
          · have w' : axA st (x / 8 % 8) 8 < nI (x / 128) := w
            have w2 : ¬ nI (x / 128) ≤ gI st (8 + 2 * (x / 8 % 8)) 8 := fun q => by
              rw [Int32.lt_iff_toInt_lt] at w
              rw [Int32.le_iff_toInt_le] at q
              omega
            simp (disch := first | decide | omega) [↓bd_e, isb, ck_tt, NP, NF, NC, NB, NS, GS, kdC, tpC hT, k6, c5, c3, r5, k5, z, z', w', w2, b_X7_termTrue_114, b_X7_termTrue_115, b_X7_termTrue_110]
          · have w' : ¬ axA st (x / 8 % 8) 8 < nI (x / 128) := w
            have w2 : nI (x / 128) ≤ gI st (8 + 2 * (x / 8 % 8)) 8 := by
              rw [Int32.lt_iff_toInt_lt] at w
              rw [Int32.le_iff_toInt_le]
              omega
            simp (disch := first | decide | omega) [↓bd_e, isb, ck_tt, NP, NF, NC, NB, NS, GS, kdC, tpC hT, k6, c5, c3, r5, k5, z, z', w', w2, b_X7_termTrue_114, b_X7_termTrue_115, b_X7_termTrue_110]
        · have c4 : x % 8 = 4 := by omega
          by_cases w : nI (x / 128) < gI st (8 + 2 * (x / 8 % 8)) 8
          · have w' : nI (x / 128) < axA st (x / 8 % 8) 8 := w
            have w2 : ¬ gI st (8 + 2 * (x / 8 % 8)) 8 ≤ nI (x / 128) := fun q => by
              rw [Int32.lt_iff_toInt_lt] at w
              rw [Int32.le_iff_toInt_le] at q
              omega
            simp (disch := first | decide | omega) [↓bd_e, isb, ck_tt, NP, NF, NC, NB, NS, GS, kdC, tpC hT, c4, r5, k5, z, z', w', w2, b_X7_termTrue_114, b_X7_termTrue_115, b_X7_termTrue_110]
          · have w' : ¬ nI (x / 128) < axA st (x / 8 % 8) 8 := w
            have w2 : gI st (8 + 2 * (x / 8 % 8)) 8 ≤ nI (x / 128) := by
              rw [Int32.lt_iff_toInt_lt] at w
              rw [Int32.le_iff_toInt_le]
              omega
            simp (disch := first | decide | omega) [↓bd_e, isb, ck_tt, NP, NF, NC, NB, NS, GS, kdC, tpC hT, c4, r5, k5, z, z', w', w2, b_X7_termTrue_114, b_X7_termTrue_115, b_X7_termTrue_110]
/-- a code on the stack -/
def stp (E : Nat → Int32) (A : Nat → Nat → Int32) (s x : Nat) : Nat :=
  if x % 8 = 0 then s ^^^ 1 else if x % 8 = 1 then (s / 2) &&& (s % 2 ||| (2 ^ 64 - 2)) else if x % 8 = 2 then (s / 2) ||| (s % 2) else 2 * s + (tmV E A x).toNat
def cdOK (x : Nat) : Prop := x ≤ 12900000 ∧ x % 8 ≤ 6 ∧ (3 ≤ x % 8 → x % 8 ≠ 6 → x / 8 % 16 < 8)
/-- codes c say v: they leave v on the stack, and nothing else -/
def Run (c : List Nat) (v : (Nat → Int32) → (Nat → Nat → Int32) → Bool) : Prop := 0 < c.length ∧ (∀ x, x ∈ c → cdOK x) ∧ ∀ E A d s, d + c.length ≤ 62 → s < 2 ^ d → c.foldl (stp E A) s = 2 * s + (v E A).toNat
theorem Run.leaf {x : Nat} (h : cdOK x) (h3 : 3 ≤ x % 8) : Run [x] (fun E A => tmV E A x) := by
  refine ⟨by simp, fun y hy => ?_, fun E A d s _ _ => ?_⟩
  · rw [List.mem_singleton.mp hy]; exact h
  · show stp E A s x = _
    unfold stp
    rw [if_neg (by omega), if_neg (by omega), if_neg (by omega)]
theorem xor1 (s : Nat) (b : Bool) : (2 * s + b.toNat) ^^^ 1 = 2 * s + (!b).toNat := by
  apply Nat.eq_of_testBit_eq
  intro i
  rw [Nat.testBit_xor]
  have e : ∀ (t : Nat) (b : Bool), (2 * t + b.toNat).testBit i = if i = 0 then b else t.testBit (i - 1) := fun t b => by
    cases i with
    | zero =>
      rw [Nat.testBit_zero, if_pos rfl]
      cases b
      · simp
      · simp <;> omega
    | succ i =>
      rw [Nat.testBit_succ, if_neg (by omega), Nat.add_sub_cancel]
      congr 1
      cases b
      · simp
      · simp <;> omega
  rw [e, e, show (1 : Nat) = 2 * 0 + true.toNat from rfl, e]
  by_cases h : i = 0
  · rw [if_pos h, if_pos h, if_pos h]
    cases b <;> rfl
  · rw [if_neg h, if_neg h, if_neg h, Nat.zero_testBit, Bool.xor_false]
theorem Run.neg {c : List Nat} {v : (Nat → Int32) → (Nat → Nat → Int32) → Bool} (h : Run c v) : Run (c ++ [0]) (fun E A => !(v E A)) := by
  obtain ⟨h1, h2, h3⟩ := h
  refine ⟨by simp, fun y hy => ?_, fun E A d s hd hs => ?_⟩
  · rcases List.mem_append.mp hy with q | q
    · exact h2 y q
    · rw [List.mem_singleton.mp q]; exact ⟨by omega, by omega, by omega⟩
  · rw [List.length_append] at hd
    rw [List.foldl_append, h3 E A d s (by simp at hd; omega) hs]
    show stp E A _ 0 = _
    unfold stp
    rw [if_pos (by omega), xor1]
