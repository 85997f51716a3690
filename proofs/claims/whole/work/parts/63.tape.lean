/-! PURE: the tape: feed, cut, fault -/
def S_tape : List PL := [(2, some 1), (3, none), (153, some 1), (154, none)]
def P_tape (st : St) : Prop := gI st 3 = gI st 154 ∧ gI st 2 1 = gI st 153 1 ∧ ∃ n : Nat, n ≤ 4000 ∧ gI st 2 1 = nI n
theorem P_tape.fr {st u : St} (h : P_tape st) (hs : Same S_tape st u) : P_tape u := by
  obtain ⟨h1, h2, n, h3, h4⟩ := h
  refine ⟨?_, ?_, n, h3, ?_⟩
  · rw [hs.fi (o := 3) (by decide), hs.fi (o := 154) (by decide)]; exact h1
  · rw [hs.i (o := 2) (k := 1) (by decide), hs.i (o := 153) (k := 1) (by decide)]; exact h2
  · rw [hs.i (o := 2) (k := 1) (by decide)]; exact h4
theorem ix_nI {n : Nat} (h : n < 2147483648) : (nI n).toNatClampNeg = n := nI_clamp (by omega)
theorem nI_lt0 {n : Nat} (h : n < 2147483648) : ¬ nI n < 0 := nI_pos (by omega)
/-- one byte of v behind the others: a the bytes' cell, o the cell that counts them (at place 1) -/
def ap (o a : Nat) (st : St) (v sh : Int32) : St := sI (sI st a (ix (gI st o 1)) ((v >>> (sh &&& 31)).toInt8.toInt32).toInt8.toInt32) o 1 (gI (sI st a (ix (gI st o 1)) ((v >>> (sh &&& 31)).toInt8.toInt32).toInt8.toInt32) o 1 + 1)
def by1 (v sh : Int32) : Int32 := ((v >>> (sh &&& 31)).toInt8.toInt32).toInt8.toInt32
theorem ap_is {o a : Nat} (hoa : o ≠ a) {st : St} {n : Nat} (hn : n < 4000) (hl : gI st o 1 = nI n) (v sh : Int32) : Fr [(o, some 1), (a, none)] st (ap o a st v sh) ∧ gR (ap o a st v sh) = gR st ∧ gI (ap o a st v sh) a = upd (gI st a) n (by1 v sh) ∧ gI (ap o a st v sh) o 1 = nI (n + 1) := by
  have e1 : gI (sI st a (ix (gI st o 1)) (by1 v sh)) o 1 = nI n := by rw [gI_sI, if_neg (fun h => hoa h.1)]; exact hl
  have e2 : ap o a st v sh = sI (sI st a n (by1 v sh)) o 1 (nI (n + 1)) := by
    unfold ap
    show sI (sI st a (ix (gI st o 1)) (by1 v sh)) o 1 (gI (sI st a (ix (gI st o 1)) (by1 v sh)) o 1 + 1) = _
    rw [e1, nI_1, hl, ix, ix_nI (by omega)]
  rw [e2]
  refine ⟨((Fr.ia st a n (by1 v sh)).tr (Fr.i _ o 1 _)).wd (by simp [within']), rfl, ?_, ?_⟩
  · rw [gI_sI_n _ _ _ (Ne.symm hoa), gI_sI_o]
  · rw [gI_sI, if_pos ⟨rfl, rfl⟩]
theorem app_b {st : St} (hT : Top st) {k : Nat → Int32 → Int32 → St → Option St} (fu : Nat) (v sh : Int32) {n : Nat} (hn : n < 4000) (hl : gI st 2 1 = nI n) (hs : ¬ sh < 0) : b_X9_append_3_b fu k 2 v sh st = k 2 v (sh + -8) (ap 2 3 st v sh) := by
  have e0 : ¬ ((4000 : Int32) ≤ nI n) := fun h => by
    have := (nI_leI (a := 4000) (b := n) (by omega) (by omega)).mp h
    omega
  have e1 : n < 2147483648 := by omega
  simp [b_X9_append_3_b, hs, ck, bd, tp_2_0 hT, kd_2, kd_3, gR_sI, hl, e0, ix_nI e1, nI_lt0 e1, hn, nI_pos' (show n < 2 ^ 31 by omega), ap]
theorem lay_b {st : St} (hT : Top st) {k : Nat → Int32 → Int32 → St → Option St} (fu : Nat) (v sh : Int32) {n : Nat} (hn : n < 4000) (hl : gI st 153 1 = nI n) (hs : ¬ sh < 0) : b_X12_lay_3_b fu k 153 v sh st = k 153 v (sh + -8) (ap 153 154 st v sh) := by
  have e1 : n < 2147483648 := by omega
  simp [b_X12_lay_3_b, hs, ck, bd, tp_153_0 hT, kd_153, kd_154, gR_sI, hl, ix_nI e1, nI_lt0 e1, hn, nI_pos' (show n < 2 ^ 31 by omega), ap]
/-- four bytes of v behind n, the highest first -/
def bt4 (f : Nat → Int32) (n : Nat) (v : Int32) : Nat → Int32 := upd (upd (upd (upd f n (by1 v 24)) (n + 1) (by1 v 16)) (n + 2) (by1 v 8)) (n + 3) (by1 v 0)
def ap4 (o a : Nat) (st : St) (v : Int32) : St := ap o a (ap o a (ap o a (ap o a st v 24) v 16) v 8) v 0
theorem ap4_is {o a : Nat} (hoa : o ≠ a) {st : St} {n : Nat} (hn : n + 4 ≤ 4000) (hl : gI st o 1 = nI n) (v : Int32) : Fr [(o, some 1), (a, none)] st (ap4 o a st v) ∧ gR (ap4 o a st v) = gR st ∧ gI (ap4 o a st v) a = bt4 (gI st a) n v ∧ gI (ap4 o a st v) o 1 = nI (n + 4) := by
  obtain ⟨a1, a2, a3, a4⟩ := ap_is hoa (n := n) (by omega) hl v 24
  obtain ⟨b1, b2, b3, b4⟩ := ap_is hoa (n := n + 1) (by omega) a4 v 16
  obtain ⟨c1, c2, c3, c4⟩ := ap_is hoa (n := n + 2) (by omega) b4 v 8
  obtain ⟨d1, d2, d3, d4⟩ := ap_is hoa (n := n + 3) (by omega) c4 v 0
  refine ⟨(((a1.tr b1).tr c1).tr d1).wd (by simp [within']), d2.trans (c2.trans (b2.trans a2)), ?_, d4⟩
  unfold ap4 bt4
  rw [d3, c3, b3, a3]
theorem Top.r {st u : St} (h : Top st) (e : gR u = gR st) : Top u := fun q hq => by rw [e]; exact h q hq
theorem app_c {st : St} (hT : Top st) (fu : Nat) (v : Int32) {n : Nat} (hn : n + 4 ≤ 4000) (hl : gI st 2 1 = nI n) : f_X9_append (fu + 5) 2 v st = some (ap4 2 3 st v) := by
  obtain ⟨a1, a2, a3, a4⟩ := ap_is (o := 2) (a := 3) (by decide) (n := n) (by omega) hl v 24
  obtain ⟨b1, b2, b3, b4⟩ := ap_is (o := 2) (a := 3) (by decide) (n := n + 1) (by omega) a4 v 16
  obtain ⟨c1, c2, c3, c4⟩ := ap_is (o := 2) (a := 3) (by decide) (n := n + 2) (by omega) b4 v 8
  have t1 := hT.r a2
  have t2 := t1.r b2
  have t3 := t2.r c2
  unfold f_X9_append
  show b_X9_append_3_b _ _ 2 v 24 st = _
  rw [app_b hT _ v 24 (n := n) (by omega) hl (by decide)]
  show b_X9_append_3_b _ _ 2 v 16 _ = _
  rw [app_b t1 _ v 16 (n := n + 1) (by omega) a4 (by decide)]
  show b_X9_append_3_b _ _ 2 v 8 _ = _
  rw [app_b t2 _ v 8 (n := n + 2) (by omega) b4 (by decide)]
  show b_X9_append_3_b _ _ 2 v 0 _ = _
  rw [app_b t3 _ v 0 (n := n + 3) (by omega) c4 (by decide)]
  show b_X9_append_3_b _ _ 2 v (-8) _ = _
  unfold b_X9_append_3_b
  rw [if_pos (by decide)]
  rfl
theorem lay_c {st : St} (hT : Top st) (fu : Nat) (v : Int32) {n : Nat} (hn : n + 4 ≤ 4000) (hl : gI st 153 1 = nI n) : f_X12_lay (fu + 5) 153 v st = some (ap4 153 154 st v) := by
  obtain ⟨a1, a2, a3, a4⟩ := ap_is (o := 153) (a := 154) (by decide) (n := n) (by omega) hl v 24
  obtain ⟨b1, b2, b3, b4⟩ := ap_is (o := 153) (a := 154) (by decide) (n := n + 1) (by omega) a4 v 16
  obtain ⟨c1, c2, c3, c4⟩ := ap_is (o := 153) (a := 154) (by decide) (n := n + 2) (by omega) b4 v 8
  have t1 := hT.r a2
  have t2 := t1.r b2
  have t3 := t2.r c2
  unfold f_X12_lay
  show b_X12_lay_3_b _ _ 153 v 24 st = _
  rw [lay_b hT _ v 24 (n := n) (by omega) hl (by decide)]
  show b_X12_lay_3_b _ _ 153 v 16 _ = _
  rw [lay_b t1 _ v 16 (n := n + 1) (by omega) a4 (by decide)]
  show b_X12_lay_3_b _ _ 153 v 8 _ = _
  rw [lay_b t2 _ v 8 (n := n + 2) (by omega) b4 (by decide)]
  show b_X12_lay_3_b _ _ 153 v 0 _ = _
  rw [lay_b t3 _ v 0 (n := n + 3) (by omega) c4 (by decide)]
  show b_X12_lay_3_b _ _ 153 v (-8) _ = _
  unfold b_X12_lay_3_b
  rw [if_pos (by decide)]
  rfl
