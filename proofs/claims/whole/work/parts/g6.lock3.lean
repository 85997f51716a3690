/-! PURE: locks: what is true, class -/
theorem lk_end {s : Nat} (hs : s < 2 ^ 62) (fu : Nat) (st : St) : b_X7_lockTrue_140 fu (lN s) st = some (nI (s % 2), st) := by
  have e : lN s &&& 1 = lN (s % 2) := by rw [show (1 : Int64) = lN 1 from rfl, lN_and, Nat.and_one_is_mod]
  have lc' : ∀ x : Int64, (lg_cmp x 0 = 0) = (x = 0) := fun x => LC.2.2.2.2.2.2.2 x 0
  unfold b_X7_lockTrue_140
  rw [e]
  rcases Nat.mod_two_eq_zero_or_one s with q | q
  · rw [q, if_pos (by rw [lc']; rfl)]; rfl
  · rw [q, if_neg (by rw [lc']; decide)]; rfl
theorem lk_one {st : St} (hT : Top st) (hE : ∀ k, gI st 6 k = 0 ∨ gI st 6 k = 1) {o Q len j s x : Nat} (kO : kd o = (0, 0)) (rQ : gR st o 12 = Q) (Q0 : Q ≠ 0) (kQ : kd Q = (100, 60)) (hn : gI st o 13 = nI len) (hlen : len ≤ 60) (hj : j < len) (hx : gI st Q j = nI x) (hc : cdOK x) (hs : s < 2 ^ 61) (fu : Nat) (K : Nat → Nat → Int64 → Int32 → St → Option (Int32 × St)) : b_X7_lockTrue_21_b fu K 4 o (lN s) (nI j) st = K 4 o (lN (stp (gI st 6) (axA st) s x)) (nI (j + 1)) st := by
  obtain ⟨c1, c2, c3⟩ := hc
  have e1 : lN s &&& 1 = lN (s % 2) := by rw [show (1 : Int64) = lN 1 from rfl, lN_and, Nat.and_one_is_mod]
  have e7 : nI x &&& 7 = nI (x % 8) := and7 (by omega)
  have k1 : ((1 : Int32).toInt64.toUInt64 &&& Int64.toUInt64 63) = UInt64.ofNat 1 := by decide
  have sh : ((lN s).toUInt64 >>> UInt64.ofNat 1).toInt64 = lN (s / 2) := lN_shr (by omega) (by omega)
  have sl : lN s <<< ((1 : Int32).toInt64 &&& 63) = lN (s * 2) := by
    rw [show ((1 : Int32).toInt64 &&& 63) = lN 1 by decide]
    exact lN_shl s (by omega)
  have m2 : (-2 : Int64) = lN (2 ^ 64 - 2) := by decide
  have ij : ix (nI j) = j := ix_nI (by omega)
  have ib : inb (nI j) 60 := by simp (disch := first | decide | omega) [NF, NC, NB, inb]
  have lit : ∀ a b : Nat, a < 8 → b < 8 → a ≠ b → ¬ nI a = nI b := fun a b ha hb hab q => hab ((nI_eq (by omega) (by omega)).mp q)
  have v8 : nI j + 1 = nI (j + 1) := nI_add j 1
  unfold b_X7_lockTrue_21_b
  rw [ck_t (show (kd o).1 = 0 by rw [kO]), hn, if_neg (fun z => by have := (nI_leI (a := len) (b := j) (by omega) (by omega)).mp z; omega), if_neg (fun z => by have := (nI_leI (a := 60) (b := j) (by omega) (by omega)).mp z; omega), rQ, ck_t Q0, ck_t (show (kd o).1 = 0 by rw [kO]), bd_e, ck_t (show (kd Q).1 = 100 ∧ inb (nI j) (kd Q).2 by rw [kQ]; exact ⟨rfl, ib⟩), ij, hx, bd_e, e1, bd_e, e7, bd_e, k1, sh, sl]
  unfold stp
  by_cases q0 : x % 8 = 0
  · rw [q0, if_pos (show nI 0 = 0 from rfl), if_pos rfl, show (1 : Int64) = lN 1 from rfl, lN_xor, bd_e]
    unfold b_X7_lockTrue_134
    rw [v8, bd_e]
  · rw [if_neg (show ¬ nI (x % 8) = (0 : Int32) from lit (x % 8) 0 (by omega) (by omega) q0), if_neg q0]
    by_cases q1 : x % 8 = 1
    · rw [q1, if_pos (show nI 1 = 1 from rfl), if_pos rfl, m2, lN_or, lN_and, bd_e]
      unfold b_X7_lockTrue_134
      rw [v8, bd_e]
    · rw [if_neg (show ¬ nI (x % 8) = (1 : Int32) from lit (x % 8) 1 (by omega) (by omega) q1), if_neg q1]
      by_cases q2 : x % 8 = 2
      · rw [q2, if_pos (show nI 2 = 2 from rfl), if_pos rfl, lN_or, bd_e]
        unfold b_X7_lockTrue_134
        rw [v8, bd_e]
      · rw [if_neg (show ¬ nI (x % 8) = (2 : Int32) from lit (x % 8) 2 (by omega) (by omega) q2), if_neg q2, ck_t (show (kd 4).1 = 7 from rfl), term_c hT hE c1 ⟨by omega, c2⟩ (fun h => c3 (by omega) h) fu, ca_s]
        unfold b_X7_lockTrue_132 b_X7_lockTrue_134
        have oc : ∀ b : Bool, lN (s * 2) ||| lN b.toNat = lN (2 * s + b.toNat) := fun b => by
          rw [lN_or]
          congr 1
          have := or_c s false b
          simp only [Bool.toNat_false, Nat.add_zero, Bool.false_or] at this
          rw [Nat.mul_comm s 2]
          exact this
        cases tmV (gI st 6) (axA st) x
        · rw [if_pos (show nI false.toNat = 0 from rfl), show (0 : Int64) = lN false.toNat from rfl, oc, bd_e, v8, bd_e]
        · rw [if_neg (show ¬ nI true.toNat = 0 by decide), show (1 : Int64) = lN true.toNat from rfl, oc, bd_e, v8, bd_e]
theorem lk_l {st : St} (hT : Top st) (hE : ∀ k, gI st 6 k = 0 ∨ gI st 6 k = 1) {o Q len : Nat} (kO : kd o = (0, 0)) (rQ : gR st o 12 = Q) (Q0 : Q ≠ 0) (kQ : kd Q = (100, 60)) (hn : gI st o 13 = nI len) (hlen : len ≤ 60) (fu : Nat) : ∀ (c : List Nat) (F j s : Nat), j + c.length = len → c.length < F → s < 2 ^ j → (∀ i (h : i < c.length), gI st Q (j + i) = nI c[i]) → (∀ x, x ∈ c → cdOK x) → b_X7_lockTrue_21 fu F 4 o (lN s) (nI j) st = some (nI (c.foldl (stp (gI st 6) (axA st)) s % 2), st)
  | _, 0, _, _, _, h, _, _, _ => by omega
  | [], F + 1, j, s, h1, h2, h3, h4, h5 => by
    have : j = len := by simpa using h1
    subst this
    have s62 : s < 2 ^ 62 := Nat.lt_of_lt_of_le h3 (Nat.pow_le_pow_right (by omega) (by omega))
    show b_X7_lockTrue_21_b fu (b_X7_lockTrue_21 fu F) 4 o (lN s) (nI j) st = some (nI (s % 2), st)
    unfold b_X7_lockTrue_21_b
    rw [ck_t (show (kd o).1 = 0 by rw [kO]), hn, if_pos (Int32.le_refl _)]
    exact lk_end s62 fu st
  | x :: c, F + 1, j, s, h1, h2, h3, h4, h5 => by
    have l1 : (x :: c).length = c.length + 1 := rfl
    have s61 : s < 2 ^ 61 := Nat.lt_of_lt_of_le h3 (Nat.pow_le_pow_right (by omega) (by omega))
    have e := lk_one hT hE kO rQ Q0 kQ hn hlen (j := j) (by omega) (h4 0 (by omega)) (h5 x (List.mem_cons_self ..)) s61 fu (b_X7_lockTrue_21 fu F)
    show b_X7_lockTrue_21_b fu (b_X7_lockTrue_21 fu F) 4 o (lN s) (nI j) st = _
    rw [e]
    exact lk_l hT hE kO rQ Q0 kQ hn hlen fu c F (j + 1) _ (by omega) (by omega) (stp_lt _ _ h3 x) (fun i h => by
      have := h4 (i + 1) (by omega)
      rw [show j + (i + 1) = j + 1 + i by omega] at this
      exact this) (fun y hy => h5 y (List.mem_cons_of_mem _ hy))
/-- the codes of axis n, in the class -/
def CK (n : Nat) (c : List Nat) (st : St) : Prop := c.length ≤ 60 ∧ gI st (8 + 2 * n) 13 = nI c.length ∧ ∃ Q, gR st (8 + 2 * n) 12 = Q ∧ Q ≠ 0 ∧ kd Q = (100, 60) ∧ ∀ i (h : i < c.length), gI st Q i = nI c[i]
theorem lockTrue_c {st : St} (hT : Top st) (hE : ∀ k, gI st 6 k = 0 ∨ gI st 6 k = 1) {n : Nat} (hn : n < 8) {c : List Nat} (hC : CK n c st) {v : (Nat → Int32) → (Nat → Nat → Int32) → Bool} (hv : c = [] ∨ Run c v) {fu : Nat} (hf : 100 ≤ fu) : f_X7_lockTrue fu 4 (nI n) st = some (nI (if c = [] then 1 else (v (gI st 6) (axA st)).toNat), st) := by
  obtain ⟨c1, c2, Q, q1, q2, q3, q4⟩ := hC
  obtain ⟨r5, k5⟩ := axR hn hT
  rcases hv with rfl | ⟨g1, g2, g3⟩
  · have c2' : gI st (8 + 2 * n) 13 = nI 0 := c2
    rw [if_pos rfl]
    clear q4
    simp (disch := first | decide | omega) [↓bd_e, isb, ck_tt, NP, NF, NC, NB, NS, GS, kdC, tpC hT, f_X7_lockTrue, r5, k5, c2']
  · have c0 : c ≠ [] := fun z => by rw [z] at g1; exact absurd g1 (by decide)
    have l := lk_l hT hE k5 q1 q2 q3 c2 c1 fu c fu 0 0 (by omega) (by omega) (by omega) (fun i h => by rw [Nat.zero_add]; exact q4 i h) g2
    rw [g3 _ _ 0 0 (by omega) (by omega)] at l
    have b1 : (2 * 0 + (v (gI st 6) (axA st)).toNat) % 2 = (v (gI st 6) (axA st)).toNat := by cases v (gI st 6) (axA st) <;> rfl
    rw [b1] at l
    rw [if_neg c0, ← l]
    clear q4 g2 g3 l b1
    simp (disch := first | decide | omega) [↓bd_e, isb, ck_tt, NP, NF, NC, NB, NS, GS, kdC, tpC hT, f_X7_lockTrue, r5, k5, c2]
    rfl
