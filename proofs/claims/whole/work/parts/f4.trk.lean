/-! PURE: tracks -/
theorem bitL {m ch : Nat} (hm : m < 2 ^ 64) (hc : ch < 64) : (((lN m).toUInt64 >>> ((nI ch).toInt64.toUInt64 &&& Int64.toUInt64 63)).toInt64 &&& 1 = (0 : Int64)) = (m.testBit ch = false) := by
  have e : (nI ch).toInt64.toUInt64 &&& Int64.toUInt64 63 = UInt64.ofNat ch := by
    have : ∀ c, c < 64 → (nI c).toInt64.toUInt64 &&& Int64.toUInt64 63 = UInt64.ofNat c := by decide +kernel
    exact this ch hc
  have e1 : (lN m).toUInt64.toNat = m := by
    show (BitVec.ofNat 64 m).toNat = _
    rw [BitVec.toNat_ofNat, Nat.mod_eq_of_lt hm]
  have e2 : (UInt64.ofNat ch).toNat = ch := by
    rw [UInt64.toNat_ofNat', Nat.mod_eq_of_lt (by omega)]
  rw [e, ← Int64.toBitVec_inj]
  obtain ⟨X, hX⟩ : ∃ X, X = (lN m).toUInt64 >>> UInt64.ofNat ch := ⟨_, rfl⟩
  have e3 : X.toBitVec.toNat = m >>> ch := by
    rw [hX]
    show ((lN m).toUInt64 >>> UInt64.ofNat ch).toNat = _
    rw [UInt64.toNat_shiftRight, e1, e2, Nat.mod_eq_of_lt hc]
  rw [← hX]
  have e4 : (X.toInt64 &&& 1).toBitVec.toNat = (m >>> ch) % 2 := by
    rw [Int64.toBitVec_and, BitVec.toNat_and]
    show X.toBitVec.toNat &&& 1 = _
    rw [e3, Nat.and_one_is_mod]
  have e5 : m.testBit ch = decide ((m >>> ch) % 2 = 1) := by
    unfold Nat.testBit
    rw [Nat.and_comm, Nat.and_one_is_mod]
    rcases Nat.mod_two_eq_zero_or_one (m >>> ch) with q | q <;> rw [q] <;> rfl
  rw [e5]
  apply propext
  constructor
  · intro h
    rw [h] at e4
    have : (m >>> ch) % 2 = 0 := e4.symm
    rw [this]; rfl
  · intro h
    apply BitVec.eq_of_toNat_eq
    rw [e4]
    have := of_decide_eq_false h
    show _ = 0
    omega
theorem trk_l {st : St} (hT : Top st) {q c a : Nat} {D : LD} (hq : SQ q) (hS : SC q c a D st) (hL : LOK c a D) (fu : Nat) {i ch : Nat} (hi : i < c) (hc : ch < 64) (h6 : D 6 i ≤ 300) : ∀ (F n : Nat), n ≤ a → n < F → b_X8_tracked_25 fu F q (nI i) (nI ch) (nI n - nI 1) st = some (nI ((scO D ch (D 6 i) n).getD 0), st)
  | 0, n, _, h => by omega
  | F + 1, n, h1, h2 => by
    obtain ⟨s1, s2, ⟨s3, s4⟩, s5⟩ := hS
    obtain ⟨L1, L2, L3, L4, L5, L6⟩ := hL
    have qb := hq.b
    have qR := sqR hq hT
    have qK := sqK hq
    have a6 : gI st (q + 7) i = nI (D 6 i) := s2 i hi 6 (by omega)
    cases n with
    | zero =>
      show b_X8_tracked_25_b fu (b_X8_tracked_25 fu F) q (nI i) (nI ch) (-nI 1) st = some (nI 0, st)
      simp (disch := first | decide | omega) [↓bd_e, isb, ck_tt, NP, NF, NC, NB, NS, GS, kdC, tpC hT, b_X8_tracked_25_b, qR, qK, a6]
    | succ n =>
      have ih := trk_l hT hq ⟨s1, s2, ⟨s3, s4⟩, s5⟩ ⟨L1, L2, L3, L4, L5, L6⟩ fu hi hc h6 F n (by omega) (by omega)
      obtain ⟨-, -, b10, b11⟩ := s4 n (by omega)
      have hA := L6 n (by omega)
      have bl := bitL hA.2.2.1 hc
      have lc := LC.2.2.2.2.2.2.2
      rw [show nI (n + 1) - nI 1 = nI n from pk_sub (by omega)]
      show b_X8_tracked_25_b fu (b_X8_tracked_25 fu F) q (nI i) (nI ch) (nI n) st = some (nI ((if n < D 6 i then none else if (D 11 n).testBit ch then some (D 10 n) else scO D ch (D 6 i) n).getD 0), st)
      clear s2 s4 s5 L5 L6 hA
      have em : nI n + (-1 : Int32) = nI n - nI 1 := (Int32.sub_eq_add_neg (nI n) (nI 1)).symm
      have lc' : ∀ x : Int64, (lg_cmp x 0 = 0) = (x = 0) := fun x => lc x 0
      unfold b_X8_tracked_25_b
      have ib : ∀ (N x : Nat), x < N → N ≤ 300 → (inb (nI x) N) := fun N x hx hN => by
        simp (disch := first | decide | omega) [NF, NC, NB, inb]
      have ic : ix (nI i) = i := ix_nI (by omega)
      have iN : ix (nI n) = n := ix_nI (by omega)
      rw [qR.2.2.2.2.2.2.1, ck_t (show ¬ q + 7 = 0 by omega), ck_t (show (kd q).1 = 8 by rw [qK.1]), bd_e, ck_t (show (kd (q + 7)).1 = 100 ∧ inb (nI i) (kd (q + 7)).2 by rw [qK.2.2.2.2.2.2.2.1]; exact ⟨rfl, ib _ _ (by omega) (by omega)⟩), ic, a6]
      by_cases c1 : n < D 6 i
      · rw [if_pos ((nI_ltI (by omega) (by omega)).mpr c1), if_pos c1]; rfl
      · rw [if_neg (fun z => c1 ((nI_ltI (by omega) (by omega)).mp z)), if_neg c1, qR.2.2.2.2.2.2.2.2.2.2.2, ck_t (show ¬ q + 12 = 0 by omega), ck_t (show (kd q).1 = 8 by rw [qK.1]), bd_e, ck_t (show (kd (q + 12)).1 = 103 ∧ inb (nI n) (kd (q + 12)).2 by rw [qK.2.2.2.2.2.2.2.2.2.2.2.2]; exact ⟨rfl, ib _ _ (by omega) (by omega)⟩), iN, b11]
        by_cases t : (D 11 n).testBit ch = true
        · rw [if_pos t, if_neg (fun z => by rw [lc', bl] at z; rw [z] at t; cases t), qR.2.2.2.2.2.2.2.2.2.2.1, ck_t (show ¬ q + 11 = 0 by omega), ck_t (show (kd q).1 = 8 by rw [qK.1]), bd_e, ck_t (show (kd (q + 11)).1 = 100 ∧ inb (nI n) (kd (q + 11)).2 by rw [qK.2.2.2.2.2.2.2.2.2.2.2.1]; exact ⟨rfl, ib _ _ (by omega) (by omega)⟩), b10]
          rfl
        · rw [if_neg t, if_pos (by rw [lc', bl]; simpa using t), bd_e, em]
          exact ih
theorem LOK.d6 {c a : Nat} {D : LD} (h : LOK c a D) : ∀ i, i < c → D 6 i ≤ D 7 i ∧ D 7 (i + 1) ≤ a := by
  obtain ⟨L1, L2, L3, L4, L5, L6⟩ := h
  have up : ∀ n i, i + n = c → D 7 i ≤ a := fun n => by
    induction n with
    | zero => intro i hi; rw [show i = c by omega, L4]; exact Nat.le_refl _
    | succ n ih =>
      intro i hi
      have := ih (i + 1) (by omega)
      have := (L5 i (by omega)).2.1
      omega
  have lo : ∀ i, i < c → D 6 i ≤ D 7 i := fun i => by
    induction i with
    | zero =>
      intro hi
      rcases (L5 0 hi).2.2 with q | ⟨q, -⟩
      · omega
      · omega
    | succ i ih =>
      intro hi
      rcases (L5 (i + 1) hi).2.2 with q | ⟨-, q⟩
      · omega
      · have := ih (by omega)
        have := (L5 i (by omega)).2.1
        rw [Nat.add_sub_cancel] at q
        omega
  exact fun i hi => ⟨lo i hi, up (c - (i + 1)) (i + 1) (by omega)⟩
theorem trk_c {st : St} (hT : Top st) {q c a : Nat} {D : LD} (hq : SQ q) (hS : SC q c a D st) (hL : LOK c a D) {fu : Nat} (hf : 400 ≤ fu) {i ch : Nat} (hi : i < c) (hc : ch < 64) : f_X8_tracked fu q (nI i) (nI ch) st = some (nI (trk D i ch), st) := by
  have d := hL.d6 i hi
  have d7 := (hL.2.2.2.2.1 i hi).2.1
  have l := trk_l hT hq hS hL fu hi hc (by have := hL.2.1; omega) fu (D 7 (i + 1)) d.2 (by have := hL.2.1; omega)
  have qb := hq.b
  have qR := sqR hq hT
  have qK := sqK hq
  have c60 := hL.1
  have s1 := hS.1
  have s5 := hS.2.2.2 (i + 1) (by omega)
  clear hS hL
  simp (disch := first | decide | omega) [↓bd_e, isb, ck_tt, NP, NF, NC, NB, NS, GS, kdC, tpC hT, f_X8_tracked, qR, qK, s1, s5]
  exact l
