/-! PURE: lists: what a cue tracks, all at once -/
theorem low_c {j k : Nat} (hj : j < 64) : pcn (2 ^ j * (2 * k + 1)) 64 = pcn (2 ^ (j + 1) * k) 64 + 1 := by
  have hs := sm_u (f := fun i => ((2 ^ (j + 1) * k).testBit i).toNat) (g := fun i => ((2 ^ j * (2 * k + 1)).testBit i).toNat) (i := j) (n := 64) hj (fun i _ hi => by
    simp only [low_t, hi]
    simp)
  simp only [low_t, low_k j k j (Nat.le_refl _)] at hs
  unfold pcn
  simp only [low_t]
  simp at hs ⊢
  omega
theorem sm_0 {f : Nat → Nat} : ∀ {n : Nat}, sm n f = 0 → ∀ i, i < n → f i = 0
  | 0, _, i, hi => by omega
  | n + 1, h, i, hi => by
    have h' : sm n f + f n = 0 := h
    by_cases c : i = n
    · subst c; omega
    · exact sm_0 (n := n) (by omega) i (by omega)
theorem pcn_0 {m : Nat} (h : pcn m 64 = 0) : ∀ i, i < 64 → m.testBit i = false := fun i hi => by
  have := sm_0 h i hi
  cases q : m.testBit i with
  | false => rfl
  | true => rw [q] at this; cases this
theorem ta85 {q n v : Nat} (hq : SQ q) (hn : n < 300) (fu : Nat) (K : Nat → Int32 → Nat → Int64 → Int32 → St → Option St) (I : Int32) (X : Int64) : ∀ (F m : Nat) (st : St), Top st → m < 2 ^ 64 → pcn m 64 < F → gI st (q + 11) n = nI v → ∃ u, b_X8_trackAll_85 fu K F q I 27 X (nI n) (lN m) (nI (pcn m 64)) st = K q I 27 X (nI n - nI 1) u ∧ Fr [(27, none)] st u ∧ Top u ∧ ∀ ch, ch < 64 → gI u 27 ch = if m.testBit ch then nI v else gI st 27 ch
  | 0, m, st, _, _, h, _ => by omega
  | F + 1, m, st, hT, hm, hF, hv => by
    have em : nI n + (-1 : Int32) = nI n - nI 1 := (Int32.sub_eq_add_neg (nI n) (nI 1)).symm
    show ∃ u, b_X8_trackAll_85_b fu K (b_X8_trackAll_85 fu K F) q I 27 X (nI n) (lN m) (nI (pcn m 64)) st = _ ∧ _
    unfold b_X8_trackAll_85_b
    by_cases c0 : pcn m 64 = 0
    · refine ⟨st, ?_, Fr.rf, hT, fun ch hc => by rw [pcn_0 c0 ch hc]; rfl⟩
      rw [c0, if_pos (show nI 0 ≤ 0 from Int32.le_refl _), bd_e, em]
    · have m0 : m ≠ 0 := fun z => c0 (by rw [z]; decide)
      obtain ⟨j, k, e⟩ := low_ex m m0
      subst e
      obtain ⟨hj, tz⟩ := ntz64 hm fu st
      have pb := pcn_b (2 ^ j * (2 * k + 1)) 64
      rw [low_c hj] at hF pb ⊢
      have qb := hq.b
      have qR := sqR hq hT
      have qK := sqK hq
      have j63 : nI j &&& 63 = nI j := by
        have : ∀ j, j < 64 → nI j &&& 63 = nI j := by decide +kernel
        exact this j hj
      have ib : ∀ (N x : Nat), x < N → N ≤ 300 → (inb (nI x) N) := fun N x hx hN => by
        simp (disch := first | decide | omega) [NF, NC, NB, inb]
      have ij : ix (nI j) = j := ix_nI (by omega)
      have iN : ix (nI n) = n := ix_nI (by omega)
      have pm := Nat.mul_pos (Nat.pow_pos (n := j) (show 0 < 2 by omega)) (show 0 < 2 * k + 1 by omega)
      have ea : lN (2 ^ j * (2 * k + 1)) &&& (lN (2 ^ j * (2 * k + 1)) - 1) = lN (2 ^ (j + 1) * k) := by
        rw [show (1 : Int64) = lN 1 from rfl, lN_sub (by omega), lN_and, low_a]
      have e8 : nI (pcn (2 ^ (j + 1) * k) 64 + 1) + (-1 : Int32) = nI (pcn (2 ^ (j + 1) * k) 64) := by
        rw [show nI (pcn (2 ^ (j + 1) * k) 64 + 1) + (-1 : Int32) = nI (pcn (2 ^ (j + 1) * k) 64 + 1) - nI 1 from (Int32.sub_eq_add_neg _ (nI 1)).symm]
        exact pk_sub (by omega)
      have lt : 2 ^ (j + 1) * k < 2 ^ 64 := by
        rw [← low_a]
        exact Nat.lt_of_le_of_lt Nat.and_le_left hm
      have fr1 : Fr [(27, none)] st (sI st 27 j (nI v)) := (Fr.i st 27 j _).wd (by simp [within'])
      obtain ⟨u, g1, g2, g3, g4⟩ := ta85 hq hn fu K I X F (2 ^ (j + 1) * k) (sI st 27 j (nI v)) (hT.r rfl) lt (by omega) (by rw [fr1.fi (q + 11) (by simp <;> omega)]; exact hv)
      refine ⟨u, ?_, fr1.tt g2, g3, fun ch hc => ?_⟩
      · rw [if_neg (fun z => by have := (nI_leI (a := pcn (2 ^ (j + 1) * k) 64 + 1) (b := 0) (by omega) (by omega)).mp z; omega), tz, ca_s, qR.2.2.2.2.2.2.2.2.2.2.1, ck_t (show ¬ q + 11 = 0 by omega), ck_t (show (kd q).1 = 8 by rw [qK.1]), bd_e, ck_t (show (kd (q + 11)).1 = 100 ∧ inb (nI n) (kd (q + 11)).2 by rw [qK.2.2.2.2.2.2.2.2.2.2.2.1]; exact ⟨rfl, ib _ _ (by omega) (by omega)⟩), j63, ck_t (show (kd 27).1 = 100 ∧ inb (nI j) (kd 27).2 from ⟨rfl, ib 64 _ hj (by omega)⟩), ij, iN, hv, bd_e, ea, bd_e, e8, bd_e]
        exact g1
      · rw [g4 ch hc, low_t, gI_sI]
        by_cases d : ch = j
        · subst d
          rw [low_k ch k ch (Nat.le_refl _)]
          simp
        · have : ¬ j = ch := fun z => d z.symm
          simp [d, this]
theorem lN_xor (a b : Nat) : lN a ^^^ lN b = lN (a ^^^ b) := by
  apply Int64.toBitVec_inj.mp
  rw [Int64.toBitVec_xor]
  apply BitVec.eq_of_toNat_eq
  rw [BitVec.toNat_xor, lN_bv, lN_bv, lN_bv, Nat.xor_mod_two_pow]
theorem SC.gl {q c a : Nat} {D : LD} {s u : St} (h : SC q c a D s) (hq : SQ q) (fr : Fr [(27, none)] s u) : SC q c a D u := by
  have qb := hq.b
  exact h.c (fun j hj => ⟨fr.fi (q + j) (by simp <;> omega), fr.fl (q + j) (by simp <;> omega)⟩)
theorem ta41 {q c a : Nat} {D : LD} (hq : SQ q) (hL : LOK c a D) {fu : Nat} (hf : 400 ≤ fu) {i : Nat} (hi : i < c) (h6 : D 6 i ≤ 300) : ∀ (F n M : Nat) (st : St), Top st → SC q c a D st → n ≤ a → n < F → M < 2 ^ 64 → (∀ ch, ch < 64 → M.testBit ch = true → gI st 27 ch = nI 0) → ∃ u, b_X8_trackAll_41 fu F q (nI i) 27 (lN M) (nI n - nI 1) st = some u ∧ Fr [(27, none)] st u ∧ Top u ∧ ∀ ch, ch < 64 → gI u 27 ch = if M.testBit ch then nI ((scO D ch (D 6 i) n).getD 0) else gI st 27 ch
  | 0, n, M, st, _, _, _, h, _, _ => by omega
  | F + 1, n, M, st, hT, hS, h1, h2, hM, hZ => by
    have hS' := hS
    obtain ⟨s1, s2, ⟨s3, s4⟩, s5⟩ := hS
    have hL' := hL
    obtain ⟨L1, L2, L3, L4, L5, L6⟩ := hL
    have qb := hq.b
    have qR := sqR hq hT
    have qK := sqK hq
    have a6 : gI st (q + 7) i = nI (D 6 i) := s2 i hi 6 (by omega)
    have ib : ∀ (N x : Nat), x < N → N ≤ 300 → (inb (nI x) N) := fun N x hx hN => by
      simp (disch := first | decide | omega) [NF, NC, NB, inb]
    have ic : ix (nI i) = i := ix_nI (by omega)
    cases n with
    | zero =>
      refine ⟨st, ?_, Fr.rf, hT, fun ch hc => ?_⟩
      · show b_X8_trackAll_41_b fu (b_X8_trackAll_41 fu F) q (nI i) 27 (lN M) (-nI 1) st = some st
        clear s2 s4 s5 L5 L6 hS' hL' hZ
        simp (disch := first | decide | omega) [↓bd_e, isb, ck_tt, NP, NF, NC, NB, NS, GS, kdC, tpC hT, b_X8_trackAll_41_b, b_X8_trackAll_128, qR, qK, a6]
      · by_cases t : M.testBit ch = true
        · rw [if_pos t]; exact hZ ch hc t
        · rw [if_neg t]
    | succ n =>
      obtain ⟨-, -, b10, b11⟩ := s4 n (by omega)
      have hA := L6 n (by omega)
      have iN : ix (nI n) = n := ix_nI (by omega)
      have lc' : ∀ x : Int64, (lg_cmp x 0 = 0) = (x = 0) := fun x => LC.2.2.2.2.2.2.2 x 0
      rw [show nI (n + 1) - nI 1 = nI n from pk_sub (by omega)]
      show ∃ u, b_X8_trackAll_41_b fu (b_X8_trackAll_41 fu F) q (nI i) 27 (lN M) (nI n) st = some u ∧ _
      unfold b_X8_trackAll_41_b
      rw [qR.2.2.2.2.2.2.1, ck_t (show ¬ q + 7 = 0 by omega), ck_t (show (kd q).1 = 8 by rw [qK.1]), bd_e, ck_t (show (kd (q + 7)).1 = 100 ∧ inb (nI i) (kd (q + 7)).2 by rw [qK.2.2.2.2.2.2.2.1]; exact ⟨rfl, ib _ _ (by omega) (by omega)⟩), ic, a6]
      have sc1 : ∀ ch, scO D ch (D 6 i) (n + 1) = if n < D 6 i then none else if (D 11 n).testBit ch then some (D 10 n) else scO D ch (D 6 i) n := fun ch => rfl
      by_cases c1 : n < D 6 i
      · rw [if_pos ((nI_ltI (by omega) (by omega)).mpr c1)]
        refine ⟨st, rfl, Fr.rf, hT, fun ch hc => ?_⟩
        rw [sc1, if_pos c1]
        by_cases t : M.testBit ch = true
        · rw [if_pos t]; exact hZ ch hc t
        · rw [if_neg t]
      · rw [if_neg (fun z => c1 ((nI_ltI (by omega) (by omega)).mp z))]
        by_cases c2 : lN M = 0
        · have M0 : M = 0 := by
            have := congrArg (fun x : Int64 => x.toBitVec.toNat) c2
            simp only [lN_bv] at this
            rw [Nat.mod_eq_of_lt hM] at this
            exact this
          rw [if_pos (by rw [lc']; exact c2)]
          refine ⟨st, rfl, Fr.rf, hT, fun ch hc => ?_⟩
          rw [M0, Nat.zero_testBit]
          rfl
        · rw [if_neg (by rw [lc']; exact c2), qR.2.2.2.2.2.2.2.2.2.2.2, ck_t (show ¬ q + 12 = 0 by omega), ck_t (show (kd q).1 = 8 by rw [qK.1]), bd_e, ck_t (show (kd (q + 12)).1 = 103 ∧ inb (nI n) (kd (q + 12)).2 by rw [qK.2.2.2.2.2.2.2.2.2.2.2.2]; exact ⟨rfl, ib _ _ (by omega) (by omega)⟩), iN, b11, lN_and, bd_e, show (-1 : Int64) = lN (2 ^ 64 - 1) by decide, lN_xor, lN_and, bd_e]
          have w64 : D 11 n &&& M < 2 ^ 64 := Nat.lt_of_le_of_lt Nat.and_le_right hM
          have M64 : M &&& ((D 11 n &&& M) ^^^ (2 ^ 64 - 1)) < 2 ^ 64 := Nat.lt_of_le_of_lt Nat.and_le_left hM
          rw [bitCount_c w64, ca_s]
          have tw : ∀ ch, (D 11 n &&& M).testBit ch = ((D 11 n).testBit ch && M.testBit ch) := fun ch => Nat.testBit_and _ _ _
          have tM : ∀ ch, ch < 64 → (M &&& ((D 11 n &&& M) ^^^ (2 ^ 64 - 1))).testBit ch = (M.testBit ch && !(D 11 n).testBit ch) := fun ch hc => by
            rw [Nat.testBit_and, Nat.testBit_xor, Nat.testBit_two_pow_sub_one, Nat.testBit_and]
            simp only [hc]
            cases (D 11 n).testBit ch <;> cases M.testBit ch <;> rfl
          generalize D 11 n &&& M = w at *
          generalize M &&& (w ^^^ (2 ^ 64 - 1)) = M' at *
          obtain ⟨u1, g1, g2, g3, g4⟩ := ta85 hq (show n < 300 by omega) fu (b_X8_trackAll_41 fu F) (nI i) (lN M') fu w st hT w64 (by have := pcn_b w 64; omega) b10
          obtain ⟨u2, k1, k2, k3, k4⟩ := ta41 hq hL' hf hi h6 F n M' u1 g3 (hS'.gl hq g2) (by omega) (by omega) M64 (fun ch hc t => by
            rw [tM ch hc] at t
            rw [g4 ch hc, tw]
            have t1 : M.testBit ch = true := by
              cases q : M.testBit ch
              · rw [q] at t; cases t
              · rfl
            have t2 : (D 11 n).testBit ch = false := by
              cases q : (D 11 n).testBit ch
              · rfl
              · rw [q, t1] at t; cases t
            rw [t2]
            exact hZ ch hc t1)
          refine ⟨u2, g1.trans k1, g2.tt k2, k3, fun ch hc => ?_⟩
          rw [k4 ch hc, tM ch hc, g4 ch hc, tw, sc1, if_neg c1]
          cases M.testBit ch <;> cases (D 11 n).testBit ch <;> rfl
theorem trackAll_c {st : St} (hT : Top st) {q c a : Nat} {D : LD} (hq : SQ q) (hS : SC q c a D st) (hL : LOK c a D) {fu : Nat} (hf : 400 ≤ fu) {i : Nat} (hi : i < c) : ∃ u, f_X8_trackAll fu q (nI i) 27 st = some u ∧ Fr [(27, none)] st u ∧ Top u ∧ ∀ ch, ch < 64 → gI u 27 ch = nI (trk D i ch) := by
  have d := hL.d6 i hi
  have a300 := hL.2.1
  have d7 := (hL.2.2.2.2.1 i hi).2.1
  obtain ⟨s1, e1, fr1, r1, z1⟩ := fill_c (o := 27) (N := 64) rfl (by omega) fu (by omega) 0 st
  have hT1 : Top s1 := hT.r r1
  have hS1 := hS.gl hq fr1
  obtain ⟨u, g1, g2, g3, g4⟩ := ta41 hq hL hf hi (by omega) fu (D 7 (i + 1)) (2 ^ 64 - 1) s1 hT1 hS1 d.2 (by omega) (by omega) (fun ch hc _ => by rw [z1]; simp [hc]; rfl)
  refine ⟨u, ?_, fr1.tt g2, g3, fun ch hc => ?_⟩
  · have qb := hq.b
    have qR := sqR hq hT1
    have qK := sqK hq
    have c60 := hL.1
    have v1 := hS1.1
    have v5 := hS1.2.2.2 (i + 1) (by omega)
    clear hS hS1 hL z1 hT
    have hT := hT1
    rw [show lN (2 ^ 64 - 1) = -1 by decide] at g1
    simp (disch := first | decide | omega) [↓bd_e, isb, ck_tt, NP, NF, NC, NB, NS, GS, kdC, tpC hT, f_X8_trackAll, ↓cvO e1, qR, qK, v1, v5]
    exact g1
  · rw [g4 ch hc, Nat.testBit_two_pow_sub_one]
    simp only [hc]
    rfl
