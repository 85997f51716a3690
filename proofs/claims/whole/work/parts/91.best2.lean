/-! PURE: the best seats: the class's loops -/
theorem best_cs {st : St} (hT : Top st) (fu : Nat) {q : HQ} (hq : q.C st) (K1 : Nat → Int32 → Int32 → Int32 → Int32 → Int32 → Int32 → St → Option (Int32 × St)) (K2 : Nat → Int32 → Int32 → Int32 → Int32 → Int32 → Int32 → Int32 → Int32 → St → Option (Int32 × St)) {r k : Nat} (hr : r < 40) (hk : k < q.se r) (x5 x6 : Int32) : b_X4_best_55_b fu K1 K2 115 (nI q.s) (nI q.n) (nI q.M) x5 x6 (nI r) (nI (q.rl r k)) (nI k) st = b_X4_best_118 fu K1 K2 115 (nI q.s) (nI q.n) (nI q.M) x5 x6 (nI r) (nI k) (nI (q.rl r (k + 1))) st := by
  obtain ⟨a1, a2, -⟩ := hq.1 r hr
  have h3 := hq.2.1 r k hr (by omega)
  have hd := hq.2.2.2.1
  have hM := M_le q hd
  have mb := M_bit q hd (x := (r + k) % 4) (by omega)
  have bn := bitN (M := q.M) (x := (r + k) % 4) (by omega)
  rw [mb] at bn
  have a3 := and3 (a := r + k) (by omega)
  have m : r * 30 = 30 * r := Nat.mul_comm _ _
  have hrl := HQ.rl_le q r k
  have es : q.rl r (k + 1) = if q.oks r k then q.rl r k + 1 else 0 := rfl
  rw [es]
  clear hq es mb
  unfold HQ.oks
  cases hf : q.fre r k
  · rw [hf] at h3
    have h4 : ¬ gI st 119 (30 * r + k) = nI 0 := fun e => by simpa using h3.mp e
    simp (disch := first | decide | omega) [isb, ck_tt, NP, NF, NC, NB, NS, GS, kdC, tpC hT, b_X4_best_55_b, b_X4_best_102, b_X4_best_103, a1, m, h4]
  · rw [hf] at h3
    have h4 : gI st 119 (30 * r + k) = nI 0 := h3.mpr rfl
    cases ht : q.tk ((r + k) % 4)
    · rw [ht] at bn
      simp only [Bool.toNat_false] at bn
      simp (disch := first | decide | omega) [isb, ck_tt, NP, NF, NC, NB, NS, GS, kdC, tpC hT, b_X4_best_55_b, b_X4_best_102, b_X4_best_103, a1, m, h4, a3, bn]
    · rw [ht] at bn
      simp only [Bool.toNat_true] at bn
      simp (disch := first | decide | omega) [isb, ck_tt, NP, NF, NC, NB, NS, GS, kdC, tpC hT, b_X4_best_55_b, b_X4_best_102, b_X4_best_103, a1, m, h4, a3, bn]
theorem best_cr {st : St} (hT : Top st) (fu : Nat) {q : HQ} (hq : q.C st) (K : Nat → Int32 → Int32 → Int32 → Int32 → Int32 → Int32 → St → Option (Int32 × St)) {r : Nat} (hr : r < 40) (hs : q.sec r = true) {a : HQ.Acc} (ha : q.okA a) : ∀ (F k : Nat), k ≤ q.se r → q.se r - k < F → b_X4_best_55 fu K F 115 (nI q.s) (nI q.n) (nI q.M) (HQ.eF (q.rowf r a (k + 1 - q.n))) (HQ.eL (q.rowf r a (k + 1 - q.n))) (nI r) (nI (q.rl r k)) (nI k) st = K 115 (nI q.s) (nI q.n) (nI q.M) (HQ.eF (q.rowf r a (q.se r + 1 - q.n))) (HQ.eL (q.rowf r a (q.se r + 1 - q.n))) (nI (r + 1)) st := by
  intro F
  obtain ⟨a1, a2, -⟩ := hq.1 r hr
  have n1 := hq.2.2.2.2.1
  have n2 := hq.2.2.2.2.2.1
  induction F with
  | zero => intro k h1 h2; omega
  | succ F ih =>
    intro k h1 h2
    show b_X4_best_55_b fu K (b_X4_best_55 fu K F) 115 (nI q.s) (nI q.n) (nI q.M) (HQ.eF (q.rowf r a (k + 1 - q.n))) (HQ.eL (q.rowf r a (k + 1 - q.n))) (nI r) (nI (q.rl r k)) (nI k) st = _
    rcases Nat.lt_or_ge k (q.se r) with hk | hk
    · rw [best_cs hT fu hq K (b_X4_best_55 fu K F) hr hk, ← ih (k + 1) (by omega) (by omega)]
      obtain ⟨s1, s2⟩ := rowf_s q r a k n1
      have hrl := HQ.rl_le q r (k + 1)
      clear ih
      rcases Nat.lt_or_ge (q.rl r (k + 1)) q.n with x | x
      · rw [s2 x]
        clear hq s1 s2
        simp (disch := first | decide | omega) [isb, ck_tt, NP, NF, NC, NB, NS, GS, kdC, tpC hT, b_X4_best_118, b_X4_best_170]
      · obtain ⟨t1, t2, t3⟩ := s1 x
        rw [t3]
        obtain ⟨c, hc⟩ : ∃ c, c = k + 1 - q.n := ⟨_, rfl⟩
        have ok := HQ.rowf_ok q ha hr a2 hs (k + 1 - q.n) (by omega)
        rw [← hc] at ok ⊢
        have hcn : k + 1 = c + q.n := by omega
        have bd := bad_c hT fu hq hr (k := c) (l := k) (by omega) hcn
        obtain ⟨b, hb⟩ : ∃ b, b = q.rowf r a c := ⟨_, rfl⟩
        rw [← hb] at ok ⊢
        have e1 : nI k - nI q.n + nI 1 = nI c := by
          rw [zsub (by omega), show nI 1 = zI 1 from rfl, zI_add, nI_z (n := c) (by omega)]
          congr 1
          omega
        have e2 : nI (r * 30 + k) - nI q.n + nI 1 = nI (30 * r + c) := by
          rw [nI_z (n := r * 30 + k) (by omega), nI_z (n := q.n) (by omega), zI_sub, show nI 1 = zI 1 from rfl, zI_add, nI_z (n := 30 * r + c) (by omega)]
          congr 1
          omega
        have hA : q.lnA r c ≤ 1 := by
          unfold HQ.lnA
          by_cases h : (q.isf r ((c : Int) - 1) && !q.isf r ((c : Int) - 2)) = true
          · rw [if_pos h]; omega
          · rw [if_neg h]; omega
        have hB : q.lnB r c ≤ 1 := by
          unfold HQ.lnB
          by_cases h : (q.isf r ((c + q.n : Nat) : Int) && !q.isf r ((c + q.n + 1 : Nat) : Int)) = true
          · rw [if_pos h]; omega
          · rw [if_neg h]; omega
        have hf : q.far r c < 1000 := by unfold HQ.far; omega
        obtain ⟨lo, hlo⟩ : ∃ lo, lo = q.lnA r c + q.lnB r c := ⟨_, rfl⟩
        obtain ⟨fa, hfa⟩ : ∃ fa, fa = q.far r c := ⟨_, rfl⟩
        unfold HQ.bet
        rw [← hlo, ← hfa] at bd ⊢
        rw [← hfa] at hf
        have hlo2 : lo ≤ 2 := by omega
        clear hq s1 s2 t3 hA hB hlo hfa hb
        match b, ok with
        | none, _ =>
          simp (disch := first | decide | omega) [isb, ck_tt, NP, NF, NC, NB, NS, GS, kdC, tpC hT, b_X4_best_118, b_X4_best_170, HQ.eF, HQ.eL, e1, e2, bd]
        | some (r', k', l, f), ok =>
          obtain ⟨-, -, -, -, -, l2, f2⟩ := ok
          by_cases hx : lo < l ∨ (lo = l ∧ fa < f)
          · have hy : 1000 * lo + fa < 1000 * l + f := by omega
            simp only [if_pos hx]
            simp (disch := first | decide | omega) [isb, ck_tt, NP, NF, NC, NB, NS, GS, kdC, tpC hT, b_X4_best_118, b_X4_best_170, HQ.eF, HQ.eL, e1, e2, bd]
          · have hy : 1000 * l + f ≤ 1000 * lo + fa := by omega
            simp only [if_neg hx]
            simp (disch := first | decide | omega) [isb, ck_tt, NP, NF, NC, NB, NS, GS, kdC, tpC hT, b_X4_best_118, b_X4_best_170, HQ.eF, HQ.eL, e1, e2, bd]
    · have e : k = q.se r := by omega
      subst e
      clear ih hq
      simp (disch := first | decide | omega) [isb, ck_tt, NP, NF, NC, NB, NS, GS, kdC, tpC hT, b_X4_best_55_b, b_X4_best_176, a1]
theorem best_cl {st : St} (hT : Top st) {fu : Nat} (hf : 100 ≤ fu) {q : HQ} (hq : q.C st) : ∀ (F r : Nat), r ≤ 40 → 40 - r < F → b_X4_best_17 fu F 115 (nI q.s) (nI q.n) (nI q.M) (HQ.eF (q.allf r)) (HQ.eL (q.allf r)) (nI r) st = some (HQ.eF (q.allf 40), st) := by
  intro F
  have n1 := hq.2.2.2.2.1
  have n2 := hq.2.2.2.2.2.1
  have s7 := hq.2.2.2.2.2.2
  induction F with
  | zero => intro k h1 h2; omega
  | succ F ih =>
    intro r h1 h2
    show b_X4_best_17_b fu (b_X4_best_17 fu F) 115 (nI q.s) (nI q.n) (nI q.M) (HQ.eF (q.allf r)) (HQ.eL (q.allf r)) (nI r) st = _
    rcases Nat.lt_or_ge r 40 with hr | hr
    · obtain ⟨a1, a2, a3⟩ := hq.1 r hr
      have ok := HQ.allf_ok q (fun r hr => (hq.1 r hr).2.1) r (by omega)
      rw [← ih (r + 1) (by omega) (by omega)]
      clear ih
      have es : q.allf (r + 1) = if q.n ≤ q.se r ∧ q.sec r = true then q.rowf r (q.allf r) (q.se r + 1 - q.n) else q.allf r := rfl
      rw [es]
      by_cases h : q.n ≤ q.se r ∧ q.sec r = true
      · rw [if_pos h]
        have b := best_cr hT fu hq (b_X4_best_17 fu F) hr h.2 ok fu 0 (by omega) (by omega)
        rw [show 0 + 1 - q.n = 0 by omega] at b
        have b' : b_X4_best_55 fu (b_X4_best_17 fu F) fu 115 (nI q.s) (nI q.n) (nI q.M) (HQ.eF (q.allf r)) (HQ.eL (q.allf r)) (nI r) (nI 0) (nI 0) st = _ := b
        have a4 := (a3 (by omega)).mpr h.2
        have h5 := h.1
        clear hq a3 h b
        simp (disch := first | decide | omega) [isb, ck_tt, NP, NF, NC, NB, NS, GS, kdC, tpC hT, b_X4_best_17_b, a1, a4, b']
      · rw [if_neg h]
        rcases Nat.lt_or_ge (q.se r) q.n with x | x
        · clear hq a3 h
          simp (disch := first | decide | omega) [isb, ck_tt, NP, NF, NC, NB, NS, GS, kdC, tpC hT, b_X4_best_17_b, b_X4_best_176, a1]
        · have a4 : ¬ gI st 117 r = nI q.s := fun e => h ⟨x, (a3 (by omega)).mp e⟩
          clear hq a3 h
          simp (disch := first | decide | omega) [isb, ck_tt, NP, NF, NC, NB, NS, GS, kdC, tpC hT, b_X4_best_17_b, b_X4_best_176, a1, a4]
    · have e : r = 40 := by omega
      subst e
      clear hq ih
      simp (disch := first | decide | omega) [isb, ck_tt, NP, NF, NC, NB, NS, GS, kdC, tpC hT, b_X4_best_17_b]
theorem best_c {st : St} (hT : Top st) {fu : Nat} (hf : 100 ≤ fu) {q : HQ} (hq : q.C st) : f_X4_best fu 115 (nI q.d) (nI q.s) (nI q.n) st = some (HQ.eF (q.allf 40), st) := by
  have l := best_cl hT hf hq fu 0 (by omega) (by omega)
  have o := own_c hT (fu := fu) (by omega) hq
  have l' : b_X4_best_17 fu fu 115 (nI q.s) (nI q.n) (nI q.M) (-nI 1) (nI 2147483647) (nI 0) st = some (HQ.eF (q.allf 40), st) := l
  clear hq l
  simp (disch := first | decide | omega) [isb, ck_tt, NP, NF, NC, NB, NS, GS, kdC, tpC hT, f_X4_best, o, l']
