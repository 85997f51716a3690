/-! PURE: out, wire -/
def scl (a b : Nat) : Nat := (2 * (a * b) + 255) / 510
theorem scl_b {a b : Nat} (ha : a ≤ 255) (hb : b ≤ 255) : a * b ≤ 65025 ∧ scl a b ≤ 255 := by
  have := Nat.mul_le_mul ha hb
  unfold scl
  omega
theorem scl_c {a b : Nat} (ha : a ≤ 255) (hb : b ≤ 255) (fu : Nat) (st : St) : f_X1_scaled fu (nI a) (nI b) st = some (nI (scl a b), st) := by
  have := (scl_b ha hb).1
  have e : 2 * a * b = 2 * (a * b) := Nat.mul_assoc _ _ _
  unfold f_X1_scaled scl
  simp (disch := first | decide | omega) [NF, NC, NB, ck_tt, NP, e]
theorem scl_r {a b : Nat} (ha : a ≤ 255) (hb : b ≤ 255) (fu : Nat) (st : St) : f_X12_nearest fu ((nI a).toInt64 * (nI b).toInt64) 255 st = some (lN (scl a b), st) := by
  have := (scl_b ha hb).1
  have h := nearN (st := st) fu (a := a * b) (b := 255) (by omega)
  rw [nI_l (by omega), nI_l (by omega), lN_mul]
  exact h
theorem max2 {st : St} (fu : Nat) {a v : Nat} (ha : a ≤ 100000) (hv : v ≤ 100000) : f_J9_max_7cf53 fu (nI a) (nI v) st = some (nI (if v ≤ a then a else v), st) := by
  by_cases q : v ≤ a
  · rcases Nat.lt_or_ge v a with q2 | q2
    · simp (disch := omega) [f_J9_max_7cf53, b_J9_max_7cf53_10, NF, NC, q]
    · have : a = v := by omega
      subst this
      simp (disch := omega) [f_J9_max_7cf53, b_J9_max_7cf53_10, NF, NC]
  · simp (disch := omega) [f_J9_max_7cf53, b_J9_max_7cf53_10, NF, NC, q]
def mxf (lv ms : Nat → Nat) : Nat → Nat
  | 0 => 0
  | n + 1 => if scl (lv n) (ms n) ≤ mxf lv ms n then mxf lv ms n else scl (lv n) (ms n)
theorem mxf_b {lv ms : Nat → Nat} (h1 : ∀ l, l < 4 → lv l ≤ 255) (h2 : ∀ l, l < 4 → ms l ≤ 255) : ∀ n, n ≤ 4 → mxf lv ms n ≤ 255
  | 0, _ => by simp [mxf]
  | n + 1, h => by
    have := mxf_b h1 h2 n (by omega)
    have := (scl_b (h1 n (by omega)) (h2 n (by omega))).2
    show (if _ then _ else _) ≤ _
    split <;> omega
theorem mix_c {st : St} (hT : Top st) {N ch : Nat} {lv ms : Nat → Nat} (hv : ∀ fu l, l < 4 → f_X3_levelAt fu (43 + 18 * l) (nI ch) (nI N) st = some (nI (lv l), st)) (hm : ∀ l, l < 4 → gI st (43 + 18 * l) 9 = nI (ms l)) (h1 : ∀ l, l < 4 → lv l ≤ 255) (h2 : ∀ l, l < 4 → ms l ≤ 255) (fu : Nat) : ∀ (i l : Nat), l ≤ 4 → 4 < i + l → b_X1_mixed_38 fu i 24 (nI ch) (nI N) (nI (mxf lv ms l)) (nI l) st = some (nI (mxf lv ms 4), st)
  | 0, l, _, _ => by omega
  | i + 1, l, q1, q2 => by
    rcases Nat.lt_or_ge l 4 with q | q
    · have ih := mix_c hT hv hm h1 h2 fu i (l + 1) (by omega) (by omega)
      obtain ⟨r0, -⟩ := plR q hT
      obtain ⟨k0, -⟩ := plK q
      have e1 := hv fu l q
      have e2 := scl_c (h1 l q) (h2 l q) fu st
      have b1 := mxf_b h1 h2 l (by omega)
      have b2 := (scl_b (h1 l q) (h2 l q)).2
      have e3 := max2 (st := st) fu (a := mxf lv ms l) (v := scl (lv l) (ms l)) (by omega) (by omega)
      have e4 := hm l q
      show b_X1_mixed_38_b fu (b_X1_mixed_38 fu i) 24 (nI ch) (nI N) (nI (mxf lv ms l)) (nI l) st = _
      rw [show mxf lv ms (l + 1) = if scl (lv l) (ms l) ≤ mxf lv ms l then mxf lv ms l else scl (lv l) (ms l) from rfl] at ih
      clear hv hm
      simp (disch := first | decide | omega) [↓bd_e, isb, ck_tt, NP, NF, NC, NB, NS, GS, kdC, tpC hT, b_X1_mixed_38_b, ↓caO e1, r0, k0, e4, ↓caO e2, ↓caO e3, ih]
    · have : l = 4 := by omega
      subst this
      show b_X1_mixed_38_b fu (b_X1_mixed_38 fu i) 24 (nI ch) (nI N) (nI (mxf lv ms 4)) (nI 4) st = _
      simp (disch := first | decide | omega) [↓bd_e, isb, ck_tt, NP, NF, NC, NB, NS, GS, kdC, tpC hT, b_X1_mixed_38_b]
theorem mix_r {st : St} (hT : Top st) {ch : Nat} (hc : ch < 64) {lv ms : Nat → Nat} (hv : ∀ l, l < 4 → gI st 190 (65 * l + (ch + 1)) = nI (lv l)) (hm : ∀ l, l < 4 → gI st 189 l = nI (ms l)) (h1 : ∀ l, l < 4 → lv l ≤ 255) (h2 : ∀ l, l < 4 → ms l ≤ 255) (fu : Nat) : ∀ (i l : Nat), l ≤ 4 → 4 < i + l → b_X12_out_51 fu i 153 (nI (ch + 1)) (lN (mxf lv ms l)) (nI l) st = some (nI (mxf lv ms 4), st)
  | 0, l, _, _ => by omega
  | i + 1, l, q1, q2 => by
    rcases Nat.lt_or_ge l 4 with q | q
    · have ih := mix_r hT hc hv hm h1 h2 fu i (l + 1) (by omega) (by omega)
      have e1 := hv l q
      have e2 := scl_r (h1 l q) (h2 l q) fu st
      have b1 := mxf_b h1 h2 l (by omega)
      have b2 := (scl_b (h1 l q) (h2 l q)).2
      have e4 := hm l q
      show b_X12_out_51_b fu (b_X12_out_51 fu i) 153 (nI (ch + 1)) (lN (mxf lv ms l)) (nI l) st = _
      have e5 : mxf lv ms (l + 1) = if scl (lv l) (ms l) ≤ mxf lv ms l then mxf lv ms l else scl (lv l) (ms l) := rfl
      rw [e5] at ih
      clear hv hm e5
      have L1 := LC.2.2.2.2.1
      have L2 := @lle (scl (lv l) (ms l)) (mxf lv ms l) (by omega)
      by_cases c : scl (lv l) (ms l) ≤ mxf lv ms l
      · rw [if_pos c] at ih
        simp (disch := first | decide | omega) [↓bd_e, isb, ck_tt, NP, NF, NC, NB, NS, GS, kdR, tpR hT, b_X12_out_51_b, b_X12_out_100, e1, e4, ↓caO e2, L1, L2, c, ih]
      · rw [if_neg c] at ih
        simp (disch := first | decide | omega) [↓bd_e, isb, ck_tt, NP, NF, NC, NB, NS, GS, kdR, tpR hT, b_X12_out_51_b, b_X12_out_100, e1, e4, ↓caO e2, L1, L2, c, ih]
    · have : l = 4 := by omega
      subst this
      show b_X12_out_51_b fu (b_X12_out_51 fu i) 153 (nI (ch + 1)) (lN (mxf lv ms 4)) (nI 4) st = _
      simp (disch := first | decide | omega) [↓bd_e, isb, ck_tt, NP, NF, NC, NB, NS, GS, kdR, tpR hT, b_X12_out_51_b, lN_i]
