/-! PURE: the best seats: one fold for class and reference -/
abbrev HQ : Type := (Nat → Nat) × (Nat → Nat → Bool) × (Nat → Bool) × (Nat → Bool) × Nat × Nat × Nat
def HQ.se (q : HQ) : Nat → Nat := q.1
def HQ.fre (q : HQ) : Nat → Nat → Bool := q.2.1
def HQ.sec (q : HQ) : Nat → Bool := q.2.2.1
def HQ.up (q : HQ) : Nat → Bool := q.2.2.2.1
def HQ.d (q : HQ) : Nat := q.2.2.2.2.1
def HQ.s (q : HQ) : Nat := q.2.2.2.2.2.1
def HQ.n (q : HQ) : Nat := q.2.2.2.2.2.2
def HQ.isf (q : HQ) (r : Nat) (z : Int) : Bool := decide (0 ≤ z) && (decide (z < q.se r) && q.fre r z.toNat)
def HQ.tk (q : HQ) (o : Nat) : Bool := decide (o = q.d) || (q.up q.d && q.up o)
def HQ.oks (q : HQ) (r i : Nat) : Bool := q.fre r i && q.tk ((r + i) % 4)
def HQ.lnA (q : HQ) (r k : Nat) : Nat := if q.isf r ((k : Int) - 1) && !q.isf r ((k : Int) - 2) then 1 else 0
def HQ.lnB (q : HQ) (r k : Nat) : Nat := if q.isf r ((k + q.n : Nat) : Int) && !q.isf r ((k + q.n + 1 : Nat) : Int) then 1 else 0
def HQ.far (q : HQ) (r k : Nat) : Nat := 3 * r + ((2 * k + q.n - 1 - (q.se r - 1)) + ((q.se r - 1) - (2 * k + q.n - 1)))
abbrev HQ.Acc : Type := Option (Nat × Nat × Nat × Nat)
def HQ.bet (q : HQ) (a : HQ.Acc) (r k : Nat) : HQ.Acc := match a with
  | none => some (r, k, q.lnA r k + q.lnB r k, q.far r k)
  | some (r', k', l, f) => if q.lnA r k + q.lnB r k < l ∨ (q.lnA r k + q.lnB r k = l ∧ q.far r k < f) then some (r, k, q.lnA r k + q.lnB r k, q.far r k) else some (r', k', l, f)
def HQ.okn (q : HQ) (r k : Nat) : Nat → Bool
  | 0 => true
  | m + 1 => HQ.okn q r k m && q.oks r (k + m)
theorem HQ.okn_iff (q : HQ) (r k : Nat) : ∀ m, q.okn r k m = true ↔ ∀ i, k ≤ i → i < k + m → q.oks r i = true
  | 0 => ⟨fun _ i h1 h2 => by omega, fun _ => rfl⟩
  | m + 1 => by
    show (q.okn r k m && q.oks r (k + m)) = true ↔ _
    rw [Bool.and_eq_true, HQ.okn_iff q r k m]
    refine ⟨fun h i h1 h2 => ?_, fun h => ⟨fun i h1 h2 => h i h1 (by omega), h (k + m) (by omega) (by omega)⟩⟩
    rcases Nat.lt_or_ge i (k + m) with x | x
    · exact h.1 i h1 x
    · rw [show i = k + m by omega]; exact h.2
def HQ.cand (q : HQ) (a : HQ.Acc) (r k : Nat) : HQ.Acc := if q.okn r k q.n then q.bet a r k else a
theorem HQ.cand_t (q : HQ) {a : HQ.Acc} {r k : Nat} (h : ∀ i, k ≤ i → i < k + q.n → q.oks r i = true) : q.cand a r k = q.bet a r k := if_pos ((HQ.okn_iff q r k q.n).mpr h)
theorem HQ.cand_f (q : HQ) {a : HQ.Acc} {r k : Nat} (h : ¬ ∀ i, k ≤ i → i < k + q.n → q.oks r i = true) : q.cand a r k = a := if_neg (fun e => h ((HQ.okn_iff q r k q.n).mp e))
def HQ.rowf (q : HQ) (r : Nat) (a : HQ.Acc) : Nat → HQ.Acc
  | 0 => a
  | m + 1 => q.cand (q.rowf r a m) r m
def HQ.allf (q : HQ) : Nat → HQ.Acc
  | 0 => none
  | r + 1 => if q.n ≤ q.se r ∧ q.sec r = true then q.rowf r (q.allf r) (q.se r + 1 - q.n) else q.allf r
def HQ.eF : HQ.Acc → Int32
  | none => -nI 1
  | some (r, k, _, _) => nI (30 * r + k)
def HQ.eL : HQ.Acc → Int32
  | none => nI 2147483647
  | some (_, _, l, f) => nI (1000 * l + f)
def HQ.eR : HQ.Acc → Int32
  | none => -nI 1
  | some (r, _, _, _) => nI r
def HQ.eS : HQ.Acc → Int32
  | none => -nI 1
  | some (_, k, _, _) => nI k
def HQ.e1 : HQ.Acc → Int32
  | none => nI 0
  | some (_, _, l, _) => nI l
def HQ.e2 : HQ.Acc → Int32
  | none => nI 0
  | some (_, _, _, f) => nI f
def HQ.okA (q : HQ) : HQ.Acc → Prop
  | none => True
  | some (r, k, l, f) => r < 40 ∧ k + q.n ≤ q.se r ∧ q.n ≤ q.se r ∧ q.sec r = true ∧ (∀ i, k ≤ i → i < k + q.n → q.oks r i = true) ∧ l ≤ 2 ∧ f < 1000
def HQ.rl (q : HQ) (r : Nat) : Nat → Nat
  | 0 => 0
  | k + 1 => if q.oks r k then q.rl r k + 1 else 0
theorem HQ.rl_le (q : HQ) (r : Nat) : ∀ k, q.rl r k ≤ k
  | 0 => Nat.le_refl _
  | k + 1 => by
    show (if q.oks r k then q.rl r k + 1 else 0) ≤ k + 1
    have := HQ.rl_le q r k
    by_cases h : q.oks r k = true
    · rw [if_pos h]; omega
    · rw [if_neg h]; omega
theorem HQ.rl_iff (q : HQ) (r : Nat) : ∀ k m, m ≤ q.rl r k ↔ (m ≤ k ∧ ∀ i, k - m ≤ i → i < k → q.oks r i = true)
  | 0, m => by
    show m ≤ 0 ↔ _
    exact ⟨fun h => ⟨h, fun i _ h2 => by omega⟩, fun h => h.1⟩
  | k + 1, 0 => ⟨fun _ => ⟨Nat.zero_le _, fun i h1 h2 => by omega⟩, fun _ => Nat.zero_le _⟩
  | k + 1, m + 1 => by
    show m + 1 ≤ (if q.oks r k then q.rl r k + 1 else 0) ↔ _
    by_cases h : q.oks r k = true
    · rw [if_pos h]
      have := HQ.rl_iff q r k m
      constructor
      · intro h1
        obtain ⟨a, b⟩ := this.mp (by omega)
        refine ⟨by omega, fun i i1 i2 => ?_⟩
        rcases Nat.lt_or_ge i k with x | x
        · exact b i (by omega) x
        · have : i = k := by omega
          rw [this]; exact h
      · rintro ⟨h1, h2⟩
        have := this.mpr ⟨by omega, fun i i1 i2 => h2 i (by omega) (by omega)⟩
        omega
    · rw [if_neg h]
      constructor
      · intro h1; omega
      · rintro ⟨h1, h2⟩
        exact absurd (h2 k (by omega) (by omega)) h
theorem HQ.bet_ok (q : HQ) {a : HQ.Acc} {r k : Nat} (ha : q.okA a) (hr : r < 40) (hk : k + q.n ≤ q.se r) (hs : q.se r ≤ 30) (h1 : q.sec r = true) (hc : ∀ i, k ≤ i → i < k + q.n → q.oks r i = true) : q.okA (q.bet a r k) := by
  have hA : q.lnA r k ≤ 1 := by
    unfold HQ.lnA
    by_cases h : (q.isf r ((k : Int) - 1) && !q.isf r ((k : Int) - 2)) = true
    · rw [if_pos h]; omega
    · rw [if_neg h]; omega
  have hB : q.lnB r k ≤ 1 := by
    unfold HQ.lnB
    by_cases h : (q.isf r ((k + q.n : Nat) : Int) && !q.isf r ((k + q.n + 1 : Nat) : Int)) = true
    · rw [if_pos h]; omega
    · rw [if_neg h]; omega
  have hf : q.far r k < 1000 := by unfold HQ.far; omega
  have new : q.okA (some (r, k, q.lnA r k + q.lnB r k, q.far r k)) := ⟨hr, hk, by omega, h1, hc, by omega, hf⟩
  match a, ha with
  | none, _ => exact new
  | some (r', k', l, f), ha =>
    show q.okA (if q.lnA r k + q.lnB r k < l ∨ (q.lnA r k + q.lnB r k = l ∧ q.far r k < f) then some (r, k, q.lnA r k + q.lnB r k, q.far r k) else some (r', k', l, f))
    by_cases h : q.lnA r k + q.lnB r k < l ∨ (q.lnA r k + q.lnB r k = l ∧ q.far r k < f)
    · rw [if_pos h]; exact new
    · rw [if_neg h]; exact ha
theorem HQ.rowf_ok (q : HQ) {r : Nat} {a : HQ.Acc} (ha : q.okA a) (hr : r < 40) (hs : q.se r ≤ 30) (h1 : q.sec r = true) : ∀ m, m + q.n ≤ q.se r + 1 → q.okA (q.rowf r a m)
  | 0, _ => ha
  | m + 1, hm => by
    show q.okA (q.cand (q.rowf r a m) r m)
    have ih := HQ.rowf_ok q ha hr hs h1 m (by omega)
    by_cases hc : ∀ i, m ≤ i → i < m + q.n → q.oks r i = true
    · rw [HQ.cand_t q hc]; exact HQ.bet_ok q ih hr (by omega) hs h1 hc
    · rw [HQ.cand_f q hc]; exact ih
theorem HQ.allf_ok (q : HQ) (hs : ∀ r, r < 40 → q.se r ≤ 30) : ∀ r, r ≤ 40 → q.okA (q.allf r)
  | 0, _ => trivial
  | r + 1, hr => by
    have ih := HQ.allf_ok q hs r (by omega)
    show q.okA (if q.n ≤ q.se r ∧ q.sec r = true then q.rowf r (q.allf r) (q.se r + 1 - q.n) else q.allf r)
    by_cases h : q.n ≤ q.se r ∧ q.sec r = true
    · rw [if_pos h]; exact HQ.rowf_ok q ih (by omega) (hs r (by omega)) h.2 _ (by omega)
    · rw [if_neg h]; exact ih
theorem sneg1 {a b : Nat} (h : a < b ∧ b < 1073741824) : (nI 0 ≤ nI a - nI b) = False := eq_false (fun q => by
  have := pk_sneg (a := a) (b := b) (by omega) h.1
  rw [i32_lt] at this
  rw [i32_le] at q
  have e : (nI 0).toInt = (0 : Int32).toInt := rfl
  omega)
theorem sneg2 {a b : Nat} (h : a < b ∧ b < 1073741824) : -(nI a - nI b) = nI (b - a) := by
  rw [nI_z (by omega), nI_z (by omega), nI_z (by omega), zI_sub, zI_neg]
  congr 1
  omega
theorem and3 {a : Nat} (h : a < 2147483648) : nI a &&& nI 3 = nI (a % 4) := pk_andN (n := a) (m := nI 3) (by omega) 2 (by decide +kernel)
/-- the class's own hall -/
def HQ.C (q : HQ) (st : St) : Prop := (∀ r, r < 40 → gI st 118 r = nI (q.se r) ∧ q.se r ≤ 30 ∧ (0 < q.se r → (gI st 117 r = nI q.s ↔ q.sec r = true))) ∧ (∀ r k, r < 40 → k < 30 → (gI st 119 (30 * r + k) = nI 0 ↔ q.fre r k = true)) ∧ (∀ d, d < 4 → gI st 120 d = nI (if q.up d then 0 else 1)) ∧ q.d < 4 ∧ 1 ≤ q.n ∧ q.n ≤ 10 ∧ q.s ≤ 7
def HQ.R (q : HQ) (st : St) : Prop := (∀ r, r < 40 → gI st 216 r = nI (q.se r) ∧ q.se r ≤ 30 ∧ (0 < q.se r → (gI st 215 r = nI q.s ↔ q.sec r = true))) ∧ (∀ r k, r < 40 → k < 30 → (gI st 217 (30 * r + k) = nI 0 ↔ q.fre r k = true)) ∧ (∀ d, d < 4 → gI st 218 d = nI (if q.up d then 1 else 0)) ∧ q.d < 4 ∧ 1 ≤ q.n ∧ q.n ≤ 10 ∧ q.s ≤ 7
theorem isFree_c {st : St} (hT : Top st) (fu : Nat) {q : HQ} (hq : q.C st) {r : Nat} (hr : r < 40) {z : Int} (hz : -3 < z ∧ z < 60) : f_X4_isFree fu 115 (nI r) (zI z) st = some (nI (q.isf r z).toNat, st) := by
  obtain ⟨h1, h2, -⟩ := hq
  obtain ⟨a1, a2, -⟩ := h1 r hr
  unfold HQ.isf
  by_cases z0 : 0 ≤ z
  · obtain ⟨k, rfl⟩ : ∃ k : Nat, z = k := ⟨z.toNat, by omega⟩
    rw [← nI_z (by omega)]
    have h2' := h2 r k hr
    clear h1 h2
    by_cases hk : k < q.se r
    · have h3 := h2' (by omega)
      have hk' : decide ((k : Int) < q.se r) = true := decide_eq_true (by omega)
      have m : r * 30 = 30 * r := Nat.mul_comm _ _
      cases hf : q.fre r k
      · rw [hf] at h3
        have h4 : ¬ gI st 119 (30 * r + k) = nI 0 := fun e => by simpa using h3.mp e
        simp (disch := first | decide | omega) [isb, ck_tt, NP, NF, NC, NB, NS, GS, kdC, tpC hT, f_X4_isFree, b_X4_isFree_32, b_X4_isFree_33, a1, m, h4, z0, hk', hf]
      · rw [hf] at h3
        have h4 : gI st 119 (30 * r + k) = nI 0 := h3.mpr rfl
        simp (disch := first | decide | omega) [isb, ck_tt, NP, NF, NC, NB, NS, GS, kdC, tpC hT, f_X4_isFree, b_X4_isFree_32, b_X4_isFree_33, a1, m, h4, z0, hk', hf]
    · have hk' : decide ((k : Int) < q.se r) = false := decide_eq_false (by omega)
      simp (disch := first | decide | omega) [isb, ck_tt, NP, NF, NC, NB, NS, GS, kdC, tpC hT, f_X4_isFree, b_X4_isFree_32, b_X4_isFree_33, a1, hk']
  · have z1 : zI z < nI 0 := by
      rw [show nI 0 = zI 0 from rfl, zI_lt (by omega)]
      omega
    have z2 : decide (0 ≤ z) = false := decide_eq_false z0
    simp (disch := first | decide | omega) [isb, ck_tt, NP, NF, NC, NB, NS, GS, kdC, tpC hT, f_X4_isFree, b_X4_isFree_32, b_X4_isFree_33, z1, z2]
theorem isFree_r {st : St} (hT : Top st) (fu : Nat) {q : HQ} (hq : q.R st) {r : Nat} (hr : r < 40) {z : Int} (hz : -3 < z ∧ z < 60) : f_X12_isFree fu 153 (nI r) (zI z) st = some (nI (q.isf r z).toNat, st) := by
  obtain ⟨h1, h2, -⟩ := hq
  obtain ⟨a1, a2, -⟩ := h1 r hr
  unfold HQ.isf
  by_cases z0 : 0 ≤ z
  · obtain ⟨k, rfl⟩ : ∃ k : Nat, z = k := ⟨z.toNat, by omega⟩
    rw [← nI_z (by omega)]
    have h2' := h2 r k hr
    clear h1 h2
    by_cases hk : k < q.se r
    · have h3 := h2' (by omega)
      have hk' : decide ((k : Int) < q.se r) = true := decide_eq_true (by omega)
      cases hf : q.fre r k
      · rw [hf] at h3
        have h4 : ¬ gI st 217 (30 * r + k) = nI 0 := fun e => by simpa using h3.mp e
        simp (disch := first | decide | omega) [isb, ck_tt, NP, NF, NC, NB, NS, GS, kdR, tpR hT, f_X12_isFree, b_X12_isFree_32, b_X12_isFree_33, a1, h4, z0, hk', hf]
      · rw [hf] at h3
        have h4 : gI st 217 (30 * r + k) = nI 0 := h3.mpr rfl
        simp (disch := first | decide | omega) [isb, ck_tt, NP, NF, NC, NB, NS, GS, kdR, tpR hT, f_X12_isFree, b_X12_isFree_32, b_X12_isFree_33, a1, h4, z0, hk', hf]
    · have hk' : decide ((k : Int) < q.se r) = false := decide_eq_false (by omega)
      simp (disch := first | decide | omega) [isb, ck_tt, NP, NF, NC, NB, NS, GS, kdR, tpR hT, f_X12_isFree, b_X12_isFree_32, b_X12_isFree_33, a1, hk']
  · have z1 : zI z < nI 0 := by
      rw [show nI 0 = zI 0 from rfl, zI_lt (by omega)]
      omega
    have z2 : decide (0 ≤ z) = false := decide_eq_false z0
    simp (disch := first | decide | omega) [isb, ck_tt, NP, NF, NC, NB, NS, GS, kdR, tpR hT, f_X12_isFree, b_X12_isFree_32, b_X12_isFree_33, z1, z2]
theorem zsub {k m : Nat} (h : k < 1000 ∧ m < 1000) : nI k - nI m = zI ((k : Int) - m) := by rw [nI_z (by omega), nI_z (by omega), zI_sub]
theorem bT {b : Bool} (h : b = true) : nI b.toNat = nI 1 := by rw [h]; rfl
theorem bF {b : Bool} (h : b = false) : nI b.toNat = nI 0 := by rw [h]; rfl
theorem abs_c {st : St} (fu : Nat) {a b : Nat} (h : a < 1000 ∧ b < 1000) : f_J9_abs_0f7a4 fu (nI a - nI b) st = some (nI ((a - b) + (b - a)), st) := by
  rcases Nat.lt_or_ge a b with q | q
  · have s1 := sneg1 (a := a) (b := b) (by omega)
    have s2 := sneg2 (a := a) (b := b) (by omega)
    have e : a - b = 0 := by omega
    simp (disch := omega) [f_J9_abs_0f7a4, b_J9_abs_0f7a4_10, NF, NC, s1, s2, e]
  · have e : b - a = 0 := by omega
    simp (disch := omega) [f_J9_abs_0f7a4, b_J9_abs_0f7a4_10, NF, NC, e]
theorem bad_c {st : St} (hT : Top st) (fu : Nat) {q : HQ} (hq : q.C st) {r k l : Nat} (hr : r < 40) (hk : k + q.n ≤ q.se r) (hl : l + 1 = k + q.n) : f_X4_badness fu 115 (nI r) (nI k) (nI l) st = some (nI (1000 * (q.lnA r k + q.lnB r k) + q.far r k), st) := by
  obtain ⟨a1, a2, -⟩ := hq.1 r hr
  have hq0 := hq
  obtain ⟨-, -, -, -, n1, n2, -⟩ := hq
  have f1 : f_X4_isFree fu 115 (nI r) (nI k - nI 1) st = some (nI (q.isf r ((k : Int) - 1)).toNat, st) := by rw [zsub (by omega)]; exact isFree_c hT fu hq0 hr (by omega)
  have f2 : f_X4_isFree fu 115 (nI r) (nI k - nI 2) st = some (nI (q.isf r ((k : Int) - 2)).toNat, st) := by rw [zsub (by omega)]; exact isFree_c hT fu hq0 hr (by omega)
  have f3 : f_X4_isFree fu 115 (nI r) (nI (l + 1)) st = some (nI (q.isf r ((k + q.n : Nat) : Int)).toNat, st) := by rw [hl, nI_z (n := k + q.n) (by omega)]; exact isFree_c hT fu hq0 hr (by omega)
  have f4 : f_X4_isFree fu 115 (nI r) (nI (l + 2)) st = some (nI (q.isf r ((k + q.n + 1 : Nat) : Int)).toNat, st) := by rw [show l + 2 = k + q.n + 1 by omega, nI_z (n := k + q.n + 1) (by omega)]; exact isFree_c hT fu hq0 hr (by omega)
  have ab := abs_c (st := st) fu (a := k + l) (b := q.se r - 1) (by omega)
  clear hq0
  have e53 : ∀ x : Nat, x ≤ 2 → b_X4_badness_53 fu 115 (nI r) (nI k) (nI l) (nI x) st = some (nI (1000 * x + q.far r k), st) := fun x hx => by
    clear f1 f2 f3 f4
    have e : 1000 * x + 3 * r + (k + l - (q.se r - 1) + (q.se r - 1 - (k + l))) = 1000 * x + q.far r k := by unfold HQ.far; omega
    rw [← e]
    simp (disch := first | decide | omega) [isb, ck_tt, NP, NF, NC, NB, NS, GS, kdC, tpC hT, b_X4_badness_53, a1, ab]
  clear ab a1
  unfold HQ.lnA HQ.lnB
  cases h1 : q.isf r ((k : Int) - 1) <;> cases h2 : q.isf r ((k : Int) - 2) <;> cases h3 : q.isf r ((k + q.n : Nat) : Int) <;> cases h4 : q.isf r ((k + q.n + 1 : Nat) : Int) <;> rw [h1] at f1 <;> rw [h2] at f2 <;> rw [h3] at f3 <;> rw [h4] at f4 <;> simp only [Bool.toNat_true, Bool.toNat_false] at f1 f2 f3 f4 <;> simp (disch := first | decide | omega) [isb, ck_tt, NP, NF, NC, NB, NS, GS, kdC, tpC hT, f_X4_badness, b_X4_badness_28, f1, f2, f3, f4, e53]
def HQ.M (q : HQ) : Nat := if q.up q.d then (q.up 0).toNat + 2 * (q.up 1).toNat + 4 * (q.up 2).toNat + 8 * (q.up 3).toNat else 2 ^ q.d
theorem M_le (q : HQ) (hd : q.d < 4) : q.M ≤ 15 := by
  unfold HQ.M
  have b : ∀ x : Bool, x.toNat ≤ 1 := fun x => by cases x <;> decide
  have b0 := b (q.up 0)
  have b1 := b (q.up 1)
  have b2 := b (q.up 2)
  have b3 := b (q.up 3)
  have : q.d = 0 ∨ q.d = 1 ∨ q.d = 2 ∨ q.d = 3 := by omega
  by_cases h : q.up q.d = true
  · rw [if_pos h]; omega
  · rw [if_neg h]
    rcases this with h | h | h | h <;> rw [h] <;> decide
theorem M_bit (q : HQ) (hd : q.d < 4) {x : Nat} (hx : x < 4) : q.M / 2 ^ x % 2 = (q.tk x).toNat := by
  have h1 : q.d = 0 ∨ q.d = 1 ∨ q.d = 2 ∨ q.d = 3 := by omega
  have h2 : x = 0 ∨ x = 1 ∨ x = 2 ∨ x = 3 := by omega
  unfold HQ.M HQ.tk
  rcases h1 with h | h | h | h <;> rcases h2 with rfl | rfl | rfl | rfl <;> rw [h] <;> cases q.up 0 <;> cases q.up 1 <;> cases q.up 2 <;> cases q.up 3 <;> rfl
def ob (u : Bool) (x : Int32) (d : Nat) : Int32 := if u then x ||| (nI 1 <<< (nI d &&& nI 31)) else x
theorem own_v : ∀ u0 u1 u2 u3 : Bool, ob u3 (ob u2 (ob u1 (ob u0 (nI 0) 0) 1) 2) 3 = nI (u0.toNat + 2 * u1.toNat + 4 * u2.toNat + 8 * u3.toNat) := by decide +kernel
theorem own_c {st : St} (hT : Top st) {fu : Nat} (hf : 10 ≤ fu) {q : HQ} (hq : q.C st) : f_X4_ownersFor fu 115 (nI q.d) st = some (nI q.M, st) := by
  obtain ⟨-, -, h3, hd, -⟩ := hq
  have gd := h3 q.d hd
  unfold HQ.M
  cases ud : q.up q.d
  · rw [ud] at gd
    simp at gd
    have h1 : q.d = 0 ∨ q.d = 1 ∨ q.d = 2 ∨ q.d = 3 := by omega
    rcases h1 with h | h | h | h <;> rw [h] at gd ⊢ <;> simp (disch := first | decide | omega) [isb, ck_tt, NP, NF, NC, NB, NS, GS, kdC, tpC hT, f_X4_ownersFor, gd] <;> decide +kernel
  · rw [ud] at gd
    simp at gd
    have stp : ∀ (F d : Nat) (x : Int32), d < 4 → b_X4_ownersFor_17 fu (F + 1) 115 x (nI d) st = b_X4_ownersFor_17 fu F 115 (ob (q.up d) x d) (nI (d + 1)) st := fun F d x hd => by
      have g := h3 d hd
      show b_X4_ownersFor_17_b fu (b_X4_ownersFor_17 fu F) 115 x (nI d) st = _
      unfold ob
      clear h3
      cases u : q.up d
      · rw [u] at g
        simp at g
        simp (disch := first | decide | omega) [isb, ck_tt, NP, NF, NC, NB, NS, GS, kdC, tpC hT, b_X4_ownersFor_17_b, b_X4_ownersFor_37, g]
      · rw [u] at g
        simp at g
        simp (disch := first | decide | omega) [isb, ck_tt, NP, NF, NC, NB, NS, GS, kdC, tpC hT, b_X4_ownersFor_17_b, b_X4_ownersFor_37, g]
    have e : f_X4_ownersFor fu 115 (nI q.d) st = b_X4_ownersFor_17 fu fu 115 (nI 0) (nI 0) st := by
      clear stp h3
      simp (disch := first | decide | omega) [isb, ck_tt, NP, NF, NC, NB, NS, GS, kdC, tpC hT, f_X4_ownersFor, gd]
    obtain ⟨F, hF⟩ : ∃ F, fu = F + 1 + 1 + 1 + 1 + 1 := ⟨fu - 5, by omega⟩
    have l4 : ∀ x, b_X4_ownersFor_17 fu (F + 1) 115 x (nI 4) st = some (x, st) := fun x => by
      show b_X4_ownersFor_17_b fu (b_X4_ownersFor_17 fu F) 115 x (nI 4) st = _
      clear stp h3
      simp (disch := first | decide | omega) [isb, ck_tt, NP, NF, NC, NB, NS, GS, kdC, tpC hT, b_X4_ownersFor_17_b]
    rw [e]
    have e2 : b_X4_ownersFor_17 fu fu 115 (nI 0) (nI 0) st = b_X4_ownersFor_17 fu (F + 1 + 1 + 1 + 1 + 1) 115 (nI 0) (nI 0) st := by rw [← hF]
    rw [e2, stp _ 0 _ (by omega), stp _ 1 _ (by omega), stp _ 2 _ (by omega), stp _ 3 _ (by omega), l4]
    rw [own_v, if_pos rfl]
theorem take_r {st : St} (hT : Top st) (fu : Nat) {q : HQ} (hq : q.R st) {r i : Nat} (hr : r < 40) (hi : i < 60) : f_X12_mayTake fu 153 (nI q.d) (nI r) (nI i) st = some (nI (q.tk ((r + i) % 4)).toNat, st) := by
  obtain ⟨-, -, h3, hd, -⟩ := hq
  have gd := h3 q.d hd
  have go := h3 ((r + i) % 4) (by omega)
  clear h3
  obtain ⟨o, ho⟩ : ∃ o, o = (r + i) % 4 := ⟨_, rfl⟩
  have e : r + i - (r + i) / 4 * 4 = o := by omega
  have o4 : o < 4 := by omega
  rw [← ho] at go ⊢
  clear ho
  unfold HQ.tk
  by_cases h : o = q.d
  · have hd' : decide (o = q.d) = true := decide_eq_true h
    rw [hd']
    subst h
    simp (disch := first | decide | omega) [isb, ck_tt, NP, NF, NC, NB, NS, GS, kdR, tpR hT, f_X12_mayTake, b_X12_mayTake_32, b_X12_mayTake_37, e]
  · have hd' : decide (o = q.d) = false := decide_eq_false h
    rw [hd']
    cases ud : q.up q.d
    · rw [ud] at gd
      simp at gd
      simp (disch := first | decide | omega) [isb, ck_tt, NP, NF, NC, NB, NS, GS, kdR, tpR hT, f_X12_mayTake, b_X12_mayTake_32, b_X12_mayTake_36, b_X12_mayTake_37, e, gd]
    · rw [ud] at gd
      simp at gd
      cases uo : q.up o
      · rw [uo] at go
        simp at go
        simp (disch := first | decide | omega) [isb, ck_tt, NP, NF, NC, NB, NS, GS, kdR, tpR hT, f_X12_mayTake, b_X12_mayTake_32, b_X12_mayTake_36, b_X12_mayTake_37, e, gd, go]
      · rw [uo] at go
        simp at go
        simp (disch := first | decide | omega) [isb, ck_tt, NP, NF, NC, NB, NS, GS, kdR, tpR hT, f_X12_mayTake, b_X12_mayTake_32, b_X12_mayTake_36, b_X12_mayTake_37, e, gd, go]
theorem rowf_s (q : HQ) (r : Nat) (a : HQ.Acc) (k : Nat) (hn : 1 ≤ q.n) : (q.n ≤ q.rl r (k + 1) → k + 1 + 1 - q.n = k + 1 - q.n + 1 ∧ q.n ≤ k + 1 ∧ q.rowf r a (k + 1 + 1 - q.n) = q.bet (q.rowf r a (k + 1 - q.n)) r (k + 1 - q.n)) ∧ (q.rl r (k + 1) < q.n → q.rowf r a (k + 1 + 1 - q.n) = q.rowf r a (k + 1 - q.n)) := by
  have iff := HQ.rl_iff q r (k + 1) q.n
  refine ⟨fun h => ?_, fun h => ?_⟩
  · obtain ⟨h1, h2⟩ := iff.mp h
    have e : k + 1 + 1 - q.n = k + 1 - q.n + 1 := by omega
    refine ⟨e, h1, ?_⟩
    rw [e]
    show q.cand _ r (k + 1 - q.n) = _
    exact HQ.cand_t q (fun i i1 i2 => h2 i i1 (by omega))
  · rcases Nat.lt_or_ge (k + 1) q.n with x | x
    · rw [show k + 1 + 1 - q.n = k + 1 - q.n by omega]
    · have e : k + 1 + 1 - q.n = k + 1 - q.n + 1 := by omega
      rw [e]
      show q.cand _ r (k + 1 - q.n) = _
      refine HQ.cand_f q (fun hc => ?_)
      have := iff.mpr ⟨x, fun i i1 i2 => hc i i1 (by omega)⟩
      omega
