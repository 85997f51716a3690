/-! PURE: ask: the reference's loops; ask -/
theorem ask_275 {st : St} (hT : Top st) (fu : Nat) {q : HQ} (hq : q.R st) (K1 : Nat → Int32 → Int32 → Int32 → Int32 → Int32 → Int32 → Int32 → Int32 → Int32 → Int32 → Int32 → Int32 → St → Option (Int32 × St)) (K2 : Nat → Int32 → Int32 → Int32 → Int32 → Int32 → Int32 → Int32 → Int32 → Int32 → Int32 → Int32 → Int32 → Int32 → St → Option (Int32 × St)) (x4 x5 x6 x7 : Int32) {r k la lb : Nat} (hr : r < 40) (hk : k + q.n ≤ q.se r) (h1 : la ≤ 1) (h2 : lb ≤ 1) (e : la + lb = q.lnA r k + q.lnB r k) {a : HQ.Acc} (ha : q.okA a) : b_X12_ask_275 fu K1 K2 153 (nI q.d) (nI q.s) (nI q.n) x4 x5 x6 x7 (HQ.eR a) (HQ.eS a) (HQ.e1 a) (HQ.e2 a) (nI r) (nI k) (nI la) (nI lb) st = b_X12_ask_361 fu K1 K2 153 (nI q.d) (nI q.s) (nI q.n) x4 x5 x6 x7 (HQ.eR (q.bet a r k)) (HQ.eS (q.bet a r k)) (HQ.e1 (q.bet a r k)) (HQ.e2 (q.bet a r k)) (nI r) (nI k) st := by
  obtain ⟨a1, a2, -⟩ := hq.1 r hr
  have n1 := hq.2.2.2.2.1
  have n2 := hq.2.2.2.2.2.1
  obtain ⟨lo, hlo⟩ : ∃ lo, lo = la + lb := ⟨_, rfl⟩
  obtain ⟨fa, hfa⟩ : ∃ fa, fa = q.far r k := ⟨_, rfl⟩
  have ff : fa = 3 * r + (2 * k + q.n - 1 - (q.se r - 1) + (q.se r - 1 - (2 * k + q.n - 1))) := hfa
  have f1000 : fa < 1000 := by omega
  have e315 : b_X12_ask_275 fu K1 K2 153 (nI q.d) (nI q.s) (nI q.n) x4 x5 x6 x7 (HQ.eR a) (HQ.eS a) (HQ.e1 a) (HQ.e2 a) (nI r) (nI k) (nI la) (nI lb) st = b_X12_ask_315 fu K1 K2 153 (nI q.d) (nI q.s) (nI q.n) x4 x5 x6 x7 (HQ.eR a) (HQ.eS a) (HQ.e1 a) (HQ.e2 a) (nI r) (nI k) (nI lo) (nI fa) (nI 0) st := by
    unfold b_X12_ask_315
    clear hq ha e hfa
    rcases Nat.lt_or_ge (2 * k + q.n - 1) (q.se r - 1) with y | y
    · have s1 := sneg1 (a := 2 * k + q.n - 1) (b := q.se r - 1) (by omega)
      have s2 := sneg2 (a := 2 * k + q.n - 1) (b := q.se r - 1) (by omega)
      have ef : fa = 3 * r + (q.se r - 1 - (2 * k + q.n - 1)) := by omega
      rw [ef, hlo]
      simp (disch := first | decide | omega) [isb, ck_tt, NP, NF, NC, NB, NS, GS, kdR, tpR hT, b_X12_ask_275, b_X12_ask_315, a1, s1, s2]
    · have ef : fa = 3 * r + (2 * k + q.n - 1 - (q.se r - 1)) := by omega
      rw [ef, hlo]
      simp (disch := first | decide | omega) [isb, ck_tt, NP, NF, NC, NB, NS, GS, kdR, tpR hT, b_X12_ask_275, b_X12_ask_315, a1]
  rw [e315]
  unfold HQ.bet
  rw [← e, ← hlo, ← hfa]
  have hlo2 : lo ≤ 2 := by omega
  clear hq e315 hlo hfa ff e
  match a, ha with
  | none, _ =>
    simp (disch := first | decide | omega) [isb, ck_tt, NP, NF, NC, NB, NS, GS, kdR, tpR hT, b_X12_ask_315, b_X12_ask_345, HQ.eR, HQ.eS, HQ.e1, HQ.e2]
  | some (r', k', l, f), ha =>
    obtain ⟨r4, -, -, -, -, l2, f2⟩ := ha
    by_cases hx : lo < l ∨ (lo = l ∧ fa < f)
    · simp only [if_pos hx]
      rcases hx with hx | ⟨hx, hy⟩
      · simp (disch := first | decide | omega) [isb, ck_tt, NP, NF, NC, NB, NS, GS, kdR, tpR hT, b_X12_ask_315, b_X12_ask_345, HQ.eR, HQ.eS, HQ.e1, HQ.e2]
      · subst hx
        simp (disch := first | decide | omega) [isb, ck_tt, NP, NF, NC, NB, NS, GS, kdR, tpR hT, b_X12_ask_315, b_X12_ask_345, HQ.eR, HQ.eS, HQ.e1, HQ.e2]
    · simp only [if_neg hx]
      by_cases hz : lo = l
      · subst hz
        have hy : f ≤ fa := by omega
        simp (disch := first | decide | omega) [isb, ck_tt, NP, NF, NC, NB, NS, GS, kdR, tpR hT, b_X12_ask_315, b_X12_ask_345, HQ.eR, HQ.eS, HQ.e1, HQ.e2]
      · have hy : l < lo := by omega
        simp (disch := first | decide | omega) [isb, ck_tt, NP, NF, NC, NB, NS, GS, kdR, tpR hT, b_X12_ask_315, b_X12_ask_345, HQ.eR, HQ.eS, HQ.e1, HQ.e2]
theorem ask_end {st : St} (hT : Top st) (fu : Nat) {q : HQ} (hq : q.R st) (K1 : Nat → Int32 → Int32 → Int32 → Int32 → Int32 → Int32 → Int32 → Int32 → Int32 → Int32 → Int32 → Int32 → St → Option (Int32 × St)) (K2 : Nat → Int32 → Int32 → Int32 → Int32 → Int32 → Int32 → Int32 → Int32 → Int32 → Int32 → Int32 → Int32 → Int32 → St → Option (Int32 × St)) (K3 : Nat → Int32 → Int32 → Int32 → Int32 → Int32 → Int32 → Int32 → Int32 → Int32 → Int32 → Int32 → Int32 → Int32 → Int32 → Int32 → St → Option (Int32 × St)) (x4 x5 x6 x7 : Int32) {r k : Nat} (hr : r < 40) (hk : k + q.n ≤ q.se r) {a : HQ.Acc} (ha : q.okA a) : b_X12_ask_156_b fu K1 K2 K3 153 (nI q.d) (nI q.s) (nI q.n) x4 x5 x6 x7 (HQ.eR a) (HQ.eS a) (HQ.e1 a) (HQ.e2 a) (nI r) (nI k) (nI 1) (nI (k + q.n)) st = b_X12_ask_361 fu K1 K2 153 (nI q.d) (nI q.s) (nI q.n) x4 x5 x6 x7 (HQ.eR (q.bet a r k)) (HQ.eS (q.bet a r k)) (HQ.e1 (q.bet a r k)) (HQ.e2 (q.bet a r k)) (nI r) (nI k) st := by
  have a2 := (hq.1 r hr).2.1
  have f1 : f_X12_isFree fu 153 (nI r) (nI k - nI 1) st = some (nI (q.isf r ((k : Int) - 1)).toNat, st) := by rw [zsub (by omega)]; exact isFree_r hT fu hq hr (by omega)
  have f2 : f_X12_isFree fu 153 (nI r) (nI k - nI 2) st = some (nI (q.isf r ((k : Int) - 2)).toNat, st) := by rw [zsub (by omega)]; exact isFree_r hT fu hq hr (by omega)
  have f3 : f_X12_isFree fu 153 (nI r) (nI (k + q.n)) st = some (nI (q.isf r ((k + q.n : Nat) : Int)).toNat, st) := by rw [nI_z (n := k + q.n) (by omega)]; exact isFree_r hT fu hq hr (by omega)
  have f4 : f_X12_isFree fu 153 (nI r) (nI (k + q.n + 1)) st = some (nI (q.isf r ((k + q.n + 1 : Nat) : Int)).toNat, st) := by rw [nI_z (n := k + q.n + 1) (by omega)]; exact isFree_r hT fu hq hr (by omega)
  have g := fun la lb h1 h2 e => ask_275 hT fu hq K1 K2 x4 x5 x6 x7 hr hk (la := la) (lb := lb) h1 h2 e ha
  have e00 := g 0 0 (by omega) (by omega)
  have e01 := g 0 1 (by omega) (by omega)
  have e10 := g 1 0 (by omega) (by omega)
  have e11 := g 1 1 (by omega) (by omega)
  clear g
  have lA : q.lnA r k = if q.isf r ((k : Int) - 1) && !q.isf r ((k : Int) - 2) then 1 else 0 := rfl
  have lB : q.lnB r k = if q.isf r ((k + q.n : Nat) : Int) && !q.isf r ((k + q.n + 1 : Nat) : Int) then 1 else 0 := rfl
  rw [lA, lB] at e00 e01 e10 e11
  clear lA lB hq ha
  cases h1 : q.isf r ((k : Int) - 1) <;> cases h2 : q.isf r ((k : Int) - 2) <;> cases h3 : q.isf r ((k + q.n : Nat) : Int) <;> cases h4 : q.isf r ((k + q.n + 1 : Nat) : Int) <;> rw [h1] at f1 <;> rw [h2] at f2 <;> rw [h3] at f3 <;> rw [h4] at f4 <;> rw [h1, h2, h3, h4] at e00 e01 e10 e11 <;> simp only [Bool.toNat_true, Bool.toNat_false] at f1 f2 f3 f4 <;> simp at e00 e01 e10 e11 <;> simp (disch := first | decide | omega) [isb, ck_tt, NP, NF, NC, NB, NS, GS, kdR, tpR hT, b_X12_ask_156_b, b_X12_ask_241, b_X12_ask_242, b_X12_ask_274, f1, f2, f3, f4, e00, e01, e10, e11]
theorem ask_may {st : St} (hT : Top st) (fu : Nat) {q : HQ} (hq : q.R st) (K1 : Nat → Int32 → Int32 → Int32 → Int32 → Int32 → Int32 → Int32 → Int32 → Int32 → Int32 → Int32 → Int32 → St → Option (Int32 × St)) (K2 : Nat → Int32 → Int32 → Int32 → Int32 → Int32 → Int32 → Int32 → Int32 → Int32 → Int32 → Int32 → Int32 → Int32 → St → Option (Int32 × St)) (x4 x5 x6 x7 : Int32) {r k : Nat} (hr : r < 40) (hk : k + q.n ≤ q.se r) {a : HQ.Acc} (ha : q.okA a) : ∀ (F i : Nat), k ≤ i → i ≤ k + q.n → k + q.n - i < F →
    b_X12_ask_156 fu K1 K2 F 153 (nI q.d) (nI q.s) (nI q.n) x4 x5 x6 x7 (HQ.eR a) (HQ.eS a) (HQ.e1 a) (HQ.e2 a) (nI r) (nI k) (nI 0) (nI i) st = b_X12_ask_361 fu K1 K2 153 (nI q.d) (nI q.s) (nI q.n) x4 x5 x6 x7 (HQ.eR a) (HQ.eS a) (HQ.e1 a) (HQ.e2 a) (nI r) (nI k) st ∧
    ((∀ j, i ≤ j → j < k + q.n → q.oks r j = true) → b_X12_ask_156 fu K1 K2 F 153 (nI q.d) (nI q.s) (nI q.n) x4 x5 x6 x7 (HQ.eR a) (HQ.eS a) (HQ.e1 a) (HQ.e2 a) (nI r) (nI k) (nI 1) (nI i) st = b_X12_ask_361 fu K1 K2 153 (nI q.d) (nI q.s) (nI q.n) x4 x5 x6 x7 (HQ.eR (q.bet a r k)) (HQ.eS (q.bet a r k)) (HQ.e1 (q.bet a r k)) (HQ.e2 (q.bet a r k)) (nI r) (nI k) st) ∧
    ((¬ ∀ j, i ≤ j → j < k + q.n → q.oks r j = true) → b_X12_ask_156 fu K1 K2 F 153 (nI q.d) (nI q.s) (nI q.n) x4 x5 x6 x7 (HQ.eR a) (HQ.eS a) (HQ.e1 a) (HQ.e2 a) (nI r) (nI k) (nI 1) (nI i) st = b_X12_ask_361 fu K1 K2 153 (nI q.d) (nI q.s) (nI q.n) x4 x5 x6 x7 (HQ.eR a) (HQ.eS a) (HQ.e1 a) (HQ.e2 a) (nI r) (nI k) st) := by
  intro F
  have a2 := (hq.1 r hr).2.1
  induction F with
  | zero => intro i h1 h2 h3; omega
  | succ F ih =>
    intro i h0 h1 h2
    have un : ∀ y, b_X12_ask_156 fu K1 K2 (F + 1) 153 (nI q.d) (nI q.s) (nI q.n) x4 x5 x6 x7 (HQ.eR a) (HQ.eS a) (HQ.e1 a) (HQ.e2 a) (nI r) (nI k) y (nI i) st = b_X12_ask_156_b fu K1 K2 (b_X12_ask_156 fu K1 K2 F) 153 (nI q.d) (nI q.s) (nI q.n) x4 x5 x6 x7 (HQ.eR a) (HQ.eS a) (HQ.e1 a) (HQ.e2 a) (nI r) (nI k) y (nI i) st := fun _ => rfl
    rcases Nat.lt_or_ge i (k + q.n) with hi | hi
    · obtain ⟨i1, i2, i3⟩ := ih (i + 1) (by omega) (by omega) (by omega)
      have f1 : f_X12_isFree fu 153 (nI r) (nI i) st = some (nI (q.isf r (i : Int)).toNat, st) := by rw [nI_z (n := i) (by omega)]; exact isFree_r hT fu hq hr (by omega)
      have f2 := take_r hT fu hq hr (i := i) (by omega)
      have ei : q.isf r (i : Int) = q.fre r i := by
        unfold HQ.isf
        rw [decide_eq_true (show (0 : Int) ≤ i by omega), decide_eq_true (show (i : Int) < q.se r by omega)]
        simp
      rw [ei] at f1
      have n2 := hq.2.2.2.2.2.1
      clear ih hq ei
      have z : b_X12_ask_156_b fu K1 K2 (b_X12_ask_156 fu K1 K2 F) 153 (nI q.d) (nI q.s) (nI q.n) x4 x5 x6 x7 (HQ.eR a) (HQ.eS a) (HQ.e1 a) (HQ.e2 a) (nI r) (nI k) (nI 0) (nI i) st = b_X12_ask_156 fu K1 K2 F 153 (nI q.d) (nI q.s) (nI q.n) x4 x5 x6 x7 (HQ.eR a) (HQ.eS a) (HQ.e1 a) (HQ.e2 a) (nI r) (nI k) (nI 0) (nI (i + 1)) st := by
        clear i1 i2 i3
        simp (disch := first | decide | omega) [isb, ck_tt, NP, NF, NC, NB, NS, GS, kdR, tpR hT, b_X12_ask_156_b, b_X12_ask_197, b_X12_ask_198]
      have o : b_X12_ask_156_b fu K1 K2 (b_X12_ask_156 fu K1 K2 F) 153 (nI q.d) (nI q.s) (nI q.n) x4 x5 x6 x7 (HQ.eR a) (HQ.eS a) (HQ.e1 a) (HQ.e2 a) (nI r) (nI k) (nI 1) (nI i) st = b_X12_ask_156 fu K1 K2 F 153 (nI q.d) (nI q.s) (nI q.n) x4 x5 x6 x7 (HQ.eR a) (HQ.eS a) (HQ.e1 a) (HQ.e2 a) (nI r) (nI k) (nI (q.oks r i).toNat) (nI (i + 1)) st := by
        clear i1 i2 i3 un
        unfold HQ.oks
        cases hf : q.fre r i <;> cases ht : q.tk ((r + i) % 4) <;> rw [hf] at f1 <;> rw [ht] at f2 <;> simp only [Bool.toNat_true, Bool.toNat_false] at f1 f2 <;> simp (disch := first | decide | omega) [isb, ck_tt, NP, NF, NC, NB, NS, GS, kdR, tpR hT, b_X12_ask_156_b, b_X12_ask_197, b_X12_ask_198, f1, f2]
      refine ⟨by rw [un, z]; exact i1, fun h => ?_, fun h => ?_⟩
      · rw [un, o, h i (Nat.le_refl _) hi]
        exact i2 (fun j j1 j2 => h j (by omega) j2)
      · rw [un, o]
        cases ho : q.oks r i
        · exact i1
        · refine i3 (fun h2 => h (fun j j1 j2 => ?_))
          rcases Nat.eq_or_lt_of_le j1 with e | e
          · rw [← e]; exact ho
          · exact h2 j e j2
    · have e : i = k + q.n := by omega
      subst e
      refine ⟨?_, fun _ => by rw [un]; exact ask_end hT fu hq K1 K2 _ x4 x5 x6 x7 hr hk ha, fun h => absurd (fun j j1 j2 => by omega) h⟩
      rw [un]
      clear ih hq un
      simp (disch := first | decide | omega) [isb, ck_tt, NP, NF, NC, NB, NS, GS, kdR, tpR hT, b_X12_ask_156_b]
theorem ask_row {st : St} (hT : Top st) {fu : Nat} (hf : 100 ≤ fu) {q : HQ} (hq : q.R st) (K1 : Nat → Int32 → Int32 → Int32 → Int32 → Int32 → Int32 → Int32 → Int32 → Int32 → Int32 → Int32 → Int32 → St → Option (Int32 × St)) (x4 x5 x6 x7 : Int32) {r : Nat} (hr : r < 40) (hs : q.sec r = true) (hn : q.n ≤ q.se r) {a : HQ.Acc} (ha : q.okA a) : ∀ (F k : Nat), k ≤ q.se r + 1 - q.n → q.se r + 1 - q.n - k < F →
    b_X12_ask_124 fu K1 F 153 (nI q.d) (nI q.s) (nI q.n) x4 x5 x6 x7 (HQ.eR (q.rowf r a k)) (HQ.eS (q.rowf r a k)) (HQ.e1 (q.rowf r a k)) (HQ.e2 (q.rowf r a k)) (nI r) (nI k) st = K1 153 (nI q.d) (nI q.s) (nI q.n) x4 x5 x6 x7 (HQ.eR (q.rowf r a (q.se r + 1 - q.n))) (HQ.eS (q.rowf r a (q.se r + 1 - q.n))) (HQ.e1 (q.rowf r a (q.se r + 1 - q.n))) (HQ.e2 (q.rowf r a (q.se r + 1 - q.n))) (nI (r + 1)) st := by
  intro F
  obtain ⟨a1, a2, a3⟩ := hq.1 r hr
  have n1 := hq.2.2.2.2.1
  have n2 := hq.2.2.2.2.2.1
  have a4 := (a3 (by omega)).mpr hs
  clear a3
  induction F with
  | zero => intro k h1 h2; omega
  | succ F ih =>
    intro k h1 h2
    show b_X12_ask_124_b fu K1 (b_X12_ask_124 fu K1 F) 153 (nI q.d) (nI q.s) (nI q.n) x4 x5 x6 x7 (HQ.eR (q.rowf r a k)) (HQ.eS (q.rowf r a k)) (HQ.e1 (q.rowf r a k)) (HQ.e2 (q.rowf r a k)) (nI r) (nI k) st = _
    rcases Nat.lt_or_ge k (q.se r + 1 - q.n) with hk | hk
    · have ok := HQ.rowf_ok q ha hr a2 hs k (by omega)
      obtain ⟨-, m1, m2⟩ := ask_may hT fu hq K1 (b_X12_ask_124 fu K1 F) x4 x5 x6 x7 hr (k := k) (by omega) ok fu k (Nat.le_refl _) (by omega) (by omega)
      have e := ih (k + 1) (by omega) (by omega)
      have st1 : b_X12_ask_124_b fu K1 (b_X12_ask_124 fu K1 F) 153 (nI q.d) (nI q.s) (nI q.n) x4 x5 x6 x7 (HQ.eR (q.rowf r a k)) (HQ.eS (q.rowf r a k)) (HQ.e1 (q.rowf r a k)) (HQ.e2 (q.rowf r a k)) (nI r) (nI k) st = b_X12_ask_156 fu K1 (b_X12_ask_124 fu K1 F) fu 153 (nI q.d) (nI q.s) (nI q.n) x4 x5 x6 x7 (HQ.eR (q.rowf r a k)) (HQ.eS (q.rowf r a k)) (HQ.e1 (q.rowf r a k)) (HQ.e2 (q.rowf r a k)) (nI r) (nI k) (nI 1) (nI k) st := by
        clear ih hq ok m1 m2 e
        simp (disch := first | decide | omega) [isb, ck_tt, NP, NF, NC, NB, NS, GS, kdR, tpR hT, b_X12_ask_124_b, a1, a4]
      rw [st1, ← e]
      have es : q.rowf r a (k + 1) = q.cand (q.rowf r a k) r k := rfl
      rw [es]
      by_cases hc : ∀ i, k ≤ i → i < k + q.n → q.oks r i = true
      · rw [HQ.cand_t q hc, m1 hc]
        clear ih hq ok m1 m2 e hc
        simp (disch := first | decide | omega) [isb, ck_tt, NP, NF, NC, NB, NS, GS, kdR, tpR hT, b_X12_ask_361]
      · rw [HQ.cand_f q hc, m2 hc]
        clear ih hq ok m1 m2 e hc
        simp (disch := first | decide | omega) [isb, ck_tt, NP, NF, NC, NB, NS, GS, kdR, tpR hT, b_X12_ask_361]
    · have e : k = q.se r + 1 - q.n := by omega
      subst e
      have e2 : q.se r + 1 - q.n + q.n = q.se r + 1 := by omega
      clear ih hq
      simp (disch := first | decide | omega) [isb, ck_tt, NP, NF, NC, NB, NS, GS, kdR, tpR hT, b_X12_ask_124_b, b_X12_ask_367, a1, a4, e2]
def askF (q : HQ) (x4 x5 x6 : Int32) (j : Nat) (a : HQ.Acc) (st : St) : Option (Int32 × St) := match a with
  | none => some (-nI 1, st)
  | some (r, k, _, _) => some (nI j, seg 217 (30 * r + k) q.n (nI 1) (sI (sI (sI (sI (sI (sI (sI (sI st 219 j (nI 1)) 220 j (nI r)) 221 j (nI k)) 222 j (nI q.n)) 223 j x6) 224 j (nI q.s)) 225 j x4) 226 j x5))
theorem ask_all {st : St} (hT : Top st) {fu : Nat} (hf : 100 ≤ fu) {q : HQ} (hq : q.R st) (x4 x5 x6 : Int32) {j : Nat} (hj : j < 60) : ∀ (F r : Nat), r ≤ 40 → 40 - r < F →
    b_X12_ask_114 fu F 153 (nI q.d) (nI q.s) (nI q.n) x4 x5 x6 (nI j) (HQ.eR (q.allf r)) (HQ.eS (q.allf r)) (HQ.e1 (q.allf r)) (HQ.e2 (q.allf r)) (nI r) st = askF q x4 x5 x6 j (q.allf 40) st := by
  intro F
  have n1 := hq.2.2.2.2.1
  have n2 := hq.2.2.2.2.2.1
  induction F with
  | zero => intro k h1 h2; omega
  | succ F ih =>
    intro r h1 h2
    show b_X12_ask_114_b fu (b_X12_ask_114 fu F) 153 (nI q.d) (nI q.s) (nI q.n) x4 x5 x6 (nI j) (HQ.eR (q.allf r)) (HQ.eS (q.allf r)) (HQ.e1 (q.allf r)) (HQ.e2 (q.allf r)) (nI r) st = _
    have ok := HQ.allf_ok q (fun r hr => (hq.1 r hr).2.1) r (by omega)
    rcases Nat.lt_or_ge r 40 with hr | hr
    · obtain ⟨a1, a2, a3⟩ := hq.1 r hr
      rw [← ih (r + 1) (by omega) (by omega)]
      clear ih
      have es : q.allf (r + 1) = if q.n ≤ q.se r ∧ q.sec r = true then q.rowf r (q.allf r) (q.se r + 1 - q.n) else q.allf r := rfl
      have st1 : b_X12_ask_114_b fu (b_X12_ask_114 fu F) 153 (nI q.d) (nI q.s) (nI q.n) x4 x5 x6 (nI j) (HQ.eR (q.allf r)) (HQ.eS (q.allf r)) (HQ.e1 (q.allf r)) (HQ.e2 (q.allf r)) (nI r) st = b_X12_ask_124 fu (b_X12_ask_114 fu F) fu 153 (nI q.d) (nI q.s) (nI q.n) x4 x5 x6 (nI j) (HQ.eR (q.allf r)) (HQ.eS (q.allf r)) (HQ.e1 (q.allf r)) (HQ.e2 (q.allf r)) (nI r) (nI 0) st := by
        clear hq a3 es ok
        simp (disch := first | decide | omega) [isb, ck_tt, NP, NF, NC, NB, NS, GS, kdR, tpR hT, b_X12_ask_114_b]
      rw [st1, es]
      by_cases h : q.n ≤ q.se r ∧ q.sec r = true
      · rw [if_pos h]
        exact ask_row hT hf hq (b_X12_ask_114 fu F) x4 x5 x6 (nI j) hr h.2 h.1 ok fu 0 (by omega) (by omega)
      · rw [if_neg h]
        obtain ⟨G, rfl⟩ : ∃ G, fu = G + 1 := ⟨fu - 1, by omega⟩
        show b_X12_ask_124_b (G + 1) (b_X12_ask_114 (G + 1) F) (b_X12_ask_124 (G + 1) (b_X12_ask_114 (G + 1) F) G) 153 (nI q.d) (nI q.s) (nI q.n) x4 x5 x6 (nI j) (HQ.eR (q.allf r)) (HQ.eS (q.allf r)) (HQ.e1 (q.allf r)) (HQ.e2 (q.allf r)) (nI r) (nI 0) st = _
        rcases Nat.lt_or_ge (q.se r) q.n with x | x
        · clear hq a3 h es st1 ok
          by_cases y : gI st 215 r = nI q.s
          · simp (disch := first | decide | omega) [isb, ck_tt, NP, NF, NC, NB, NS, GS, kdR, tpR hT, b_X12_ask_124_b, b_X12_ask_367, a1, y]
          · simp (disch := first | decide | omega) [isb, ck_tt, NP, NF, NC, NB, NS, GS, kdR, tpR hT, b_X12_ask_124_b, b_X12_ask_367, a1, y]
        · have y : ¬ gI st 215 r = nI q.s := fun e => h ⟨x, (a3 (by omega)).mp e⟩
          clear hq a3 h es st1 ok
          simp (disch := first | decide | omega) [isb, ck_tt, NP, NF, NC, NB, NS, GS, kdR, tpR hT, b_X12_ask_124_b, b_X12_ask_367, a1, y]
    · have e : r = 40 := by omega
      subst e
      clear ih
      unfold askF
      have se30 := fun r hr => (hq.1 r hr).2.1
      clear hq
      match q.allf 40, ok with
      | none, _ =>
        simp (disch := first | decide | omega) [isb, ck_tt, NP, NF, NC, NB, NS, GS, kdR, tpR hT, b_X12_ask_114_b, HQ.eR]
      | some (r', k', l, f), ok =>
        obtain ⟨r4, k4, -⟩ := ok
        have se := se30 r' r4
        have hm := mark_r (st := sI (sI (sI (sI (sI (sI (sI (sI st 219 j (nI 1)) 220 j (nI r')) 221 j (nI k')) 222 j (nI q.n)) 223 j x6) 224 j (nI q.s)) 225 j x4) 226 j x5) (hT.r rfl) hf (r := r') (f := k') (n := q.n) (nI 1) r4 (by omega)
        simp (disch := first | decide | omega) [isb, ck_tt, NP, NF, NC, NB, NS, GS, kdR, tpR hT, b_X12_ask_114_b, HQ.eR, HQ.eS, hm]
theorem least0 (sz : Nat → Nat) : ∀ n, ∃ j, j ≤ n ∧ (∀ h, h < j → 0 < sz h) ∧ (j < n → sz j = 0)
  | 0 => ⟨0, Nat.le_refl _, fun h hh => by omega, fun h => by omega⟩
  | n + 1 => by
    obtain ⟨j, h1, h2, h3⟩ := least0 sz n
    rcases Nat.lt_or_ge j n with q | q
    · exact ⟨j, by omega, h2, fun _ => h3 q⟩
    · have : j = n := by omega
      subst this
      rcases Nat.eq_zero_or_pos (sz j) with z | z
      · exact ⟨j, by omega, h2, fun _ => z⟩
      · refine ⟨j + 1, Nat.le_refl _, fun h hh => ?_, fun h => by omega⟩
        rcases Nat.lt_or_ge h j with q | q
        · exact h2 h q
        · rw [show h = j by omega]; exact z
theorem freeH_c {st : St} (hT : Top st) (fu : Nat) {sz : Nat → Nat} (hB : ∀ h, h < 60 → gI st 126 h = nI (sz h) ∧ sz h ≤ 10) {j : Nat} (hj : j ≤ 60) (h1 : ∀ h, h < j → 0 < sz h) (h2 : j < 60 → sz j = 0) : ∀ (F i : Nat), i ≤ j → j - i < F → b_X2_freeHold_2 fu F 124 (nI i) st = some (if j < 60 then nI j else -nI 1, st) := by
  intro F
  induction F with
  | zero => intro k h1 h2; omega
  | succ F ih =>
    intro i h3 h4
    show b_X2_freeHold_2_b fu (b_X2_freeHold_2 fu F) 124 (nI i) st = _
    rcases Nat.lt_or_ge i j with hi | hi
    · have e := ih (i + 1) (by omega) (by omega)
      obtain ⟨g1, g2⟩ := hB i (by omega)
      have g3 := h1 i hi
      rw [← e]
      clear ih hB h1 h2 e
      simp (disch := first | decide | omega) [isb, ck_tt, NP, NF, NC, NB, NS, GS, kdC, tpC hT, b_X2_freeHold_2_b, g1]
    · have e : i = j := by omega
      subst e
      rcases Nat.lt_or_ge i 60 with y | y
      · have g1 := (hB i y).1
        rw [h2 y] at g1
        rw [if_pos y]
        clear ih hB h1 h2
        simp (disch := first | decide | omega) [isb, ck_tt, NP, NF, NC, NB, NS, GS, kdC, tpC hT, b_X2_freeHold_2_b, g1]
      · rw [if_neg (by omega)]
        have : i = 60 := by omega
        subst this
        clear ih hB h1 h2
        simp (disch := first | decide | omega) [isb, ck_tt, NP, NF, NC, NB, NS, GS, kdC, tpC hT, b_X2_freeHold_2_b]
theorem freeH_r {st : St} (hT : Top st) (fu : Nat) {sz : Nat → Nat} (hB : ∀ h, h < 60 → gI st 219 h = nI (if sz h = 0 then 0 else 1)) (y1 y2 y3 y4 y5 y6 : Int32) {j : Nat} (hj : j ≤ 60) (h1 : ∀ h, h < j → 0 < sz h) (h2 : j < 60 → sz j = 0) : ∀ (F i : Nat), i ≤ j → j - i < F → b_X12_ask_58 fu F 153 y1 y2 y3 y4 y5 y6 (nI i) st = b_X12_ask_81 fu 153 y1 y2 y3 y4 y5 y6 (nI j) st := by
  intro F
  induction F with
  | zero => intro k h1 h2; omega
  | succ F ih =>
    intro i h3 h4
    show b_X12_ask_58_b fu (b_X12_ask_58 fu F) 153 y1 y2 y3 y4 y5 y6 (nI i) st = _
    rcases Nat.lt_or_ge i j with hi | hi
    · have e := ih (i + 1) (by omega) (by omega)
      have g1 := hB i (by omega)
      have g3 := h1 i hi
      rw [if_neg (by omega)] at g1
      rw [← e]
      clear ih hB h1 h2 e
      simp (disch := first | decide | omega) [isb, ck_tt, NP, NF, NC, NB, NS, GS, kdR, tpR hT, b_X12_ask_58_b, g1]
    · have e : i = j := by omega
      subst e
      rcases Nat.lt_or_ge i 60 with y | y
      · have g1 := hB i y
        rw [h2 y] at g1
        simp at g1
        clear ih hB h1 h2
        simp (disch := first | decide | omega) [isb, ck_tt, NP, NF, NC, NB, NS, GS, kdR, tpR hT, b_X12_ask_58_b, g1]
      · have : i = 60 := by omega
        subst this
        clear ih hB h1 h2
        simp (disch := first | decide | omega) [isb, ck_tt, NP, NF, NC, NB, NS, GS, kdR, tpR hT, b_X12_ask_58_b]
