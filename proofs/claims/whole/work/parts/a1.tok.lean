/-! PURE: the class's tape: tokens -/
def kc (s : Nat) : Nat := if s = 3 then 4 else if 3 < s then 3 else s
def TX (b : BY) (n lim : Nat) (st : St) : Prop := gI st 2 1 = nI n ∧ n ≤ 4000 ∧ (∀ i, i < n → gI st 3 i = b i) ∧ (∀ i, i < n → b i ≤ nI 127) ∧ gI st 2 7 = nI lim ∧ lim ≤ 4000
def TC (b : BY) (n lim t : Nat) (st : St) : Prop := TX b n lim st ∧ (gI st 2 8 = nI 0 ∧ gI st 2 9 = nI 0 ∧ gI st 2 6 = nI t ∧ t ≤ lim) ∧ gI st 2 3 = nI (pl b n t) ∧ gI st 2 4 = nI (af b n (t + 1)) ∧ gI st 2 2 = nI (kc (so b n t)) ∧ (so b n t = 2 → gI st 2 5 = nI (nv b (pl b n t) (af b n (t + 1) - pl b n t))) ∧ (3 < so b n t → gI st 2 5 = nI (so b n t))
def TD (b : BY) (n lim f p : Nat) (st : St) : Prop := TX b n lim st ∧ gI st 2 8 = nI f ∧ 1 ≤ f ∧ f ≤ 3 ∧ gI st 2 9 = nI p ∧ p ≤ n ∧ gI st 2 2 = nI 0
def WT : List PL := [(2, some 2), (2, some 3), (2, some 4), (2, some 5), (2, some 6), (2, some 8), (2, some 9)]
theorem TX.fr {b : BY} {n lim : Nat} {st u : St} (h : TX b n lim st) (fr : Fr WT st u) : TX b n lim u := by
  obtain ⟨h1, h2, h3, h4, h5, h6⟩ := h
  refine ⟨?_, h2, ?_, h4, ?_, h6⟩
  · rw [fr.ki 2 1 (by decide)]; exact h1
  · rw [fr.fi 3 (by decide)]; exact h3
  · rw [fr.ki 2 7 (by decide)]; exact h5
theorem bl_c {st : St} (fu : Nat) (x : Int32) : f_X9_isBlank fu x st = some (nI (isBl x).toNat, st) := by
  unfold f_X9_isBlank b_X9_isBlank_24 b_X9_isBlank_29 isBl
  by_cases h1 : x = 32
  · rw [if_pos h1, h1]; rfl
  · rw [if_neg h1, decide_eq_false h1]
    by_cases h2 : x = 9
    · rw [if_pos h2, h2]; rfl
    · rw [if_neg h2, decide_eq_false h2]
      by_cases h3 : x = 13
      · rw [if_pos h3, h3]; rfl
      · rw [if_neg h3, decide_eq_false h3]
        by_cases h4 : x = 10
        · rw [if_pos h4, h4]; rfl
        · rw [if_neg h4, decide_eq_false h4]; rfl
theorem isLe_t {x : Int32} (h : isLe x = true) : (x < nI 97) = False ∧ (nI 122 < x) = False := by
  unfold isLe at h
  rw [Bool.and_eq_true, Bool.not_eq_true', Bool.not_eq_true'] at h
  exact ⟨eq_false (of_decide_eq_false h.1), eq_false (of_decide_eq_false h.2)⟩
theorem isLe_f {x : Int32} (h : isLe x = false) : (x < nI 97) = True ∨ ((x < nI 97) = False ∧ (nI 122 < x) = True) := by
  unfold isLe at h
  by_cases h1 : x < 97
  · exact Or.inl (eq_true h1)
  · right
    rw [decide_eq_false h1] at h
    by_cases h2 : 122 < x
    · exact ⟨eq_false h1, eq_true h2⟩
    · rw [decide_eq_false h2] at h
      exact absurd h (by decide)
theorem isDi_t {x : Int32} (h : isDi x = true) : (x < nI 48) = False ∧ (nI 57 < x) = False := by
  unfold isDi at h
  rw [Bool.and_eq_true, Bool.not_eq_true', Bool.not_eq_true'] at h
  exact ⟨eq_false (of_decide_eq_false h.1), eq_false (of_decide_eq_false h.2)⟩
theorem isDi_f {x : Int32} (h : isDi x = false) : (x < nI 48) = True ∨ ((x < nI 48) = False ∧ (nI 57 < x) = True) := by
  unfold isDi at h
  by_cases h1 : x < 48
  · exact Or.inl (eq_true h1)
  · right
    rw [decide_eq_false h1] at h
    by_cases h2 : 57 < x
    · exact ⟨eq_false h1, eq_true h2⟩
    · rw [decide_eq_false h2] at h
      exact absurd h (by decide)
theorem isDi_n {x : Int32} (h : isDi x = true) : ∃ j : Nat, 48 ≤ j ∧ j ≤ 57 ∧ x = nI j := by
  obtain ⟨h1, h2⟩ := isDi_t h
  rcases rngN x 48 57 (by omega) (by omega) with ⟨j, j1, j2, j3, -⟩ | ⟨g, -⟩ | ⟨⟨-, g⟩, -⟩
  · exact ⟨j, j1, j2, j3⟩
  · rw [h1] at g; exact g.elim
  · rw [h2] at g; exact g.elim
theorem isLe_n {x : Int32} (h : isLe x = true) : ∃ j : Nat, 97 ≤ j ∧ j ≤ 122 ∧ x = nI j := by
  obtain ⟨h1, h2⟩ := isLe_t h
  rcases rngN x 97 122 (by omega) (by omega) with ⟨j, j1, j2, j3, -⟩ | ⟨g, -⟩ | ⟨⟨-, g⟩, -⟩
  · exact ⟨j, j1, j2, j3⟩
  · rw [h1] at g; exact g.elim
  · rw [h2] at g; exact g.elim
theorem blk_l {st : St} (hT : Top st) {b : BY} {n : Nat} (h1 : gI st 2 1 = nI n) (h2 : n ≤ 4000) (h3 : ∀ i, i < n → gI st 3 i = b i) (fu : Nat) : ∀ F i, i ≤ n → n - i < F → b_X9_next_36 fu F 2 (nI i) st = b_X9_next_62 fu 2 (nI (run (fun i => isBl (b i)) (n - i) i)) st := by
  intro F
  induction F with
  | zero => intro i a c; omega
  | succ F ih =>
    intro i hi hF
    show b_X9_next_36_b fu (b_X9_next_36 fu F) 2 (nI i) st = _
    rcases Nat.lt_or_ge i n with hn | hn
    · have g := h3 i hn
      have bc := bl_c (st := st) fu (b i)
      cases hb : isBl (b i)
      · rw [run_f (fun _ => hb)]
        rw [hb] at bc
        simp only [Bool.toNat_false] at bc
        clear ih h3
        simp (disch := first | decide | omega) [isb, ck_tt, NP, NF, NC, NB, NS, GS, kdC, tpC hT, b_X9_next_36_b, h1, g, bc]
      · rw [run_t (p := fun i => isBl (b i)) hn hb, ← ih (i + 1) (by omega) (by omega)]
        rw [hb] at bc
        simp only [Bool.toNat_true] at bc
        clear ih h3
        simp (disch := first | decide | omega) [isb, ck_tt, NP, NF, NC, NB, NS, GS, kdC, tpC hT, b_X9_next_36_b, h1, g, bc]
    · have e : i = n := by omega
      subst e
      rw [run_f (fun h => by omega)]
      clear ih h3
      simp (disch := first | decide | omega) [isb, ck_tt, NP, NF, NC, NB, NS, GS, kdC, tpC hT, b_X9_next_36_b, h1]
theorem wrd_l {st : St} (hT : Top st) {b : BY} {n : Nat} (h1 : gI st 2 1 = nI n) (h2 : n ≤ 4000) (h3 : ∀ i, i < n → gI st 3 i = b i) (fu : Nat) : ∀ F i, i ≤ n → n - i < F → b_X9_scanWord_5 fu F 2 (nI i) st = b_X9_scanWord_41 fu 2 (nI (run (fun i => isLe (b i)) (n - i) i)) st := by
  intro F
  induction F with
  | zero => intro i a c; omega
  | succ F ih =>
    intro i hi hF
    show b_X9_scanWord_5_b fu (b_X9_scanWord_5 fu F) 2 (nI i) st = _
    rcases Nat.lt_or_ge i n with hn | hn
    · have g := h3 i hn
      cases hb : isLe (b i)
      · rw [run_f (fun _ => hb)]
        clear ih h3
        rcases isLe_f hb with a | ⟨a, c⟩
        · simp (disch := first | decide | omega) [isb, ck_tt, NP, NF, NC, NB, NS, GS, kdC, tpC hT, b_X9_scanWord_5_b, h1, g, a]
        · simp (disch := first | decide | omega) [isb, ck_tt, NP, NF, NC, NB, NS, GS, kdC, tpC hT, b_X9_scanWord_5_b, h1, g, a, c]
      · rw [run_t (p := fun i => isLe (b i)) hn hb, ← ih (i + 1) (by omega) (by omega)]
        obtain ⟨a, c⟩ := isLe_t hb
        clear ih h3
        simp (disch := first | decide | omega) [isb, ck_tt, NP, NF, NC, NB, NS, GS, kdC, tpC hT, b_X9_scanWord_5_b, h1, g, a, c]
    · have e : i = n := by omega
      subst e
      rw [run_f (fun h => by omega)]
      clear ih h3
      simp (disch := first | decide | omega) [isb, ck_tt, NP, NF, NC, NB, NS, GS, kdC, tpC hT, b_X9_scanWord_5_b, h1]
theorem min5 {st : St} (fu : Nat) {v : Nat} (hv : v < 2147483648) : f_J9_min_7cf53 fu (nI 100000) (nI v) st = some (nI (if v ≤ 100000 then v else 100000), st) := by
  by_cases q : v ≤ 100000
  · rcases Nat.lt_or_ge v 100000 with q2 | q2
    · simp (disch := omega) [f_J9_min_7cf53, b_J9_min_7cf53_10, NF, NC, q]
    · have : v = 100000 := by omega
      subst this
      simp (disch := omega) [f_J9_min_7cf53, b_J9_min_7cf53_10, NF, NC]
  · simp (disch := omega) [f_J9_min_7cf53, b_J9_min_7cf53_10, NF, NC, q]
theorem nv_le (b : BY) (p : Nat) : ∀ d, nv b p d ≤ 100000
  | 0 => Nat.zero_le _
  | d + 1 => by
    show (if 10 * nv b p d + ix (b (p + d) - 48) ≤ 100000 then 10 * nv b p d + ix (b (p + d) - 48) else 100000) ≤ 100000
    by_cases h : 10 * nv b p d + ix (b (p + d) - 48) ≤ 100000
    · rw [if_pos h]; exact h
    · rw [if_neg h]; exact Nat.le_refl _
theorem nv_s {b : BY} {p d j : Nat} (h1 : 48 ≤ j) (h2 : j ≤ 57) (h : b (p + d) = nI j) : nv b p (d + 1) = if 10 * nv b p d + (j - 48) ≤ 100000 then 10 * nv b p d + (j - 48) else 100000 := by
  show (if 10 * nv b p d + ix (b (p + d) - 48) ≤ 100000 then 10 * nv b p d + ix (b (p + d) - 48) else 100000) = _
  have e : ix (b (p + d) - 48) = j - 48 := by
    rw [h, show (48 : Int32) = nI 48 from rfl, pk_sub h1]
    exact ix_nI (by omega)
  rw [e]
theorem num_l {st : St} (hT : Top st) {b : BY} {n : Nat} (h1 : gI st 2 1 = nI n) (h2 : n ≤ 4000) (h3 : ∀ i, i < n → gI st 3 i = b i) (fu : Nat) {p : Nat} : ∀ F i, p ≤ i → i ≤ n → n - i < F → b_X9_scanNumber_7 fu F 2 (nI i) (nI (nv b p (i - p))) st = b_X9_scanNumber_63 fu 2 (nI (run (fun i => isDi (b i)) (n - i) i)) (nI (nv b p (run (fun i => isDi (b i)) (n - i) i - p))) st := by
  intro F
  induction F with
  | zero => intro i a c; omega
  | succ F ih =>
    intro i hp hi hF
    show b_X9_scanNumber_7_b fu (b_X9_scanNumber_7 fu F) 2 (nI i) (nI (nv b p (i - p))) st = _
    rcases Nat.lt_or_ge i n with hn | hn
    · have g := h3 i hn
      cases hb : isDi (b i)
      · rw [run_f (fun _ => hb)]
        clear ih h3
        rcases isDi_f hb with a | ⟨a, c⟩
        · simp (disch := first | decide | omega) [isb, ck_tt, NP, NF, NC, NB, NS, GS, kdC, tpC hT, b_X9_scanNumber_7_b, h1, g, a]
        · simp (disch := first | decide | omega) [isb, ck_tt, NP, NF, NC, NB, NS, GS, kdC, tpC hT, b_X9_scanNumber_7_b, h1, g, a, c]
      · rw [run_t (p := fun i => isDi (b i)) hn hb, ← ih (i + 1) (by omega) (by omega) (by omega)]
        obtain ⟨a, c⟩ := isDi_t hb
        obtain ⟨j, j1, j2, j3⟩ := isDi_n hb
        have es := nv_s (b := b) (p := p) (d := i - p) j1 j2 (by rw [show p + (i - p) = i by omega]; exact j3)
        rw [show i + 1 - p = i - p + 1 by omega, es]
        have nl := nv_le b p (i - p)
        obtain ⟨v, hv⟩ : ∃ v, v = nv b p (i - p) := ⟨_, rfl⟩
        rw [← hv] at nl ⊢
        have mn := min5 (st := st) fu (v := 10 * v + (j - 48)) (by omega)
        have ea : v * 10 + j - 48 = 10 * v + (j - 48) := by omega
        rw [j3] at g a c
        clear ih h3 es hv
        simp (disch := first | decide | omega) [isb, ck_tt, NP, NF, NC, NB, NS, GS, kdC, tpC hT, b_X9_scanNumber_7_b, h1, g, a, c, ea, mn]
    · have e : i = n := by omega
      subst e
      rw [run_f (fun h => by omega)]
      clear ih h3
      simp (disch := first | decide | omega) [isb, ck_tt, NP, NF, NC, NB, NS, GS, kdC, tpC hT, b_X9_scanNumber_7_b, h1]
theorem idx_l {st : St} (fu : Nat) (x : Int32) : ∀ F i, i ≤ 18 → 18 - i < F → ((∃ k, i ≤ k ∧ k < 18 ∧ (sB.getD 0 []).getD k 0 = x) → ∃ j, b_J1_indexOfChar_4cfef_7 fu F 0 (nI 18) x (nI i) st = some (nI j, st) ∧ j < 18) ∧ ((¬ ∃ k, i ≤ k ∧ k < 18 ∧ (sB.getD 0 []).getD k 0 = x) → b_J1_indexOfChar_4cfef_7 fu F 0 (nI 18) x (nI i) st = some (-nI 1, st)) := by
  intro F
  induction F with
  | zero => intro i a c; omega
  | succ F ih =>
    intro i hi hF
    have un : b_J1_indexOfChar_4cfef_7 fu (F + 1) 0 (nI 18) x (nI i) st = b_J1_indexOfChar_4cfef_7_b fu (b_J1_indexOfChar_4cfef_7 fu F) 0 (nI 18) x (nI i) st := rfl
    rcases Nat.lt_or_ge i 18 with hn | hn
    · have len : (sB.getD 0 []).length = 18 := rfl
      have sl : 0 < sB.length := by decide
      have cnd1 : 0 < sB.length ∧ inb (nI i) (sB.getD 0 []).length := ⟨sl, by rw [len]; simp (disch := first | decide | omega) [NF, NC, NB, inb]⟩
      have ic : ix (nI i) = i := ix_nI (by omega)
      have lt : ¬ nI 18 ≤ nI i := fun q => by have := (nI_leI (a := 18) (b := i) (by omega) (by omega)).mp q; omega
      obtain ⟨a, c⟩ := ih (i + 1) (by omega) (by omega)
      by_cases he : (sB.getD 0 []).getD i 0 = x
      · refine ⟨fun _ => ⟨i, ?_, hn⟩, fun h => absurd ⟨i, Nat.le_refl _, hn, he⟩ h⟩
        rw [un]
        unfold b_J1_indexOfChar_4cfef_7_b
        rw [if_neg lt, ck_t cnd1, ic, if_pos he]
      · have st1 : b_J1_indexOfChar_4cfef_7 fu (F + 1) 0 (nI 18) x (nI i) st = b_J1_indexOfChar_4cfef_7 fu F 0 (nI 18) x (nI (i + 1)) st := by
          rw [un]
          unfold b_J1_indexOfChar_4cfef_7_b
          rw [if_neg lt, ck_t cnd1, ic, if_neg he, bd_e, show nI i + 1 = nI (i + 1) from nI_add i 1]
        rw [st1]
        refine ⟨fun ⟨k, k1, k2, k3⟩ => a ⟨k, ?_, k2, k3⟩, fun h => c (fun ⟨k, k1, k2, k3⟩ => h ⟨k, by omega, k2, k3⟩)⟩
        rcases Nat.eq_or_lt_of_le k1 with e | e
        · subst e; exact absurd k3 he
        · exact e
    · refine ⟨fun ⟨k, k1, k2, k3⟩ => by omega, fun _ => ?_⟩
      rw [un]
      unfold b_J1_indexOfChar_4cfef_7_b
      rw [if_pos (nI_le (by omega) (by omega))]
      rfl
theorem sg_at : ∀ k, k < 18 → (sB.getD 0 []).getD k 0 = nI (sgL.getD k 0) := by decide +kernel
theorem sg_mem (x : Int32) : (∃ k, 0 ≤ k ∧ k < 18 ∧ (sB.getD 0 []).getD k 0 = x) ↔ sgC x ≠ 3 := by
  constructor
  · rintro ⟨k, -, hk, he⟩ h
    rw [sg_at k hk] at he
    have hm : sgL.getD k 0 ∈ sgL := by
      have : ∀ k, k < 18 → sgL.getD k 0 ∈ sgL := by decide
      exact this k hk
    unfold sgC at h
    cases hf : sgL.find? (fun k => decide (x = nI k)) with
    | none =>
      have := List.find?_eq_none.mp hf _ hm
      rw [← he] at this
      simp at this
    | some j =>
      rw [hf] at h
      have h1 := List.mem_of_find?_eq_some hf
      have := (sgL_b j h1).1
      have h3 : j = 3 := h
      omega
  · intro h
    rcases sgC_v x with e | ⟨h1, h2⟩
    · exact absurd e h
    · have : ∀ j, j ∈ sgL → ∃ k, k < 18 ∧ sgL.getD k 0 = j := by decide
      obtain ⟨k, hk, e⟩ := this _ h1
      exact ⟨k, Nat.zero_le _, hk, by rw [sg_at k hk, e, ← h2]⟩
/-- a byte above 0: is it a sign -/
theorem idx_c {st : St} {fu : Nat} (hf : 20 ≤ fu) {j : Nat} (h1 : 1 ≤ j) (h2 : j ≤ 127) : (sgC (nI j) ≠ 3 → ∃ i, f_J0_indexOf_0f7a4 fu 0 (nI j) st = some (nI i, st) ∧ i < 18) ∧ (sgC (nI j) = 3 → f_J0_indexOf_0f7a4 fu 0 (nI j) st = some (-nI 1, st)) := by
  obtain ⟨a, c⟩ := idx_l (st := st) fu (nI j) fu 0 (by omega) (by omega)
  rw [sg_mem] at a c
  have e8 : (nI j).toInt8.toInt32 = nI j := by
    have : ∀ j, j < 128 → (nI j).toInt8.toInt32 = nI j := by decide +kernel
    exact this j (by omega)
  have base : f_J0_indexOf_0f7a4 fu 0 (nI j) st = ca (b_J1_indexOfChar_4cfef_7 fu fu 0 (nI 18) (nI j) (nI 0) st) (fun r s => some (r, s)) := by
    have len : (sB.getD 0 []).length = 18 := rfl
    have sl : (0 < sB.length) = True := eq_true (by decide)
    have l18 : f_J0_length_8abf5 fu 0 st = some (nI 18, st) := by
      unfold f_J0_length_8abf5 f_J0_coder_7d493 b_J0_coder_7d493_14
      rw [ck_t (by decide), ck_t (by decide), ck_t (by decide), if_neg (by decide), ck_t (by decide), ck_t (by decide +kernel), ca_s, len]
      rfl
    have lat : f_J0_isLatin1_aae02 fu 0 st = some (1, st) := by
      unfold f_J0_isLatin1_aae02 b_J0_isLatin1_aae02_18
      rw [if_neg (by decide), ck_t (by decide), if_pos rfl, ck_t (by decide)]
    have enc : f_J1_canEncode_9a6ad fu (nI j) st = some (1, st) := by
      unfold f_J1_canEncode_9a6ad b_J1_canEncode_9a6ad_16
      rw [if_neg (show ¬ nI j < 0 from fun q => by have := (nI_ltI (a := j) (b := 0) (by omega) (by omega)).mp q; omega), if_neg (show ¬ 255 < nI j from fun q => by have := (nI_ltI (a := 255) (b := j) (by omega) (by omega)).mp q; omega), ck_t (by decide)]
    have mx : f_J9_max_7cf53 fu 0 0 st = some (0, st) := by
      unfold f_J9_max_7cf53 b_J9_max_7cf53_10
      simp
    have mi : f_J9_min_7cf53 fu (nI 18) (nI 18) st = some (nI 18, st) := by
      unfold f_J9_min_7cf53 b_J9_min_7cf53_10
      simp
    unfold f_J0_indexOf_0f7a4 f_J0_indexOf_7cf53 b_J0_indexOf_7cf53_36 f_J1_indexOf_4cfef f_J1_indexOfChar_4cfef
    rw [ck_t (by decide), ck_t (by decide), lat, ca_s, if_neg (by decide), ck_t (by decide), ck_t (by decide), l18, ca_s, enc, ca_s, if_neg (by decide), mx, ca_s, ck_t (by decide), len, show Int32.ofNat 18 = nI 18 from rfl, mi, ca_s, if_pos (by decide), e8]
    show ca (ca (ca (b_J1_indexOfChar_4cfef_7 fu fu 0 (nI 18) (nI j) (nI 0) st) _) _) _ = _
    cases b_J1_indexOfChar_4cfef_7 fu fu 0 (nI 18) (nI j) (nI 0) st with
    | none => rfl
    | some p => rfl
  refine ⟨fun h => ?_, fun h => ?_⟩
  · obtain ⟨i, e, hi⟩ := a h
    exact ⟨i, by rw [base, e]; rfl, hi⟩
  · rw [base, c (fun q => q h)]
    rfl
