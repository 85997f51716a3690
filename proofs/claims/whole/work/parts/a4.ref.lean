/-! PURE: the reference's tokens -/
theorem lN_or (a b : Nat) : lN a ||| lN b = lN (a ||| b) := by
  apply Int64.toBitVec_inj.mp
  rw [Int64.toBitVec_or]
  apply BitVec.eq_of_toNat_eq
  have e : ∀ n, (lN n).toBitVec.toNat = n % 2 ^ 64 := fun n => by
    show (BitVec.ofNat 64 n).toNat = _
    exact BitVec.toNat_ofNat n 64
  rw [BitVec.toNat_or, e, e, e, Nat.or_mod_two_pow]
theorem lN_shl (a : Nat) {s : Nat} (hs : s < 64) : lN a <<< lN s = lN (a * 2 ^ s) := by
  have h1 : ∀ s, s < 64 → ((lN s).toBitVec.smod 64).toNat = s := by decide +kernel
  apply Int64.toBitVec_inj.mp
  rw [Int64.toBitVec_shiftLeft]
  apply BitVec.eq_of_toNat_eq
  have e : ∀ n, (lN n).toBitVec.toNat = n % 2 ^ 64 := fun n => by
    show (BitVec.ofNat 64 n).toNat = _
    exact BitVec.toNat_ofNat n 64
  rw [BitVec.shiftLeft_eq', BitVec.toNat_shiftLeft, h1 s hs, e, e, Nat.shiftLeft_eq, Nat.mod_mul_mod]
def wL (b : BY) (p : Nat) : Nat → Int64
  | 0 => 0
  | d + 1 => (wL b p d <<< ((5 : Int32).toInt64 &&& 63)) ||| ((b (p + d) - 96).toInt64)
theorem or32 (a c : Nat) (hc : c < 32) : a * 32 ||| c = 32 * a + c := by
  have := Nat.shiftLeft_add_eq_or_of_lt (b := c) (i := 5) (by simpa using hc) a
  rw [Nat.shiftLeft_eq] at this
  rw [show a * 32 = a * 2 ^ 5 from rfl, ← this]
  omega
theorem wL_v {b : BY} {p : Nat} : ∀ d, d ≤ 12 → (∀ i, i < d → isLe (b (p + i)) = true) → wL b p d = lN (wv b p d) ∧ wv b p d < 32 ^ d
  | 0, _, _ => ⟨rfl, Nat.zero_lt_one⟩
  | d + 1, h, hl => by
    obtain ⟨e1, e2⟩ := wL_v d (by omega) (fun i hi => hl i (by omega))
    obtain ⟨j, j1, j2, j3⟩ := isLe_n (hl d (by omega))
    have ej : b (p + d) - 96 = nI (j - 96) := by rw [j3, show (96 : Int32) = nI 96 from rfl, pk_sub (by omega)]
    have ew : wv b p (d + 1) = 32 * wv b p d + (j - 96) := by
      show 32 * wv b p d + ix (b (p + d) - 96) = _
      rw [ej]
      congr 1
      exact ix_nI (by omega)
    have sh : ((5 : Int32).toInt64 &&& 63) = lN 5 := by decide +kernel
    refine ⟨?_, ?_⟩
    · show (wL b p d <<< ((5 : Int32).toInt64 &&& 63)) ||| ((b (p + d) - 96).toInt64) = _
      rw [ej, sh, e1, lN_shl _ (by omega), nI_l (by omega), lN_or, ew, show (2 : Nat) ^ 5 = 32 from rfl, or32 _ _ (by omega)]
    · rw [ew, Nat.pow_succ]
      omega
theorem let_r {st : St} (fu : Nat) (x : Int32) : f_X12_isLetter fu x st = some (nI (isLe x).toNat, st) := by
  unfold f_X12_isLetter b_X12_isLetter_16 b_X12_isLetter_17
  cases h : isLe x
  · rcases isLe_f h with a | ⟨a, c⟩
    · rw [if_pos (show x < 97 from a ▸ trivial)]; rfl
    · rw [if_neg (show ¬ x < 97 from fun q => by rw [show (x < 97) = False from a] at q; exact q), if_pos (show 122 < x from c ▸ trivial)]; rfl
  · obtain ⟨a, c⟩ := isLe_t h
    rw [if_neg (show ¬ x < 97 from fun q => by rw [show (x < 97) = False from a] at q; exact q), if_neg (show ¬ 122 < x from fun q => by rw [show (122 < x) = False from c] at q; exact q)]; rfl
theorem dig_r {st : St} (fu : Nat) (x : Int32) : f_X12_isDigit fu x st = some (nI (isDi x).toNat, st) := by
  unfold f_X12_isDigit b_X12_isDigit_16 b_X12_isDigit_17
  cases h : isDi x
  · rcases isDi_f h with a | ⟨a, c⟩
    · rw [if_pos (show x < 48 from a ▸ trivial)]; rfl
    · rw [if_neg (show ¬ x < 48 from fun q => by rw [show (x < 48) = False from a] at q; exact q), if_pos (show 57 < x from c ▸ trivial)]; rfl
  · obtain ⟨a, c⟩ := isDi_t h
    rw [if_neg (show ¬ x < 48 from fun q => by rw [show (x < 48) = False from a] at q; exact q), if_neg (show ¬ 57 < x from fun q => by rw [show (57 < x) = False from c] at q; exact q)]; rfl
theorem sign_r {st : St} (fu : Nat) (x : Int32) : f_X12_isSign fu x st = some (nI (if sgC x = 3 then 0 else 1), st) := by
  have e1 : b_X12_isSign_108 fu st = some (nI 1, st) := rfl
  have e0 : b_X12_isSign_113 fu 0 st = some (nI 0, st) := rfl
  by_cases h : ∃ k, k ∈ sgL ∧ x = nI k
  · obtain ⟨k, hk, rfl⟩ := h
    have hs : sgC (nI k) ≠ 3 := by
      have : ∀ k, k ∈ sgL → sgC (nI k) ≠ 3 := by decide +kernel
      exact this k hk
    rw [if_neg hs]
    unfold f_X12_isSign
    rw [e1, e0]
    simp only [sgL, List.mem_cons, List.not_mem_nil, or_false] at hk
    rcases hk with rfl | rfl | rfl | rfl | rfl | rfl | rfl | rfl | rfl | rfl | rfl | rfl | rfl | rfl | rfl | rfl | rfl | rfl <;> rfl
  · have hs : sgC x = 3 := by
      rcases sgC_v x with e | ⟨a, c⟩
      · exact e
      · exact absurd ⟨_, a, c⟩ h
    rw [if_pos hs]
    have n : ∀ k, k ∈ sgL → ¬ x = nI k := fun k hk e => h ⟨k, hk, e⟩
    have m : ∀ (k : Nat) (c : Int32) (A B : Option (Int32 × St)), c = nI k → k ∈ sgL → (if x = c then A else B) = B := fun k c A B hc hk => if_neg (by rw [hc]; exact n k hk)
    unfold f_X12_isSign
    rw [e1, e0, m 123 123 _ _ rfl (by decide), m 125 125 _ _ rfl (by decide), m 40 40 _ _ rfl (by decide), m 41 41 _ _ rfl (by decide), m 59 59 _ _ rfl (by decide), m 44 44 _ _ rfl (by decide), m 46 46 _ _ rfl (by decide), m 45 45 _ _ rfl (by decide), m 58 58 _ _ rfl (by decide), m 64 64 _ _ rfl (by decide), m 47 47 _ _ rfl (by decide), m 124 124 _ _ rfl (by decide), m 38 38 _ _ rfl (by decide), m 33 33 _ _ rfl (by decide), m 60 60 _ _ rfl (by decide), m 62 62 _ _ rfl (by decide), m 43 43 _ _ rfl (by decide), m 37 37 _ _ rfl (by decide)]
theorem sL_sL (st : St) (o k : Nat) (a b : Int64) : sL (sL st o k a) o k b = sL st o k b := by
  unfold sL u2
  simp only
  have : (fun x y => if x = o ∧ y = k then b else if x = o ∧ y = k then a else st.2.1 x y) = (fun x y => if x = o ∧ y = k then b else st.2.1 x y) := by
    funext x y
    by_cases h : x = o ∧ y = k
    · rw [if_pos h, if_pos h]
    · rw [if_neg h, if_neg h, if_neg h]
  rw [this]
abbrev K4 : Type := Nat → Int32 → Int32 → Int32 → St → Option St
theorem rd_let {st : St} (hT : Top st) {b : BY} {n : Nat} (h2 : n ≤ 4000) (h3 : ∀ i, i < n → gI st 154 i = b i) (fu : Nat) (K : K4) {p t : Nat} (ht : t ≤ 4000) : ∀ F i, p ≤ i → i ≤ n → n - i < F → b_X12_read_86 fu K F 153 (nI n) (nI t) (nI i) (nI p) (sL st 156 t (wL b p (i - p))) = b_X12_read_134 fu K 153 (nI n) (nI t) (nI (run (fun i => isLe (b i)) (n - i) i)) (nI p) (sL st 156 t (wL b p (run (fun i => isLe (b i)) (n - i) i - p))) := by
  intro F
  induction F with
  | zero => intro i a c; omega
  | succ F ih =>
    intro i hp hi hF
    show b_X12_read_86_b fu K (b_X12_read_86 fu K F) 153 (nI n) (nI t) (nI i) (nI p) (sL st 156 t (wL b p (i - p))) = _
    rcases Nat.lt_or_ge i n with hn | hn
    · have g := h3 i hn
      have lr := let_r (st := sL st 156 t (wL b p (i - p))) fu (b i)
      cases hb : isLe (b i)
      · rw [run_f (fun _ => hb)]
        rw [hb] at lr
        simp only [Bool.toNat_false] at lr
        clear ih h3
        simp (disch := first | decide | omega) [isb, ck_tt, NP, NF, NC, NB, NS, GS, kdR, tpR hT, b_X12_read_86_b, g, lr]
      · rw [run_t (p := fun i => isLe (b i)) hn hb, ← ih (i + 1) (by omega) (by omega) (by omega)]
        rw [hb] at lr
        simp only [Bool.toNat_true] at lr
        rw [show i + 1 - p = i - p + 1 by omega]
        have es : wL b p (i - p + 1) = (wL b p (i - p) <<< ((5 : Int32).toInt64 &&& 63)) ||| ((b i - 96).toInt64) := by
          show (wL b p (i - p) <<< ((5 : Int32).toInt64 &&& 63)) ||| ((b (p + (i - p)) - 96).toInt64) = _
          rw [show p + (i - p) = i by omega]
        rw [es]
        obtain ⟨s, hs⟩ : ∃ s, s = sL st 156 t (wL b p (i - p)) := ⟨_, rfl⟩
        have hss : ∀ x, sL st 156 t x = sL s 156 t x := fun x => by rw [hs, sL_sL]
        have gs : gL s 156 t = wL b p (i - p) := by rw [hs, gL_sL]; simp
        have g154 : gI s 154 i = b i := by rw [hs]; exact g
        have hT : Top s := hT.r (by rw [hs]; rfl)
        rw [← hs, hss ((wL b p (i - p) <<< ((5 : Int32).toInt64 &&& 63)) ||| ((b i - 96).toInt64))]
        rw [← hs] at lr
        obtain ⟨v, hv⟩ : ∃ v, v = wL b p (i - p) := ⟨_, rfl⟩
        rw [← hv] at gs ⊢
        clear ih h3 hs es hv g hss
        simp (disch := first | decide | omega) [isb, ck_tt, NP, NF, NC, NB, NS, GS, kdR, tpR hT, b_X12_read_86_b, g154, lr, gs]
    · have e : i = n := by omega
      subst e
      rw [run_f (fun h => by omega)]
      clear ih h3
      simp (disch := first | decide | omega) [isb, ck_tt, NP, NF, NC, NB, NS, GS, kdR, tpR hT, b_X12_read_86_b]
theorem rd_dig {st : St} (hT : Top st) {b : BY} {n : Nat} (h2 : n ≤ 4000) (h3 : ∀ i, i < n → gI st 154 i = b i) (fu : Nat) (K : K4) {p t : Nat} (ht : t ≤ 4000) : ∀ F i, p ≤ i → i ≤ n → n - i < F → b_X12_read_165 fu K F 153 (nI n) (nI t) (nI i) (sL st 156 t (lN (nv b p (i - p)))) = b_X12_read_247 fu K 153 (nI n) (nI t) (nI (run (fun i => isDi (b i)) (n - i) i)) (sL st 156 t (lN (nv b p (run (fun i => isDi (b i)) (n - i) i - p)))) := by
  intro F
  induction F with
  | zero => intro i a c; omega
  | succ F ih =>
    intro i hp hi hF
    show b_X12_read_165_b fu K (b_X12_read_165 fu K F) 153 (nI n) (nI t) (nI i) (sL st 156 t (lN (nv b p (i - p)))) = _
    rcases Nat.lt_or_ge i n with hn | hn
    · have g := h3 i hn
      have lr := dig_r (st := sL st 156 t (lN (nv b p (i - p)))) fu (b i)
      cases hb : isDi (b i)
      · rw [run_f (fun _ => hb)]
        rw [hb] at lr
        simp only [Bool.toNat_false] at lr
        clear ih h3
        simp (disch := first | decide | omega) [isb, ck_tt, NP, NF, NC, NB, NS, GS, kdR, tpR hT, b_X12_read_165_b, g, lr]
      · rw [run_t (p := fun i => isDi (b i)) hn hb, ← ih (i + 1) (by omega) (by omega) (by omega)]
        obtain ⟨j, j1, j2, j3⟩ := isDi_n hb
        rw [hb, j3] at lr
        rw [j3] at g
        simp only [Bool.toNat_true] at lr
        rw [show i + 1 - p = i - p + 1 by omega]
        have es := nv_s (b := b) (p := p) (d := i - p) j1 j2 (by rw [show p + (i - p) = i by omega]; exact j3)
        rw [es]
        have nl := nv_le b p (i - p)
        obtain ⟨v, hv⟩ : ∃ v, v = nv b p (i - p) := ⟨_, rfl⟩
        rw [← hv] at nl lr ⊢
        obtain ⟨s, hs⟩ : ∃ s, s = sL st 156 t (lN v) := ⟨_, rfl⟩
        have hss : ∀ x, sL st 156 t x = sL s 156 t x := fun x => by rw [hs, sL_sL]
        have gs : gL s 156 t = lN v := by rw [hs, gL_sL]; simp
        have g154 : gI s 154 i = nI j := by rw [hs]; exact g
        have hT : Top s := hT.r (by rw [hs]; rfl)
        rw [← hs] at lr ⊢
        clear ih h3 hs es hv g
        have e1 : v * 10 + j - 48 = 10 * v + (j - 48) := by omega
        have gs2 : ∀ x, gL (sL s 156 t x) 156 t = x := fun x => by rw [gL_sL]; simp
        by_cases q : 10 * v + (j - 48) ≤ 100000
        · rw [if_pos q, hss]
          simp (disch := first | decide | omega) [isb, ck_tt, NP, NF, NC, NB, NS, GS, kdR, tpR hT, b_X12_read_165_b, b_X12_read_240, g154, lr, gs, LF, LC, e1, gs2, q, sL_sL]
        · rw [if_neg q, hss]
          simp (disch := first | decide | omega) [isb, ck_tt, NP, NF, NC, NB, NS, GS, kdR, tpR hT, b_X12_read_165_b, b_X12_read_240, g154, lr, gs, LF, LC, e1, gs2, q, sL_sL]
    · have e : i = n := by omega
      subst e
      rw [run_f (fun h => by omega)]
      clear ih h3
      simp (disch := first | decide | omega) [isb, ck_tt, NP, NF, NC, NB, NS, GS, kdR, tpR hT, b_X12_read_165_b]
