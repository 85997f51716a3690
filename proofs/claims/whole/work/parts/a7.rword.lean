/-! PURE: the reference's words and numbers -/
def wvf (f : Nat → Nat) : Nat → Nat
  | 0 => 0
  | d + 1 => 32 * wvf f d + f d
theorem wv_f (b : BY) (p : Nat) : ∀ d, wv b p d = wvf (fun i => ix (b (p + i) - 96)) d
  | 0 => rfl
  | d + 1 => by
    show 32 * wv b p d + ix (b (p + d) - 96) = 32 * wvf _ d + ix (b (p + d) - 96)
    rw [wv_f b p d]
theorem wvf_b {f : Nat → Nat} : ∀ d, (∀ i, i < d → f i < 32) → wvf f d < 32 ^ d
  | 0, _ => Nat.zero_lt_one
  | d + 1, h => by
    show 32 * wvf f d + f d < 32 ^ (d + 1)
    have := wvf_b d (fun i hi => h i (by omega))
    have := h d (by omega)
    rw [Nat.pow_succ]
    omega
theorem wvf_i {f g : Nat → Nat} : ∀ d e, (∀ i, i < d → 1 ≤ f i ∧ f i < 32) → (∀ i, i < e → 1 ≤ g i ∧ g i < 32) → wvf f d = wvf g e → d = e ∧ ∀ i, i < d → f i = g i
  | 0, 0, _, _, _ => ⟨rfl, fun i hi => by omega⟩
  | 0, e + 1, _, hg, h => by
    have h' : 0 = 32 * wvf g e + g e := h
    have := hg e (by omega)
    omega
  | d + 1, 0, hf, _, h => by
    have h' : 32 * wvf f d + f d = 0 := h
    have := hf d (by omega)
    omega
  | d + 1, e + 1, hf, hg, h => by
    have h' : 32 * wvf f d + f d = 32 * wvf g e + g e := h
    have a := hf d (by omega)
    have c := hg e (by omega)
    obtain ⟨r1, r2⟩ := wvf_i d e (fun i hi => hf i (by omega)) (fun i hi => hg i (by omega)) (by omega)
    subst r1
    refine ⟨rfl, fun i hi => ?_⟩
    rcases Nat.lt_or_ge i d with q | q
    · exact r2 i q
    · rw [show i = d by omega]; omega
theorem wvf_c {f g : Nat → Nat} : ∀ d, (∀ i, i < d → f i = g i) → wvf f d = wvf g d
  | 0, _ => rfl
  | d + 1, h => by
    show 32 * wvf f d + f d = 32 * wvf g d + g d
    rw [wvf_c d (fun i hi => h i (by omega)), h d (by omega)]
def cW (w : Nat) : Nat := wvf (fun i => ix (CH w i - 96)) (LN w)
theorem CH_n {w i : Nat} (hw : 1 ≤ w) (hw2 : w < 24) (hi : i < LN w) : ∃ j : Nat, 97 ≤ j ∧ j ≤ 122 ∧ CH w i = nI j := by
  have h : ∀ w, w < 24 → 1 ≤ w → ∀ i, i < 12 → i < LN w → isLe (CH w i) = true := by decide +kernel
  have h2 : ∀ w, w < 24 → 1 ≤ w → LN w ≤ 12 := by decide +kernel
  have := h2 w hw2 hw
  exact isLe_n (h w hw2 hw i (by omega) hi)
theorem LN_12 {w : Nat} (hw : 1 ≤ w) (hw2 : w < 24) : LN w ≤ 12 ∧ 1 ≤ LN w := by
  have h2 : ∀ w, w < 24 → 1 ≤ w → LN w ≤ 12 ∧ 1 ≤ LN w := by decide +kernel
  exact h2 w hw2 hw
theorem word_r {st : St} {fu : Nat} (hf : 100 ≤ fu) {w : Nat} (hw : 1 ≤ w) (hw2 : w < 24) : f_X12_word fu w st = some (lN (cW w), st) := by
  have sl := str_len (st := st) fu hw2
  have wl : w < sB.length := hw2
  have l12 := LN_12 hw hw2
  have lp : ∀ F i, i ≤ LN w → LN w - i < F → b_X12_word_4 fu F w (lN (wvf (fun i => ix (CH w i - 96)) i)) (nI i) st = some (lN (cW w), st) := by
    intro F
    induction F with
    | zero => intro i a c; omega
    | succ F ih =>
      intro i hi hF
      show b_X12_word_4_b fu (b_X12_word_4 fu F) w (lN (wvf (fun i => ix (CH w i - 96)) i)) (nI i) st = _
      unfold b_X12_word_4_b
      rw [ck_t wl, sl, ca_s]
      rcases Nat.lt_or_ge i (LN w) with q | q
      · obtain ⟨j, j1, j2, j3⟩ := CH_n hw hw2 q
        have ej : CH w i - 96 = nI (j - 96) := by rw [j3, show (96 : Int32) = nI 96 from rfl, pk_sub (by omega)]
        have sh : ((5 : Int32).toInt64 &&& 63) = lN 5 := by decide +kernel
        rw [if_neg (show ¬ nI (LN w) ≤ nI i from fun x => by have := (nI_leI (a := LN w) (b := i) (by omega) (by omega)).mp x; omega), ck_t wl, str_at fu hw2 q, ca_s, bd_e, bd_e, ej, sh, lN_shl _ (by omega), nI_l (by omega), lN_or, show (2 : Nat) ^ 5 = 32 from rfl, or32 _ _ (by omega), show nI i + 1 = nI (i + 1) from nI_add i 1]
        have := ih (i + 1) (by omega) (by omega)
        rw [← this]
        congr 2
        show _ = 32 * wvf (fun i => ix (CH w i - 96)) i + ix (CH w i - 96)
        rw [ej]
        congr 1
        exact (ix_nI (by omega)).symm
      · have e : i = LN w := by omega
        subst e
        rw [if_pos (nI_le (Nat.le_refl _) (by omega))]
        rfl
  exact lp fu 0 (Nat.zero_le _) (by omega)
/-- the codes are alike just where the words are -/
theorem cW_iff {b : BY} {n t w : Nat} (hw : 1 ≤ w) (hw2 : w < 24) (hs : so b n t = 1) : (lN (wv b (pl b n t) (af b n (t + 1) - pl b n t)) = lN (cW w)) ↔ isW b n t w := by
  have pn : pl b n t < n := by
    apply Classical.byContradiction
    intro hn
    rw [so, if_neg hn] at hs
    exact absurd hs (by decide)
  have hl : isLe (b (pl b n t)) = true ∧ tE b n (pl b n t) - pl b n t ≤ 12 := by
    unfold so at hs
    rw [if_pos pn] at hs
    unfold tS at hs
    by_cases l : isLe (b (pl b n t)) = true
    · rw [if_pos l] at hs
      by_cases l2 : tE b n (pl b n t) - pl b n t ≤ 12
      · exact ⟨l, l2⟩
      · rw [if_neg l2] at hs; omega
    · rw [if_neg l] at hs
      exfalso
      by_cases d : isDi (b (pl b n t)) = true
      · rw [if_pos d] at hs
        by_cases l2 : 99999 < nv b (pl b n t) (tE b n (pl b n t) - pl b n t) ∨ (tE b n (pl b n t) < n ∧ isLe (b (tE b n (pl b n t))) = true)
        · rw [if_pos l2] at hs; omega
        · rw [if_neg l2] at hs; omega
      · rw [if_neg d] at hs
        rcases sgC_v (b (pl b n t)) with e | ⟨e1, -⟩
        · omega
        · have := (sgL_b _ e1).1; omega
  have ea : af b n (t + 1) = tE b n (pl b n t) := by rw [af_s, if_pos pn]
  rw [ea]
  have eE : tE b n (pl b n t) = run (fun i => isLe (b i)) (n - pl b n t) (pl b n t) := by unfold tE; rw [hl.1]; rfl
  have al : ∀ i, i < tE b n (pl b n t) - pl b n t → isLe (b (pl b n t + i)) = true := fun i hi => run_all (fun i => isLe (b i)) (n - pl b n t) (pl b n t) (pl b n t + i) (by omega) (by rw [← eE]; omega)
  have f1 : ∀ i, i < tE b n (pl b n t) - pl b n t → 1 ≤ ix (b (pl b n t + i) - 96) ∧ ix (b (pl b n t + i) - 96) < 32 := fun i hi => by
    obtain ⟨j, j1, j2, j3⟩ := isLe_n (al i hi)
    have ej : ix (b (pl b n t + i) - 96) = j - 96 := by
      rw [j3, show (96 : Int32) = nI 96 from rfl, pk_sub (by omega)]
      exact ix_nI (by omega)
    rw [ej]; omega
  have f2 : ∀ i, i < LN w → 1 ≤ ix (CH w i - 96) ∧ ix (CH w i - 96) < 32 := fun i hi => by
    obtain ⟨j, j1, j2, j3⟩ := CH_n hw hw2 hi
    have ej : ix (CH w i - 96) = j - 96 := by
      rw [j3, show (96 : Int32) = nI 96 from rfl, pk_sub (by omega)]
      exact ix_nI (by omega)
    rw [ej]; omega
  have l12 := LN_12 hw hw2
  have p12 : ∀ d, d ≤ 12 → 32 ^ d ≤ 32 ^ 12 := fun d hd => Nat.pow_le_pow_right (by omega) hd
  have e12 : 32 ^ 12 < 9223372036854775808 := by decide
  rw [wv_f]
  have b1 := wvf_b (f := fun i => ix (b (pl b n t + i) - 96)) (tE b n (pl b n t) - pl b n t) (fun i hi => (f1 i hi).2)
  have b2 := wvf_b (f := fun i => ix (CH w i - 96)) (LN w) (fun i hi => (f2 i hi).2)
  have q1 := p12 _ hl.2
  have q2 := p12 _ l12.1
  unfold cW
  rw [leq (by omega)]
  constructor
  · intro h
    obtain ⟨r1, r2⟩ := wvf_i _ _ f1 f2 h
    refine ⟨hs, by rw [ea]; exact r1, fun i hi => ?_⟩
    have hi' : i < tE b n (pl b n t) - pl b n t := by omega
    have := r2 i hi'
    obtain ⟨j, j1, j2, j3⟩ := isLe_n (al i hi')
    obtain ⟨j', k1, k2, k3⟩ := CH_n hw hw2 hi
    have this' : ix (b (pl b n t + i) - 96) = ix (CH w i - 96) := this
    rw [j3, k3, show (96 : Int32) = nI 96 from rfl, pk_sub (by omega), pk_sub (by omega), show ix (nI (j - 96)) = j - 96 from ix_nI (by omega), show ix (nI (j' - 96)) = j' - 96 from ix_nI (by omega)] at this'
    rw [j3, k3]
    congr 1
    omega
  · rintro ⟨-, r1, r2⟩
    rw [ea] at r1
    rw [r1]
    exact wvf_c _ (fun i hi => by rw [r2 i hi])
theorem isW_r {st : St} (hT : Top st) {b : BY} {n T t f p s : Nat} (h : RfA b n T t f p s st) {fu : Nat} (hf : 100 ≤ fu) {w : Nat} (hw : 1 ≤ w) (hw2 : w < 24) : ((s = 0 ∧ isW b n t w) → f_X12_isWord fu 153 w st = some (nI 1, st)) ∧ (¬ (s = 0 ∧ isW b n t w) → f_X12_isWord fu 153 w st = some (nI 0, st)) := by
  obtain ⟨hX, a5, a5', a6, a6', a7, a7', a8, a8'⟩ := h
  obtain ⟨e1, -, e3⟩ := hX.sot a5'
  have hn := hX.2.2.2.2.2
  have hTn := hX.2.2.2.2.1
  have sb := so_b b n t
  have wr := word_r (st := st) hf hw hw2
  by_cases c : s = 0
  · subst c
    by_cases s1 : so b n t = 1
    · have tT : t < T := by
        have : t ≠ T := fun e => by have := e3.mpr e; omega
        omega
      have g := (hX.1 t tT).2.2.2.1 s1
      have ci := cW_iff (b := b) (n := n) (t := t) hw hw2 s1
      rw [s1] at e1
      obtain ⟨x, hx⟩ : ∃ x, x = lN (wv b (pl b n t) (af b n (t + 1) - pl b n t)) := ⟨_, rfl⟩
      obtain ⟨y, hy⟩ : ∃ y, y = lN (cW w) := ⟨_, rfl⟩
      rw [← hx] at g ci
      rw [← hy] at wr ci
      clear hX e3 hx hy
      by_cases e : x = y
      · refine ⟨fun _ => ?_, fun h => absurd ⟨rfl, ci.mp e⟩ h⟩
        subst e
        have c0 : lg_cmp x x = nI 0 := lg_cmp_rf x
        clear ci
        simp (disch := first | decide | omega) [isb, ck_tt, NP, NF, NC, NB, NS, GS, kdR, tpR hT, f_X12_isWord, b_X12_isWord_42, a8, a5, e1, g, wr, c0]
      · refine ⟨fun h => absurd (ci.mpr h.2) e, fun _ => ?_⟩
        have c0 : ¬ lg_cmp x y = nI 0 := fun q => e ((lg_cmp_eq _ _).mp q)
        clear ci
        simp (disch := first | decide | omega) [isb, ck_tt, NP, NF, NC, NB, NS, GS, kdR, tpR hT, f_X12_isWord, b_X12_isWord_41, b_X12_isWord_42, a8, a5, e1, g, wr, c0]
    · refine ⟨fun h => absurd h.2.1 s1, fun _ => ?_⟩
      clear hX e3
      simp (disch := first | decide | omega) [isb, ck_tt, NP, NF, NC, NB, NS, GS, kdR, tpR hT, f_X12_isWord, b_X12_isWord_41, b_X12_isWord_42, a8, a5, e1]
  · have c3 : s = 1 := by omega
    subst c3
    refine ⟨fun h => absurd h.1 c, fun _ => ?_⟩
    clear hX e3
    simp (disch := first | decide | omega) [isb, ck_tt, NP, NF, NC, NB, NS, GS, kdR, tpR hT, f_X12_isWord, b_X12_isWord_41, b_X12_isWord_42, a8]
theorem takeW_r {st : St} (hT : Top st) {b : BY} {n T t f p s : Nat} (h : RfA b n T t f p s st) {fu : Nat} (hf : 100 ≤ fu) {w : Nat} (hw : 1 ≤ w) (hw2 : w < 24) : ((s = 0 ∧ isW b n t w) → ∃ u, f_X12_takeWord fu 153 w st = some (nI 1, u) ∧ OK5 b n T (t + 1) f p s st u) ∧ (¬ (s = 0 ∧ isW b n t w) → ∃ u, f_X12_takeWord fu 153 w st = some (nI 0, u) ∧ OK5 b n T t f p s st u) := by
  obtain ⟨i1, i2⟩ := isW_r hT h hf hw hw2
  have a5 := h.2.1
  have a5' := h.2.2.1
  have hn := h.1.2.2.2.2.2
  have hTn := h.1.2.2.2.2.1
  have e3 := (h.1.sot a5').2.2
  refine ⟨fun c => ⟨_, ?_, h.step hT ?_⟩, fun c => ⟨_, ?_, h.stay hT⟩⟩
  · have i := i1 c
    clear h i1 i2 e3
    simp (disch := first | decide | omega) [isb, ck_tt, NP, NF, NC, NB, NS, GS, kdR, tpR hT, f_X12_takeWord, b_X12_takeWord_20, i, a5]
  · have : t ≠ T := fun e => by have := e3.mpr e; have := c.2.1; omega
    omega
  · have i := i2 c
    clear h i1 i2 e3
    simp (disch := first | decide | omega) [isb, ck_tt, NP, NF, NC, NB, NS, GS, kdR, tpR hT, f_X12_takeWord, b_X12_takeWord_20, i, a5]
theorem num_r {st : St} (hT : Top st) {b : BY} {n T t f p s : Nat} (h : RfA b n T t f p s st) (fu : Nat) {lo hi : Nat} (hl : lo ≤ 100000) (hh : hi ≤ 100000) :
    ((s = 0 ∧ so b n t = 2) → (lo ≤ nv b (pl b n t) (af b n (t + 1) - pl b n t) ∧ nv b (pl b n t) (af b n (t + 1) - pl b n t) ≤ hi) → ∃ u, f_X12_number fu 153 (nI lo) (nI hi) st = some (nI (nv b (pl b n t) (af b n (t + 1) - pl b n t)), u) ∧ OK5 b n T (t + 1) f p s st u) ∧
    ((s = 0 ∧ so b n t = 2) → ¬ (lo ≤ nv b (pl b n t) (af b n (t + 1) - pl b n t) ∧ nv b (pl b n t) (af b n (t + 1) - pl b n t) ≤ hi) → (f = 0 ∨ pl b n t < p ∨ (pl b n t = p ∧ 2 < f)) → ∃ u, f_X12_number fu 153 (nI lo) (nI hi) st = some (nI (nv b (pl b n t) (af b n (t + 1) - pl b n t)), u) ∧ OK5 b n T (t + 1) 2 (pl b n t) s st u) ∧
    ((s = 0 ∧ so b n t = 2) → ¬ (lo ≤ nv b (pl b n t) (af b n (t + 1) - pl b n t) ∧ nv b (pl b n t) (af b n (t + 1) - pl b n t) ≤ hi) → ¬ (f = 0 ∨ pl b n t < p ∨ (pl b n t = p ∧ 2 < f)) → ∃ u, f_X12_number fu 153 (nI lo) (nI hi) st = some (nI (nv b (pl b n t) (af b n (t + 1) - pl b n t)), u) ∧ OK5 b n T (t + 1) f p s st u) ∧
    (¬ (s = 0 ∧ so b n t = 2) → f_X12_number fu 153 (nI lo) (nI hi) st = cv (f_X12_wrong fu 153 st) fun u => some (nI lo, u)) := by
  have h0 := h
  obtain ⟨hX, a5, a5', a6, a6', a7, a7', a8, a8'⟩ := h
  obtain ⟨e1, e2, e3⟩ := hX.sot a5'
  have hn := hX.2.2.2.2.2
  have hTn := hX.2.2.2.2.1
  have sb := so_b b n t
  obtain ⟨v, hv⟩ : ∃ v, v = nv b (pl b n t) (af b n (t + 1) - pl b n t) := ⟨_, rfl⟩
  have vl : v ≤ 100000 := by rw [hv]; exact nv_le _ _ _
  have gv : so b n t = 2 → t < T ∧ gL st 156 t = lN v := fun s2 => by
    have tT : t < T := by
      have : t ≠ T := fun e => by have := e3.mpr e; omega
      omega
    exact ⟨tT, by rw [hv]; exact (hX.1 t tT).2.2.2.2 s2⟩
  obtain ⟨t1, t2⟩ := tell_r hT h0 fu (k := 2) (q := pl b n t) (by omega) (by omega) (pl_b b n t).2
  rw [← hv]
  refine ⟨fun ⟨c1, c2⟩ ⟨c3, c4⟩ => ⟨_, ?_, h0.step hT (gv c2).1⟩, fun ⟨c1, c2⟩ c3 c4 => ?_, fun ⟨c1, c2⟩ c3 c4 => ⟨_, ?_, h0.step hT (gv c2).1⟩, fun c1 => ?_⟩
  · have g := (gv c2).2
    rw [c2] at e1
    subst c1
    clear hX h0 e3 gv t1 t2 hv
    simp (disch := first | decide | omega) [isb, ck_tt, NP, NF, NC, NB, NS, GS, kdR, tpR hT, f_X12_number, b_X12_number_61, a8, a5, e1, g, LF]
  · have g := (gv c2).2
    have tT := (gv c2).1
    rw [c2] at e1
    subst c1
    obtain ⟨u, u1, u2, u3, u4⟩ := t1 c4
    have sp := u4.step u3 tT
    refine ⟨sI u 153 5 (nI (t + 1)), ?_, (u2.tr sp.1).wd (by decide), sp.2⟩
    have u5 := u4.2.1
    clear hX h0 e3 gv t1 t2 hv sp u4 u2
    rcases Nat.lt_or_ge v lo with q | q
    · simp (disch := first | decide | omega) [isb, ck_tt, NP, NF, NC, NB, NS, GS, kdR, tpR hT, f_X12_number, b_X12_number_47, b_X12_number_61, a8, a5, e1, e2, g, LF, u1, u5]
    · have q2 : hi < v := by omega
      simp (disch := first | decide | omega) [isb, ck_tt, NP, NF, NC, NB, NS, GS, kdR, tpR hT, f_X12_number, b_X12_number_47, b_X12_number_61, a8, a5, e1, e2, g, LF, u1, u5]
  · have g := (gv c2).2
    rw [c2] at e1
    subst c1
    have u1 := t2 c4
    clear hX h0 e3 gv t1 t2 hv
    rcases Nat.lt_or_ge v lo with q | q
    · simp (disch := first | decide | omega) [isb, ck_tt, NP, NF, NC, NB, NS, GS, kdR, tpR hT, f_X12_number, b_X12_number_47, b_X12_number_61, a8, a5, e1, e2, g, LF, u1]
    · have q2 : hi < v := by omega
      simp (disch := first | decide | omega) [isb, ck_tt, NP, NF, NC, NB, NS, GS, kdR, tpR hT, f_X12_number, b_X12_number_47, b_X12_number_61, a8, a5, e1, e2, g, LF, u1]
  · clear h0 e3 gv t1 t2 hv
    by_cases c : s = 0
    · subst c
      have c3 : so b n t ≠ 2 := fun e => c1 ⟨rfl, e⟩
      clear hX
      simp (disch := first | decide | omega) [isb, ck_tt, NP, NF, NC, NB, NS, GS, kdR, tpR hT, f_X12_number, b_X12_number_20, a8, a5, e1]
    · have c3 : s = 1 := by omega
      subst c3
      clear hX
      simp (disch := first | decide | omega) [isb, ck_tt, NP, NF, NC, NB, NS, GS, kdR, tpR hT, f_X12_number, b_X12_number_20, a8]
