/-! PURE: the class's tape: what is asked of a token -/
set_option maxRecDepth 100000 in
theorem topWT {st u : St} (hT : Top st) (fr : Fr WT st u) : Top u := hT.fr (fr.same (by decide))
theorem fail_c {st : St} (hT : Top st) {b : BY} {n lim : Nat} (hX : TX b n lim st) (h8 : gI st 2 8 = nI 0) (fu : Nat) {f p : Nat} (f1 : 1 ≤ f) (f3 : f ≤ 3) (hp : p ≤ n) : ∃ u, f_X9_fail fu 2 (nI f) (nI p) st = some u ∧ Fr WT st u ∧ Top u ∧ TD b n lim f p u := by
  have h1 := hX.1
  have fr : Fr WT st (sI (sI (sI (sI (sI st 2 8 (nI f)) 2 9 (nI p)) 2 2 (nI 0)) 2 3 (nI n)) 2 4 (nI n)) := (((((Fr.i st 2 8 _).tr (Fr.i _ 2 9 _)).tr (Fr.i _ 2 2 _)).tr (Fr.i _ 2 3 _)).tr (Fr.i _ 2 4 _)).wd (by decide)
  refine ⟨_, ?_, fr, topWT hT fr, hX.fr fr, ?_, f1, f3, ?_, hp, ?_⟩
  · clear hX fr
    simp (disch := first | decide | omega) [isb, ck_tt, NP, NF, NC, NB, NS, GS, kdC, tpC hT, f_X9_fail, b_X9_fail_17, h8, h1]
  · simp [gI_sI]
  · simp [gI_sI]
  · simp [gI_sI]
theorem fail_d {st : St} (hT : Top st) {b : BY} {n lim f p : Nat} (hD : TD b n lim f p st) (fu : Nat) (f' p' : Int32) : ∃ u, f_X9_fail fu 2 f' p' st = some u ∧ Fr WT st u ∧ Top u ∧ TD b n lim f p u := by
  obtain ⟨hX, d1, d2, d3, d4, d5, d6⟩ := hD
  have h1 := hX.1
  have fr : Fr WT st (sI (sI (sI st 2 2 (nI 0)) 2 3 (nI n)) 2 4 (nI n)) := (((Fr.i st 2 2 _).tr (Fr.i _ 2 3 _)).tr (Fr.i _ 2 4 _)).wd (by decide)
  refine ⟨_, ?_, fr, topWT hT fr, hX.fr fr, ?_, d2, d3, ?_, d5, ?_⟩
  · clear hX fr
    simp (disch := first | decide | omega) [isb, ck_tt, NP, NF, NC, NB, NS, GS, kdC, tpC hT, f_X9_fail, b_X9_fail_17, d1, h1]
  · simp [gI_sI]; exact d1
  · simp [gI_sI]; exact d4
  · simp [gI_sI]
def NX (b : BY) (n lim t : Nat) (st u : St) : Prop := Fr WT st u ∧ Top u ∧ (t < lim → TC b n lim (t + 1) u) ∧ (lim ≤ t → TD b n lim 2 (pl b n t) u)
def DX (b : BY) (n lim f p : Nat) (st u : St) : Prop := Fr WT st u ∧ Top u ∧ TD b n lim f p u
theorem next_c {st : St} (hT : Top st) {b : BY} {n lim t : Nat} (h : TC b n lim t st) {fu : Nat} (hf : 4100 ≤ fu) : ∃ u, f_X9_next fu 2 st = some u ∧ NX b n lim t st u := by
  obtain ⟨hX, ⟨c8, c9, c6, tl⟩, c3, c4, c2, -, -⟩ := h
  have f6 : Fr [(2, some 6)] st (sI st 2 6 (nI (t + 1))) := Fr.i st 2 6 _
  have hX6 : TX b n lim (sI st 2 6 (nI (t + 1))) := hX.fr (f6.wd (by decide))
  have hT6 : Top (sI st 2 6 (nI (t + 1))) := hT.r rfl
  have h7 := hX.2.2.2.2.1
  have l4 := hX.2.2.2.2.2
  rcases Nat.lt_or_ge t lim with q | q
  · obtain ⟨u, u1, u2, u3, u4, u5, u6, u7⟩ := scan_c hT6 hX6.1 hX6.2.1 hX6.2.2.1 hX6.2.2.2.1 hf (af_le b n (t + 1)) (show pl b n (t + 1) = _ from rfl)
    have fr : Fr WT st u := (f6.tr u2).wd (by decide)
    refine ⟨u, ?_, fr, topWT hT fr, fun _ => ⟨hX.fr fr, ⟨?_, ?_, ?_, by omega⟩, u3, u4, u5, ?_, u7⟩, fun h => by omega⟩
    · rw [← u1]
      clear hX hX6 u1 u2 u3 u4 u5 u6 u7 fr
      simp (disch := first | decide | omega) [isb, ck_tt, NP, NF, NC, NB, NS, GS, kdC, tpC hT, f_X9_next, c6, c4, h7]
    · rw [u2.ki 2 8 (by decide), f6.ki 2 8 (by decide)]; exact c8
    · rw [u2.ki 2 9 (by decide), f6.ki 2 9 (by decide)]; exact c9
    · rw [u2.ki 2 6 (by decide), gI_sI]; simp
    · intro hs
      have hs' := u6 hs
      rw [hs', af_s]
      have : pl b n (t + 1) < n := by
        apply Classical.byContradiction
        intro hn
        rw [so, if_neg hn] at hs
        exact absurd hs (by decide)
      rw [if_pos this]
  · have e : t = lim := by omega
    subst e
    obtain ⟨u, u1, u2, u3, u4⟩ := fail_c hT6 hX6 (by rw [f6.ki 2 8 (by decide)]; exact c8) fu (f := 2) (p := pl b n t) (by omega) (by omega) (pl_b b n t).2
    have fr : Fr WT st u := (f6.tr u2).wd (by decide)
    refine ⟨u, ?_, fr, u3, fun h => by omega, fun _ => u4⟩
    clear hX hX6 u2 u3 u4 fr
    simp (disch := first | decide | omega) [isb, ck_tt, NP, NF, NC, NB, NS, GS, kdC, tpC hT, f_X9_next, c6, c3, h7, u1]
theorem kc_sign {s c : Nat} (h : 3 < c) : (kc s = 3 ∧ s = c) ∨ (kc s = 3 ∧ 3 < s ∧ s ≠ c) ∨ (kc s ≠ 3 ∧ s ≠ c ∧ kc s ≤ 4) := by
  unfold kc
  by_cases h1 : s = 3
  · rw [if_pos h1]; omega
  · rw [if_neg h1]
    by_cases h2 : 3 < s
    · rw [if_pos h2]; omega
    · rw [if_neg h2]; omega
theorem so_b (b : BY) (n t : Nat) : so b n t ≤ 125 := by
  unfold so
  by_cases h : pl b n t < n
  · rw [if_pos h]
    unfold tS
    by_cases h1 : isLe (b (pl b n t)) = true
    · rw [if_pos h1]
      by_cases h2 : tE b n (pl b n t) - pl b n t ≤ 12
      · rw [if_pos h2]; omega
      · rw [if_neg h2]; omega
    · rw [if_neg h1]
      by_cases h3 : isDi (b (pl b n t)) = true
      · rw [if_pos h3]
        by_cases h2 : 99999 < nv b (pl b n t) (tE b n (pl b n t) - pl b n t) ∨ (tE b n (pl b n t) < n ∧ isLe (b (tE b n (pl b n t))) = true)
        · rw [if_pos h2]; omega
        · rw [if_neg h2]; omega
      · rw [if_neg h3]
        rcases sgC_v (b (pl b n t)) with e | ⟨e1, -⟩
        · rw [e]; omega
        · exact (sgL_b _ e1).2.1
  · rw [if_neg h]; omega
theorem isSign_c {st : St} (hT : Top st) {b : BY} {n lim t : Nat} (h : TC b n lim t st) (fu : Nat) {c : Nat} (hc : 3 < c) (hc2 : c < 200) : f_X9_isSign fu 2 (nI c) st = some (nI (if so b n t = c then 1 else 0), st) := by
  obtain ⟨-, -, -, -, c2, -, c5⟩ := h
  have sb := so_b b n t
  rcases kc_sign (s := so b n t) hc with ⟨k1, k2⟩ | ⟨k1, k2, k3⟩ | ⟨k1, k2, k3⟩
  · rw [k1] at c2
    have c5' := c5 (by omega)
    rw [if_pos k2]
    rw [k2] at c5'
    clear c5
    simp (disch := first | decide | omega) [isb, ck_tt, NP, NF, NC, NB, NS, GS, kdC, tpC hT, f_X9_isSign, b_X9_isSign_21, c2, c5']
  · rw [k1] at c2
    have c5' := c5 k2
    rw [if_neg k3]
    clear c5
    simp (disch := first | decide | omega) [isb, ck_tt, NP, NF, NC, NB, NS, GS, kdC, tpC hT, f_X9_isSign, b_X9_isSign_20, b_X9_isSign_21, c2, c5']
  · rw [if_neg k2]
    clear c5
    simp (disch := first | decide | omega) [isb, ck_tt, NP, NF, NC, NB, NS, GS, kdC, tpC hT, f_X9_isSign, b_X9_isSign_20, b_X9_isSign_21, c2]
theorem isSign_d {st : St} (hT : Top st) {b : BY} {n lim f p : Nat} (h : TD b n lim f p st) (fu : Nat) (c : Int32) : f_X9_isSign fu 2 c st = some (nI 0, st) := by
  have c2 := h.2.2.2.2.2.2
  clear h
  simp (disch := first | decide | omega) [isb, ck_tt, NP, NF, NC, NB, NS, GS, kdC, tpC hT, f_X9_isSign, b_X9_isSign_20, b_X9_isSign_21, c2]
theorem takes_c {st : St} (hT : Top st) {b : BY} {n lim t : Nat} (h : TC b n lim t st) {fu : Nat} (hf : 4100 ≤ fu) {c : Nat} (hc : 3 < c) (hc2 : c < 200) : (so b n t = c → ∃ u, f_X9_takes fu 2 (nI c) st = some (nI 1, u) ∧ NX b n lim t st u) ∧ (so b n t ≠ c → f_X9_takes fu 2 (nI c) st = some (nI 0, st)) := by
  have s := isSign_c hT h fu hc hc2
  refine ⟨fun e => ?_, fun e => ?_⟩
  · obtain ⟨u, u1, u2⟩ := next_c hT h hf
    rw [if_pos e] at s
    refine ⟨u, ?_, u2⟩
    clear h u2
    simp (disch := first | decide | omega) [isb, ck_tt, NP, NF, NC, NB, NS, GS, kdC, tpC hT, f_X9_takes, s, u1]
  · rw [if_neg e] at s
    clear h
    simp (disch := first | decide | omega) [isb, ck_tt, NP, NF, NC, NB, NS, GS, kdC, tpC hT, f_X9_takes, s]
theorem takes_d {st : St} (hT : Top st) {b : BY} {n lim f p : Nat} (h : TD b n lim f p st) (fu : Nat) (c : Int32) : f_X9_takes fu 2 c st = some (nI 0, st) := by
  have s := isSign_d hT h fu c
  clear h
  simp (disch := first | decide | omega) [isb, ck_tt, NP, NF, NC, NB, NS, GS, kdC, tpC hT, f_X9_takes, s]
theorem need_c {st : St} (hT : Top st) {b : BY} {n lim t : Nat} (h : TC b n lim t st) {fu : Nat} (hf : 4100 ≤ fu) {c : Nat} (hc : 3 < c) (hc2 : c < 200) : (so b n t = c → ∃ u, f_X9_need fu 2 (nI c) st = some u ∧ NX b n lim t st u) ∧ (so b n t ≠ c → ∃ u, f_X9_need fu 2 (nI c) st = some u ∧ DX b n lim 1 (pl b n t) st u) := by
  have s := isSign_c hT h fu hc hc2
  refine ⟨fun e => ?_, fun e => ?_⟩
  · obtain ⟨u, u1, u2⟩ := next_c hT h hf
    rw [if_pos e] at s
    refine ⟨u, ?_, u2⟩
    clear h u2
    simp (disch := first | decide | omega) [isb, ck_tt, NP, NF, NC, NB, NS, GS, kdC, tpC hT, f_X9_need, b_X9_need_24, s, u1]
  · rw [if_neg e] at s
    obtain ⟨u, u1, u2⟩ := fail_c hT h.1 h.2.1.1 fu (f := 1) (p := pl b n t) (by omega) (by omega) (pl_b b n t).2
    have c3 := h.2.2.1
    refine ⟨u, ?_, u2⟩
    clear h u2
    simp (disch := first | decide | omega) [isb, ck_tt, NP, NF, NC, NB, NS, GS, kdC, tpC hT, f_X9_need, b_X9_need_24, s, c3, u1]
theorem need_d {st : St} (hT : Top st) {b : BY} {n lim f p : Nat} (h : TD b n lim f p st) (fu : Nat) (c : Int32) : ∃ u, f_X9_need fu 2 c st = some u ∧ DX b n lim f p st u := by
  have s := isSign_d hT h fu c
  obtain ⟨u, u1, u2⟩ := fail_d hT h fu 1 (gI st 2 3)
  refine ⟨u, ?_, u2⟩
  clear h u2
  have u1' : f_X9_fail fu 2 (nI 1) (gI st 2 3) st = some u := u1
  simp (disch := first | decide | omega) [isb, ck_tt, NP, NF, NC, NB, NS, GS, kdC, tpC hT, f_X9_need, b_X9_need_24, s, u1']
theorem number_c {st : St} (hT : Top st) {b : BY} {n lim t : Nat} (h : TC b n lim t st) {fu : Nat} (hf : 4100 ≤ fu) {lo hi : Nat} (hl : lo ≤ 100000) (hh : hi ≤ 100000) : (so b n t = 2 → lo ≤ nv b (pl b n t) (af b n (t + 1) - pl b n t) → nv b (pl b n t) (af b n (t + 1) - pl b n t) ≤ hi → ∃ u, f_X9_number fu 2 (nI lo) (nI hi) st = some (nI (nv b (pl b n t) (af b n (t + 1) - pl b n t)), u) ∧ NX b n lim t st u) ∧ (so b n t = 2 → ¬ (lo ≤ nv b (pl b n t) (af b n (t + 1) - pl b n t) ∧ nv b (pl b n t) (af b n (t + 1) - pl b n t) ≤ hi) → ∃ u, f_X9_number fu 2 (nI lo) (nI hi) st = some (nI lo, u) ∧ DX b n lim 2 (pl b n t) st u) ∧ (so b n t ≠ 2 → ∃ u, f_X9_number fu 2 (nI lo) (nI hi) st = some (nI lo, u) ∧ DX b n lim 1 (pl b n t) st u) := by
  obtain ⟨v, hv⟩ : ∃ v, v = nv b (pl b n t) (af b n (t + 1) - pl b n t) := ⟨_, rfl⟩
  have vl : v ≤ 100000 := by rw [hv]; exact nv_le _ _ _
  have h0 := h
  obtain ⟨hX, ⟨c8, -, -, -⟩, c3, c4, c2, c5, -⟩ := h
  rw [← hv] at c5 ⊢
  refine ⟨fun e e1 e2 => ?_, fun e e1 => ?_, fun e => ?_⟩
  · obtain ⟨u, u1, u2⟩ := next_c hT h0 hf
    have c5' := c5 e
    rw [e] at c2
    have k : kc 2 = 2 := rfl
    rw [k] at c2
    refine ⟨u, ?_, u2⟩
    clear h0 hX u2 c5
    simp (disch := first | decide | omega) [isb, ck_tt, NP, NF, NC, NB, NS, GS, kdC, tpC hT, f_X9_number, c2, c5', u1]
  · obtain ⟨u, u1, u2⟩ := fail_c hT hX c8 fu (f := 2) (p := pl b n t) (by omega) (by omega) (pl_b b n t).2
    have c5' := c5 e
    rw [e] at c2
    have k : kc 2 = 2 := rfl
    rw [k] at c2
    refine ⟨u, ?_, u2⟩
    clear h0 hX u2 c5
    rcases Nat.lt_or_ge v lo with q | q
    · simp (disch := first | decide | omega) [isb, ck_tt, NP, NF, NC, NB, NS, GS, kdC, tpC hT, f_X9_number, b_X9_number_34, c2, c5', c3, u1]
    · have q2 : hi < v := by omega
      simp (disch := first | decide | omega) [isb, ck_tt, NP, NF, NC, NB, NS, GS, kdC, tpC hT, f_X9_number, b_X9_number_34, c2, c5', c3, u1]
  · obtain ⟨u, u1, u2⟩ := fail_c hT hX c8 fu (f := 1) (p := pl b n t) (by omega) (by omega) (pl_b b n t).2
    have k : kc (so b n t) ≠ 2 ∧ kc (so b n t) < 10 := by
      unfold kc
      by_cases h1 : so b n t = 3
      · rw [if_pos h1]; omega
      · rw [if_neg h1]
        by_cases h2 : 3 < so b n t
        · rw [if_pos h2]; omega
        · rw [if_neg h2]; omega
    refine ⟨u, ?_, u2⟩
    clear h0 hX u2 c5
    simp (disch := first | decide | omega) [isb, ck_tt, NP, NF, NC, NB, NS, GS, kdC, tpC hT, f_X9_number, c2, c3, u1]
theorem number_d {st : St} (hT : Top st) {b : BY} {n lim f p : Nat} (h : TD b n lim f p st) (fu : Nat) (lo hi : Int32) : ∃ u, f_X9_number fu 2 lo hi st = some (lo, u) ∧ DX b n lim f p st u := by
  have c2 := h.2.2.2.2.2.2
  obtain ⟨u, u1, u2⟩ := fail_d hT h fu 1 (gI st 2 3)
  have u1' : f_X9_fail fu 2 (nI 1) (gI st 2 3) st = some u := u1
  refine ⟨u, ?_, u2⟩
  clear h u2
  simp (disch := first | decide | omega) [isb, ck_tt, NP, NF, NC, NB, NS, GS, kdC, tpC hT, f_X9_number, c2, u1']
def LN (w : Nat) : Nat := (sB.getD w []).length
def CH (w i : Nat) : Int32 := (sB.getD w []).getD i 0
theorem LN_le {w : Nat} (hw : w < 24) : LN w ≤ 18 := by
  have : ∀ w, w < 24 → LN w ≤ 18 := by decide +kernel
  exact this w hw
/-- token t is the word w (a place of sB) -/
def isW (b : BY) (n t w : Nat) : Prop := so b n t = 1 ∧ af b n (t + 1) - pl b n t = LN w ∧ ∀ i, i < LN w → b (pl b n t + i) = CH w i
theorem str_len {st : St} (fu : Nat) {w : Nat} (hw : w < 24) : f_J0_length_8abf5 fu w st = some (nI (LN w), st) := by
  have hl : w < sB.length := hw
  have h0 : (Int32.ofNat (LN w)) >>> ((0 : Int32) &&& 31) = nI (LN w) := by
    have : ∀ w, w < 24 → (Int32.ofNat (LN w)) >>> ((0 : Int32) &&& 31) = nI (LN w) := by decide +kernel
    exact this w hw
  unfold f_J0_length_8abf5 f_J0_coder_7d493 b_J0_coder_7d493_14
  rw [ck_t hl, ck_t hl, ck_t hl, if_neg (by decide), ck_t hl, ck_t (by decide +kernel), ca_s]
  exact congrArg (fun x => some (x, st)) h0
theorem str_at {st : St} (fu : Nat) {w i : Nat} (hw : w < 24) (hi : i < LN w) : f_J0_charAt_5068e fu w (nI i) st = some (CH w i, st) := by
  have hl : w < sB.length := hw
  have ll := LN_le hw
  have cv : ∀ w, w < 24 → ∀ i, i < 18 → i < LN w → ((((CH w i) &&& 255).toUInt32 % 65536).toInt32) = CH w i ∧ (CH w i).toUInt32.toUInt16.toUInt32.toInt32 = CH w i := by decide +kernel
  obtain ⟨c1, c2⟩ := cv w hw i (by omega) hi
  have ic : ix (nI i) = i := ix_nI (by omega)
  have lat : f_J0_isLatin1_aae02 fu w st = some (1, st) := by
    unfold f_J0_isLatin1_aae02 b_J0_isLatin1_aae02_18
    rw [if_neg (by decide), ck_t hl, if_pos rfl, ck_t (by decide)]
  have ci : f_J0_checkIndex_df160 fu (nI i) (Int32.ofNat (LN w)) st = some st := by
    unfold f_J0_checkIndex_df160 f_J3_checkIndex_8e157
    rw [if_neg (show ¬ nI i < 0 from fun q => by have := (nI_ltI (a := i) (b := 0) (by omega) (by omega)).mp q; omega), if_pos (show nI i < Int32.ofNat (LN w) from (nI_ltI (by omega) (by omega)).mpr hi)]
    rfl
  have ib0 : inb (nI i) (LN w) := by simp (disch := first | decide | omega) [NF, NC, NB, inb]
  have ib : w < sB.length ∧ inb (nI i) (sB.getD w []).length := ⟨hl, ib0⟩
  unfold f_J0_charAt_5068e f_J1_charAt_3b067
  rw [ck_t hl, lat, ca_s, if_neg (by decide), ck_t hl, ck_t hl, show f_J0_checkIndex_df160 fu (nI i) (Int32.ofNat (sB.getD w []).length) st = some st from ci, cv_s, ck_t ib, ic]
  have c1' : (((((sB.getD w []).getD i 0) &&& 255).toUInt32 % 65536).toInt32) = CH w i := c1
  rw [c1', ck_t c2, ca_s, ck_t c2]
theorem isWord_l {st : St} (hT : Top st) {b : BY} {n t : Nat} (h1 : gI st 2 1 = nI n) (h2 : n ≤ 4000) (h3 : ∀ i, i < n → gI st 3 i = b i) (c3 : gI st 2 3 = nI (pl b n t)) (fu : Nat) {w : Nat} (hw : w < 24) (hl : pl b n t + LN w ≤ n) : ∀ F i, i ≤ LN w → LN w - i < F → ((∀ j, i ≤ j → j < LN w → b (pl b n t + j) = CH w j) → b_X9_isWord_28 fu F 2 w (nI i) st = some (nI 1, st)) ∧ ((¬ ∀ j, i ≤ j → j < LN w → b (pl b n t + j) = CH w j) → b_X9_isWord_28 fu F 2 w (nI i) st = some (nI 0, st)) := by
  intro F
  have sl := str_len (st := st) fu hw
  have wl : (w < sB.length) = True := eq_true hw
  obtain ⟨L, hL⟩ : ∃ L, L = LN w := ⟨_, rfl⟩
  have ll : L ≤ 18 := by rw [hL]; exact LN_le hw
  rw [← hL] at sl hl ⊢
  induction F with
  | zero => intro i a c; omega
  | succ F ih =>
    intro i hi hF
    have un : b_X9_isWord_28 fu (F + 1) 2 w (nI i) st = b_X9_isWord_28_b fu (b_X9_isWord_28 fu F) 2 w (nI i) st := rfl
    rcases Nat.lt_or_ge i L with q | q
    · have g := h3 (pl b n t + i) (by omega)
      have ca := str_at (st := st) fu hw (i := i) (by omega)
      obtain ⟨a1, a2⟩ := ih (i + 1) (by omega) (by omega)
      obtain ⟨ch, hch⟩ : ∃ ch, ch = CH w i := ⟨_, rfl⟩
      rw [← hch] at ca
      by_cases e : b (pl b n t + i) = ch
      · have s1 : b_X9_isWord_28 fu (F + 1) 2 w (nI i) st = b_X9_isWord_28 fu F 2 w (nI (i + 1)) st := by
          rw [un]
          rw [e] at g
          clear ih a1 a2 h3 hL hch
          simp (disch := first | decide | omega) [isb, ck_tt, NP, NF, NC, NB, NS, GS, kdC, tpC hT, b_X9_isWord_28_b, wl, sl, h1, c3, g, ca]
        rw [s1]
        refine ⟨fun h => a1 (fun j j1 j2 => h j (by omega) j2), fun h => a2 (fun h' => h (fun j j1 j2 => ?_))⟩
        rcases Nat.eq_or_lt_of_le j1 with e' | e'
        · subst e'; rw [e, hch]
        · exact h' j e' j2
      · refine ⟨fun h => absurd (by rw [h i (Nat.le_refl _) q, hch]) e, fun _ => ?_⟩
        rw [un]
        have g2 : ¬ gI st 3 (pl b n t + i) = ch := by rw [g]; exact e
        clear ih a1 a2 h3 hL hch
        simp (disch := first | decide | omega) [isb, ck_tt, NP, NF, NC, NB, NS, GS, kdC, tpC hT, b_X9_isWord_28_b, wl, sl, h1, c3, g2, ca]
    · have e : i = L := by omega
      subst e
      refine ⟨fun _ => ?_, fun h => absurd (fun j j1 j2 => by omega) h⟩
      rw [un]
      clear ih h3 hL
      simp (disch := first | decide | omega) [isb, ck_tt, NP, NF, NC, NB, NS, GS, kdC, tpC hT, b_X9_isWord_28_b, b_X9_isWord_76, wl, sl]
theorem isWord_c {st : St} (hT : Top st) {b : BY} {n lim t : Nat} (h : TC b n lim t st) {fu : Nat} (hf : 100 ≤ fu) {w : Nat} (hw : w < 24) : (isW b n t w → f_X9_isWord fu 2 w st = some (nI 1, st)) ∧ (¬ isW b n t w → f_X9_isWord fu 2 w st = some (nI 0, st)) := by
  obtain ⟨hX, -, c3, c4, c2, -, -⟩ := h
  have ll := LN_le hw
  have sl := str_len (st := st) fu hw
  have wl : (w < sB.length) = True := eq_true hw
  have ab := af_le b n (t + 1)
  have pb := pl_b b n t
  by_cases s1 : so b n t = 1
  · have pn : pl b n t < n := by
      apply Classical.byContradiction
      intro hn
      rw [so, if_neg hn] at s1
      exact absurd s1 (by decide)
    have pa := pl_lt b n t pn
    rw [s1, show kc 1 = 1 from rfl] at c2
    by_cases s2 : af b n (t + 1) - pl b n t = LN w
    · obtain ⟨a1, a2⟩ := isWord_l hT hX.1 hX.2.1 hX.2.2.1 c3 fu hw (by omega) fu 0 (Nat.zero_le _) (by omega)
      have e : f_X9_isWord fu 2 w st = b_X9_isWord_28 fu fu 2 w (nI 0) st := by
        have hn := hX.2.1
        clear hX a1 a2
        simp (disch := first | decide | omega) [isb, ck_tt, NP, NF, NC, NB, NS, GS, kdC, tpC hT, f_X9_isWord, c2, wl, sl, c3, c4, s2]
      rw [e]
      exact ⟨fun h => a1 (fun j _ j2 => h.2.2 j j2), fun h => a2 (fun h' => h ⟨s1, s2, fun i hi => h' i (Nat.zero_le _) hi⟩)⟩
    · refine ⟨fun h => absurd h.2.1 s2, fun _ => ?_⟩
      have hn := hX.2.1
      clear hX
      simp (disch := first | decide | omega) [isb, ck_tt, NP, NF, NC, NB, NS, GS, kdC, tpC hT, f_X9_isWord, b_X9_isWord_24, c2, wl, sl, c3, c4]
  · refine ⟨fun h => absurd h.1 s1, fun _ => ?_⟩
    have k : kc (so b n t) ≠ 1 ∧ kc (so b n t) < 10 := by
      unfold kc
      by_cases h1 : so b n t = 3
      · rw [if_pos h1]; omega
      · rw [if_neg h1]
        by_cases h2 : 3 < so b n t
        · rw [if_pos h2]; omega
        · rw [if_neg h2]; omega
    clear hX
    simp (disch := first | decide | omega) [isb, ck_tt, NP, NF, NC, NB, NS, GS, kdC, tpC hT, f_X9_isWord, b_X9_isWord_24, c2]
theorem isWord_d {st : St} (hT : Top st) {b : BY} {n lim f p : Nat} (h : TD b n lim f p st) (fu w : Nat) : f_X9_isWord fu 2 w st = some (nI 0, st) := by
  have c2 := h.2.2.2.2.2.2
  clear h
  simp (disch := first | decide | omega) [isb, ck_tt, NP, NF, NC, NB, NS, GS, kdC, tpC hT, f_X9_isWord, b_X9_isWord_24, c2]
theorem takesWord_c {st : St} (hT : Top st) {b : BY} {n lim t : Nat} (h : TC b n lim t st) {fu : Nat} (hf : 4100 ≤ fu) {w : Nat} (hw : w < 24) : (isW b n t w → ∃ u, f_X9_takesWord fu 2 w st = some (nI 1, u) ∧ NX b n lim t st u) ∧ (¬ isW b n t w → f_X9_takesWord fu 2 w st = some (nI 0, st)) := by
  obtain ⟨s1, s2⟩ := isWord_c hT h (fu := fu) (by omega) hw
  refine ⟨fun e => ?_, fun e => ?_⟩
  · obtain ⟨u, u1, u2⟩ := next_c hT h hf
    have s := s1 e
    refine ⟨u, ?_, u2⟩
    clear h u2 s1 s2
    simp (disch := first | decide | omega) [isb, ck_tt, NP, NF, NC, NB, NS, GS, kdC, tpC hT, f_X9_takesWord, s, u1]
  · have s := s2 e
    clear h s1 s2
    simp (disch := first | decide | omega) [isb, ck_tt, NP, NF, NC, NB, NS, GS, kdC, tpC hT, f_X9_takesWord, s]
theorem takesWord_d {st : St} (hT : Top st) {b : BY} {n lim f p : Nat} (h : TD b n lim f p st) (fu w : Nat) : f_X9_takesWord fu 2 w st = some (nI 0, st) := by
  have s := isWord_d hT h fu w
  clear h
  simp (disch := first | decide | omega) [isb, ck_tt, NP, NF, NC, NB, NS, GS, kdC, tpC hT, f_X9_takesWord, s]
theorem needWord_c {st : St} (hT : Top st) {b : BY} {n lim t : Nat} (h : TC b n lim t st) {fu : Nat} (hf : 4100 ≤ fu) {w : Nat} (hw : w < 24) : (isW b n t w → ∃ u, f_X9_needWord fu 2 w st = some u ∧ NX b n lim t st u) ∧ (¬ isW b n t w → ∃ u, f_X9_needWord fu 2 w st = some u ∧ DX b n lim 1 (pl b n t) st u) := by
  obtain ⟨s1, s2⟩ := isWord_c hT h (fu := fu) (by omega) hw
  refine ⟨fun e => ?_, fun e => ?_⟩
  · obtain ⟨u, u1, u2⟩ := next_c hT h hf
    have s := s1 e
    refine ⟨u, ?_, u2⟩
    clear h u2 s1 s2
    simp (disch := first | decide | omega) [isb, ck_tt, NP, NF, NC, NB, NS, GS, kdC, tpC hT, f_X9_needWord, b_X9_needWord_24, s, u1]
  · have s := s2 e
    obtain ⟨u, u1, u2⟩ := fail_c hT h.1 h.2.1.1 fu (f := 1) (p := pl b n t) (by omega) (by omega) (pl_b b n t).2
    have c3 := h.2.2.1
    refine ⟨u, ?_, u2⟩
    clear h u2 s1 s2
    simp (disch := first | decide | omega) [isb, ck_tt, NP, NF, NC, NB, NS, GS, kdC, tpC hT, f_X9_needWord, b_X9_needWord_24, s, c3, u1]
theorem needWord_d {st : St} (hT : Top st) {b : BY} {n lim f p : Nat} (h : TD b n lim f p st) (fu w : Nat) : ∃ u, f_X9_needWord fu 2 w st = some u ∧ DX b n lim f p st u := by
  have s := isWord_d hT h fu w
  obtain ⟨u, u1, u2⟩ := fail_d hT h fu 1 (gI st 2 3)
  have u1' : f_X9_fail fu 2 (nI 1) (gI st 2 3) st = some u := u1
  refine ⟨u, ?_, u2⟩
  clear h u2
  simp (disch := first | decide | omega) [isb, ck_tt, NP, NF, NC, NB, NS, GS, kdC, tpC hT, f_X9_needWord, b_X9_needWord_24, s, u1']
set_option maxRecDepth 100000 in
theorem open_c {st : St} (hT : Top st) {b : BY} {n : Nat} (h1 : gI st 2 1 = nI n) (h2 : n ≤ 4000) (h3 : ∀ i, i < n → gI st 3 i = b i) (h4 : ∀ i, i < n → b i ≤ nI 127) {fu : Nat} (hf : 4100 ≤ fu) {lim : Nat} (hl : lim ≤ 4000) : ∃ u, f_X9_open fu 2 (nI lim) st = some u ∧ Fr ((2, some 7) :: WT) st u ∧ Top u ∧ TC b n lim 0 u := by
  obtain ⟨s5, hs5⟩ : ∃ s5, s5 = sI (sI (sI (sI (sI (sI st 2 7 (nI lim)) 2 6 (-nI 1)) 2 8 (nI 0)) 2 9 (nI 0)) 2 4 (nI 0)) 2 6 (nI 0) := ⟨_, rfl⟩
  have f5 : Fr [(2, some 7), (2, some 6), (2, some 8), (2, some 9), (2, some 4)] st s5 := by
    rw [hs5]
    exact ((((((Fr.i st 2 7 _).tr (Fr.i _ 2 6 _)).tr (Fr.i _ 2 8 _)).tr (Fr.i _ 2 9 _)).tr (Fr.i _ 2 4 _)).tr (Fr.i _ 2 6 _)).wd (by decide)
  have hT5 : Top s5 := hT.r (by rw [hs5]; rfl)
  have r5 : ∀ k, gI s5 2 k = if k = 6 then nI 0 else if k = 4 then nI 0 else if k = 9 then nI 0 else if k = 8 then nI 0 else if k = 7 then nI lim else gI st 2 k := fun k => by
    rw [hs5]
    simp only [gI_sI, true_and]
    by_cases k6 : k = 6
    · rw [if_pos k6, if_pos k6]
    · rw [if_neg k6, if_neg k6, if_neg k6]
  have a1 : gI s5 2 1 = nI n := by rw [r5]; exact h1
  have a3 : ∀ i, i < n → gI s5 3 i = b i := fun i hi => by rw [f5.fi 3 (by decide)]; exact h3 i hi
  obtain ⟨u, u1, u2, u3, u4, u5, u6, u7⟩ := scan_c hT5 a1 h2 a3 h4 hf (a := 0) (p := pl b n 0) (Nat.zero_le _) rfl
  have fr : Fr ((2, some 7) :: WT) st u := (f5.tr u2).wd (by decide)
  have hTu : Top u := hT.fr (fr.same (by decide))
  refine ⟨u, ?_, fr, hTu, ⟨?_, h2, ?_, h4, ?_, hl⟩, ⟨?_, ?_, ?_, Nat.zero_le _⟩, u3, u4, u5, ?_, u7⟩
  · have st1 : f_X9_open fu 2 (nI lim) st = b_X9_next_36 fu fu 2 (nI 0) s5 := by
      have m1 : -nI 1 + nI 1 = nI 0 := by decide +kernel
      rw [hs5]
      clear f5 hT5 r5 a3 u1 u2 u3 u4 u5 u6 u7 fr hTu h3 h4
      simp (disch := first | decide | omega) [isb, ck_tt, NP, NF, NC, NB, NS, GS, kdC, tpC hT, f_X9_open, f_X9_next, m1]
      cases b_X9_next_36 fu fu 2 (nI 0) (sI (sI (sI (sI (sI (sI st 2 7 (nI lim)) 2 6 (-nI 1)) 2 8 (nI 0)) 2 9 (nI 0)) 2 4 (nI 0)) 2 6 (nI 0)) <;> rfl
    rw [st1, u1]
  · rw [u2.ki 2 1 (by decide)]; exact a1
  · rw [u2.fi 3 (by decide)]; exact a3
  · rw [u2.ki 2 7 (by decide), r5]; rfl
  · rw [u2.ki 2 8 (by decide), r5]; rfl
  · rw [u2.ki 2 9 (by decide), r5]; rfl
  · rw [u2.ki 2 6 (by decide), r5]; rfl
  · intro hs
    rw [u6 hs, af_s]
    have : pl b n 0 < n := by
      apply Classical.byContradiction
      intro hn
      rw [so, if_neg hn] at hs
      exact absurd hs (by decide)
    rw [if_pos this]
