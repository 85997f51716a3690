/-! PURE: told -/
def Ans (fC fR : St → Option (Int32 × St)) (st : St) : Prop := ∃ r, fC st = some (r, st) ∧ fR st = some (r, st)
def P_now (c : Nat) (st : St) : Prop := ∃ N : Nat, N ≤ 500 * c ∧ gI st 1 8 = nI N ∧ gI st 153 40 = nI N
theorem sm_2 (mk : Nat → Nat) : ∀ n, sm n (fun t => if mk t = 2 then 1 else 0) + sm n (fun t => if mk t = 2 then 0 else 1) = n
  | 0 => rfl
  | n + 1 => by
    have := sm_2 mk n
    show sm n _ + (if mk n = 2 then 1 else 0) + (sm n _ + if mk n = 2 then 0 else 1) = n + 1
    by_cases h : mk n = 2
    · rw [if_pos h, if_pos h]; omega
    · rw [if_neg h, if_neg h]; omega
def iS : Nat → (Nat → Int32) → Int32
  | 0, _ => 0
  | n + 1, f => iS n f + f n
theorem told_l {st : St} (hT : Top st) (fu : Nat) {n w : Nat} {g tm mk : Nat → Nat} (hn : n ≤ 300) (n3 : gI st 153 92 = nI n) (hw : w = 1 ∨ w = 2 ∨ w = 4) (h1 : ∀ t, t < n → gI st 231 t = nI (if mk t = 2 then 1 else 0)) (h2 : ∀ t, t < n → gI st 232 t = nI (if mk t = 1 then 1 else 0)) (h3 : ∀ t, t < n → gI st 229 t = nI (tm t)) (hg : ∀ t, t < n → g t = if w = 4 then (if mk t = 1 then tm t else 0) else if mk t = 2 then 0 else if w = 1 then 1 else tm t) : ∀ (F i : Nat), i ≤ n → n - i < F → b_X12_told_29 fu F 153 (nI w) (nI (sm i g)) (nI i) st = some (nI (sm n g), st) := by
  intro F
  induction F with
  | zero => intro i a b; omega
  | succ F ih =>
    intro i hi hF
    show b_X12_told_29_b fu (b_X12_told_29 fu F) 153 (nI w) (nI (sm i g)) (nI i) st = _
    rcases Nat.lt_or_ge i n with hk | hk
    · have e := ih (i + 1) (by omega) (by omega)
      have es : sm (i + 1) g = sm i g + g i := rfl
      rw [es] at e
      have g1 := h1 i hk
      have g2 := h2 i hk
      have g3 := h3 i hk
      have g4 := hg i hk
      rcases hw with rfl | rfl | rfl
      · simp at g4
        by_cases hm : mk i = 2
        · rw [if_pos hm] at g1 g4
          rw [g4] at e
          simp (disch := first | decide | omega) [isb, ck_tt, NP, NF, NC, NB, NS, GS, kdR, tpR hT, b_X12_told_29_b, b_X12_told_65, b_X12_told_92, n3, g1, g2, g3]
          exact e
        · rw [if_neg hm] at g1 g4
          rw [g4] at e
          simp (disch := first | decide | omega) [isb, ck_tt, NP, NF, NC, NB, NS, GS, kdR, tpR hT, b_X12_told_29_b, b_X12_told_65, b_X12_told_92, n3, g1, g2, g3]
          exact e
      · simp at g4
        by_cases hm : mk i = 2
        · rw [if_pos hm] at g1 g4
          rw [g4] at e
          simp (disch := first | decide | omega) [isb, ck_tt, NP, NF, NC, NB, NS, GS, kdR, tpR hT, b_X12_told_29_b, b_X12_told_65, b_X12_told_92, n3, g1, g2, g3]
          exact e
        · rw [if_neg hm] at g1 g4
          rw [g4] at e
          simp (disch := first | decide | omega) [isb, ck_tt, NP, NF, NC, NB, NS, GS, kdR, tpR hT, b_X12_told_29_b, b_X12_told_65, b_X12_told_92, n3, g1, g2, g3]
          exact e
      · simp at g4
        by_cases hm : mk i = 1
        · rw [if_pos hm] at g2 g4
          rw [g4] at e
          simp (disch := first | decide | omega) [isb, ck_tt, NP, NF, NC, NB, NS, GS, kdR, tpR hT, b_X12_told_29_b, b_X12_told_65, b_X12_told_92, n3, g1, g2, g3]
          exact e
        · rw [if_neg hm] at g2 g4
          rw [g4] at e
          simp (disch := first | decide | omega) [isb, ck_tt, NP, NF, NC, NB, NS, GS, kdR, tpR hT, b_X12_told_29_b, b_X12_told_65, b_X12_told_92, n3, g1, g2, g3]
          exact e
    · have : i = n := by omega
      subst this
      simp (disch := first | decide | omega) [isb, ck_tt, NP, NF, NC, NB, NS, GS, kdR, tpR hT, b_X12_told_29_b, n3]
theorem told_h {st : St} (hT : Top st) (fu : Nat) {sz : Nat → Nat} (h1 : ∀ t, t < 60 → gI st 219 t = nI (if sz t = 0 then 0 else 1)) : ∀ (F i : Nat), i ≤ 60 → 60 - i < F → b_X12_told_109 fu F 153 (nI (sm i fun h => if sz h = 0 then 0 else 1)) (nI i) st = some (nI (sm 60 fun h => if sz h = 0 then 0 else 1), st) := by
  intro F
  induction F with
  | zero => intro i a b; omega
  | succ F ih =>
    intro i hi hF
    show b_X12_told_109_b fu (b_X12_told_109 fu F) 153 (nI (sm i fun h => if sz h = 0 then 0 else 1)) (nI i) st = _
    rcases Nat.lt_or_ge i 60 with hk | hk
    · have e := ih (i + 1) (by omega) (by omega)
      have es : sm (i + 1) (fun h => if sz h = 0 then 0 else 1) = sm i (fun h => if sz h = 0 then 0 else 1) + (if sz i = 0 then 0 else 1) := rfl
      rw [es] at e
      have g1 := h1 i hk
      by_cases hm : sz i = 0
      · rw [if_pos hm] at g1 e
        simp (disch := first | decide | omega) [isb, ck_tt, NP, NF, NC, NB, NS, GS, kdR, tpR hT, b_X12_told_109_b, b_X12_told_130, g1]
        exact e
      · rw [if_neg hm] at g1 e
        simp (disch := first | decide | omega) [isb, ck_tt, NP, NF, NC, NB, NS, GS, kdR, tpR hT, b_X12_told_109_b, b_X12_told_130, g1]
        exact e
    · have : i = 60 := by omega
      subst this
      simp (disch := first | decide | omega) [isb, ck_tt, NP, NF, NC, NB, NS, GS, kdR, tpR hT, b_X12_told_109_b]
theorem told_fr {st : St} (hT : Top st) (fu : Nat) (f : Nat → Int32) (h1 : ∀ t, t < 8 → gI st 209 t = f t) : ∀ (F i : Nat), i ≤ 8 → 8 - i < F → b_X12_told_148 fu F 153 (iS i f) (nI i) st = some (iS 8 f, st) := by
  intro F
  induction F with
  | zero => intro i a b; omega
  | succ F ih =>
    intro i hi hF
    show b_X12_told_148_b fu (b_X12_told_148 fu F) 153 (iS i f) (nI i) st = _
    rcases Nat.lt_or_ge i 8 with hk | hk
    · have e := ih (i + 1) (by omega) (by omega)
      have es : iS (i + 1) f = iS i f + f i := rfl
      rw [es] at e
      simp (disch := first | decide | omega) [isb, ck_tt, NP, NF, NC, NB, NS, GS, kdR, tpR hT, b_X12_told_148_b, h1]
      exact e
    · have : i = 8 := by omega
      subst this
      simp (disch := first | decide | omega) [isb, ck_tt, NP, NF, NC, NB, NS, GS, kdR, tpR hT, b_X12_told_148_b]
theorem told_fc {st : St} (hT : Top st) (fu : Nat) (f : Nat → Int32) (h1 : ∀ t, t < 8 → gI st (8 + 2 * t) 11 = f t) : ∀ (F i : Nat), i ≤ 8 → 8 - i < F → b_X7_refusals_4 fu F 4 (iS i f) (nI i) st = some (iS 8 f, st) := by
  intro F
  induction F with
  | zero => intro i a b; omega
  | succ F ih =>
    intro i hi hF
    show b_X7_refusals_4_b fu (b_X7_refusals_4 fu F) 4 (iS i f) (nI i) st = _
    rcases Nat.lt_or_ge i 8 with hk | hk
    · have e := ih (i + 1) (by omega) (by omega)
      have es : iS (i + 1) f = iS i f + f i := rfl
      rw [es] at e
      simp (disch := first | decide | omega) [isb, ck_tt, NP, NF, NC, NB, NS, GS, kdC, tpC hT, b_X7_refusals_4_b, h1, tp_5 hT hk, kd_ax hk]
      exact e
    · have : i = 8 := by omega
      subst this
      simp (disch := first | decide | omega) [isb, ck_tt, NP, NF, NC, NB, NS, GS, kdC, tpC hT, b_X7_refusals_4_b]
theorem told_2 {st : St} {c : Nat} (hT : Top st) (hP : P_hb st) (hA : P_ax st) (hN : P_now c st) (hc : c ≤ 64) (fu : Nat) (hf : 400 ≤ fu) (a : Int32) : Ans (f_X11_told fu 1 a) (f_X12_told fu 153 a) st := by
  obtain ⟨hH, own, sz, hr, hf', n, tr, tf, tm, tp, mk, b1, b2, ⟨⟨n1, n2, n3⟩, b3, b4⟩, k1, k2, k3, k4, k5, k6⟩ := hP
  obtain ⟨N, hN1, hN2, hN3⟩ := hN
  have t1 : ∀ t, t < n → gI st 231 t = nI (if mk t = 2 then 1 else 0) := fun t ht => (b3 t ht).2.2.1.2.2.2.2.1
  have t2 : ∀ t, t < n → gI st 232 t = nI (if mk t = 1 then 1 else 0) := fun t ht => (b3 t ht).2.2.1.2.2.2.2.2
  have t3 : ∀ t, t < n → gI st 229 t = nI (tm t) := fun t ht => (b3 t ht).2.2.1.2.2.1
  clear b1 hH
  by_cases h0 : a = 0
  · subst h0
    have sb := sm_b (f := fun t => if mk t = 2 then 0 else tp t) (b := 1000000) (n := n) (fun t ht => by
      by_cases hm : mk t = 2
      · simp [hm]
      · simp only [if_neg hm]; exact (b3 t ht).1.2.2.2.1)
    refine ⟨nI (sm n fun t => if mk t = 2 then 0 else tp t), ?_, ?_⟩
    · simp (disch := first | decide | omega) [isb, ck_tt, NP, NF, NC, NB, NS, GS, kdC, tpC hT, f_X11_told, k3]
    · simp (disch := first | decide | omega) [isb, ck_tt, NP, NF, NC, NB, NS, GS, kdR, tpR hT, f_X12_told, k4, LF]
  by_cases h1 : a = 1
  · subst h1
    have e := sm_2 mk n
    have l := told_l hT fu (w := 1) (g := fun t => if mk t = 2 then 0 else 1) n1 n3 (by omega) t1 t2 t3 (fun t _ => by simp) fu 0 (by omega) (by omega)
    refine ⟨nI (sm n fun t => if mk t = 2 then 0 else 1), ?_, ?_⟩
    · simp (disch := first | decide | omega) [isb, ck_tt, NP, NF, NC, NB, NS, GS, kdC, tpC hT, f_X11_told, n2, k2]
      congr 1
      omega
    · simp (disch := first | decide | omega) [isb, ck_tt, NP, NF, NC, NB, NS, GS, kdR, tpR hT, f_X12_told, b_X12_told_27]
      exact l
  by_cases h2 : a = 2
  · subst h2
    have l := told_l hT fu (w := 2) (g := fun t => if mk t = 2 then 0 else tm t) n1 n3 (by omega) t1 t2 t3 (fun t _ => by simp) fu 0 (by omega) (by omega)
    refine ⟨nI (sm n fun t => if mk t = 2 then 0 else tm t), ?_, ?_⟩
    · simp (disch := first | decide | omega) [isb, ck_tt, NP, NF, NC, NB, NS, GS, kdC, tpC hT, f_X11_told, k5]
    · simp (disch := first | decide | omega) [isb, ck_tt, NP, NF, NC, NB, NS, GS, kdR, tpR hT, f_X12_told, b_X12_told_27]
      exact l
  by_cases h3 : a = 3
  · subst h3
    have l := told_h hT fu (sz := sz) (fun t ht => (b2 t ht).1.2.2) fu 0 (by omega) (by omega)
    refine ⟨nI (sm 60 fun h => if sz h = 0 then 0 else 1), ?_, ?_⟩
    · simp (disch := first | decide | omega) [isb, ck_tt, NP, NF, NC, NB, NS, GS, kdC, tpC hT, f_X11_told, k1]
    · simp (disch := first | decide | omega) [isb, ck_tt, NP, NF, NC, NB, NS, GS, kdR, tpR hT, f_X12_told]
      exact l
  by_cases h4 : a = 4
  · subst h4
    have l := told_l hT fu (w := 4) (g := fun t => if mk t = 1 then tm t else 0) n1 n3 (by omega) t1 t2 t3 (fun t _ => by simp) fu 0 (by omega) (by omega)
    refine ⟨nI (sm n fun t => if mk t = 1 then tm t else 0), ?_, ?_⟩
    · simp (disch := first | decide | omega) [isb, ck_tt, NP, NF, NC, NB, NS, GS, kdC, tpC hT, f_X11_told, k6]
    · simp (disch := first | decide | omega) [isb, ck_tt, NP, NF, NC, NB, NS, GS, kdR, tpR hT, f_X12_told, b_X12_told_27]
      exact l
  clear b2 b3 b4 t1 t2 t3 k1 k2 k3 k4 k5 k6
  by_cases h5 : a = 5
  · subst h5
    refine ⟨nI N, ?_, ?_⟩
    · simp (disch := first | decide | omega) [isb, ck_tt, NP, NF, NC, NB, NS, GS, kdC, tpC hT, f_X11_told, hN2]
    · simp (disch := first | decide | omega) [isb, ck_tt, NP, NF, NC, NB, NS, GS, kdR, tpR hT, f_X12_told, b_X12_told_205, hN3]
  by_cases h6 : a = 6
  · subst h6
    have l1 := told_fc hT fu (fun t => gI st 209 t) (fun t ht => hA.1 t 11 ht (by omega)) fu 0 (by omega) (by omega)
    have l2 := told_fr hT fu (fun t => gI st 209 t) (fun t ht => rfl) fu 0 (by omega) (by omega)
    have l1' : f_X7_refusals fu 4 st = some (iS 8 fun t => gI st 209 t, st) := l1
    refine ⟨iS 8 fun t => gI st 209 t, ?_, ?_⟩
    · simp (disch := first | decide | omega) [isb, ck_tt, NP, NF, NC, NB, NS, GS, kdC, tpC hT, f_X11_told, l1']
    · simp (disch := first | decide | omega) [isb, ck_tt, NP, NF, NC, NB, NS, GS, kdR, tpR hT, f_X12_told]
      exact l2
  by_cases h7 : a = 7
  · subst h7
    obtain ⟨-, -, p1, p2, -⟩ := hA
    rcases p2 with p2 | p2
    · have p3 := p1.symm.trans p2
      refine ⟨nI 0, ?_, ?_⟩
      · simp (disch := first | decide | omega) [isb, ck_tt, NP, NF, NC, NB, NS, GS, kdC, tpC hT, f_X11_told, b_X11_told_124, p2]
      · simp (disch := first | decide | omega) [isb, ck_tt, NP, NF, NC, NB, NS, GS, kdR, tpR hT, f_X12_told, b_X12_told_205, p3]
    · have p3 := p1.symm.trans p2
      refine ⟨nI 1, ?_, ?_⟩
      · simp (disch := first | decide | omega) [isb, ck_tt, NP, NF, NC, NB, NS, GS, kdC, tpC hT, f_X11_told, b_X11_told_124, p2]
      · simp (disch := first | decide | omega) [isb, ck_tt, NP, NF, NC, NB, NS, GS, kdR, tpR hT, f_X12_told, b_X12_told_205, p3]
  refine ⟨-1, ?_, ?_⟩
  · simp only [f_X11_told, if_neg h0, if_neg h1, if_neg h2, if_neg h3, if_neg h4, if_neg h5, if_neg h6, if_neg h7]
  · simp only [f_X12_told, b_X12_told_205, if_neg h0, if_neg h1, if_neg h2, if_neg h3, if_neg h4, if_neg h5, if_neg h6, if_neg h7]
