/-! PURE: the text of a lock: class, terms, not, or -/
theorem word_l {st : St} (hT : Top st) {b : BY} {n t : Nat} (h : TC b n 60 t st) {fu : Nat} (hf : 4100 ≤ fu) {w : Nat} (hw : w < 24) : (wB b n t w = false → f_X9_takesWord fu 2 w st = some (nI 0, st)) ∧ (wB b n t w = true → ∃ u, f_X9_takesWord fu 2 w st = some (nI 1, u) ∧ Fr WT st u ∧ Top u ∧ COl b n (tk b n t fun t1 => .inl ((), t1)) (fun _ => True) u) := by
  obtain ⟨a, c⟩ := takesWord_c hT h hf hw
  refine ⟨fun e => c (wB_f.mp e), fun e => ?_⟩
  obtain ⟨u, u1, u2⟩ := a (wB_t.mp e)
  obtain ⟨a1, a2, a3⟩ := u2.t
  exact ⟨u, u1, a1, a2, a3⟩
theorem rt_ax {st s2 : St} (fu : Nat) (e : f_X9_takesWord fu 2 9 st = some (nI 1, s2)) : f_X7_readTerm fu 4 2 st = ca (f_X9_number fu 2 (nI 0) (nI 7) s2) fun r14 s15 => ca (f_X9_takes fu 2 (nI 60) s15) fun r16 s17 => if r16 = 0 then (cv (f_X9_need fu 2 (nI 62) s17) fun s21 => b_X7_readTerm_34 fu 4 2 r14 r16 s21) else b_X7_readTerm_34 fu 4 2 r14 r16 s17 := by
  unfold f_X7_readTerm
  rw [ck_t (show (kd 2).1 = 9 from rfl), e, ca_s, if_neg (show ¬ nI 1 = 0 by decide)]
  rfl
theorem rt_st {st s2 : St} (fu : Nat) (e0 : f_X9_takesWord fu 2 9 st = some (nI 0, st)) (e : f_X9_takesWord fu 2 16 st = some (nI 1, s2)) : f_X7_readTerm fu 4 2 st = ca (f_X9_number fu 2 (nI 0) (nI 7) s2) fun r11 s12 => cv (f_X7_emit fu 4 (nI 5) r11 (nI 0) s12) fun s13 => some s13 := by
  unfold f_X7_readTerm
  rw [ck_t (show (kd 2).1 = 9 from rfl), e0, ca_s, if_pos (show nI 0 = 0 from rfl), ck_t (show (kd 2).1 = 9 from rfl), e, ca_s, if_neg (show ¬ nI 1 = 0 by decide)]
  rfl
theorem rt_ev {st s2 : St} (fu : Nat) (e0 : f_X9_takesWord fu 2 9 st = some (nI 0, st)) (e1 : f_X9_takesWord fu 2 16 st = some (nI 0, st)) (e : f_X9_takesWord fu 2 17 st = some (nI 1, s2)) : f_X7_readTerm fu 4 2 st = ca (f_X9_number fu 2 (nI 0) (nI 15) s2) fun r11 s12 => cv (f_X7_emit fu 4 (nI 6) r11 (nI 0) s12) fun s13 => some s13 := by
  unfold f_X7_readTerm
  rw [ck_t (show (kd 2).1 = 9 from rfl), e0, ca_s, if_pos (show nI 0 = 0 from rfl), ck_t (show (kd 2).1 = 9 from rfl), e1, ca_s, if_pos (show nI 0 = 0 from rfl), ck_t (show (kd 2).1 = 9 from rfl), e, ca_s, if_neg (show ¬ nI 1 = 0 by decide)]
  rfl
theorem rt_no {st s2 : St} (fu : Nat) (e0 : f_X9_takesWord fu 2 9 st = some (nI 0, st)) (e1 : f_X9_takesWord fu 2 16 st = some (nI 0, st)) (e2 : f_X9_takesWord fu 2 17 st = some (nI 0, st)) (e : f_X9_fail fu 2 (nI 1) (gI st 2 3) st = some s2) : f_X7_readTerm fu 4 2 st = some s2 := by
  unfold f_X7_readTerm b_X7_readTerm_118
  rw [ck_t (show (kd 2).1 = 9 from rfl), e0, ca_s, if_pos (show nI 0 = 0 from rfl), ck_t (show (kd 2).1 = 9 from rfl), e1, ca_s, if_pos (show nI 0 = 0 from rfl), ck_t (show (kd 2).1 = 9 from rfl), e2, ca_s, if_pos (show nI 0 = 0 from rfl), ck_t (show (kd 2).1 = 9 from rfl), ck_t (show (kd 2).1 = 9 from rfl), show f_X9_fail fu 2 1 (gI st 2 3) st = some s2 from e, cv_s]
theorem term_d2 {st : St} (hT : Top st) {q : Nat} (hQ : DQ q st) {b : BY} {n f p : Nat} (hD : TD b n 60 f p st) (fu : Nat) : ∃ u, f_X7_readTerm fu 4 2 st = some u ∧ Fr (WK q) st u ∧ Top u ∧ DQ q u ∧ TD b n 60 f p u := by
  obtain ⟨u, u1, u2, u3, u4⟩ := fail_d hT hD fu (nI 1) (gI st 2 3)
  exact ⟨u, rt_no fu (takesWord_d hT hD fu 9) (takesWord_d hT hD fu 16) (takesWord_d hT hD fu 17) u1, WK_w u2, u3, hQ.w u2, u4⟩
/-- behind 'still' and 'event': a number and the code -/
theorem tn_p {s2 : St} (hT : Top s2) {q : Nat} (hq : QK q) {c : List Nat} (hC : CG q c s2) {b : BY} {n t k hi : Nat} (hl : c.length ≤ t) (t60 : t ≤ 60) (hk : k < 8) (hhi : hi < 16) {fu : Nat} (hf : 4100 ≤ fu) (co : COl b n (tk b n t fun t1 => .inl ((), t1)) (fun _ => True) s2) : ∃ u, (ca (f_X9_number fu 2 (nI 0) (nI hi) s2) fun r11 s12 => cv (f_X7_emit fu 4 (nI k) r11 (nI 0) s12) fun s13 => some s13) = some u ∧ Fr (WK q) s2 u ∧ Top u ∧ DQ q u ∧ COl b n (tk b n t fun t1 => pb (pN b n 0 hi t1) fun a t2 => .inl (lLf (k + 8 * a + 128 * 0), t2)) (fun x => CG q (c ++ x.1) u) u := by
  have dead : ∀ f p, TD b n 60 f p s2 → ∃ u, (ca (f_X9_number fu 2 (nI 0) (nI hi) s2) fun r11 s12 => cv (f_X7_emit fu 4 (nI k) r11 (nI 0) s12) fun s13 => some s13) = some u ∧ Fr (WK q) s2 u ∧ Top u ∧ DQ q u ∧ TD b n 60 f p u := fun f p hD => by
    obtain ⟨s3, e3, fr3, hT3, hD3⟩ := number_d hT hD fu (nI 0) (nI hi)
    obtain ⟨u, e4, fr4, hT4, hQ4, hD4⟩ := emit_d hT3 hq ((hC.dq (by omega)).w fr3) hD3 (nI k) (nI 0) (nI 0) fu
    exact ⟨u, by rw [e3, ca_s, e4, cv_s], WK_t (WK_w fr3) fr4, hT4, hQ4, hD4⟩
  by_cases c60 : t < 60
  · rw [tk_t c60] at co ⊢
    obtain ⟨v, s3, e3, fr3, hT3, -, v2, co3⟩ := number_l hT co.1 hf (lo := 0) (hi := hi) (by omega) (by omega) (by omega)
    have hC3 := hC.w hq fr3
    cases hp : pN b n 0 hi (t + 1) with
    | inr e =>
      rw [hp] at co3
      obtain ⟨u, e4, fr4, hT4, hQ4, hD4⟩ := emit_d hT3 hq (hC3.dq (by omega)) co3 (nI k) (nI v) (nI 0) fu
      exact ⟨u, by rw [e3, ca_s, e4, cv_s], WK_t (WK_w fr3) fr4, hT4, hQ4, hD4⟩
    | inl x =>
      rw [hp] at co3
      obtain ⟨c1, c2⟩ := co3
      have c2 : v = x.1 := c2
      obtain ⟨u, e4, fr4, hT4, hC4, g2, g3⟩ := emit_c (v := 0) hT3 hq hC3 (by omega) hk (show v < 16 by omega) fu
      refine ⟨u, by rw [e3, ca_s, e4, cv_s], WK_t (WK_w fr3) fr4, hT4, hC4.dq (by simp; omega), c1.f2 g2 g3, ?_⟩
      show CG q (c ++ [k + 8 * x.1 + 128 * 0]) u
      rw [← c2]; exact hC4
  · rw [tk_f c60] at co ⊢
    exact dead _ _ co
theorem term_p2 {st : St} (hT : Top st) {q : Nat} (hq : QK q) {c : List Nat} (hC : CG q c st) {b : BY} {n t : Nat} (h : TC b n 60 t st) (hl : c.length ≤ t) {fu : Nat} (hf : 4100 ≤ fu) : ∃ u, f_X7_readTerm fu 4 2 st = some u ∧ Fr (WK q) st u ∧ Top u ∧ DQ q u ∧ COl b n (pTm b n t) (fun x => CG q (c ++ x.1) u) u := by
  have t60 : t ≤ 60 := h.2.1.2.2.2
  obtain ⟨w9, w9'⟩ := word_l hT h hf (w := 9) (by omega)
  obtain ⟨w16, w16'⟩ := word_l hT h hf (w := 16) (by omega)
  obtain ⟨w17, w17'⟩ := word_l hT h hf (w := 17) (by omega)
  unfold pTm
  cases e9 : wB b n t 9
  · rw [if_neg (by decide)]
    cases e16 : wB b n t 16
    · rw [if_neg (by decide)]
      cases e17 : wB b n t 17
      · rw [if_neg (by decide)]
        obtain ⟨u, u1, u2, u3, u4⟩ := fail_c hT h.1 h.2.1.1 fu (f := 1) (p := pl b n t) (by omega) (by omega) (pl_b b n t).2
        exact ⟨u, rt_no fu (w9 e9) (w16 e16) (w17 e17) (by rw [h.2.2.1]; exact u1), WK_w u2, u3, (hC.dq (by omega)).w u2, u4⟩
      · rw [if_pos rfl]
        obtain ⟨s2, e2, fr2, hT2, co2⟩ := w17' e17
        obtain ⟨u, u1, u2, u3, u4, u5⟩ := tn_p hT2 hq (hC.w hq fr2) hl t60 (k := 6) (hi := 15) (by omega) (by omega) hf co2
        exact ⟨u, by rw [rt_ev fu (w9 e9) (w16 e16) e2]; exact u1, WK_t (WK_w fr2) u2, u3, u4, u5⟩
    · rw [if_pos rfl]
      obtain ⟨s2, e2, fr2, hT2, co2⟩ := w16' e16
      obtain ⟨u, u1, u2, u3, u4, u5⟩ := tn_p hT2 hq (hC.w hq fr2) hl t60 (k := 5) (hi := 7) (by omega) (by omega) hf co2
      exact ⟨u, by rw [rt_st fu (w9 e9) e2]; exact u1, WK_t (WK_w fr2) u2, u3, u4, u5⟩
  · rw [if_pos rfl]
    obtain ⟨s2, e2, fr2, hT2, co2⟩ := w9' e9
    rw [rt_ax fu e2]
    have hC2 := hC.w hq fr2
    -- behind a fault
    have d17 : ∀ f p a s, Top s → DQ q s → TD b n 60 f p s → ∃ u, (ca (f_X9_takes fu 2 (nI 60) s) fun r16 s17 => if r16 = 0 then (cv (f_X9_need fu 2 (nI 62) s17) fun s21 => b_X7_readTerm_34 fu 4 2 a r16 s21) else b_X7_readTerm_34 fu 4 2 a r16 s17) = some u ∧ Fr (WK q) s u ∧ Top u ∧ DQ q u ∧ TD b n 60 f p u := fun f p a s hTs hQs hD => by
      obtain ⟨s3, e3, fr3, hT3, hD3⟩ := need_d hTs hD fu (nI 62)
      obtain ⟨u, u1, u2, u3, u4, u5⟩ := t34_d hT3 hq (hQs.w fr3) hD3 a (nI 0) fu
      exact ⟨u, by rw [takes_d hTs hD fu (nI 60), ca_s, if_pos (show nI 0 = 0 from rfl), e3, cv_s]; exact u1, WK_t (WK_w fr3) u2, u3, u4, u5⟩
    by_cases c60 : t < 60
    · rw [tk_t c60] at co2 ⊢
      obtain ⟨a, s3, e3, fr3, hT3, -, a2, co3⟩ := number_l hT2 co2.1 hf (lo := 0) (hi := 7) (by omega) (by omega) (by omega)
      have hC3 := hC2.w hq fr3
      rw [e3, ca_s]
      cases hp : pN b n 0 7 (t + 1) with
      | inr e =>
        rw [hp] at co3
        obtain ⟨u, u1, u2, u3, u4, u5⟩ := d17 _ _ (nI a) s3 hT3 (hC3.dq (by omega)) co3
        exact ⟨u, u1, WK_t (WK_w fr2) (WK_t (WK_w fr3) u2), u3, u4, u5⟩
      | inl x =>
        obtain ⟨x, t2⟩ := x
        rw [hp] at co3
        obtain ⟨hc3, ax⟩ := co3
        have hc3 : TC b n 60 t2 s3 := hc3
        have ax : a = x := ax
        subst ax
        obtain ⟨-, -, -, -, p5, p6⟩ := pN_i hp
        obtain ⟨T1, T2⟩ := takes_c hT3 hc3 hf (c := 60) (by omega) (by omega)
        rw [pb_i]
        by_cases s60 : so b n t2 = 60
        · rw [if_pos s60]
          obtain ⟨s4, e4, nx⟩ := T1 s60
          obtain ⟨fr4, hT4, co4⟩ := nx.t
          have hC4 := hC3.w hq fr4
          rw [e4, ca_s, if_neg (show ¬ nI 1 = 0 by decide)]
          by_cases c61 : t2 < 60
          · rw [tk_t c61] at co4 ⊢
            obtain ⟨u, u1, u2, u3, u4, u5⟩ := t44_p hT4 hq hC4 co4.1 (a := a) (k := 3) (by omega) (by omega) (by show _ ≤ t2 + 1; omega) hf
            exact ⟨u, u1, WK_t (WK_w fr2) (WK_t (WK_w fr3) (WK_t (WK_w fr4) u2)), u3, u4, u5⟩
          · rw [tk_f c61] at co4 ⊢
            obtain ⟨u, u1, u2, u3, u4, u5⟩ := t34_d hT4 hq (hC4.dq (by omega)) co4 (nI a) (nI 1) fu
            exact ⟨u, u1, WK_t (WK_w fr2) (WK_t (WK_w fr3) (WK_t (WK_w fr4) u2)), u3, u4, u5⟩
        · rw [if_neg s60, T2 s60, ca_s, if_pos (show nI 0 = 0 from rfl)]
          obtain ⟨s4, e4, fr4, hT4, co4⟩ := need_l hT3 hc3 hf (c := 62) (by omega) (by omega)
          have hC4 := hC3.w hq fr4
          rw [e4, cv_s]
          cases hp4 : pS b n 62 t2 with
          | inr e =>
            rw [hp4] at co4
            obtain ⟨u, u1, u2, u3, u4, u5⟩ := t34_d hT4 hq (hC4.dq (by omega)) co4 (nI a) (nI 0) fu
            exact ⟨u, u1, WK_t (WK_w fr2) (WK_t (WK_w fr3) (WK_t (WK_w fr4) u2)), u3, u4, u5⟩
          | inl y =>
            obtain ⟨y, t3⟩ := y
            rw [hp4] at co4
            obtain ⟨-, y1, y2⟩ := pS_i hp4
            obtain ⟨u, u1, u2, u3, u4, u5⟩ := t44_p hT4 hq hC4 (show TC b n 60 t3 s4 from co4.1) (a := a) (k := 4) (by omega) (by omega) (by omega) hf
            exact ⟨u, u1, WK_t (WK_w fr2) (WK_t (WK_w fr3) (WK_t (WK_w fr4) u2)), u3, u4, u5⟩
    · rw [tk_f c60] at co2 ⊢
      obtain ⟨s3, e3, fr3, hT3, hD3⟩ := number_d hT2 co2 fu (nI 0) (nI 7)
      rw [e3, ca_s]
      obtain ⟨u, u1, u2, u3, u4, u5⟩ := d17 _ _ (nI 0) s3 hT3 ((hC2.dq (by omega)).w fr3) hD3
      exact ⟨u, u1, WK_t (WK_w fr2) (WK_t (WK_w fr3) u2), u3, u4, u5⟩
abbrev RKc : Type := Nat → Nat → Int32 → St → Option St
def NotP (b : BY) (n q : Nat) (rN : RKc) (x : Int32) (f : Nat → PR LK) : Prop := ∀ t c st, Top st → TC b n 60 t st → CG q c st → c.length ≤ t → ∃ u, rN 4 2 x st = some u ∧ Fr (WK q) st u ∧ Top u ∧ DQ q u ∧ COl b n (f t) (fun y => CG q (c ++ y.1) u) u
def NotD (b : BY) (n q : Nat) (rN : RKc) (x : Int32) : Prop := ∀ f p st, Top st → TD b n 60 f p st → DQ q st → ∃ u, rN 4 2 x st = some u ∧ Fr (WK q) st u ∧ Top u ∧ DQ q u ∧ TD b n 60 f p u
theorem or_d {b : BY} {n q : Nat} (hq : QK q) (fu : Nat) (rO rN : RKc) (x y : Int32) (F : Nat) {i : Nat} (hi : i ≤ 60) {f p : Nat} {st : St} (hT : Top st) (hD : TD b n 60 f p st) (hQ : DQ q st) : ∃ u, b_X7_readOr_11 fu rO rN (F + 1) 4 2 x y (nI i) st = some u ∧ Fr (WK q) st u ∧ Top u ∧ DQ q u ∧ TD b n 60 f p u := by
  have un : b_X7_readOr_11 fu rO rN (F + 1) 4 2 x y (nI i) st = b_X7_readOr_11_b fu rO rN (b_X7_readOr_11 fu rO rN F) 4 2 x y (nI i) st := rfl
  rw [un]
  unfold b_X7_readOr_11_b b_X7_readOr_80
  by_cases c : i = 60
  · rw [if_pos (show (60 : Int32) ≤ nI i by rw [c]; exact Int32.le_refl _)]
    exact ⟨st, rfl, Fr.rf, hT, hQ, hD⟩
  · rw [if_neg (fun z => by have := (nI_leI (a := 60) (b := i) (by omega) (by omega)).mp z; omega), ck_t (show (kd 2).1 = 9 from rfl), takes_d hT hD fu 38, ca_s, if_pos (show nI 0 = 0 from rfl)]
    have k54 : ∀ s, Top s → TD b n 60 f p s → b_X7_readOr_54 fu rO rN (b_X7_readOr_11 fu rO rN F) 4 2 x (nI i) s = some s := fun s hTs hDs => by
      unfold b_X7_readOr_54 b_X7_readOr_80
      rw [ck_t (show (kd 2).1 = 9 from rfl), takes_d hTs hDs fu 124, ca_s, if_pos (show nI 0 = 0 from rfl)]
    by_cases y0 : y = 0
    · rw [if_pos y0, k54 st hT hD]
      exact ⟨st, rfl, Fr.rf, hT, hQ, hD⟩
    · rw [if_neg y0, ck_t (show (kd 4).1 = 7 from rfl)]
      obtain ⟨u, e, fr, hTu, hQu, hDu⟩ := emit_d hT hq hQ hD 2 0 0 fu
      rw [e, cv_s, k54 u hTu hDu]
      exact ⟨u, rfl, fr, hTu, hQu, hDu⟩
def oc : Option LK → List Nat
  | none => []
  | some l => l.1
def ob1 : Option LK → Nat
  | none => 0
  | some _ => 1
def jn : Option LK → LK → LK
  | none, a => a
  | some l, a => lOr l a
