/-! PURE: the text of a lock: reference: not, and, or -/
abbrev RKr : Type := Nat → Int32 → St → Option St
def rtm (fu : Nat) (st : St) : Option St := ca (f_X12_takeWord fu 153 9 st) fun r13 s14 => if r13 = 0 then (ca (f_X12_takeWord fu 153 16 s14) fun r15 s16 => if r15 = 0 then (ca (f_X12_takeWord fu 153 17 s16) fun r17 s18 => if r17 = 0 then (cv (f_X12_wrong fu 153 s18) fun s19 => some s19) else (ca (f_X12_number fu 153 (nI 0) (nI 15) s18) fun _ s21 => some s21)) else (ca (f_X12_number fu 153 (nI 0) (nI 7) s16) fun _ s23 => some s23)) else (ca (f_X12_number fu 153 (nI 0) (nI 7) s14) fun _ s25 => ca (f_X12_takeSign fu 153 (nI 60) s25) fun r26 s27 => if r26 = 0 then (cv (f_X12_needSign fu 153 (nI 62) s27) fun s30 => ca (f_X12_number fu 153 (nI 0) (nI 99999) s30) fun _ s29 => some s29) else (ca (f_X12_number fu 153 (nI 0) (nI 99999) s27) fun _ s29 => some s29))
theorem nt_stop {st : St} (fu : Nat) (rO rA rN : RKr) (x : Int32) (h8 : gI st 153 8 = nI 1) : fb_X12_notText fu rO rA rN 153 x st = some st := by
  unfold fb_X12_notText
  rw [ck_t (show (kd 153).1 = 12 from rfl), h8, if_neg (show ¬ nI 1 = 0 by decide)]
theorem nt_go {st : St} (hT : Top st) (fu : Nat) (rO rA rN : RKr) (x : Int32) {t k p : Nat} (h8 : gI st 153 8 = nI 0) (h5 : gI st 153 5 = nI t) (t4 : t ≤ 4000) (hk : gI st 155 t = nI k) (hp : gI st 157 t = nI p) (k2 : k < 200) : fb_X12_notText fu rO rA rN 153 x st = if k = 33 ∨ k = 40 then b_X12_notText_46 fu rO rA rN 153 x (nI p) st else rtm fu st := by
  have r4 : gR st 153 4 = 157 := tp_153_4 hT
  have r2 : gR st 153 2 = 155 := tp_153_2 hT
  have ib : inb (nI t) 4001 := by simp (disch := first | decide | omega) [NF, NC, NB, inb]
  unfold fb_X12_notText
  rw [ck_t (show (kd 153).1 = 12 from rfl), h8, if_pos (show nI 0 = 0 from rfl), r4, ck_t (show ¬ 157 = 0 by decide), ck_t (show (kd 153).1 = 12 from rfl), bd_e, ck_t (show (kd 153).1 = 12 from rfl), h5, ck_t (show (kd 157).1 = 100 ∧ inb (nI t) (kd 157).2 from ⟨rfl, ib⟩), ixN (by omega), hp, bd_e, r2, ck_t (show ¬ 155 = 0 by decide), ck_t (show (kd 153).1 = 12 from rfl), bd_e, ck_t (show (kd 153).1 = 12 from rfl), ck_t (show (kd 155).1 = 100 ∧ inb (nI t) (kd 155).2 from ⟨rfl, ib⟩), hk]
  by_cases c33 : k = 33
  · rw [if_pos (show nI k = 33 by rw [c33]; rfl), if_pos (Or.inl c33)]
  · rw [if_neg (show ¬ nI k = 33 from fun z => c33 ((nI_eq (a := k) (b := 33) (by omega) (by omega)).mp z)), ck_t (show ¬ 155 = 0 by decide), ck_t (show (kd 153).1 = 12 from rfl), bd_e, ck_t (show (kd 153).1 = 12 from rfl), ck_t (show (kd 155).1 = 100 ∧ inb (nI t) (kd 155).2 from ⟨rfl, ib⟩), hk]
    by_cases c40 : k = 40
    · rw [if_pos (show nI k = 40 by rw [c40]; rfl), if_pos (Or.inr c40)]
    · rw [if_neg (show ¬ nI k = 40 from fun z => c40 ((nI_eq (a := k) (b := 40) (by omega) (by omega)).mp z)), if_neg (by omega)]
      rfl
def RNotP (b : BY) (n T : Nat) (rT : RKr) (x : Int32) (f : Nat → PR LK) : Prop := ∀ t st, Top st → RS b n T t st → t ≤ 60 → ∃ u, rT 153 x st = some u ∧ Fr W5 st u ∧ Top u ∧ ROl b n T (f t) u
def RNotD (b : BY) (n T : Nat) (rT : RKr) (x : Int32) : Prop := ∀ f p M st, Top st → M ≤ 4000 → LG b n T f p M st → ∃ u, rT 153 x st = some u ∧ Fr W5 st u ∧ Top u ∧ LG b n T f p M u
theorem rtm_d {st : St} (hT : Top st) {b : BY} {n T f p M : Nat} (h : LG b n T f p M st) {fu : Nat} (hf : 100 ≤ fu) : ∃ u, rtm fu st = some u ∧ Fr W5 st u ∧ Top u ∧ LG b n T f p M u := by
  unfold rtm
  have numE : ∀ s hi, hi ≤ 100000 → Top s → LG b n T f p M s → Fr W5 st s → ∃ u, (ca (f_X12_number fu 153 (nI 0) (nI hi) s) fun _ s21 => some s21) = some u ∧ Fr W5 st u ∧ Top u ∧ LG b n T f p M u := fun s hi hh hTs hs frs => by
    obtain ⟨v, u, e, fr, hTu, d⟩ := num_G hTs hs fu (lo := 0) (hi := hi) (by omega) hh
    exact ⟨u, by rw [e, ca_s], frs.tt fr, hTu, d⟩
  obtain ⟨r1, s1, e1, l1, fr1, hT1, d1⟩ := takeW_G hT h hf (w := 9) (by omega) (by omega)
  rw [e1, ca_s]
  by_cases c1 : r1 = 0
  · subst c1
    rw [if_pos (show nI 0 = 0 from rfl)]
    obtain ⟨r2, s2, e2, l2, fr2, hT2, d2⟩ := takeW_G hT1 d1 hf (w := 16) (by omega) (by omega)
    rw [e2, ca_s]
    by_cases c2 : r2 = 0
    · subst c2
      rw [if_pos (show nI 0 = 0 from rfl)]
      obtain ⟨r3, s3, e3, l3, fr3, hT3, d3⟩ := takeW_G hT2 d2 hf (w := 17) (by omega) (by omega)
      rw [e3, ca_s]
      by_cases c3 : r3 = 0
      · subst c3
        rw [if_pos (show nI 0 = 0 from rfl)]
        obtain ⟨u, e, fr, hTu, d⟩ := wrong_G hT3 d3 fu
        exact ⟨u, by rw [e, cv_s], fr1.tt (fr2.tt (fr3.tt fr)), hTu, d⟩
      · have : r3 = 1 := by omega
        subst this
        rw [if_neg (show ¬ nI 1 = 0 by decide)]
        exact numE s3 15 (by omega) hT3 d3 (fr1.tt (fr2.tt fr3))
    · have : r2 = 1 := by omega
      subst this
      rw [if_neg (show ¬ nI 1 = 0 by decide)]
      exact numE s2 7 (by omega) hT2 d2 (fr1.tt fr2)
  · have : r1 = 1 := by omega
    subst this
    rw [if_neg (show ¬ nI 1 = 0 by decide)]
    obtain ⟨v, s2, e2, fr2, hT2, d2⟩ := num_G hT1 d1 fu (lo := 0) (hi := 7) (by omega) (by omega)
    rw [e2, ca_s]
    obtain ⟨r3, s3, e3, l3, -, fr3, hT3, d3⟩ := takeS_G hT2 d2 fu (c := 60) (by omega) (by omega)
    have d3' := d3.mono (M' := M) (by by_cases c : r3 = 1 <;> simp [c])
    rw [e3, ca_s]
    by_cases c3 : r3 = 0
    · subst c3
      rw [if_pos (show nI 0 = 0 from rfl)]
      obtain ⟨s4, e4, fr4, hT4, d4⟩ := needS_G hT3 d3' fu (c := 62) (by omega) (by omega)
      rw [e4, cv_s]
      exact numE s4 99999 (by omega) hT4 d4 (fr1.tt (fr2.tt (fr3.tt fr4)))
    · have : r3 = 1 := by omega
      subst this
      rw [if_neg (show ¬ nI 1 = 0 by decide)]
      exact numE s3 99999 (by omega) hT3 d3' (fr1.tt (fr2.tt fr3))
theorem rtm_p {st : St} (hT : Top st) {b : BY} {n T t : Nat} (h : RS b n T t st) (ht : t ≤ 60) {fu : Nat} (hf : 100 ≤ fu) : ∃ u, rtm fu st = some u ∧ Fr W5 st u ∧ Top u ∧ ROl b n T (pTm b n t) u := by
  have wd : ∀ w s, 1 ≤ w → w < 24 → Top s → RS b n T t s → ∃ u, f_X12_takeWord fu 153 w s = some (nI (wB b n t w).toNat, u) ∧ Fr W5 s u ∧ Top u ∧ (wB b n t w = false → RS b n T t u) ∧ (wB b n t w = true → ROl b n T (tk b n t fun t1 => .inl ((), t1)) u) := fun w s w1 w2 hTs hs => by
    obtain ⟨y, z⟩ := takeW_s hTs hs hf w1 w2
    cases e : wB b n t w
    · obtain ⟨u, u1, u2, u3, u4⟩ := z (wB_f.mp e)
      exact ⟨u, u1, u2, u3, fun _ => u4, fun h => absurd h (by decide)⟩
    · have iw := wB_t.mp e
      obtain ⟨u, u1, u2, u3, u4⟩ := y iw
      exact ⟨u, u1, u2, u3, fun h => absurd h (by decide), fun _ => tk_G u4 (isW_s iw) ht⟩
  -- a number, and done
  have numD : ∀ s hi f p, hi ≤ 100000 → Top s → LG b n T f p T s → Fr W5 st s → ∃ u, (ca (f_X12_number fu 153 (nI 0) (nI hi) s) fun _ s21 => some s21) = some u ∧ Fr W5 st u ∧ Top u ∧ LG b n T f p T u := fun s hi f p hh hTs hs frs => by
    obtain ⟨v, u, e, fr, hTu, d⟩ := num_G hTs hs fu (lo := 0) (hi := hi) (by omega) hh
    exact ⟨u, by rw [e, ca_s], frs.tt fr, hTu, d⟩
  have numP : ∀ s hi t2 (g : Nat → LK), hi ≤ 100000 → t2 ≤ 60 → Top s → RS b n T t2 s → Fr W5 st s → ∃ u, (ca (f_X12_number fu 153 (nI 0) (nI hi) s) fun _ s21 => some s21) = some u ∧ Fr W5 st u ∧ Top u ∧ ROl b n T (pb (pN b n 0 hi t2) fun a t3 => .inl (g a, t3)) u := fun s hi t2 g hh h2 hTs hs frs => by
    obtain ⟨v, u, e, fr, hTu, d⟩ := num_k hTs hs h2 fu (lo := 0) (hi := hi) (by omega) hh
    refine ⟨u, by rw [e, ca_s], frs.tt fr, hTu, ?_⟩
    cases hp : pN b n 0 hi t2 with
    | inr e => rw [hp] at d; exact d
    | inl x => rw [hp] at d; exact d
  have numT : ∀ s hi (g : Nat → LK), hi ≤ 100000 → Top s → ROl b n T (tk b n t fun t1 => .inl ((), t1)) s → Fr W5 st s → ∃ u, (ca (f_X12_number fu 153 (nI 0) (nI hi) s) fun _ s21 => some s21) = some u ∧ Fr W5 st u ∧ Top u ∧ ROl b n T (tk b n t fun t1 => pb (pN b n 0 hi t1) fun a t3 => .inl (g a, t3)) u := fun s hi g hh hTs hs frs => by
    by_cases c60 : t < 60
    · rw [tk_t c60] at hs ⊢; exact numP s hi (t + 1) g hh (by omega) hTs hs frs
    · rw [tk_f c60] at hs ⊢; exact numD s hi _ _ hh hTs hs frs
  unfold rtm pTm
  obtain ⟨s1, e1, fr1, hT1, d1, d1'⟩ := wd 9 st (by omega) (by omega) hT h
  rw [e1, ca_s]
  cases w9 : wB b n t 9
  · rw [if_pos (show nI false.toNat = 0 from rfl), if_neg (by decide)]
    obtain ⟨s2, e2, fr2, hT2, d2, d2'⟩ := wd 16 s1 (by omega) (by omega) hT1 (d1 w9)
    rw [e2, ca_s]
    cases w16 : wB b n t 16
    · rw [if_pos (show nI false.toNat = 0 from rfl), if_neg (by decide)]
      obtain ⟨s3, e3, fr3, hT3, d3, d3'⟩ := wd 17 s2 (by omega) (by omega) hT2 (d2 w16)
      rw [e3, ca_s]
      cases w17 : wB b n t 17
      · rw [if_pos (show nI false.toNat = 0 from rfl), if_neg (by decide)]
        obtain ⟨u, e, u2⟩ := wrong_0 hT3 (d3 w17) fu
        obtain ⟨g1, g2, g3⟩ := u2.G (by omega) ht (by omega)
        exact ⟨u, by rw [e, cv_s], fr1.tt (fr2.tt (fr3.tt g1)), g2, g3⟩
      · rw [if_neg (show ¬ nI true.toNat = 0 by decide), if_pos rfl]
        exact numT s3 15 _ (by omega) hT3 (d3' w17) (fr1.tt (fr2.tt fr3))
    · rw [if_neg (show ¬ nI true.toNat = 0 by decide), if_pos rfl]
      exact numT s2 7 _ (by omega) hT2 (d2' w16) (fr1.tt fr2)
  · rw [if_neg (show ¬ nI true.toNat = 0 by decide), if_pos rfl]
    have q1 := d1' w9
    have dead : ∀ f p s, Top s → LG b n T f p T s → Fr W5 st s → ∃ u, (ca (f_X12_takeSign fu 153 (nI 60) s) fun r26 s27 => if r26 = 0 then (cv (f_X12_needSign fu 153 (nI 62) s27) fun s30 => ca (f_X12_number fu 153 (nI 0) (nI 99999) s30) fun _ s29 => some s29) else (ca (f_X12_number fu 153 (nI 0) (nI 99999) s27) fun _ s29 => some s29)) = some u ∧ Fr W5 st u ∧ Top u ∧ LG b n T f p T u := fun f p s hTs hs frs => by
      obtain ⟨r3, s3, e3, l3, -, fr3, hT3, d3⟩ := takeS_G hTs hs fu (c := 60) (by omega) (by omega)
      have d3' := d3.mono (M' := T) (by by_cases c : r3 = 1 <;> simp [c])
      rw [e3, ca_s]
      by_cases c3 : r3 = 0
      · subst c3
        rw [if_pos (show nI 0 = 0 from rfl)]
        obtain ⟨s4, e4, fr4, hT4, d4⟩ := needS_G hT3 d3' fu (c := 62) (by omega) (by omega)
        rw [e4, cv_s]
        exact numD s4 99999 _ _ (by omega) hT4 d4 (frs.tt (fr3.tt fr4))
      · have : r3 = 1 := by omega
        subst this
        rw [if_neg (show ¬ nI 1 = 0 by decide)]
        exact numD s3 99999 _ _ (by omega) hT3 d3' (frs.tt fr3)
    by_cases c60 : t < 60
    · rw [tk_t c60] at q1 ⊢
      obtain ⟨a, s2, e2, fr2, hT2, d2⟩ := num_k hT1 q1 (by show t + 1 ≤ 60; omega) fu (lo := 0) (hi := 7) (by omega) (by omega)
      rw [e2, ca_s]
      cases hp : pN b n 0 7 (t + 1) with
      | inr e =>
        rw [hp] at d2
        exact dead _ _ s2 hT2 d2 (fr1.tt fr2)
      | inl x =>
        obtain ⟨x, t2⟩ := x
        rw [hp] at d2
        have d2 : RS b n T t2 s2 := d2
        obtain ⟨-, -, -, -, p5, p6⟩ := pN_i hp
        obtain ⟨y, z⟩ := takeS_s hT2 d2 fu (c := 60) (by omega) (by omega)
        rw [pb_i]
        by_cases s60 : so b n t2 = 60
        · rw [if_pos s60]
          obtain ⟨s3, e3, fr3, hT3, d3⟩ := y s60
          have q3 := tk_G d3 (by omega) (show t2 ≤ 60 by omega)
          rw [e3, ca_s, if_neg (show ¬ nI 1 = 0 by decide)]
          by_cases c61 : t2 < 60
          · rw [tk_t c61] at q3 ⊢
            exact numP s3 99999 (t2 + 1) _ (by omega) (by omega) hT3 q3 (fr1.tt (fr2.tt fr3))
          · rw [tk_f c61] at q3 ⊢
            exact numD s3 99999 _ _ (by omega) hT3 q3 (fr1.tt (fr2.tt fr3))
        · rw [if_neg s60]
          obtain ⟨s3, e3, fr3, hT3, d3⟩ := z s60
          rw [e3, ca_s, if_pos (show nI 0 = 0 from rfl)]
          obtain ⟨s4, e4, fr4, hT4, d4⟩ := needS_k hT3 d3 (by omega) fu (c := 62) (by omega) (by omega)
          rw [e4, cv_s]
          cases hp4 : pS b n 62 t2 with
          | inr e =>
            rw [hp4] at d4
            exact numD s4 99999 _ _ (by omega) hT4 d4 (fr1.tt (fr2.tt (fr3.tt fr4)))
          | inl y =>
            obtain ⟨y, t3⟩ := y
            rw [hp4] at d4
            obtain ⟨-, y1, y2⟩ := pS_i hp4
            rw [pb_i]
            exact numP s4 99999 t3 _ (by omega) (by omega) hT4 d4 (fr1.tt (fr2.tt (fr3.tt fr4)))
    · rw [tk_f c60] at q1 ⊢
      obtain ⟨v, s2, e2, fr2, hT2, d2⟩ := num_G hT1 q1 fu (lo := 0) (hi := 7) (by omega) (by omega)
      rw [e2, ca_s]
      exact dead _ _ s2 hT2 d2 (fr1.tt fr2)
/-! the loops -/
theorem an_d {b : BY} {n T : Nat} {fu : Nat} {rO rA rN : RKr} {x : Int32} (hN : RNotD b n T rN x) {f p : Nat} : ∀ (F M : Nat) (st : St), M < F → M ≤ 4000 → Top st → LG b n T f p M st → ∃ u, b_X12_andText_5 fu rO rA rN F 153 x st = some u ∧ Fr W5 st u ∧ Top u ∧ LG b n T f p M u := by
  intro F
  induction F with
  | zero => intro M st h; omega
  | succ F ih =>
    intro M st hF hM hT h
    have un : b_X12_andText_5 fu rO rA rN (F + 1) 153 x st = b_X12_andText_5_b fu rO rA rN (b_X12_andText_5 fu rO rA rN F) 153 x st := rfl
    rw [un]
    unfold b_X12_andText_5_b
    obtain ⟨r, s1, e1, l1, m1, fr1, hT1, d1⟩ := takeS_G hT h fu (c := 38) (by omega) (by omega)
    rw [ck_t (show (kd 153).1 = 12 from rfl), show f_X12_takeSign fu 153 38 st = _ from e1, ca_s]
    by_cases c : r = 0
    · subst c
      rw [if_pos (show nI 0 = 0 from rfl)]
      exact ⟨s1, rfl, fr1, hT1, d1⟩
    · have : r = 1 := by omega
      subst this
      have m1 := m1 rfl
      rw [if_pos rfl] at d1
      obtain ⟨s2, e2, fr2, hT2, d2⟩ := hN f p (M - 1) s1 hT1 (by omega) d1
      obtain ⟨u, u1, u2, u3, u4⟩ := ih (M - 1) s2 (by omega) (by omega) hT2 d2
      rw [if_neg (show ¬ nI 1 = 0 by decide), ck_t (show (kd 153).1 = 12 from rfl), e2, cv_s]
      exact ⟨u, u1, fr1.tt (fr2.tt u2), u3, u4.mono (by omega)⟩
theorem an_p {b : BY} {n T : Nat} (hTT : T ≤ 4000) {fu : Nat} {rO rA rN : RKr} {x : Int32} {f : Nat → PR LK} (hN : RNotP b n T rN x f) (hD : RNotD b n T rN x) (hG : ∀ t y t', f t = .inl (y, t') → GD t y t') : ∀ (F g t : Nat) (a : LK) (st : St), 61 ≤ g + t → t ≤ 60 → 4200 ≤ F + t → Top st → RS b n T t st → ∃ u, b_X12_andText_5 fu rO rA rN F 153 x st = some u ∧ Fr W5 st u ∧ Top u ∧ ROl b n T (pAs b n f g a t) u := by
  intro F
  induction F with
  | zero => intro g t a st h1 h2 h3; omega
  | succ F ih =>
    intro g t a st hg t60 hF hT h
    obtain ⟨g, rfl⟩ : ∃ k, g = k + 1 := ⟨g - 1, by omega⟩
    have un : b_X12_andText_5 fu rO rA rN (F + 1) 153 x st = b_X12_andText_5_b fu rO rA rN (b_X12_andText_5 fu rO rA rN F) 153 x st := rfl
    have uA : pAs b n f (g + 1) a t = if so b n t = 38 then tk b n t fun t1 => pb (f t1) fun x t2 => pAs b n f g (lAn a x) t2 else .inl (a, t) := rfl
    rw [un, uA]
    unfold b_X12_andText_5_b
    obtain ⟨y, z⟩ := takeS_s hT h fu (c := 38) (by omega) (by omega)
    rw [ck_t (show (kd 153).1 = 12 from rfl)]
    by_cases s38 : so b n t = 38
    · rw [if_pos s38]
      obtain ⟨s1, e1, fr1, hT1, d1⟩ := y s38
      have q1 := tk_G d1 (by omega) t60
      rw [show f_X12_takeSign fu 153 38 st = _ from e1, ca_s, if_neg (show ¬ nI 1 = 0 by decide), ck_t (show (kd 153).1 = 12 from rfl)]
      have dead : ∀ f p s2, rN 153 x s1 = some s2 → Fr W5 s1 s2 → Top s2 → LG b n T f p T s2 → ∃ u, (cv (rN 153 x s1) fun s4 => b_X12_andText_5 fu rO rA rN F 153 x s4) = some u ∧ Fr W5 st u ∧ Top u ∧ LG b n T f p T u := fun f p s2 e2 fr2 hT2 d2 => by
        obtain ⟨u, u1, u2, u3, u4⟩ := an_d (fu := fu) (rO := rO) (rA := rA) hD F T s2 (by omega) hTT hT2 d2
        exact ⟨u, by rw [e2, cv_s]; exact u1, fr1.tt (fr2.tt u2), u3, u4⟩
      by_cases c60 : t < 60
      · rw [tk_t c60] at q1 ⊢
        obtain ⟨s2, e2, fr2, hT2, d2⟩ := hN (t + 1) s1 hT1 q1 (by omega)
        cases hp : f (t + 1) with
        | inr e =>
          rw [hp] at d2
          exact dead _ _ s2 e2 fr2 hT2 d2
        | inl w =>
          obtain ⟨w, t2⟩ := w
          rw [hp] at d2
          obtain ⟨g1, g2, g3, g4⟩ := hG _ _ _ hp
          obtain ⟨u, u1, u2, u3, u4⟩ := ih g t2 (lAn a w) s2 (by omega) g2 (by omega) hT2 d2
          exact ⟨u, by rw [e2, cv_s]; exact u1, fr1.tt (fr2.tt u2), u3, u4⟩
      · rw [tk_f c60] at q1 ⊢
        obtain ⟨s2, e2, fr2, hT2, d2⟩ := hD _ _ T s1 hT1 hTT q1
        exact dead _ _ s2 e2 fr2 hT2 d2
    · rw [if_neg s38]
      obtain ⟨s1, e1, fr1, hT1, d1⟩ := z s38
      rw [show f_X12_takeSign fu 153 38 st = _ from e1, ca_s, if_pos (show nI 0 = 0 from rfl)]
      exact ⟨s1, rfl, fr1, hT1, d1⟩
theorem orx_d {b : BY} {n T : Nat} {fu : Nat} {rO rA rN : RKr} {x : Int32} (hN : RNotD b n T rA x) {f p : Nat} : ∀ (F M : Nat) (st : St), M < F → M ≤ 4000 → Top st → LG b n T f p M st → ∃ u, b_X12_orText_5 fu rO rA rN F 153 x st = some u ∧ Fr W5 st u ∧ Top u ∧ LG b n T f p M u := by
  intro F
  induction F with
  | zero => intro M st h; omega
  | succ F ih =>
    intro M st hF hM hT h
    have un : b_X12_orText_5 fu rO rA rN (F + 1) 153 x st = b_X12_orText_5_b fu rO rA rN (b_X12_orText_5 fu rO rA rN F) 153 x st := rfl
    rw [un]
    unfold b_X12_orText_5_b
    obtain ⟨r, s1, e1, l1, m1, fr1, hT1, d1⟩ := takeS_G hT h fu (c := 124) (by omega) (by omega)
    rw [ck_t (show (kd 153).1 = 12 from rfl), show f_X12_takeSign fu 153 124 st = _ from e1, ca_s]
    by_cases c : r = 0
    · subst c
      rw [if_pos (show nI 0 = 0 from rfl)]
      exact ⟨s1, rfl, fr1, hT1, d1⟩
    · have : r = 1 := by omega
      subst this
      have m1 := m1 rfl
      rw [if_pos rfl] at d1
      obtain ⟨s2, e2, fr2, hT2, d2⟩ := hN f p (M - 1) s1 hT1 (by omega) d1
      obtain ⟨u, u1, u2, u3, u4⟩ := ih (M - 1) s2 (by omega) (by omega) hT2 d2
      rw [if_neg (show ¬ nI 1 = 0 by decide), ck_t (show (kd 153).1 = 12 from rfl), e2, cv_s]
      exact ⟨u, u1, fr1.tt (fr2.tt u2), u3, u4.mono (by omega)⟩
theorem pAnF_i {b : BY} {n : Nat} {f : Nat → PR LK} (hf : ∀ t x t', f t = .inl (x, t') → GD t x t') (t : Nat) (x : LK) (t' : Nat) (h : pAnF b n f t = .inl (x, t')) : GD t x t' := by
  obtain ⟨z, t1, h3, h4⟩ := pb_inl h
  exact pAs_i hf 62 _ _ _ _ _ (hf _ _ _ h3) h4
theorem orx_p {b : BY} {n T : Nat} (hTT : T ≤ 4000) {fu : Nat} {rO rA rN : RKr} {x : Int32} {f : Nat → PR LK} (hN : RNotP b n T rA x (pAnF b n f)) (hD : RNotD b n T rA x) (hG : ∀ t y t', f t = .inl (y, t') → GD t y t') : ∀ (F g t : Nat) (a : LK) (st : St), 61 ≤ g + t → t ≤ 60 → 4200 ≤ F + t → Top st → RS b n T t st → ∃ u, b_X12_orText_5 fu rO rA rN F 153 x st = some u ∧ Fr W5 st u ∧ Top u ∧ ROl b n T (pOs b n f g a t) u := by
  intro F
  induction F with
  | zero => intro g t a st h1 h2 h3; omega
  | succ F ih =>
    intro g t a st hg t60 hF hT h
    obtain ⟨g, rfl⟩ : ∃ k, g = k + 1 := ⟨g - 1, by omega⟩
    have un : b_X12_orText_5 fu rO rA rN (F + 1) 153 x st = b_X12_orText_5_b fu rO rA rN (b_X12_orText_5 fu rO rA rN F) 153 x st := rfl
    have uA : pOs b n f (g + 1) a t = if so b n t = 124 then tk b n t fun t1 => pb (f t1) fun x t2 => pb (pAs b n f 62 x t2) fun y t3 => pOs b n f g (lOr a y) t3 else .inl (a, t) := rfl
    have pA : ∀ t1, (pb (f t1) fun x t2 => pb (pAs b n f 62 x t2) fun y t3 => pOs b n f g (lOr a y) t3) = pb (pAnF b n f t1) fun y t3 => pOs b n f g (lOr a y) t3 := fun t1 => by
      unfold pAnF
      cases f t1 <;> rfl
    rw [un, uA]
    simp only [pA]
    unfold b_X12_orText_5_b
    obtain ⟨y, z⟩ := takeS_s hT h fu (c := 124) (by omega) (by omega)
    rw [ck_t (show (kd 153).1 = 12 from rfl)]
    by_cases s38 : so b n t = 124
    · rw [if_pos s38]
      obtain ⟨s1, e1, fr1, hT1, d1⟩ := y s38
      have q1 := tk_G d1 (by omega) t60
      rw [show f_X12_takeSign fu 153 124 st = _ from e1, ca_s, if_neg (show ¬ nI 1 = 0 by decide), ck_t (show (kd 153).1 = 12 from rfl)]
      have dead : ∀ f p s2, rA 153 x s1 = some s2 → Fr W5 s1 s2 → Top s2 → LG b n T f p T s2 → ∃ u, (cv (rA 153 x s1) fun s4 => b_X12_orText_5 fu rO rA rN F 153 x s4) = some u ∧ Fr W5 st u ∧ Top u ∧ LG b n T f p T u := fun f p s2 e2 fr2 hT2 d2 => by
        obtain ⟨u, u1, u2, u3, u4⟩ := orx_d (fu := fu) (rO := rO) (rN := rN) hD F T s2 (by omega) hTT hT2 d2
        exact ⟨u, by rw [e2, cv_s]; exact u1, fr1.tt (fr2.tt u2), u3, u4⟩
      by_cases c60 : t < 60
      · rw [tk_t c60] at q1 ⊢
        obtain ⟨s2, e2, fr2, hT2, d2⟩ := hN (t + 1) s1 hT1 q1 (by omega)
        cases hp : pAnF b n f (t + 1) with
        | inr e =>
          rw [hp] at d2
          exact dead _ _ s2 e2 fr2 hT2 d2
        | inl w =>
          obtain ⟨w, t2⟩ := w
          rw [hp] at d2
          obtain ⟨g1, g2, g3, g4⟩ := pAnF_i hG _ _ _ hp
          obtain ⟨u, u1, u2, u3, u4⟩ := ih g t2 (lOr a w) s2 (by omega) g2 (by omega) hT2 d2
          exact ⟨u, by rw [e2, cv_s]; exact u1, fr1.tt (fr2.tt u2), u3, u4⟩
      · rw [tk_f c60] at q1 ⊢
        obtain ⟨s2, e2, fr2, hT2, d2⟩ := hD _ _ T s1 hT1 hTT q1
        exact dead _ _ s2 e2 fr2 hT2 d2
    · rw [if_neg s38]
      obtain ⟨s1, e1, fr1, hT1, d1⟩ := z s38
      rw [show f_X12_takeSign fu 153 124 st = _ from e1, ca_s, if_pos (show nI 0 = 0 from rfl)]
      exact ⟨s1, rfl, fr1, hT1, d1⟩
theorem anx_p {b : BY} {n T : Nat} (hTT : T ≤ 4000) {fu : Nat} (hf : 4300 ≤ fu) {rO rA rN : RKr} {x : Int32} {f : Nat → PR LK} (hN : RNotP b n T rN x f) (hD : RNotD b n T rN x) (hG : ∀ t y t', f t = .inl (y, t') → GD t y t') : RNotP b n T (fb_X12_andText fu rO rA rN) x (pAnF b n f) := by
  intro t st hT h ht
  obtain ⟨s1, e1, fr1, hT1, d1⟩ := hN t st hT h ht
  unfold fb_X12_andText pAnF
  rw [ck_t (show (kd 153).1 = 12 from rfl), e1, cv_s]
  cases hp : f t with
  | inr e =>
    rw [hp] at d1
    obtain ⟨u, u1, u2, u3, u4⟩ := an_d (fu := fu) (rO := rO) (rA := rA) hD fu T s1 (by omega) hTT hT1 d1
    exact ⟨u, u1, fr1.tt u2, u3, u4⟩
  | inl y =>
    obtain ⟨y, t1⟩ := y
    rw [hp] at d1
    obtain ⟨y1, y2, y3, y4⟩ := hG _ _ _ hp
    obtain ⟨u, u1, u2, u3, u4⟩ := an_p (fu := fu) (rO := rO) (rA := rA) hTT hN hD hG fu 62 t1 y s1 (by omega) y2 (by omega) hT1 d1
    exact ⟨u, u1, fr1.tt u2, u3, u4⟩
theorem anx_d {b : BY} {n T : Nat} {fu : Nat} (hf : 4300 ≤ fu) {rO rA rN : RKr} {x : Int32} (hD : RNotD b n T rN x) : RNotD b n T (fb_X12_andText fu rO rA rN) x := by
  intro f p M st hT hM h
  obtain ⟨s1, e1, fr1, hT1, d1⟩ := hD f p M st hT hM h
  obtain ⟨u, u1, u2, u3, u4⟩ := an_d (fu := fu) (rO := rO) (rA := rA) hD fu M s1 (by omega) hM hT1 d1
  unfold fb_X12_andText
  rw [ck_t (show (kd 153).1 = 12 from rfl), e1, cv_s]
  exact ⟨u, u1, fr1.tt u2, u3, u4⟩
theorem oro_p {b : BY} {n T : Nat} (hTT : T ≤ 4000) {fu : Nat} (hf : 4300 ≤ fu) {rO rA rN : RKr} {x : Int32} {f : Nat → PR LK} (hN : RNotP b n T rA x (pAnF b n f)) (hD : RNotD b n T rA x) (hG : ∀ t y t', f t = .inl (y, t') → GD t y t') : RNotP b n T (fb_X12_orText fu rO rA rN) x (pOrF b n f) := by
  intro t st hT h ht
  obtain ⟨s1, e1, fr1, hT1, d1⟩ := hN t st hT h ht
  unfold fb_X12_orText pOrF
  rw [ck_t (show (kd 153).1 = 12 from rfl), e1, cv_s]
  cases hp : pAnF b n f t with
  | inr e =>
    rw [hp] at d1
    obtain ⟨u, u1, u2, u3, u4⟩ := orx_d (fu := fu) (rO := rO) (rN := rN) hD fu T s1 (by omega) hTT hT1 d1
    exact ⟨u, u1, fr1.tt u2, u3, u4⟩
  | inl y =>
    obtain ⟨y, t1⟩ := y
    rw [hp] at d1
    obtain ⟨y1, y2, y3, y4⟩ := pAnF_i hG _ _ _ hp
    obtain ⟨u, u1, u2, u3, u4⟩ := orx_p (fu := fu) (rO := rO) (rN := rN) hTT hN hD hG fu 62 t1 y s1 (by omega) y2 (by omega) hT1 d1
    exact ⟨u, u1, fr1.tt u2, u3, u4⟩
theorem oro_d {b : BY} {n T : Nat} {fu : Nat} (hf : 4300 ≤ fu) {rO rA rN : RKr} {x : Int32} (hD : RNotD b n T rA x) : RNotD b n T (fb_X12_orText fu rO rA rN) x := by
  intro f p M st hT hM h
  obtain ⟨s1, e1, fr1, hT1, d1⟩ := hD f p M st hT hM h
  obtain ⟨u, u1, u2, u3, u4⟩ := orx_d (fu := fu) (rO := rO) (rN := rN) hD fu M s1 (by omega) hM hT1 d1
  unfold fb_X12_orText
  rw [ck_t (show (kd 153).1 = 12 from rfl), e1, cv_s]
  exact ⟨u, u1, fr1.tt u2, u3, u4⟩
