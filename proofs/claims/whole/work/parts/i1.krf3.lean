/-! PURE: the text of a lock: reference: not, by depth; the whole -/
theorem FoS {fu D : Nat} : (F_X12_orText fu (D + 1)).1 = fb_X12_orText fu (F_X12_orText fu D).1 (F_X12_orText fu D).2.1 (F_X12_orText fu D).2.2 := rfl
theorem FaS {fu D : Nat} : (F_X12_orText fu (D + 1)).2.1 = fb_X12_andText fu (F_X12_orText fu D).1 (F_X12_orText fu D).2.1 (F_X12_orText fu D).2.2 := rfl
theorem FnS {fu D : Nat} : (F_X12_orText fu (D + 1)).2.2 = fb_X12_notText fu (F_X12_orText fu D).1 (F_X12_orText fu D).2.1 (F_X12_orText fu D).2.2 := rfl
theorem or2_d {b : BY} {n T : Nat} {fu : Nat} (hf : 4300 ≤ fu) {E : Nat} {x : Int32} (h : RNotD b n T (F_X12_orText fu E).2.2 x) : RNotD b n T (F_X12_orText fu (E + 1 + 1)).1 x := by
  rw [FoS]
  exact oro_d hf (by rw [FaS]; exact anx_d hf h)
theorem or2_p {b : BY} {n T : Nat} (hTT : T ≤ 4000) {fu : Nat} (hf : 4300 ≤ fu) {E : Nat} {x : Int32} {f : Nat → PR LK} (h : RNotP b n T (F_X12_orText fu E).2.2 x f) (hD : RNotD b n T (F_X12_orText fu E).2.2 x) (hG : ∀ t y t', f t = .inl (y, t') → GD t y t') : RNotP b n T (F_X12_orText fu (E + 1 + 1)).1 x (pOrF b n f) := by
  rw [FoS]
  exact oro_p hTT hf (by rw [FaS]; exact anx_p hTT hf h hD hG) (by rw [FaS]; exact anx_d hf hD) hG
theorem x12 {d : Nat} (hd : d + 1 ≤ 12) : nI (12 - (d + 1)) + 1 = nI (12 - d) := by
  rw [show (1 : Int32) = nI 1 from rfl, nI_add]
  congr 1
  omega
theorem l12 {d : Nat} (hd : d + 1 ≤ 12) : nI (12 - (d + 1)) < 12 := (nI_ltI (a := 12 - (d + 1)) (b := 12) (by omega) (by omega)).mpr (by omega)
theorem nt46_0 {s s1 : St} (fu : Nat) (rO rA rN : RKr) (y : Int32) (e : f_X12_tell fu 153 (nI 2) y s = some s1) : b_X12_notText_46 fu rO rA rN 153 (nI (12 - 0)) y s = some (sI s1 153 8 (nI 1)) := by
  unfold b_X12_notText_46
  rw [if_neg (show ¬ nI (12 - 0) < 12 by decide), ck_t (show (kd 153).1 = 12 from rfl), show f_X12_tell fu 153 2 y s = some s1 from e, cv_s]
  rfl
theorem nt46_s {s s5 : St} (fu : Nat) (rO rA rN : RKr) (y : Int32) {d : Nat} (hd : d + 1 ≤ 12) {r : Int32} (e : f_X12_takeSign fu 153 (nI 33) s = some (r, s5)) : b_X12_notText_46 fu rO rA rN 153 (nI (12 - (d + 1))) y s = if r = 0 then (cv (f_X12_needSign fu 153 (nI 40) s5) fun s6 => cv (rO 153 (nI (12 - d)) s6) fun s7 => cv (f_X12_needSign fu 153 (nI 41) s7) fun s8 => some s8) else (cv (rN 153 (nI (12 - d)) s5) fun s9 => some s9) := by
  unfold b_X12_notText_46 b_X12_notText_196
  rw [if_pos (l12 hd), ck_t (show (kd 153).1 = 12 from rfl), show f_X12_takeSign fu 153 33 s = _ from e, ca_s, x12 hd]
  rfl
theorem nt_d {b : BY} {n T : Nat} {fu : Nat} (hf : 4300 ≤ fu) : ∀ (d D : Nat), d ≤ 12 → 3 * d + 1 ≤ D → RNotD b n T (F_X12_orText fu D).2.2 (nI (12 - d)) := by
  intro d
  induction d with
  | zero =>
    intro D _ hD f p M st hT hM h
    obtain ⟨D, rfl⟩ : ∃ k, D = k + 1 := ⟨D - 1, by omega⟩
    rw [FnS]
    rcases h.see with q | ⟨t, q1, q2, q3, q4, q5, q6, q7, q8⟩
    · exact ⟨st, nt_stop fu _ _ _ _ q, Fr.rf, hT, h⟩
    · rw [nt_go hT fu _ _ _ _ q1 q2 q3 q4 q5 q6]
      by_cases c : so b n t = 33 ∨ so b n t = 40
      · rw [if_pos c]
        obtain ⟨s1, e1, e2, e3, e4⟩ := q8 fu hT
        exact ⟨_, nt46_0 fu _ _ _ _ e1, e2, e3, e4⟩
      · rw [if_neg c]
        exact rtm_d hT h (by omega)
  | succ d ih =>
    intro D hd hD f p M st hT hM h
    obtain ⟨D, rfl⟩ : ∃ k, D = k + 1 + 1 + 1 := ⟨D - 3, by omega⟩
    rw [FnS]
    have iN := ih (D + 1 + 1) (by omega) (by omega)
    have iO := or2_d hf (ih D (by omega) (by omega))
    rcases h.see with q | ⟨t, q1, q2, q3, q4, q5, q6, q7, q8⟩
    · exact ⟨st, nt_stop fu _ _ _ _ q, Fr.rf, hT, h⟩
    · rw [nt_go hT fu _ _ _ _ q1 q2 q3 q4 q5 q6]
      by_cases c : so b n t = 33 ∨ so b n t = 40
      · rw [if_pos c]
        obtain ⟨r, s1, e1, l1, m1, fr1, hT1, d1⟩ := takeS_G hT h fu (c := 33) (by omega) (by omega)
        have d1' := d1.mono (M' := M) (by by_cases c : r = 1 <;> simp [c])
        rw [nt46_s fu _ _ _ _ hd e1]
        by_cases r0 : r = 0
        · subst r0
          rw [if_pos (show nI 0 = 0 from rfl)]
          obtain ⟨s2, e2, fr2, hT2, d2⟩ := needS_G hT1 d1' fu (c := 40) (by omega) (by omega)
          obtain ⟨s3, e3, fr3, hT3, d3⟩ := iO f p M s2 hT2 hM d2
          obtain ⟨s4, e4, fr4, hT4, d4⟩ := needS_G hT3 d3 fu (c := 41) (by omega) (by omega)
          exact ⟨s4, by rw [e2, cv_s, e3, cv_s, e4, cv_s], fr1.tt (fr2.tt (fr3.tt fr4)), hT4, d4⟩
        · have : r = 1 := by omega
          subst this
          rw [if_neg (show ¬ nI 1 = 0 by decide)]
          obtain ⟨s2, e2, fr2, hT2, d2⟩ := iN f p M s1 hT1 hM d1'
          exact ⟨s2, by rw [e2, cv_s], fr1.tt fr2, hT2, d2⟩
      · rw [if_neg c]
        exact rtm_d hT h (by omega)
theorem nt_p {b : BY} {n T : Nat} (hTT : T ≤ 4000) {fu : Nat} (hf : 4300 ≤ fu) : ∀ (d D : Nat), d ≤ 12 → 3 * d + 1 ≤ D → RNotP b n T (F_X12_orText fu D).2.2 (nI (12 - d)) (pNt b n d) := by
  intro d
  induction d with
  | zero =>
    intro D _ hD t st hT h ht
    obtain ⟨D, rfl⟩ : ∃ k, D = k + 1 := ⟨D - 1, by omega⟩
    obtain ⟨x1, x2, x3, x4, x5, x6, x7, x8, x9⟩ := h.rd
    rw [FnS, nt_go hT fu _ _ _ _ x6 x1 x2 x3 x4 x5]
    unfold pNt
    by_cases c : so b n t = 33 ∨ so b n t = 40
    · rw [if_pos c, if_pos c]
      obtain ⟨s1, e, e1, e2, e3⟩ := deep_s hT h fu
      exact ⟨_, nt46_0 fu _ _ _ _ e, e1, e2, pl_le ht, by omega, by omega, Or.inl ⟨t, 1, e3, Or.inl rfl⟩⟩
    · rw [if_neg c, if_neg c]
      exact rtm_p hT h ht (by omega)
  | succ d ih =>
    intro D hd hD t st hT h ht
    obtain ⟨D, rfl⟩ : ∃ k, D = k + 1 + 1 + 1 := ⟨D - 3, by omega⟩
    obtain ⟨x1, x2, x3, x4, x5, x6, x7, x8, x9⟩ := h.rd
    have iN := ih (D + 1 + 1) (by omega) (by omega)
    have iND := nt_d (b := b) (n := n) (T := T) hf d (D + 1 + 1) (by omega) (by omega)
    have i0D := nt_d (b := b) (n := n) (T := T) hf d D (by omega) (by omega)
    have iOD := or2_d hf i0D
    have iO := or2_p hTT hf (ih D (by omega) (by omega)) i0D (pNt_i d)
    have uN : pNt b n (d + 1) t = if so b n t = 33 then tk b n t fun t1 => pb (pNt b n d t1) fun x t2 => .inl (lNg x, t2) else if so b n t = 40 then tk b n t fun t1 => pb (pOrF b n (pNt b n d) t1) fun x t2 => pb (pS b n 41 t2) fun _ t3 => .inl (x, t3) else pTm b n t := rfl
    rw [FnS, nt_go hT fu _ _ _ _ x6 x1 x2 x3 x4 x5, uN]
    obtain ⟨y, z⟩ := takeS_s hT h fu (c := 33) (by omega) (by omega)
    by_cases c33 : so b n t = 33
    · rw [if_pos (Or.inl c33), if_pos c33]
      obtain ⟨s1, e1, fr1, hT1, d1⟩ := y c33
      have q1 := tk_G d1 (by omega) ht
      rw [nt46_s fu _ _ _ _ hd e1, if_neg (show ¬ nI 1 = 0 by decide)]
      by_cases c60 : t < 60
      · rw [tk_t c60] at q1 ⊢
        obtain ⟨s2, e2, fr2, hT2, d2⟩ := iN (t + 1) s1 hT1 q1 (by omega)
        refine ⟨s2, by rw [e2, cv_s], fr1.tt fr2, hT2, ?_⟩
        cases hp : pNt b n d (t + 1) with
        | inr e => rw [hp] at d2; exact d2
        | inl w => rw [hp] at d2; exact d2
      · rw [tk_f c60] at q1 ⊢
        obtain ⟨s2, e2, fr2, hT2, d2⟩ := iND _ _ T s1 hT1 hTT q1
        exact ⟨s2, by rw [e2, cv_s], fr1.tt fr2, hT2, d2⟩
    · rw [if_neg c33]
      by_cases c40 : so b n t = 40
      · rw [if_pos (Or.inr c40), if_pos c40]
        obtain ⟨s1, e1, fr1, hT1, d1⟩ := z c33
        rw [nt46_s fu _ _ _ _ hd e1, if_pos (show nI 0 = 0 from rfl)]
        obtain ⟨y4, -⟩ := needS_s hT1 d1 fu (c := 40) (by omega) (by omega)
        obtain ⟨s2, e2, fr2, hT2, d2⟩ := y4 c40
        have q2 := tk_G d2 (by omega) ht
        rw [e2, cv_s]
        have dead : ∀ f p s3, (F_X12_orText fu (D + 1 + 1)).1 153 (nI (12 - d)) s2 = some s3 → Fr W5 s2 s3 → Top s3 → LG b n T f p T s3 → ∃ u, (cv ((F_X12_orText fu (D + 1 + 1)).1 153 (nI (12 - d)) s2) fun s7 => cv (f_X12_needSign fu 153 (nI 41) s7) fun s8 => some s8) = some u ∧ Fr W5 st u ∧ Top u ∧ LG b n T f p T u := fun f p s3 e3 fr3 hT3 d3 => by
          obtain ⟨s4, e4, fr4, hT4, d4⟩ := needS_G hT3 d3 fu (c := 41) (by omega) (by omega)
          exact ⟨s4, by rw [e3, cv_s, e4, cv_s], fr1.tt (fr2.tt (fr3.tt fr4)), hT4, d4⟩
        by_cases c60 : t < 60
        · rw [tk_t c60] at q2 ⊢
          obtain ⟨s3, e3, fr3, hT3, d3⟩ := iO (t + 1) s2 hT2 q2 (by omega)
          cases hp : pOrF b n (pNt b n d) (t + 1) with
          | inr e =>
            rw [hp] at d3
            exact dead _ _ s3 e3 fr3 hT3 d3
          | inl w =>
            obtain ⟨w, t2⟩ := w
            rw [hp] at d3
            obtain ⟨g1, g2, g3, g4⟩ := pOr_i hp
            obtain ⟨s4, e4, fr4, hT4, d4⟩ := needS_k hT3 (show RS b n T t2 s3 from d3) g2 fu (c := 41) (by omega) (by omega)
            refine ⟨s4, by rw [e3, cv_s, e4, cv_s], fr1.tt (fr2.tt (fr3.tt fr4)), hT4, ?_⟩
            rw [pb_i]
            cases hp4 : pS b n 41 t2 with
            | inr e => rw [hp4] at d4; exact d4
            | inl w => rw [hp4] at d4; exact d4
        · rw [tk_f c60] at q2 ⊢
          obtain ⟨s3, e3, fr3, hT3, d3⟩ := iOD _ _ T s2 hT2 hTT q2
          exact dead _ _ s3 e3 fr3 hT3 d3
      · rw [if_neg (by omega), if_neg c40]
        exact rtm_p hT h ht (by omega)
/-! storing -/
theorem lk96 {fu : Nat} {m k : Nat} (hm : m < 8) (hk : k ≤ 60) (s0 : St) : ∀ (F x : Nat) (s : St), Top s → x ≤ k → k < F + x → Fr [(212, none), (213, none)] s0 s → (∀ i, i < x → gI s 212 (61 * m + i) = gI s0 155 i ∧ gL s 213 (61 * m + i) = gL s0 156 i) → (∀ y, (y < 61 * m ∨ 61 * m + 61 ≤ y) → gI s 212 y = gI s0 212 y ∧ gL s 213 y = gL s0 213 y) → ∃ u, b_X12_lock_96 fu F 153 (nI m) (nI k) (nI x) s = some (nI 0, u) ∧ Top u ∧ Fr [(212, none), (213, none)] s0 u ∧ (∀ i, i < k → gI u 212 (61 * m + i) = gI s0 155 i ∧ gL u 213 (61 * m + i) = gL s0 156 i) ∧ ∀ y, (y < 61 * m ∨ 61 * m + 61 ≤ y) → gI u 212 y = gI s0 212 y ∧ gL u 213 y = gL s0 213 y := by
  intro F
  induction F with
  | zero => intro x s hT hx hF; omega
  | succ F ih =>
    intro x s hT hx hF fr hA hO
    have un : b_X12_lock_96 fu (F + 1) 153 (nI m) (nI k) (nI x) s = b_X12_lock_96_b fu (b_X12_lock_96 fu F) 153 (nI m) (nI k) (nI x) s := rfl
    rw [un]
    by_cases c : x = k
    · subst c
      refine ⟨s, ?_, hT, fr, hA, hO⟩
      clear ih un hA hO
      simp (disch := first | decide | omega) [↓bd_e, isb, ck_tt, NP, NF, NC, NB, NS, GS, kdR, tpR hT, b_X12_lock_96_b]
    · obtain ⟨s1, hs1⟩ : ∃ s1, s1 = sL (sI s 212 (61 * m + x) (gI s 155 x)) 213 (61 * m + x) (gL s 156 x) := ⟨_, rfl⟩
      have frs : Fr [(212, none), (213, none)] s s1 := by rw [hs1]; exact ((Fr.ia s 212 _ _).tr (Fr.la _ 213 _ _)).wd (by decide)
      have z1 : ∀ y, gI s1 212 y = if y = 61 * m + x then gI s0 155 x else gI s 212 y := fun y => by rw [hs1, ← fr.fi 155 (by decide)]; simp [gI_sL, gI_sI]
      have z2 : ∀ y, gL s1 213 y = if y = 61 * m + x then gL s0 156 x else gL s 213 y := fun y => by rw [hs1, ← fr.fl 156 (by decide)]; simp [gL_sL, gL_sI]
      obtain ⟨u, q1, q2, q3, q4, q5⟩ := ih (x + 1) s1 (hT.r (by rw [hs1]; rfl)) (by omega) (by omega) (fr.tt frs) (fun i hi => by
        rw [z1, z2]
        by_cases e : i = x
        · subst e; rw [if_pos rfl, if_pos rfl]; exact ⟨rfl, rfl⟩
        · rw [if_neg (by omega), if_neg (by omega)]; exact hA i (by omega)) (fun y hy => by
        rw [z1, z2, if_neg (by omega), if_neg (by omega)]; exact hO y hy)
      refine ⟨u, ?_, q2, q3, q4, q5⟩
      rw [← q1, hs1]
      clear ih un hA hO frs z1 z2 q1 q2 q3 q4 q5
      simp (disch := first | decide | omega) [↓bd_e, isb, ck_tt, NP, NF, NC, NB, NS, GS, kdR, tpR hT, b_X12_lock_96_b]
/-! the end: what stands -/
theorem lk72_f {s : St} (fu : Nat) (m v : Int32) {f : Nat} (h6 : gI s 153 6 = nI f) (f1 : 1 ≤ f) (f3 : f ≤ 3) : b_X12_lock_72 fu 153 m v s = some (-10 - gI s 153 7, s) := by
  unfold b_X12_lock_72
  rw [ck_t (show (kd 153).1 = 12 from rfl), h6, if_neg (fun z => by have := (nI_eq (a := f) (b := 0) (by omega) (by omega)).mp z; omega), ck_t (show (kd 153).1 = 12 from rfl)]
theorem lk49 {s : St} (hT : Top s) (fu : Nat) (m : Int32) {t p : Nat} (h5 : gI s 153 5 = nI t) (ht : t ≤ 4000) (h7 : 60 < t → gI s 157 60 = nI p) : b_X12_lock_49 fu 153 m s = if t ≤ 60 then b_X12_lock_72 fu 153 m (nI t) s else cv (f_X12_tell fu 153 (nI 2) (nI p) s) fun s15 => b_X12_lock_72 fu 153 m (nI t) s15 := by
  have r4 : gR s 153 4 = 157 := tp_153_4 hT
  have ib : inb 60 4001 := by decide
  unfold b_X12_lock_49
  rw [ck_t (show (kd 153).1 = 12 from rfl), h5, bd_e]
  by_cases c : t ≤ 60
  · rw [if_pos c, if_pos (show nI t ≤ (60 : Int32) from (nI_leI (a := t) (b := 60) (by omega) (by omega)).mpr c)]
  · rw [if_neg c, if_neg (show ¬ nI t ≤ (60 : Int32) from fun z => c ((nI_leI (a := t) (b := 60) (by omega) (by omega)).mp z)), r4, ck_t (show ¬ 157 = 0 by decide), ck_t (show (kd 153).1 = 12 from rfl), bd_e, ck_t (show (kd 157).1 = 100 ∧ inb 60 (kd 157).2 from ⟨rfl, ib⟩), ck_t (show (kd 153).1 = 12 from rfl), show ix 60 = 60 from rfl, h7 (by omega)]
    rfl
theorem LG.fin {b : BY} {n T f p M : Nat} {st : St} (h : LG b n T f p M st) (hT : Top st) (fu : Nat) (m : Int32) : ∃ u, b_X12_lock_49 fu 153 m st = some (-10 - nI p, u) ∧ Fr W5 st u ∧ Top u ∧ gI u 153 6 = nI f := by
  obtain ⟨h1, h2, h3, h4⟩ := id h
  have pn := (pl_b b n 60).2
  have g157 : ∀ t f' p' s, RfA b n T t f' p' s st → 60 < t → gI st 157 60 = nI (pl b n 60) := fun t f' p' s q c => (q.1.sot (t := 60) (by have := q.2.2.1; omega)).2.1
  have toldE : ∀ t f' p' s, RfA b n T t f' p' s st → 60 < t → f = 2 → p = pl b n 60 → (f' = 0 ∨ pl b n 60 < p') → ∃ u, b_X12_lock_49 fu 153 m st = some (-10 - nI p, u) ∧ Fr W5 st u ∧ Top u ∧ gI u 153 6 = nI f := fun t f' p' s q c e1 e2 e3 => by
    obtain ⟨x1, x2, -⟩ := q.rd
    obtain ⟨y, -⟩ := tell_r hT q fu (k := 2) (q := pl b n 60) (by omega) (by omega) pn
    obtain ⟨u, u1, u2, u3, u4⟩ := y (by omega)
    have u6 := u4.2.2.2.1
    have u7 := u4.2.2.2.2.2.1
    refine ⟨u, ?_, u2, u3, by rw [e1]; exact u6⟩
    rw [lk49 hT fu m x1 x2 (g157 t f' p' s q), if_neg (by omega), u1, cv_s, lk72_f fu m _ u6 (by omega) (by omega), u7, e2]
  rcases h4 with ⟨t, s, q1, q2⟩ | ⟨a1, a2, t, a3, a4, q⟩
  · obtain ⟨x1, x2, -⟩ := q1.1.rd
    have u6 := q1.1.2.2.2.1
    have u7 := q1.1.2.2.2.2.2.1
    refine ⟨st, ?_, Fr.rf, hT, u6⟩
    rw [lk49 hT fu m x1 x2 (g157 t f p s q1.1)]
    by_cases c : t ≤ 60
    · rw [if_pos c, lk72_f fu m _ u6 h2 (by omega), u7]
    · rw [if_neg c, tell_D hT ⟨t, s, q1, q2⟩ fu (k := 2) (q := pl b n 60) (by omega) (by omega) pn (by omega), cv_s, lk72_f fu m _ u6 h2 (by omega), u7]
  · rcases q with ⟨q1, q2⟩ | ⟨f', p', s, q1, q2, q3⟩
    · exact toldE t 0 0 0 q1 a3 a1 a2 (Or.inl rfl)
    · exact toldE t f' p' s q1.1 a3 a1 a2 (Or.inr q2)
/-- the tokens of axis m, as the reference keeps them -/
def TKs (b : BY) (n m t : Nat) (st : St) : Prop := ∀ i, i < t → gI st 212 (61 * m + i) = nI (so b n i) ∧ (so b n i = 1 → gL st 213 (61 * m + i) = lN (wv b (pl b n i) (af b n (i + 1) - pl b n i))) ∧ (so b n i = 2 → gL st 213 (61 * m + i) = lN (nvt b n i))
def WkB : List PL := [(153, some 1), (153, some 5), (153, some 6), (153, some 7), (153, some 8), (155, none), (156, none), (157, none)]
def WkO : List PL := WkB ++ [(211, none), (212, none), (213, none)]
theorem lock_r {st : St} (hT : Top st) {b : BY} {n : Nat} (h1 : gI st 153 1 = nI n) (h2 : n ≤ 4000) (h3 : ∀ i, i < n → gI st 154 i = b i) {fu : Nat} (hf : 4300 ≤ fu) {m : Nat} (hm : m < 8) : (∀ x t, pLock b n = .inl (x, t) → ∃ u, f_X12_lock fu 153 (nI m) st = some (nI 0, u) ∧ Fr WkO st u ∧ gI u 153 1 = nI 0 ∧ gI u 153 6 = nI 0 ∧ (∀ y, gI u 211 y = if y = m then nI t else gI st 211 y) ∧ TKs b n m t u ∧ ∀ y, (y < 61 * m ∨ 61 * m + 61 ≤ y) → gI u 212 y = gI st 212 y ∧ gL u 213 y = gL st 213 y) ∧ (∀ f p, pLock b n = .inr (f, p) → ∃ u, f_X12_lock fu 153 (nI m) st = some (-10 - nI p, u) ∧ Fr WkB st u ∧ gI u 153 1 = nI 0 ∧ gI u 153 6 = nI f) := by
  obtain ⟨s1, T, e1, fr1, hT1, hX, z1, z5, z6, z7, z8⟩ := read_r hT h1 h2 h3 (fu := fu) (by omega)
  have R1 : RS b n T 0 s1 := ⟨hX, z5, Nat.zero_le _, z6, by omega, z7, Nat.zero_le _, z8, by omega⟩
  have TT : T ≤ 4000 := by have := hX.2.2.2.2.1; omega
  have P : RNotP b n T (F_X12_orText fu 45).1 (nI 0) (pOrF b n (pNt b n 12)) := or2_p (E := 43) TT hf (nt_p TT hf 12 43 (by omega) (by omega)) (nt_d hf 12 43 (by omega) (by omega)) (pNt_i 12)
  obtain ⟨s2, e2, fr2, hT2, d2⟩ := P 0 s1 hT1 R1 (by omega)
  have f1 : Fr WkB st s1 := fr1.sub (by simp [WR, WkB])
  have w5 : ∀ s, Fr W5 s2 s → Fr WkB st s := fun s q => f1.tt ((fr2.tt q).sub (by simp [W5, WkB]))
  have hd : f_X12_lock fu 153 (nI m) st = if gI s2 153 8 = 0 then (ck (¬ gR s2 153 2 = 0) <| ck ((kd 153).1 = 12) <| bd (gR s2 153 2) fun o16 => ck ((kd 153).1 = 12) <| ck ((kd o16).1 = 100 ∧ inb (gI s2 153 5) (kd o16).2) <| if (gI s2 o16 (ix (gI s2 153 5))) = 0 then b_X12_lock_49 fu 153 (nI m) s2 else (ck ((kd 153).1 = 12) <| cv (f_X12_wrong fu 153 s2) fun s17 => b_X12_lock_49 fu 153 (nI m) s17)) else b_X12_lock_49 fu 153 (nI m) s2 := by
    unfold f_X12_lock
    rw [if_neg (show ¬ nI m < 0 from fun z => by have := (nI_ltI (a := m) (b := 0) (by omega) (by omega)).mp z; omega), if_pos (show nI m ≤ (7 : Int32) from (nI_leI (a := m) (b := 7) (by omega) (by omega)).mpr (by omega)), ck_t (show (kd 153).1 = 12 from rfl), e1, cv_s, ck_t (show (kd 153).1 = 12 from rfl), show f_X12_orText fu 153 0 s1 = some s2 from e2, cv_s, ck_t (show (kd 153).1 = 12 from rfl)]
  have hd2 : ∀ t k, gI s2 153 8 = nI 0 → gI s2 153 5 = nI t → t ≤ 4000 → gI s2 155 t = nI k → k < 200 → f_X12_lock fu 153 (nI m) st = if k = 0 then b_X12_lock_49 fu 153 (nI m) s2 else cv (f_X12_wrong fu 153 s2) fun s17 => b_X12_lock_49 fu 153 (nI m) s17 := fun t k g8 g5 g4 gk k2 => by
    have r2 : gR s2 153 2 = 155 := tp_153_2 hT2
    have ib : inb (nI t) 4001 := by simp (disch := first | decide | omega) [NF, NC, NB, inb]
    rw [hd, g8, if_pos (show nI 0 = 0 from rfl), r2, ck_t (show ¬ 155 = 0 by decide), ck_t (show (kd 153).1 = 12 from rfl), bd_e, ck_t (show (kd 153).1 = 12 from rfl), g5, ck_t (show (kd 155).1 = 100 ∧ inb (nI t) (kd 155).2 from ⟨rfl, ib⟩), ixN (by omega), gk]
    by_cases c : k = 0
    · rw [if_pos c, if_pos (show nI k = 0 by rw [c]; rfl)]
    · rw [if_neg c, if_neg (show ¬ nI k = 0 from fun z => c ((nI_eq (a := k) (b := 0) (by omega) (by omega)).mp z)), ck_t (show (kd 153).1 = 12 from rfl)]
  unfold pLock
  cases hp : pOrF b n (pNt b n 12) 0 with
  | inr e =>
    rw [hp] at d2
    have d2 : LG b n T e.1 e.2 T s2 := d2
    refine ⟨fun x t h => absurd h (by intro z; cases z), fun f p h => ?_⟩
    have h : (Sum.inr e : PR LK) = .inr (f, p) := h
    injection h with h
    subst h
    have fin : ∀ s, f_X12_lock fu 153 (nI m) st = b_X12_lock_49 fu 153 (nI m) s → Fr W5 s2 s → Top s → LG b n T f p T s → ∃ u, f_X12_lock fu 153 (nI m) st = some (-10 - nI p, u) ∧ Fr WkB st u ∧ gI u 153 1 = nI 0 ∧ gI u 153 6 = nI f := fun s e frs hTs d => by
      obtain ⟨u, u1, u2, u3, u4⟩ := d.fin hTs fu (nI m)
      refine ⟨u, by rw [e]; exact u1, w5 u (frs.tt u2), ?_, u4⟩
      rw [(frs.tt u2).ki 153 1 (by decide), fr2.ki 153 1 (by decide)]; exact z1
    rcases d2.see with q | ⟨t, q1, q2, q3, q4, q5, q6, q7, q8⟩
    · exact fin s2 (by rw [hd, q, if_neg (show ¬ nI 1 = 0 by decide)]) Fr.rf hT2 d2
    · have h2' := hd2 t (so b n t) q1 q2 q3 q4 q6
      by_cases c : so b n t = 0
      · rw [if_pos c] at h2'
        exact fin s2 h2' Fr.rf hT2 d2
      · rw [if_neg c] at h2'
        obtain ⟨s3, e3, fr3, hT3, d3⟩ := wrong_G hT2 d2 fu
        rw [e3, cv_s] at h2'
        exact fin s3 h2' fr3 hT3 d3
  | inl w =>
    obtain ⟨w, tt⟩ := w
    rw [hp] at d2
    have d2 : RS b n T tt s2 := d2
    obtain ⟨g1, g2, g3, g4⟩ := pOr_i hp
    obtain ⟨x1, x2, x3, x4, x5, x6, x7, x8, x9⟩ := d2.rd
    have h2' := hd2 tt (so b n tt) x6 x1 x2 x3 x5
    rw [pb_i]
    by_cases c : so b n tt = 0
    · rw [if_pos c] at h2'
      rw [if_pos c]
      refine ⟨fun x t h => ?_, fun f p h => absurd h (by intro z; cases z)⟩
      have h : (Sum.inl (w, tt) : PR LK) = .inl (x, t) := h
      injection h with h
      injection h with ha hb
      subst ha hb
      have z6' : gI s2 153 6 = nI 0 := d2.2.2.2.1
      obtain ⟨s3, hs3⟩ : ∃ s3, s3 = sI s2 211 m (nI tt) := ⟨_, rfl⟩
      have f3 : Fr [(211, none)] s2 s3 := by rw [hs3]; exact Fr.ia _ _ _ _
      have hT3 : Top s3 := hT2.r (by rw [hs3]; rfl)
      obtain ⟨u, u1, u2, u3, u4, u5⟩ := lk96 (fu := fu) (m := m) (k := tt) hm g2 s3 fu 0 s3 hT3 (by omega) (by omega) Fr.rf (fun i hi => by omega) (fun y hy => ⟨rfl, rfl⟩)
      have FR : Fr WkO st u := (((w5 s2 Fr.rf).tr f3).tr u3).wd (by decide)
      refine ⟨u, ?_, FR, ?_, ?_, fun y => ?_, fun i hi => ?_, fun y hy => ?_⟩
      · rw [h2', lk49 hT2 fu (nI m) (p := 0) x1 x2 (fun z => by omega), if_pos g2, ← u1, hs3]
        clear u1 u2 u3 u4 u5 hd hd2 h2' P hX
        have hT := hT2
        simp (disch := first | decide | omega) [↓bd_e, isb, ck_tt, NP, NF, NC, NB, NS, GS, kdR, tpR hT, b_X12_lock_72, z6']
      · rw [u3.ki 153 1 (by decide), f3.ki 153 1 (by decide), fr2.ki 153 1 (by decide)]; exact z1
      · rw [u3.ki 153 6 (by decide), f3.ki 153 6 (by decide)]; exact z6'
      · rw [u3.fi 211 (by decide), hs3, gI_sI, fr2.fi 211 (by decide), fr1.fi 211 (by decide)]; simp
      · obtain ⟨v1, v2⟩ := u4 i hi
        have i' : i < T := by have := d2.2.2.1; omega
        obtain ⟨-, r1, -, r2, r3⟩ := d2.1.1 i i'
        rw [v1, v2, f3.fi 155 (by decide), f3.fl 156 (by decide)]
        exact ⟨r1, r2, r3⟩
      · obtain ⟨v1, v2⟩ := u5 y hy
        rw [v1, v2, f3.fi 212 (by decide), f3.fl 213 (by decide), fr2.fi 212 (by decide), fr2.fl 213 (by decide), fr1.fi 212 (by decide), fr1.fl 213 (by decide)]
        exact ⟨rfl, rfl⟩
    · rw [if_neg c] at h2'
      rw [if_neg c]
      refine ⟨fun x t h => absurd h (by intro z; cases z), fun f p h => ?_⟩
      have h : (Sum.inr (1, pl b n tt) : PR LK) = .inr (f, p) := h
      injection h with h
      injection h with ha hb
      subst ha hb
      obtain ⟨s3, e3, u2⟩ := wrong_0 hT2 d2 fu
      obtain ⟨fr3, hT3, d3⟩ := u2.G (by omega) g2 (by omega)
      rw [e3, cv_s] at h2'
      obtain ⟨u, u1, u2, u3, u4⟩ := d3.fin hT3 fu (nI m)
      refine ⟨u, by rw [h2']; exact u1, w5 u (fr3.tt u2), ?_, u4⟩
      rw [(fr3.tt u2).ki 153 1 (by decide), fr2.ki 153 1 (by decide)]; exact z1
