/-! PURE: the text of rules, in the reference: changes, a rule -/
theorem b330 {s s2 : St} (hT : Top s) (fu : Nat) (k8 : K8) (x1 x2 x3 : Int32) {k v : Nat} (hk : k < 20) (e : f_X12_number fu 153 (nI 0) (nI 99999) s = some (nI v, s2)) : b_X12_rules_330 fu k8 153 x1 x2 x3 (nI k) s = b_X12_rules_345 fu k8 153 x1 x2 x3 (nI k) (sI s2 240 k (nI v)) := by
  simp (disch := first | decide | omega) [↓bd_e, isb, ck_tt, NP, NF, NC, NB, NS, GS, kdR, tpR hT, b_X12_rules_330, e]
theorem b315_s {s : St} (hT : Top s) (fu : Nat) (k8 : K8) (x1 x2 x3 : Int32) {k sg : Nat} (hk : k < 20) (h0 : sg ≠ 0) (h1 : sg < 200) : b_X12_rules_315 fu k8 153 x1 x2 x3 (nI k) 239 (nI k) (nI sg) s = b_X12_rules_330 fu k8 153 x1 x2 x3 (nI k) (sI s 239 k (nI sg)) := by
  simp (disch := first | decide | omega) [↓bd_e, isb, ck_tt, NP, NF, NC, NB, NS, GS, kdR, tpR hT, b_X12_rules_315]
theorem b315_0 {s s1 : St} (hT : Top s) (fu : Nat) (k8 : K8) (x1 x2 x3 : Int32) {k : Nat} (hk : k < 20) (e : f_X12_wrong fu 153 (sI s 239 k (nI 0)) = some s1) : b_X12_rules_315 fu k8 153 x1 x2 x3 (nI k) 239 (nI k) (nI 0) s = b_X12_rules_330 fu k8 153 x1 x2 x3 (nI k) s1 := by
  simp (disch := first | decide | omega) [↓bd_e, isb, ck_tt, NP, NF, NC, NB, NS, GS, kdR, tpR hT, b_X12_rules_315, e]
theorem b224_h {s s1 s2 : St} (hT : Top s2) (fu : Nat) (k8 : K8) (x1 x2 x3 : Int32) {k : Nat} (hk : k < 20) {r : Nat} (hr : r ≤ 1) (e1 : f_X12_needSign fu 153 (nI 58) s = some s1) (e2 : f_X12_takeSign fu 153 (nI 37) s1 = some (nI r, s2)) : b_X12_rules_224 fu k8 153 x1 x2 x3 (nI k) s = if r = 1 then ca (f_X12_number fu 153 (nI 0) (nI 200) (sI s2 239 k (nI 37))) fun v s4 => b_X12_rules_345 fu k8 153 x1 x2 x3 (nI k) (sI s4 240 k v) else ca (f_X12_takeSign fu 153 (nI 45) s2) fun r3 s3 => if r3 = 0 then ca (f_X12_takeSign fu 153 (nI 43) s3) fun r4 s4 => if r4 = 0 then ca (f_X12_takeSign fu 153 (nI 64) s4) fun r5 s5 => if r5 = 0 then b_X12_rules_315 fu k8 153 x1 x2 x3 (nI k) 239 (nI k) (nI 0) s5 else b_X12_rules_315 fu k8 153 x1 x2 x3 (nI k) 239 (nI k) (nI 64) s5 else b_X12_rules_315 fu k8 153 x1 x2 x3 (nI k) 239 (nI k) (nI 43) s4 else b_X12_rules_315 fu k8 153 x1 x2 x3 (nI k) 239 (nI k) (nI 45) s3 := by
  have hr2 : r = 1 ∨ r = 0 := by omega
  have e1' : f_X12_needSign fu 153 58 s = some s1 := e1
  rcases hr2 with rfl | rfl
  · have e2' : f_X12_takeSign fu 153 37 s1 = some (nI 1, s2) := e2
    rw [if_pos rfl]
    simp (disch := first | decide | omega) [↓bd_e, isb, ck_tt, NP, NF, NC, NB, NS, GS, kdR, tpR hT, ↓cvO e1', ↓caO e2', b_X12_rules_224]
  · have e2' : f_X12_takeSign fu 153 37 s1 = some (nI 0, s2) := e2
    rw [if_neg (by omega)]
    simp (disch := first | decide | omega) [↓bd_e, isb, ck_tt, NP, NF, NC, NB, NS, GS, kdR, tpR hT, ↓cvO e1', ↓caO e2', b_X12_rules_224]
def Wz : List PL := [(153, some 5), (153, some 6), (153, some 7), (153, some 8), (239, none), (240, none)]
theorem Wz_5 {a b : St} (h : Fr W5 a b) : Fr Wz a b := h.sub (by simp [W5, Wz])
theorem Wz_9 (a : St) (k : Nat) (v : Int32) : Fr Wz a (sI a 239 k v) := (Fr.ia a 239 k v).sub (by simp [Wz])
theorem Wz_0 (a : St) (k : Nat) (v : Int32) : Fr Wz a (sI a 240 k v) := (Fr.ia a 240 k v).sub (by simp [Wz])
theorem rf_239 (a : St) (k : Nat) (v : Int32) : Same S_rf a (sI a 239 k v) := (Fr.ia a 239 k v).same (by decide)
theorem rf_240 (a : St) (k : Nat) (v : Int32) : Same S_rf a (sI a 240 k v) := (Fr.ia a 240 k v).same (by decide)
/-- the : and the change, dead -/
theorem b224_D {st : St} (hT : Top st) {b : BY} {n T f p M : Nat} (h : DM b n T f p M st) (fu : Nat) (k8 : K8) (x1 x2 x3 : Int32) {k : Nat} (hk : k < 20) : ∃ s, b_X12_rules_224 fu k8 153 x1 x2 x3 (nI k) st = b_X12_rules_345 fu k8 153 x1 x2 x3 (nI k) s ∧ Fr Wz st s ∧ Top s ∧ DM b n T f p M s := by
  obtain ⟨s1, e1, fr1, hT1, d1⟩ := needS_D hT h fu (c := 58) (by omega) (by omega)
  obtain ⟨r, s2, e2, lr, lr', fr2, hT2, d2⟩ := takeS_D hT1 d1 fu (c := 37) (by omega) (by omega)
  have d2' : DM b n T f p M s2 := d2.mono (by by_cases q : r = 1 <;> simp [q] <;> omega)
  have hd := b224_h hT2 fu k8 x1 x2 x3 hk lr e1 e2
  have fr2' := fr1.tt fr2
  -- a sign and its number
  have leaf : ∀ (sg : Nat) (s5 : St), sg ≠ 0 → sg < 200 → Fr W5 st s5 → Top s5 → DM b n T f p M s5 → b_X12_rules_224 fu k8 153 x1 x2 x3 (nI k) st = b_X12_rules_315 fu k8 153 x1 x2 x3 (nI k) 239 (nI k) (nI sg) s5 → ∃ s, b_X12_rules_224 fu k8 153 x1 x2 x3 (nI k) st = b_X12_rules_345 fu k8 153 x1 x2 x3 (nI k) s ∧ Fr Wz st s ∧ Top s ∧ DM b n T f p M s := fun sg s5 h0 h1 fr hT5 d5 e => by
    obtain ⟨v, s6, e6, l6, fr6, hT6, d6⟩ := num_D (hT5.r (u := sI s5 239 k (nI sg)) rfl) (d5.same (rf_239 _ _ _)) fu (lo := 0) (hi := 99999) (by omega) (by omega)
    exact ⟨sI s6 240 k (nI v), by rw [e, b315_s hT5 fu k8 x1 x2 x3 hk h0 h1, b330 (hT5.r (u := sI s5 239 k (nI sg)) rfl) fu k8 x1 x2 x3 hk e6], (Wz_5 fr).tt ((Wz_9 _ _ _).tt ((Wz_5 fr6).tt (Wz_0 _ _ _))), hT6.r rfl, (d6.mono (by omega)).same (rf_240 _ _ _)⟩
  by_cases r1 : r = 1
  · rw [if_pos r1] at hd
    obtain ⟨v, s6, e6, l6, fr6, hT6, d6⟩ := num_D (hT2.r (u := sI s2 239 k (nI 37)) rfl) (d2'.same (rf_239 _ _ _)) fu (lo := 0) (hi := 200) (by omega) (by omega)
    rw [e6, ca_s] at hd
    exact ⟨sI s6 240 k (nI v), hd, (Wz_5 fr2').tt ((Wz_9 _ _ _).tt ((Wz_5 fr6).tt (Wz_0 _ _ _))), hT6.r rfl, (d6.mono (by omega)).same (rf_240 _ _ _)⟩
  · rw [if_neg r1] at hd
    obtain ⟨r3, s3, e3, l3, l3', fr3, hT3, d3⟩ := takeS_D hT2 d2' fu (c := 45) (by omega) (by omega)
    rw [e3, ca_s] at hd
    have d3' : DM b n T f p M s3 := d3.mono (by by_cases q : r3 = 1 <;> simp [q])
    by_cases c3 : r3 = 1
    · subst c3
      rw [if_neg (show ¬ nI 1 = 0 by decide)] at hd
      exact leaf 45 s3 (by omega) (by omega) (fr2'.tt fr3) hT3 d3' hd
    · have z3 : r3 = 0 := by omega
      subst z3
      rw [if_pos (show nI 0 = 0 from rfl)] at hd
      obtain ⟨r4, s4, e4, l4, l4', fr4, hT4, d4⟩ := takeS_D hT3 d3' fu (c := 43) (by omega) (by omega)
      rw [e4, ca_s] at hd
      have d4' : DM b n T f p M s4 := d4.mono (by by_cases q : r4 = 1 <;> simp [q])
      by_cases c4 : r4 = 1
      · subst c4
        rw [if_neg (show ¬ nI 1 = 0 by decide)] at hd
        exact leaf 43 s4 (by omega) (by omega) (fr2'.tt (fr3.tt fr4)) hT4 d4' hd
      · have z4 : r4 = 0 := by omega
        subst z4
        rw [if_pos (show nI 0 = 0 from rfl)] at hd
        obtain ⟨r5, s5, e5, l5, l5', fr5, hT5, d5⟩ := takeS_D hT4 d4' fu (c := 64) (by omega) (by omega)
        rw [e5, ca_s] at hd
        have d5' : DM b n T f p M s5 := d5.mono (by by_cases q : r5 = 1 <;> simp [q])
        by_cases c5 : r5 = 1
        · subst c5
          rw [if_neg (show ¬ nI 1 = 0 by decide)] at hd
          exact leaf 64 s5 (by omega) (by omega) (fr2'.tt (fr3.tt (fr4.tt fr5))) hT5 d5' hd
        · have z5 : r5 = 0 := by omega
          subst z5
          rw [if_pos (show nI 0 = 0 from rfl)] at hd
          obtain ⟨s6, e6, fr6, hT6, d6⟩ := wrong_D (hT5.r (u := sI s5 239 k (nI 0)) rfl) (d5'.same (rf_239 _ _ _)) fu
          obtain ⟨v, s7, e7, l7, fr7, hT7, d7⟩ := num_D hT6 d6 fu (lo := 0) (hi := 99999) (by omega) (by omega)
          exact ⟨sI s7 240 k (nI v), by rw [hd, b315_0 hT5 fu k8 x1 x2 x3 hk e6, b330 hT6 fu k8 x1 x2 x3 hk e7], (Wz_5 (fr2'.tt (fr3.tt (fr4.tt fr5)))).tt ((Wz_9 _ _ _).tt ((Wz_5 (fr6.tt fr7)).tt (Wz_0 _ _ _))), hT7.r rfl, (d7.mono (by omega)).same (rf_240 _ _ _)⟩
set_option maxHeartbeats 4000000 in
theorem b224_p {st : St} (hT : Top st) {b : BY} {n T t : Nat} (h : RS b n T t st) (fu : Nat) (k8 : K8) (x1 x2 x3 : Int32) {k : Nat} (hk : k < 20) : ∃ s, b_X12_rules_224 fu k8 153 x1 x2 x3 (nI k) st = b_X12_rules_345 fu k8 153 x1 x2 x3 (nI k) s ∧ Fr Wz st s ∧ Top s ∧ RO b n T (T - t - 1) (pb (pSg b n 58 t) fun _ t2 => pChg b n t2) (fun z => (∀ y, gI s 239 y = if y = k then nI z.1 else gI st 239 y) ∧ ∀ y, gI s 240 y = if y = k then nI z.2 else gI st 240 y) s := by
  obtain ⟨s1, e1, fr1, hT1, co1⟩ := needS_q hT h fu (c := 58) (by omega) (by omega)
  cases hp : pSg b n 58 t with
  | inr e' =>
    rw [hp] at co1
    have d1 : DM b n T e'.1 e'.2 (T - t - 1) s1 := co1
    obtain ⟨r, s2, e2, lr, lr', fr2, hT2, d2⟩ := takeS_D hT1 d1 fu (c := 37) (by omega) (by omega)
    -- as behind any fault
    have hd := b224_D hT1 d1 fu k8 x1 x2 x3 hk
    have hd0 := b224_h hT2 fu k8 x1 x2 x3 hk lr e1 e2
    have d2' : DM b n T e'.1 e'.2 (T - t - 1) s2 := d2.mono (by by_cases q : r = 1 <;> simp [q])
    have fr2' := fr1.tt fr2
    have leaf : ∀ (sg : Nat) (s5 : St), sg ≠ 0 → sg < 200 → Fr W5 st s5 → Top s5 → DM b n T e'.1 e'.2 (T - t - 1) s5 → b_X12_rules_224 fu k8 153 x1 x2 x3 (nI k) st = b_X12_rules_315 fu k8 153 x1 x2 x3 (nI k) 239 (nI k) (nI sg) s5 → ∃ s, b_X12_rules_224 fu k8 153 x1 x2 x3 (nI k) st = b_X12_rules_345 fu k8 153 x1 x2 x3 (nI k) s ∧ Fr Wz st s ∧ Top s ∧ DM b n T e'.1 e'.2 (T - t - 1) s := fun sg s5 h0 h1 fr hT5 d5 e => by
      obtain ⟨v, s6, e6, l6, fr6, hT6, d6⟩ := num_D (hT5.r (u := sI s5 239 k (nI sg)) rfl) (d5.same (rf_239 _ _ _)) fu (lo := 0) (hi := 99999) (by omega) (by omega)
      exact ⟨sI s6 240 k (nI v), by rw [e, b315_s hT5 fu k8 x1 x2 x3 hk h0 h1, b330 (hT5.r (u := sI s5 239 k (nI sg)) rfl) fu k8 x1 x2 x3 hk e6], (Wz_5 fr).tt ((Wz_9 _ _ _).tt ((Wz_5 fr6).tt (Wz_0 _ _ _))), hT6.r rfl, (d6.mono (by omega)).same (rf_240 _ _ _)⟩
    by_cases r1 : r = 1
    · rw [if_pos r1] at hd0
      obtain ⟨v, s6, e6, l6, fr6, hT6, d6⟩ := num_D (hT2.r (u := sI s2 239 k (nI 37)) rfl) (d2'.same (rf_239 _ _ _)) fu (lo := 0) (hi := 200) (by omega) (by omega)
      rw [e6, ca_s] at hd0
      exact ⟨sI s6 240 k (nI v), hd0, (Wz_5 fr2').tt ((Wz_9 _ _ _).tt ((Wz_5 fr6).tt (Wz_0 _ _ _))), hT6.r rfl, (d6.mono (by omega)).same (rf_240 _ _ _)⟩
    · rw [if_neg r1] at hd0
      obtain ⟨r3, s3, e3, l3, l3', fr3, hT3, d3⟩ := takeS_D hT2 d2' fu (c := 45) (by omega) (by omega)
      rw [e3, ca_s] at hd0
      have d3' : DM b n T e'.1 e'.2 (T - t - 1) s3 := d3.mono (by by_cases q : r3 = 1 <;> simp [q])
      by_cases c3 : r3 = 1
      · subst c3
        rw [if_neg (show ¬ nI 1 = 0 by decide)] at hd0
        exact leaf 45 s3 (by omega) (by omega) (fr2'.tt fr3) hT3 d3' hd0
      · have z3 : r3 = 0 := by omega
        subst z3
        rw [if_pos (show nI 0 = 0 from rfl)] at hd0
        obtain ⟨r4, s4, e4, l4, l4', fr4, hT4, d4⟩ := takeS_D hT3 d3' fu (c := 43) (by omega) (by omega)
        rw [e4, ca_s] at hd0
        have d4' : DM b n T e'.1 e'.2 (T - t - 1) s4 := d4.mono (by by_cases q : r4 = 1 <;> simp [q])
        by_cases c4 : r4 = 1
        · subst c4
          rw [if_neg (show ¬ nI 1 = 0 by decide)] at hd0
          exact leaf 43 s4 (by omega) (by omega) (fr2'.tt (fr3.tt fr4)) hT4 d4' hd0
        · have z4 : r4 = 0 := by omega
          subst z4
          rw [if_pos (show nI 0 = 0 from rfl)] at hd0
          obtain ⟨r5, s5, e5, l5, l5', fr5, hT5, d5⟩ := takeS_D hT4 d4' fu (c := 64) (by omega) (by omega)
          rw [e5, ca_s] at hd0
          have d5' : DM b n T e'.1 e'.2 (T - t - 1) s5 := d5.mono (by by_cases q : r5 = 1 <;> simp [q])
          by_cases c5 : r5 = 1
          · subst c5
            rw [if_neg (show ¬ nI 1 = 0 by decide)] at hd0
            exact leaf 64 s5 (by omega) (by omega) (fr2'.tt (fr3.tt (fr4.tt fr5))) hT5 d5' hd0
          · have z5 : r5 = 0 := by omega
            subst z5
            rw [if_pos (show nI 0 = 0 from rfl)] at hd0
            obtain ⟨s6, e6, fr6, hT6, d6⟩ := wrong_D (hT5.r (u := sI s5 239 k (nI 0)) rfl) (d5'.same (rf_239 _ _ _)) fu
            obtain ⟨v, s7, e7, l7, fr7, hT7, d7⟩ := num_D hT6 d6 fu (lo := 0) (hi := 99999) (by omega) (by omega)
            exact ⟨sI s7 240 k (nI v), by rw [hd0, b315_0 hT5 fu k8 x1 x2 x3 hk e6, b330 hT6 fu k8 x1 x2 x3 hk e7], (Wz_5 (fr2'.tt (fr3.tt (fr4.tt fr5)))).tt ((Wz_9 _ _ _).tt ((Wz_5 (fr6.tt fr7)).tt (Wz_0 _ _ _))), hT7.r rfl, (d7.mono (by omega)).same (rf_240 _ _ _)⟩
  | inl x =>
    obtain ⟨x, t2⟩ := x
    rw [hp] at co1
    have d1 : RS b n T t2 s1 := co1.1
    have tt := (pSg_i hp).2
    rw [pb_i]
    unfold pChg
    obtain ⟨s2, e2, fr2, hT2, d2⟩ := takeS_p hT1 d1 fu (c := 37) (by omega) (by omega)
    have fr2' := fr1.tt fr2
    have hd0 := b224_h (r := if so b n t2 = 37 then 1 else 0) hT2 fu k8 x1 x2 x3 hk (by by_cases q : so b n t2 = 37 <;> simp [q]) e1 e2
    -- reads of the end: a sign sg, a number v
    have rd : ∀ (sg v : Nat) (s5 s6 : St), Fr W5 st s5 → Fr W5 (sI s5 239 k (nI sg)) s6 → (∀ y, gI (sI s6 240 k (nI v)) 239 y = if y = k then nI sg else gI st 239 y) ∧ ∀ y, gI (sI s6 240 k (nI v)) 240 y = if y = k then nI v else gI st 240 y := fun sg v s5 s6 f5 f6 => by
      refine ⟨fun y => ?_, fun y => ?_⟩
      · rw [gI_sI_n _ _ _ (by decide), f6.fi 239 (by decide), gI_sI, f5.fi 239 (by decide)]; simp
      · rw [gI_sI, f6.fi 240 (by decide), gI_sI_n _ _ _ (by decide), f5.fi 240 (by decide)]; simp
    have leaf : ∀ (sg : Nat) (s5 : St), sg ≠ 37 → (sg = 45 ∨ sg = 43 ∨ sg = 64) → so b n t2 = sg → Fr W5 st s5 → Top s5 → RS b n T (t2 + 1) s5 → b_X12_rules_224 fu k8 153 x1 x2 x3 (nI k) st = b_X12_rules_315 fu k8 153 x1 x2 x3 (nI k) 239 (nI k) (nI sg) s5 → ∃ s, b_X12_rules_224 fu k8 153 x1 x2 x3 (nI k) st = b_X12_rules_345 fu k8 153 x1 x2 x3 (nI k) s ∧ Fr Wz st s ∧ Top s ∧ RO b n T (T - t - 1) (if so b n t2 = 37 ∨ so b n t2 = 45 ∨ so b n t2 = 43 ∨ so b n t2 = 64 then pb (pNum b n 0 (hCh (so b n t2)) (t2 + 1)) fun v t1 => .inl ((so b n t2, v), t1) else .inr (1, pl b n t2)) (fun z => (∀ y, gI s 239 y = if y = k then nI z.1 else gI st 239 y) ∧ ∀ y, gI s 240 y = if y = k then nI z.2 else gI st 240 y) s := fun sg s5 h0 h1 hs fr hT5 d5 e => by
      have d5' : RS b n T (t2 + 1) (sI s5 239 k (nI sg)) := RfA.same d5 (rf_239 _ _ _)
      obtain ⟨v, s6, e6, l6, fr6, hT6, co⟩ := num_p (hT5.r (u := sI s5 239 k (nI sg)) rfl) d5' fu (lo := 0) (hi := 99999) (by omega) (by omega)
      refine ⟨sI s6 240 k (nI v), by rw [e, b315_s hT5 fu k8 x1 x2 x3 hk (by omega) (by omega), b330 (hT5.r (u := sI s5 239 k (nI sg)) rfl) fu k8 x1 x2 x3 hk e6], (Wz_5 fr).tt ((Wz_9 _ _ _).tt ((Wz_5 fr6).tt (Wz_0 _ _ _))), hT6.r rfl, ?_⟩
      rw [hs, if_pos (by omega), show hCh sg = 99999 by unfold hCh; rw [if_neg h0]]
      obtain ⟨w1, w2⟩ := rd sg v s5 s6 fr fr6
      cases hq : pNum b n 0 99999 (t2 + 1) with
      | inr e' => rw [hq] at co; exact DM.same (DM.mono co (by omega)) (rf_240 _ _ _)
      | inl y =>
        rw [hq] at co
        obtain ⟨d6, hv⟩ := co
        have hv : v = y.1 := hv
        subst hv
        exact ⟨RfA.same d6 (rf_240 _ _ _), w1, w2⟩
    by_cases c37 : so b n t2 = 37
    · rw [if_pos c37] at d2
      rw [if_pos (by rw [if_pos c37])] at hd0
      have d5' : RS b n T (t2 + 1) (sI s2 239 k (nI 37)) := RfA.same d2 (rf_239 _ _ _)
      obtain ⟨v, s6, e6, l6, fr6, hT6, co⟩ := num_p (hT2.r (u := sI s2 239 k (nI 37)) rfl) d5' fu (lo := 0) (hi := 200) (by omega) (by omega)
      rw [e6, ca_s] at hd0
      refine ⟨sI s6 240 k (nI v), hd0, (Wz_5 fr2').tt ((Wz_9 _ _ _).tt ((Wz_5 fr6).tt (Wz_0 _ _ _))), hT6.r rfl, ?_⟩
      rw [c37, if_pos (Or.inl rfl), show hCh 37 = 200 from rfl]
      obtain ⟨w1, w2⟩ := rd 37 v s2 s6 fr2' fr6
      cases hq : pNum b n 0 200 (t2 + 1) with
      | inr e' => rw [hq] at co; exact DM.same (DM.mono co (by omega)) (rf_240 _ _ _)
      | inl y =>
        rw [hq] at co
        obtain ⟨d6, hv⟩ := co
        have hv : v = y.1 := hv
        subst hv
        exact ⟨RfA.same d6 (rf_240 _ _ _), w1, w2⟩
    · rw [if_neg c37] at d2
      rw [if_neg (by rw [if_neg c37]; decide)] at hd0
      obtain ⟨s3, e3, fr3, hT3, d3⟩ := takeS_p hT2 d2 fu (c := 45) (by omega) (by omega)
      rw [e3, ca_s] at hd0
      by_cases c3 : so b n t2 = 45
      · rw [if_pos c3] at d3 hd0
        rw [if_neg (show ¬ nI 1 = 0 by decide)] at hd0
        exact leaf 45 s3 (by omega) (by omega) c3 (fr2'.tt fr3) hT3 d3 hd0
      · rw [if_neg c3] at d3 hd0
        rw [if_pos (show nI 0 = 0 from rfl)] at hd0
        obtain ⟨s4, e4, fr4, hT4, d4⟩ := takeS_p hT3 d3 fu (c := 43) (by omega) (by omega)
        rw [e4, ca_s] at hd0
        by_cases c4 : so b n t2 = 43
        · rw [if_pos c4] at d4 hd0
          rw [if_neg (show ¬ nI 1 = 0 by decide)] at hd0
          exact leaf 43 s4 (by omega) (by omega) c4 (fr2'.tt (fr3.tt fr4)) hT4 d4 hd0
        · rw [if_neg c4] at d4 hd0
          rw [if_pos (show nI 0 = 0 from rfl)] at hd0
          obtain ⟨s5, e5, fr5, hT5, d5⟩ := takeS_p hT4 d4 fu (c := 64) (by omega) (by omega)
          rw [e5, ca_s] at hd0
          by_cases c5 : so b n t2 = 64
          · rw [if_pos c5] at d5 hd0
            rw [if_neg (show ¬ nI 1 = 0 by decide)] at hd0
            exact leaf 64 s5 (by omega) (by omega) c5 (fr2'.tt (fr3.tt (fr4.tt fr5))) hT5 d5 hd0
          · rw [if_neg c5] at d5 hd0
            rw [if_pos (show nI 0 = 0 from rfl)] at hd0
            have d5' : RS b n T t2 (sI s5 239 k (nI 0)) := RfA.same d5 (rf_239 _ _ _)
            obtain ⟨s6, e6, fr6, hT6, d6⟩ := wrong_q (hT5.r (u := sI s5 239 k (nI 0)) rfl) d5' fu
            obtain ⟨v, s7, e7, l7, fr7, hT7, d7⟩ := num_D hT6 d6 fu (lo := 0) (hi := 99999) (by omega) (by omega)
            refine ⟨sI s7 240 k (nI v), by rw [hd0, b315_0 hT5 fu k8 x1 x2 x3 hk e6, b330 hT6 fu k8 x1 x2 x3 hk e7], (Wz_5 (fr2'.tt (fr3.tt (fr4.tt fr5)))).tt ((Wz_9 _ _ _).tt ((Wz_5 (fr6.tt fr7)).tt (Wz_0 _ _ _))), hT7.r rfl, ?_⟩
            rw [if_neg (by omega)]
            exact (d7.mono (by omega)).same (rf_240 _ _ _)
theorem b345 {s s1 : St} (hT : Top s1) (fu : Nat) (k8 : K8) {m c q k : Nat} (hm : m ≤ 100000) (hk : k < 20) (e1 : f_X12_needSign fu 153 (nI 59) s = some s1) : (m + 1 ≠ 21 → b_X12_rules_345 fu k8 153 (nI m) (nI c) (nI q) (nI k) s = k8 153 (nI (m + 1)) (nI c) (sI s1 238 (k + 1) (nI c))) ∧ (∀ s2, m + 1 = 21 → Top s2 → f_X12_tell fu 153 (nI 2) (nI q) s1 = some s2 → b_X12_rules_345 fu k8 153 (nI m) (nI c) (nI q) (nI k) s = k8 153 (nI (m + 1)) (nI c) (sI s2 238 (k + 1) (nI c))) := by
  have e1' : f_X12_needSign fu 153 59 s = some s1 := e1
  refine ⟨fun h => ?_, fun s2 h hT2 e2 => ?_⟩
  · simp (disch := first | decide | omega) [↓bd_e, isb, ck_tt, NP, NF, NC, NB, NS, GS, kdR, tpR hT, ↓cvO e1', b_X12_rules_345, b_X12_rules_366]
  · have hm' : m = 20 := by omega
    subst hm'
    have hT := hT2
    simp (disch := first | decide | omega) [↓bd_e, isb, ck_tt, NP, NF, NC, NB, NS, GS, kdR, tpR hT, ↓cvO e1', b_X12_rules_345, b_X12_rules_366, e2]
