/-! PURE: the text of rules, in the reference: conditions -/
abbrev K8 : Type := Nat → Int32 → Int32 → St → Option (Int32 × St)
abbrev K62 : Type := Nat → Int32 → Int32 → Int32 → Int32 → Int32 → St → Option (Int32 × St)
def Wv : List PL := [(153, some 5), (153, some 6), (153, some 7), (153, some 8), (241, none), (242, none)]
theorem Wv_5 {a b : St} (h : Fr W5 a b) : Fr Wv a b := h.sub (by simp [W5, Wv])
theorem Wv_i {a b : St} (h : Fr [(241, none), (242, none)] a b) : Fr Wv a b := h.sub (by simp [Wv])
theorem rf_v {a b : St} (h : Fr [(241, none), (242, none)] a b) : Same S_rf a b := h.same (by decide)
theorem rf_241 (a : St) (k : Nat) (v : Int32) : Same S_rf a (sI a 241 k v) := (Fr.ia a 241 k v).same (by decide)
theorem rf_242 (a : St) (k : Nat) (v : Int32) : Same S_rf a (sI a 242 k v) := (Fr.ia a 242 k v).same (by decide)
/-- behind the word: kind 1 .. 4, its number, and on -/
theorem r142 {s s2 : St} (hT : Top s) (fu : Nat) (k8 : K8) (k62 : K62) (x1 x3 x4 : Int32) {c k v : Nat} (hc : c < 4000) (hk : k ≤ 4) (e : f_X12_number fu 153 (nI (lC (k - 1))) (nI (if k = 0 then 7 else hC (k - 1))) (sI s 241 c (nI k)) = some (nI v, s2)) (hk0 : k = 0 → lC (k - 1) = 1) : (k ≠ 0 → b_X12_rules_142 fu k8 k62 153 x1 (nI c) x3 x4 (nI k) s = ca (f_X12_takeSign fu 153 (nI 44) (sI s2 242 c (nI v))) fun r s' => k62 153 x1 (nI (c + 1)) x3 x4 r s') := by
  intro k0
  have h4 : k = 1 ∨ k = 2 ∨ k = 3 ∨ k = 4 := by omega
  have hd : ∀ lo hi, f_X12_number fu 153 lo hi (sI s 241 c (nI k)) = some (nI v, s2) → True := fun _ _ _ => trivial
  rcases h4 with rfl | rfl | rfl | rfl
  · have e' : f_X12_number fu 153 (nI 1) (nI 10) (sI s 241 c (nI 1)) = some (nI v, s2) := e
    simp (disch := first | decide | omega) [↓bd_e, isb, ck_tt, NP, NF, NC, NB, NS, GS, kdR, tpR hT, b_X12_rules_142, b_X12_rules_209, e']
  · have e' : f_X12_number fu 153 (nI 0) (nI 3) (sI s 241 c (nI 2)) = some (nI v, s2) := e
    simp (disch := first | decide | omega) [↓bd_e, isb, ck_tt, NP, NF, NC, NB, NS, GS, kdR, tpR hT, b_X12_rules_142, b_X12_rules_209, e']
  · have e' : f_X12_number fu 153 (nI 0) (nI 6) (sI s 241 c (nI 3)) = some (nI v, s2) := e
    simp (disch := first | decide | omega) [↓bd_e, isb, ck_tt, NP, NF, NC, NB, NS, GS, kdR, tpR hT, b_X12_rules_142, b_X12_rules_209, e']
  · have e' : f_X12_number fu 153 (nI 0) (nI 7) (sI s 241 c (nI 4)) = some (nI v, s2) := e
    simp (disch := first | decide | omega) [↓bd_e, isb, ck_tt, NP, NF, NC, NB, NS, GS, kdR, tpR hT, b_X12_rules_142, b_X12_rules_209, e']
theorem r142_0 {s s2 : St} (hT : Top s) (fu : Nat) (k8 : K8) (k62 : K62) (x1 x3 x4 : Int32) {c v : Nat} (hc : c < 4000) (e : f_X12_number fu 153 (nI 0) (nI 7) (sI s 241 c (nI 0)) = some (nI v, s2)) : b_X12_rules_142 fu k8 k62 153 x1 (nI c) x3 x4 (nI 0) s = ca (f_X12_takeSign fu 153 (nI 44) (sI s2 242 c (nI v))) fun r s' => k62 153 x1 (nI (c + 1)) x3 x4 r s' := by
  simp (disch := first | decide | omega) [↓bd_e, isb, ck_tt, NP, NF, NC, NB, NS, GS, kdR, tpR hT, b_X12_rules_142, b_X12_rules_209, e]
theorem rw131 {s : St} (fu : Nat) (k8 : K8) (k62 : K62) (x1 x2 x3 x4 : Int32) {k : Nat} (hk : k ≤ 4) (h0 : k ≠ 0) : b_X12_rules_131 fu k8 k62 153 x1 x2 x3 x4 (nI k) s = b_X12_rules_142 fu k8 k62 153 x1 x2 x3 x4 (nI k) s := by
  unfold b_X12_rules_131
  rw [if_neg (show ¬ nI k = 0 from fun e => h0 ((nI_eq (a := k) (b := 0) (by omega) (by omega)).mp e))]
theorem rw131_0 {s s1 : St} (fu : Nat) (k8 : K8) (k62 : K62) (x1 x2 x3 x4 : Int32) (e : f_X12_wrong fu 153 s = some s1) : b_X12_rules_131 fu k8 k62 153 x1 x2 x3 x4 (nI 0) s = b_X12_rules_142 fu k8 k62 153 x1 x2 x3 x4 (nI 0) s1 := by
  unfold b_X12_rules_131
  rw [if_pos (show nI 0 = 0 from rfl), ck_t (show (kd 153).1 = 12 from rfl), e, cv_s]
/-- the words, in turn -/
theorem rw62 {st : St} (fu : Nat) (k8 : K8) (k62 : K62) (x1 x2 x3 x4 : Int32) (h8 : gI st 153 8 = nI 0) {r0 : Int32} {a0 : St} (e0 : f_X12_takeWord fu 153 18 st = some (r0, a0)) : b_X12_rules_62_b fu k8 k62 153 x1 x2 x3 x4 (nI 1) st = if r0 = 0 then ca (f_X12_takeWord fu 153 19 a0) fun r1 a1 => if r1 = 0 then ca (f_X12_takeWord fu 153 20 a1) fun r2 a2 => if r2 = 0 then ca (f_X12_takeWord fu 153 21 a2) fun r3 a3 => if r3 = 0 then b_X12_rules_131 fu k8 k62 153 x1 x2 x3 x4 (nI 0) a3 else b_X12_rules_131 fu k8 k62 153 x1 x2 x3 x4 (nI 4) a3 else b_X12_rules_131 fu k8 k62 153 x1 x2 x3 x4 (nI 3) a2 else b_X12_rules_131 fu k8 k62 153 x1 x2 x3 x4 (nI 2) a1 else b_X12_rules_131 fu k8 k62 153 x1 x2 x3 x4 (nI 1) a0 := by
  unfold b_X12_rules_62_b
  rw [if_neg (show ¬ nI 1 = 0 by decide), ck_t (show (kd 153).1 = 12 from rfl), h8, if_pos (show nI 0 = 0 from rfl), ck_t (show (kd 153).1 = 12 from rfl), e0, ca_s]
  rfl
theorem cond_r {st : St} (hT : Top st) {b : BY} {n T t : Nat} (h : RS b n T t st) {fu : Nat} (hf : 100 ≤ fu) (k8 : K8) (k62 : K62) (x1 x3 x4 : Int32) {c : Nat} (hc : c < 4000) : ∃ s, b_X12_rules_62_b fu k8 k62 153 x1 (nI c) x3 x4 (nI 1) st = (ca (f_X12_takeSign fu 153 (nI 44) s) fun r s' => k62 153 x1 (nI (c + 1)) x3 x4 r s') ∧ Fr Wv st s ∧ Top s ∧ RO b n T (T - t - 1) (pCd b n t) (fun x => (∀ y, gI s 241 y = if y = c then nI (x.1 + 1) else gI st 241 y) ∧ ∀ y, gI s 242 y = if y = c then nI x.2 else gI st 242 y) s := by
  obtain ⟨g5, g4, g6, g7, g8, g9, g10, g11, g12⟩ := h.rd
  have fk := fW_4 (b := b) (n := n) (t := t) 18
  -- behind a word
  have leaf : ∀ (k : Nat) (a : St), 1 ≤ k → k ≤ 4 → fW b n t 18 4 = k - 1 → Fr W5 st a → Top a → RS b n T (t + 1) a → b_X12_rules_62_b fu k8 k62 153 x1 (nI c) x3 x4 (nI 1) st = b_X12_rules_131 fu k8 k62 153 x1 (nI c) x3 x4 (nI k) a → ∃ s, b_X12_rules_62_b fu k8 k62 153 x1 (nI c) x3 x4 (nI 1) st = (ca (f_X12_takeSign fu 153 (nI 44) s) fun r s' => k62 153 x1 (nI (c + 1)) x3 x4 r s') ∧ Fr Wv st s ∧ Top s ∧ RO b n T (T - t - 1) (pCd b n t) (fun x => (∀ y, gI s 241 y = if y = c then nI (x.1 + 1) else gI st 241 y) ∧ ∀ y, gI s 242 y = if y = c then nI x.2 else gI st 242 y) s := fun k a k1 k4 hw fr hTa ha e => by
    have lh : lC (k - 1) ≤ 10 ∧ hC (k - 1) ≤ 10 := ⟨by unfold lC; by_cases q : k - 1 = 0 <;> simp [q], hC_le _⟩
    have d1 : RS b n T (t + 1) (sI a 241 c (nI k)) := RfA.same ha (rf_241 _ _ _)
    obtain ⟨v, s2, e2, l2, fr2, hT2, co⟩ := num_p (hTa.r (u := sI a 241 c (nI k)) rfl) d1 fu (lo := lC (k - 1)) (hi := hC (k - 1)) (by omega) (by omega)
    have r := r142 hTa fu k8 k62 x1 x3 x4 (c := c) (k := k) hc k4 (by rw [if_neg (by omega)]; exact e2) (fun q => by omega) (by omega)
    have f41 : Fr [(241, none), (242, none)] a (sI a 241 c (nI k)) := (Fr.ia a 241 c (nI k)).sub (by simp)
    have f42 : Fr [(241, none), (242, none)] s2 (sI s2 242 c (nI v)) := (Fr.ia s2 242 c (nI v)).sub (by simp)
    have i1 : ∀ y, gI (sI s2 242 c (nI v)) 241 y = if y = c then nI k else gI st 241 y := fun y => by
      rw [gI_sI_n _ _ _ (by decide), fr2.fi 241 (by decide), gI_sI, fr.fi 241 (by decide)]; simp
    have i2 : ∀ y, gI (sI s2 242 c (nI v)) 242 y = if y = c then nI v else gI st 242 y := fun y => by
      rw [gI_sI, fr2.fi 242 (by decide), gI_sI_n _ _ _ (by decide), fr.fi 242 (by decide)]; simp
    refine ⟨sI s2 242 c (nI v), by rw [e, rw131 fu k8 k62 x1 (nI c) x3 x4 k4 (by omega), r], (Wv_5 fr).tt ((Wv_i f41).tt ((Wv_5 fr2).tt (Wv_i f42))), hT2.r rfl, ?_⟩
    unfold pCd
    rw [hw, if_neg (by omega)]
    cases hp : pNum b n (lC (k - 1)) (hC (k - 1)) (t + 1) with
    | inr e' => rw [hp] at co; exact DM.same (DM.mono co (by omega)) (rf_242 _ _ _)
    | inl y =>
      rw [hp] at co
      obtain ⟨d2, hv⟩ := co
      have hv : v = y.1 := hv
      subst hv
      refine ⟨RfA.same d2 (rf_242 _ _ _), fun z => ?_, i2⟩
      show _ = if z = c then nI (k - 1 + 1) else gI st 241 z
      rw [show k - 1 + 1 = k by omega]; exact i1 z
  obtain ⟨a0, e0, fr0, hT0, d0⟩ := takeW_p hT h hf (w := 18) (by omega) (by omega)
  have hd := rw62 fu k8 k62 x1 (nI c) x3 x4 g9 e0
  cases w0 : wB b n t 18
  · rw [w0] at e0 d0 fk hd
    simp only [Bool.toNat_false, Bool.false_eq_true, if_false] at e0 d0 fk hd
    rw [if_pos (show nI 0 = 0 from rfl)] at hd
    obtain ⟨a1, e1, fr1, hT1, d1⟩ := takeW_p hT0 d0 hf (w := 19) (by omega) (by omega)
    rw [e1, ca_s] at hd
    cases w1 : wB b n t 19
    · rw [w1] at e1 d1 fk hd
      simp only [Bool.toNat_false, Bool.false_eq_true, if_false] at e1 d1 fk hd
      rw [if_pos (show nI 0 = 0 from rfl)] at hd
      obtain ⟨a2, e2, fr2, hT2, d2⟩ := takeW_p hT1 d1 hf (w := 20) (by omega) (by omega)
      rw [e2, ca_s] at hd
      cases w2 : wB b n t 20
      · rw [w2] at e2 d2 fk hd
        simp only [Bool.toNat_false, Bool.false_eq_true, if_false] at e2 d2 fk hd
        rw [if_pos (show nI 0 = 0 from rfl)] at hd
        obtain ⟨a3, e3, fr3, hT3, d3⟩ := takeW_p hT2 d2 hf (w := 21) (by omega) (by omega)
        rw [e3, ca_s] at hd
        cases w3 : wB b n t 21
        · rw [w3] at e3 d3 fk hd
          simp only [Bool.toNat_false, Bool.false_eq_true, if_false] at e3 d3 fk hd
          rw [if_pos (show nI 0 = 0 from rfl)] at hd
          -- no condition
          obtain ⟨a4, e4, fr4, hT4, d4⟩ := wrong_q hT3 d3 fu
          have fra := fr0.tt (fr1.tt (fr2.tt (fr3.tt fr4)))
          have d5 := d4.same (rf_241 a4 c (nI 0))
          obtain ⟨v, s2, e5, l5, fr5, hT5, d6⟩ := num_D (hT4.r (u := sI a4 241 c (nI 0)) rfl) d5 fu (lo := 0) (hi := 7) (by omega) (by omega)
          have f41 : Fr [(241, none), (242, none)] a4 (sI a4 241 c (nI 0)) := (Fr.ia a4 241 c (nI 0)).sub (by simp)
          have f42 : Fr [(241, none), (242, none)] s2 (sI s2 242 c (nI v)) := (Fr.ia s2 242 c (nI v)).sub (by simp)
          refine ⟨sI s2 242 c (nI v), by rw [hd, rw131_0 fu k8 k62 x1 (nI c) x3 x4 e4, r142_0 hT4 fu k8 k62 x1 x3 x4 hc e5], (Wv_5 fra).tt ((Wv_i f41).tt ((Wv_5 fr5).tt (Wv_i f42))), hT5.r rfl, ?_⟩
          unfold pCd
          rw [fk, if_pos (by omega)]
          exact DM.same (d6.mono (by omega)) (rf_242 _ _ _)
        · rw [w3] at e3 d3 fk hd
          simp only [Bool.toNat_true, if_true] at e3 d3 fk hd
          rw [if_neg (show ¬ nI 1 = 0 by decide)] at hd
          exact leaf 4 a3 (by omega) (by omega) fk (fr0.tt (fr1.tt (fr2.tt fr3))) hT3 d3 hd
      · rw [w2] at e2 d2 fk hd
        simp only [Bool.toNat_true, if_true] at e2 d2 fk hd
        rw [if_neg (show ¬ nI 1 = 0 by decide)] at hd
        exact leaf 3 a2 (by omega) (by omega) fk (fr0.tt (fr1.tt fr2)) hT2 d2 hd
    · rw [w1] at e1 d1 fk hd
      simp only [Bool.toNat_true, if_true] at e1 d1 fk hd
      rw [if_neg (show ¬ nI 1 = 0 by decide)] at hd
      exact leaf 2 a1 (by omega) (by omega) fk (fr0.tt fr1) hT1 d1 hd
  · rw [w0] at e0 d0 fk hd
    simp only [Bool.toNat_true, if_true] at e0 d0 fk hd
    rw [if_neg (show ¬ nI 1 = 0 by decide)] at hd
    exact leaf 1 a0 (by omega) (by omega) fk fr0 hT0 d0 hd
theorem cond_D {st : St} (hT : Top st) {b : BY} {n T f p M : Nat} (h : DM b n T f p M st) (h8 : gI st 153 8 = nI 0) {fu : Nat} (hf : 100 ≤ fu) (k8 : K8) (k62 : K62) (x1 x3 x4 : Int32) {c : Nat} (hc : c < 4000) : ∃ s, b_X12_rules_62_b fu k8 k62 153 x1 (nI c) x3 x4 (nI 1) st = (ca (f_X12_takeSign fu 153 (nI 44) s) fun r s' => k62 153 x1 (nI (c + 1)) x3 x4 r s') ∧ Fr Wv st s ∧ Top s ∧ DM b n T f p (M - 2) s := by
  have leaf : ∀ (k : Nat) (a : St), 1 ≤ k → k ≤ 4 → Fr W5 st a → Top a → DM b n T f p (M - 1) a → b_X12_rules_62_b fu k8 k62 153 x1 (nI c) x3 x4 (nI 1) st = b_X12_rules_131 fu k8 k62 153 x1 (nI c) x3 x4 (nI k) a → ∃ s, b_X12_rules_62_b fu k8 k62 153 x1 (nI c) x3 x4 (nI 1) st = (ca (f_X12_takeSign fu 153 (nI 44) s) fun r s' => k62 153 x1 (nI (c + 1)) x3 x4 r s') ∧ Fr Wv st s ∧ Top s ∧ DM b n T f p (M - 2) s := fun k a k1 k4 fr hTa ha e => by
    have lh : lC (k - 1) ≤ 10 ∧ hC (k - 1) ≤ 10 := ⟨by unfold lC; by_cases q : k - 1 = 0 <;> simp [q], hC_le _⟩
    have d1 := ha.same (rf_241 a c (nI k))
    obtain ⟨v, s2, e2, l2, fr2, hT2, d2⟩ := num_D (hTa.r (u := sI a 241 c (nI k)) rfl) d1 fu (lo := lC (k - 1)) (hi := hC (k - 1)) (by omega) (by omega)
    have r := r142 hTa fu k8 k62 x1 x3 x4 (c := c) (k := k) hc k4 (by rw [if_neg (by omega)]; exact e2) (fun q => by omega) (by omega)
    have f41 : Fr [(241, none), (242, none)] a (sI a 241 c (nI k)) := (Fr.ia a 241 c (nI k)).sub (by simp)
    have f42 : Fr [(241, none), (242, none)] s2 (sI s2 242 c (nI v)) := (Fr.ia s2 242 c (nI v)).sub (by simp)
    exact ⟨sI s2 242 c (nI v), by rw [e, rw131 fu k8 k62 x1 (nI c) x3 x4 k4 (by omega), r], (Wv_5 fr).tt ((Wv_i f41).tt ((Wv_5 fr2).tt (Wv_i f42))), hT2.r rfl, (d2.mono (by omega)).same (rf_242 _ _ _)⟩
  obtain ⟨r0, a0, e0, l0, l0', fr0, hT0, d0⟩ := takeW_D hT h hf (w := 18) (by omega) (by omega)
  have hd := rw62 fu k8 k62 x1 (nI c) x3 x4 h8 e0
  by_cases c0 : r0 = 1
  · subst c0
    rw [if_neg (show ¬ nI 1 = 0 by decide)] at hd
    exact leaf 1 a0 (by omega) (by omega) fr0 hT0 d0 hd
  · have z0 : r0 = 0 := by omega
    subst z0
    rw [if_pos (show nI 0 = 0 from rfl)] at hd
    rw [if_neg (by decide)] at d0
    obtain ⟨r1, a1, e1, l1, l1', fr1, hT1, d1⟩ := takeW_D hT0 d0 hf (w := 19) (by omega) (by omega)
    rw [e1, ca_s] at hd
    by_cases c1 : r1 = 1
    · subst c1
      rw [if_neg (show ¬ nI 1 = 0 by decide)] at hd
      exact leaf 2 a1 (by omega) (by omega) (fr0.tt fr1) hT1 d1 hd
    · have z1 : r1 = 0 := by omega
      subst z1
      rw [if_pos (show nI 0 = 0 from rfl)] at hd
      rw [if_neg (by decide)] at d1
      obtain ⟨r2, a2, e2, l2, l2', fr2, hT2, d2⟩ := takeW_D hT1 d1 hf (w := 20) (by omega) (by omega)
      rw [e2, ca_s] at hd
      by_cases c2 : r2 = 1
      · subst c2
        rw [if_neg (show ¬ nI 1 = 0 by decide)] at hd
        exact leaf 3 a2 (by omega) (by omega) (fr0.tt (fr1.tt fr2)) hT2 d2 hd
      · have z2 : r2 = 0 := by omega
        subst z2
        rw [if_pos (show nI 0 = 0 from rfl)] at hd
        rw [if_neg (by decide)] at d2
        obtain ⟨r3, a3, e3, l3, l3', fr3, hT3, d3⟩ := takeW_D hT2 d2 hf (w := 21) (by omega) (by omega)
        rw [e3, ca_s] at hd
        by_cases c3 : r3 = 1
        · subst c3
          rw [if_neg (show ¬ nI 1 = 0 by decide)] at hd
          exact leaf 4 a3 (by omega) (by omega) (fr0.tt (fr1.tt (fr2.tt fr3))) hT3 d3 hd
        · have z3 : r3 = 0 := by omega
          subst z3
          rw [if_pos (show nI 0 = 0 from rfl)] at hd
          rw [if_neg (by decide)] at d3
          obtain ⟨a4, e4, fr4, hT4, d4⟩ := wrong_D hT3 d3 fu
          have fra := fr0.tt (fr1.tt (fr2.tt (fr3.tt fr4)))
          have d5 := d4.same (rf_241 a4 c (nI 0))
          obtain ⟨v, s2, e5, l5, fr5, hT5, d6⟩ := num_D (hT4.r (u := sI a4 241 c (nI 0)) rfl) d5 fu (lo := 0) (hi := 7) (by omega) (by omega)
          have f41 : Fr [(241, none), (242, none)] a4 (sI a4 241 c (nI 0)) := (Fr.ia a4 241 c (nI 0)).sub (by simp)
          have f42 : Fr [(241, none), (242, none)] s2 (sI s2 242 c (nI v)) := (Fr.ia s2 242 c (nI v)).sub (by simp)
          exact ⟨sI s2 242 c (nI v), by rw [hd, rw131_0 fu k8 k62 x1 (nI c) x3 x4 e4, r142_0 hT4 fu k8 k62 x1 x3 x4 hc e5], (Wv_5 fra).tt ((Wv_i f41).tt ((Wv_5 fr5).tt (Wv_i f42))), hT5.r rfl, (d6.mono (by omega)).same (rf_242 _ _ _)⟩
theorem r62_0 {s : St} (fu F : Nat) (k8 : K8) (x1 x2 x3 x4 : Int32) : b_X12_rules_62 fu k8 (F + 1) 153 x1 x2 x3 x4 (nI 0) s = b_X12_rules_224 fu k8 153 x1 x2 x3 x4 s := rfl
theorem r62_s {s : St} (fu : Nat) (k8 : K8) (k62 : K62) (x1 x2 x3 x4 x5 : Int32) (h8 : gI s 153 8 = nI 1) : b_X12_rules_62_b fu k8 k62 153 x1 x2 x3 x4 x5 s = b_X12_rules_224 fu k8 153 x1 x2 x3 x4 s := by
  unfold b_X12_rules_62_b
  by_cases c : x5 = 0
  · rw [if_pos c]
  · rw [if_neg c, ck_t (show (kd 153).1 = 12 from rfl), h8, if_neg (by decide)]
theorem cds_D {b : BY} {n T f p : Nat} {fu : Nat} (hf : 100 ≤ fu) (k8 : K8) (x1 x3 x4 : Int32) : ∀ (F M c r : Nat) (st : St), r ≤ 1 → M + 1 < F → (r = 1 → 2 * c + M ≤ 4004) → (M = 0 ∨ 2 * c + M ≤ 4004) → c ≤ 2003 → Top st → DM b n T f p M st → ∃ u c' M', b_X12_rules_62 fu k8 F 153 x1 (nI c) x3 x4 (nI r) st = b_X12_rules_224 fu k8 153 x1 (nI c') x3 x4 u ∧ Fr Wv st u ∧ Top u ∧ M' ≤ M ∧ DM b n T f p M' u ∧ (M' = 0 ∨ 2 * c' + M' ≤ 4004) ∧ c' ≤ 2003 := by
  intro F
  induction F with
  | zero => intro M c r st _ hF; omega
  | succ F ih =>
    intro M c r st hr hF hc1 hc2 hc3 hT h
    by_cases r0 : r = 0
    · subst r0
      exact ⟨st, c, M, r62_0 fu F k8 x1 (nI c) x3 x4, Fr.rf, hT, Nat.le_refl _, h, hc2, hc3⟩
    · have r1 : r = 1 := by omega
      subst r1
      have un : b_X12_rules_62 fu k8 (F + 1) 153 x1 (nI c) x3 x4 (nI 1) st = b_X12_rules_62_b fu k8 (b_X12_rules_62 fu k8 F) 153 x1 (nI c) x3 x4 (nI 1) st := rfl
      rw [un]
      obtain ⟨t, s, g5, g4, g6, g7, g8, g9, g10, g11, g12, g13, -⟩ := h.see
      by_cases s1 : s = 1
      · subst s1
        exact ⟨st, c, M, r62_s fu k8 _ x1 (nI c) x3 x4 (nI 1) g9, Fr.rf, hT, Nat.le_refl _, h, hc2, hc3⟩
      · have s0 : s = 0 := by omega
        subst s0
        have hcm := hc1 rfl
        obtain ⟨s1', e1, fr1, hT1, d1⟩ := cond_D hT h g9 hf k8 (b_X12_rules_62 fu k8 F) x1 x3 x4 (c := c) (by omega)
        obtain ⟨r5, a5, e5, l5, l5', fr5, hT5, d5⟩ := takeS_D hT1 d1 fu (c := 44) (by omega) (by omega)
        rw [e1, e5, ca_s]
        by_cases c5 : r5 = 1
        · subst c5
          rw [if_pos rfl] at d5
          have := l5' rfl
          obtain ⟨u, c', M', x1', x2, x3', x4', x5, x6, x7⟩ := ih (M - 2 - 1) (c + 1) 1 a5 (by omega) (by omega) (fun _ => by omega) (Or.inr (by omega)) (by omega) hT5 d5
          exact ⟨u, c', M', x1', fr1.tt ((Wv_5 fr5).tt x2), x3', by omega, x5, x6, x7⟩
        · have z5 : r5 = 0 := by omega
          subst z5
          rw [if_neg (by decide)] at d5
          obtain ⟨G, rfl⟩ : ∃ G, F = G + 1 := ⟨F - 1, by omega⟩
          exact ⟨a5, c + 1, M - 2, r62_0 fu G k8 x1 (nI (c + 1)) x3 x4, fr1.tt (Wv_5 fr5), hT5, by omega, d5, by omega, by omega⟩
def CDr (c : Nat) (E : LD) (st : St) : Prop := ∀ y, y < c → gI st 241 y = nI (E 7 y) ∧ gI st 242 y = nI (E 8 y)
theorem CDr.fr {c : Nat} {E : LD} {a b : St} (h : CDr c E a) (e1 : gI b 241 = gI a 241) (e2 : gI b 242 = gI a 242) : CDr c E b := fun y hy => by rw [e1, e2]; exact h y hy
theorem cds_s {b : BY} {n T : Nat} {fu : Nat} (hf : 9000 ≤ fu) (k8 : K8) (x1 x3 x4 : Int32) {i : Nat} : ∀ (g F c t : Nat) (E : LD) (st : St), n < g + t → 4100 + g < F → 2 * c ≤ t → Top st → RS b n T t st → CDr c E st → ∃ u c' M', b_X12_rules_62 fu k8 F 153 x1 (nI c) x3 x4 (nI 1) st = b_X12_rules_224 fu k8 153 x1 (nI c') x3 x4 u ∧ Fr Wv st u ∧ Top u ∧ M' ≤ T - t - 1 ∧ (M' = 0 ∨ 2 * c' + M' ≤ 4004) ∧ c' ≤ 2003 ∧ RO b n T M' (pCds b n i g c E t) (fun x => c' = x.1 ∧ CDr x.1 x.2 u) u := by
  intro g
  induction g with
  | zero =>
    intro F c t E st hg hF hct hT h hC
    obtain ⟨G, rfl⟩ : ∃ G, F = G + 1 := ⟨F - 1, by omega⟩
    have tT := h.2.2.1
    have tn := h.1.2.2.2.2.1
    have n4 := h.1.2.2.2.2.2
    omega
  | succ g ih =>
    intro F c t E st hg hF hct hT h hC
    obtain ⟨G, rfl⟩ : ∃ G, F = G + 1 := ⟨F - 1, by omega⟩
    have tT := h.2.2.1
    have tn := h.1.2.2.2.2.1
    have n4 := h.1.2.2.2.2.2
    have un : b_X12_rules_62 fu k8 (G + 1) 153 x1 (nI c) x3 x4 (nI 1) st = b_X12_rules_62_b fu k8 (b_X12_rules_62 fu k8 G) 153 x1 (nI c) x3 x4 (nI 1) st := rfl
    rw [un]
    have ep : pCds b n i (g + 1) c E t = pb (pCd b n t) fun x t1 => if so b n t1 = 44 then pCds b n i g (c + 1) (uC E i c x.1 x.2) (t1 + 1) else .inl ((c + 1, uC E i c x.1 x.2), t1) := rfl
    rw [ep]
    obtain ⟨s1, e1, fr1, hT1, co1⟩ := cond_r hT h (fu := fu) (by omega) k8 (b_X12_rules_62 fu k8 G) x1 x3 x4 (c := c) (by omega)
    rw [e1]
    cases hp : pCd b n t with
    | inr e' =>
      rw [hp] at co1
      have d1 : DM b n T e'.1 e'.2 (T - t - 1) s1 := co1
      obtain ⟨r5, a5, e5, l5, l5', fr5, hT5, d5⟩ := takeS_D hT1 d1 fu (c := 44) (by omega) (by omega)
      have d5' : DM b n T e'.1 e'.2 (T - t - 1) a5 := d5.mono (by by_cases q : r5 = 1 <;> simp [q])
      rw [e5, ca_s]
      obtain ⟨u, c', M', y1, y2, y3, y4, y5, y6, y7⟩ := cds_D (fu := fu) (by omega) k8 x1 x3 x4 G (T - t - 1) (c + 1) r5 a5 l5 (by omega) (fun _ => by omega) (by omega) (by omega) hT5 d5'
      exact ⟨u, c', M', y1, fr1.tt ((Wv_5 fr5).tt y2), y3, y4, y6, y7, y5⟩
    | inl x =>
      obtain ⟨x, t1⟩ := x
      rw [hp] at co1
      obtain ⟨d1, v1, v2⟩ := co1
      have d1 : RS b n T t1 s1 := d1
      obtain ⟨q1, q2, q3, q4, q5, q6⟩ := pCd_i hp
      have C1 : CDr (c + 1) (uC E i c x.1 x.2) s1 := fun y hy => by
        rw [v1, v2]
        by_cases e : y = c
        · subst e
          rw [if_pos rfl, if_pos rfl, uC_c.1, uC_c.2]
          exact ⟨rfl, rfl⟩
        · rw [if_neg e, if_neg e, uC_o q2 (by omega), uC_o q2 (by omega)]
          exact hC y (by omega)
      obtain ⟨s2, e2, fr2, hT2, d2⟩ := takeS_p hT1 d1 fu (c := 44) (by omega) (by omega)
      rw [e2, ca_s, pb_i]
      have C2 := C1.fr (fr2.fi 241 (by decide)) (fr2.fi 242 (by decide))
      by_cases c4 : so b n t1 = 44
      · rw [if_pos c4] at d2
        rw [if_pos c4, if_pos c4]
        obtain ⟨u, c', M', y1, y2, y3, y4, y5, y6, y7⟩ := ih G (c + 1) (t1 + 1) _ s2 (by omega) (by omega) (by omega) hT2 d2 C2
        exact ⟨u, c', M', y1, fr1.tt ((Wv_5 fr2).tt y2), y3, by omega, y5, y6, y7⟩
      · rw [if_neg c4] at d2
        rw [if_neg c4, if_neg c4]
        obtain ⟨H, rfl⟩ : ∃ H, G = H + 1 := ⟨G - 1, by omega⟩
        exact ⟨s2, c + 1, 0, r62_0 fu H k8 x1 (nI (c + 1)) x3 x4, fr1.tt (Wv_5 fr2), hT2, by omega, Or.inl rfl, by omega, d2, rfl, C2⟩
