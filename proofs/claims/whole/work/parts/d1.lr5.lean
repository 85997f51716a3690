/-! PURE: the text of a list, in the reference: options -/
def Wp : List PL := [(153, some 5), (153, some 6), (153, some 7), (153, some 8), (153, some 38), (171, none), (172, none), (173, none), (174, none), (175, none), (176, none)]
theorem Wp_5 {a b : St} (h : Fr W5 a b) : Fr Wp a b := h.sub (by simp [W5, Wp])
theorem Wp_6 {a b : St} (h : Fr W6 a b) : Fr Wp a b := h.sub (by simp [W6, Wp])
theorem Wp_i {j : Nat} (hj : j ≤ 5) (a : St) (k : Nat) (v : Int32) : Fr Wp a (sI a (171 + j) k v) := (Fr.ia a (171 + j) k v).sub (by
  intro x hx
  simp at hx
  subst hx
  have : j = 0 ∨ j = 1 ∨ j = 2 ∨ j = 3 ∨ j = 4 ∨ j = 5 := by omega
  rcases this with rfl | rfl | rfl | rfl | rfl | rfl <;> simp [Wp])
theorem rf_i {j : Nat} (hj : j ≤ 5) (a : St) (k : Nat) (v : Int32) : Same S_rf a (sI a (171 + j) k v) := by
  have : j = 0 ∨ j = 1 ∨ j = 2 ∨ j = 3 ∨ j = 4 ∨ j = 5 := by omega
  rcases this with rfl | rfl | rfl | rfl | rfl | rfl <;> exact (Fr.ia a _ k v).same (by decide)
set_option maxRecDepth 100000 in
theorem top_p {a b : St} (hT : Top a) (h : Fr Wp a b) : Top b := hT.fr (h.same (by decide))
def RU (cc : Nat) (D : LD) (st : St) : Prop := ∀ x, x < cc → ∀ k, k ≤ 5 → gI st (171 + k) x = nI (D k x)
theorem RU.set {cc : Nat} {D : LD} {s : St} (h : RU cc D s) (j i v : Nat) (hj : j ≤ 5) : RU cc (st1 D j i v) (sI s (171 + j) i (nI v)) := fun x hx k hk => by
  rw [gI_sI]
  by_cases c : k = j ∧ x = i
  · obtain ⟨rfl, rfl⟩ := c
    rw [if_pos ⟨rfl, rfl⟩, st1_e]
  · rw [if_neg (by omega), st1_n _ _ (by omega)]
    exact h x hx k hk
theorem RU.fr {cc : Nat} {D : LD} {s u : St} (h : RU cc D s) (fr : Fr W6 s u) : RU cc D u := fun x hx k hk => by
  rw [fr.fi (171 + k) (by simp [W6]; omega)]
  exact h x hx k hk
theorem RU.c {cc : Nat} {D E : LD} {s : St} (h : RU cc D s) (e : ∀ k x, k ≤ 5 → x < cc → E k x = D k x) : RU cc E s := fun x hx k hk => by
  rw [e k x hk hx]; exact h x hx k hk
theorem t236_D {s : St} (hT : Top s) {b : BY} {n T f p M : Nat} (h : DM b n T f p M s) (fu : Nat) (K : Nat → Int32 → Int32 → Int32 → Int32 → Int32 → Int32 → Int32 → St → Option (Int32 × St)) {q x9 : Nat} (hq : q ≤ n) (hpq : p < q) (h9 : x9 ≤ 1) (k x2 x3 x4 x5 x6 x7 : Int32) : b_X12_options_236 fu K 153 k x2 x3 x4 x5 x6 x7 (nI q) (nI x9) s = K 153 k x2 x3 x4 x5 x6 x7 s := by
  have tl := tell_D hT h fu (k := 3) (q := q) (by omega) (by omega) hq (Or.inl hpq)
  unfold b_X12_options_236 b_X12_options_248
  by_cases c : x9 = 0
  · subst c; rfl
  · have : x9 = 1 := by omega
    subst this
    rw [if_neg (by decide), ck_t (show (kd 153).1 = 12 from rfl), show f_X12_tell fu 153 3 (nI q) s = some s from tl]
    rfl
set_option maxHeartbeats 8000000 in
/-- one option, dead -/
theorem opt_D {st : St} (hT : Top st) {b : BY} {n T f p M : Nat} (h : DM b n T f p M st) {fu : Nat} (hf : 100 ≤ fu) (K : Nat → Int32 → Int32 → Int32 → Int32 → Int32 → Int32 → Int32 → St → Option (Int32 × St)) {c : Nat} (hc : c < 60) (fl : Nat → Nat) (hfl : ∀ j, fl j ≤ 1) {t : Nat} (g5 : gI st 153 5 = nI t) (g4 : t ≤ 4000) (g6 : gI st 155 t = nI 1) (g7 : gI st 157 t = nI (pl b n t)) (g8 : gI st 153 8 = nI 0) (pn : pl b n t ≤ n) (n4 : n ≤ 4000) : ∃ (fl' : Nat → Nat) (s : St) (x9 : Nat), (∀ j, fl' j ≤ 1) ∧ x9 ≤ 1 ∧ Fr Wp st s ∧ Top s ∧ DM b n T f p (M - 1) s ∧ b_X12_options_16_b fu K 153 (nI c) (nI (fl 0)) (nI (fl 1)) (nI (fl 2)) (nI (fl 3)) (nI (fl 4)) (nI (fl 5)) st = b_X12_options_236 fu K 153 (nI c) (nI (fl' 0)) (nI (fl' 1)) (nI (fl' 2)) (nI (fl' 3)) (nI (fl' 4)) (nI (fl' 5)) (nI (pl b n t)) (nI x9) s := by
  have up : ∀ o j, (fun j => if j = o then 1 else fl j) j ≤ 1 := fun o j => by
    show (if j = o then 1 else fl j) ≤ 1
    by_cases e : j = o
    · rw [if_pos e]; omega
    · rw [if_neg e]; exact hfl j
  obtain ⟨r0, a0, e0, l0, l0', fr0, hT0, d0⟩ := takeW_D hT h hf (w := 2) (by omega) (by omega)
  by_cases c0 : r0 = 1
  · subst c0
    rw [if_pos rfl] at d0
    obtain ⟨x, b1, q1, q2, q3, q4, q5⟩ := num_D hT0 d0 fu (lo := 0) (hi := 9999) (by omega) (by omega)
    have fw := Wp_i (j := 1) (by omega) b1 c (nI x)
    refine ⟨_, sI b1 (171 + 1) c (nI x), fl 0, up 0, hfl 0, (Wp_5 (fr0.tt q3)).tt fw, q4.r rfl, (q5.mono (by omega)).same (rf_i (by omega) _ _ _), ?_⟩
    clear h d0 q5 fw up hfl
    simp (disch := first | decide | omega) [isb, ck_tt, NP, NF, NC, NB, NS, GS, kdR, tpR hT, b_X12_options_16_b, g5, g6, g7, g8, e0,q1, tpR hT0]
  · have c0' : r0 = 0 := by omega
    subst c0'
    rw [if_neg (by decide)] at d0
    obtain ⟨r1, a1, e1, l1, l1', fr1, hT1, d1⟩ := takeW_D hT0 d0 hf (w := 3) (by omega) (by omega)
    have fr1' := fr0.tt fr1
    by_cases c1 : r1 = 1
    · subst c1
      rw [if_pos rfl] at d1
      obtain ⟨x, b1, q1, q2, q3, q4, q5⟩ := num_D hT1 d1 fu (lo := 0) (hi := 9999) (by omega) (by omega)
      have fw := Wp_i (j := 2) (by omega) b1 c (nI x)
      refine ⟨_, sI b1 (171 + 2) c (nI x), fl 1, up 1, hfl 1, (Wp_5 (fr1'.tt q3)).tt fw, q4.r rfl, (q5.mono (by omega)).same (rf_i (by omega) _ _ _), ?_⟩
      clear h d0 d1 q5 fw up hfl
      simp (disch := first | decide | omega) [isb, ck_tt, NP, NF, NC, NB, NS, GS, kdR, tpR hT, b_X12_options_16_b, g5, g6, g7, g8, e0, e1,q1, tpR hT1]
    · have c1' : r1 = 0 := by omega
      subst c1'
      rw [if_neg (by decide)] at d1
      obtain ⟨r2, a2, e2, l2, l2', fr2, hT2, d2⟩ := takeW_D hT1 d1 hf (w := 4) (by omega) (by omega)
      have fr2' := fr1'.tt fr2
      by_cases c2 : r2 = 1
      · subst c2
        rw [if_pos rfl] at d2
        obtain ⟨x, b1, q1, q2, q3, q4, q5⟩ := num_D hT2 d2 fu (lo := 0) (hi := 9999) (by omega) (by omega)
        have fw := Wp_i (j := 3) (by omega) b1 c (nI x)
        refine ⟨_, sI b1 (171 + 3) c (nI x), fl 2, up 2, hfl 2, (Wp_5 (fr2'.tt q3)).tt fw, q4.r rfl, (q5.mono (by omega)).same (rf_i (by omega) _ _ _), ?_⟩
        clear h d0 d1 d2 q5 fw up hfl
        simp (disch := first | decide | omega) [isb, ck_tt, NP, NF, NC, NB, NS, GS, kdR, tpR hT, b_X12_options_16_b, g5, g6, g7, g8, e0, e1, e2,q1, tpR hT2]
      · have c2' : r2 = 0 := by omega
        subst c2'
        rw [if_neg (by decide)] at d2
        obtain ⟨r3, a3, e3, l3, l3', fr3, hT3, d3⟩ := takeW_D hT2 d2 hf (w := 5) (by omega) (by omega)
        have fr3' := fr2'.tt fr3
        by_cases c3 : r3 = 1
        · subst c3
          rw [if_pos rfl] at d3
          obtain ⟨x, b1, q1, q2, q3, q4, q5⟩ := num_D hT3 d3 fu (lo := 1) (hi := 9999) (by omega) (by omega)
          have fw := Wp_i (j := 4) (by omega) b1 c (nI x)
          refine ⟨_, sI b1 (171 + 4) c (nI x), fl 3, up 3, hfl 3, (Wp_5 (fr3'.tt q3)).tt fw, q4.r rfl, (q5.mono (by omega)).same (rf_i (by omega) _ _ _), ?_⟩
          clear h d0 d1 d2 d3 q5 fw up hfl
          simp (disch := first | decide | omega) [isb, ck_tt, NP, NF, NC, NB, NS, GS, kdR, tpR hT, b_X12_options_16_b, g5, g6, g7, g8, e0, e1, e2, e3,q1, tpR hT3]
        · have c3' : r3 = 0 := by omega
          subst c3'
          rw [if_neg (by decide)] at d3
          obtain ⟨r4, a4, e4, l4, l4', fr4, hT4, d4⟩ := takeW_D hT3 d3 hf (w := 6) (by omega) (by omega)
          have fr4' := fr3'.tt fr4
          by_cases c4 : r4 = 1
          · subst c4
            rw [if_pos rfl] at d4
            refine ⟨_, a4, fl 4, up 4, hfl 4, Wp_5 fr4', hT4, d4, ?_⟩
            clear h d0 d1 d2 d3 d4 up hfl
            simp (disch := first | decide | omega) [isb, ck_tt, NP, NF, NC, NB, NS, GS, kdR, tpR hT, b_X12_options_16_b, g5, g6, g7, g8, e0, e1, e2, e3, e4]
          · have c4' : r4 = 0 := by omega
            subst c4'
            rw [if_neg (by decide)] at d4
            obtain ⟨r5, a5, e5, l5, l5', fr5, hT5, d5⟩ := takeW_D hT4 d4 hf (w := 7) (by omega) (by omega)
            have fr5' := fr4'.tt fr5
            by_cases c5 : r5 = 1
            · subst c5
              rw [if_pos rfl] at d5
              obtain ⟨x, b1, q1, q2, q3, q4, q5⟩ := name_D hT5 d5 fu
              have fw := Wp_i (j := 5) (by omega) b1 c (nI x)
              refine ⟨_, sI b1 (171 + 5) c (nI x), fl 5, up 5, hfl 5, (Wp_5 fr5').tt ((Wp_6 q3).tt fw), q4.r rfl, (q5.mono (by omega)).same (rf_i (by omega) _ _ _), ?_⟩
              clear h d0 d1 d2 d3 d4 d5 q5 fw up hfl
              simp (disch := first | decide | omega) [isb, ck_tt, NP, NF, NC, NB, NS, GS, kdR, tpR hT, b_X12_options_16_b, g5, g6, g7, g8, e0, e1, e2, e3, e4, e5,q1, tpR hT5]
            · have c5' : r5 = 0 := by omega
              subst c5'
              rw [if_neg (by decide)] at d5
              obtain ⟨u, q1, q2, q3, q4⟩ := wrong_D hT5 d5 fu
              refine ⟨fl, u, 0, hfl, by omega, Wp_5 (fr5'.tt q2), q3, q4.mono (by omega), ?_⟩
              clear h d0 d1 d2 d3 d4 d5 q4 up hfl
              simp (disch := first | decide | omega) [isb, ck_tt, NP, NF, NC, NB, NS, GS, kdR, tpR hT, b_X12_options_16_b, g5, g6, g7, g8, e0, e1, e2, e3, e4, e5,q1, tpR hT5]
