/-! PURE: what a lock says, in the reference: terms and not -/
abbrev KNf : Type := Int32 → Int64 → St → Option (Int32 × St)
/-- notOf, behind the token's kind -/
def noK (fu : Nat) (rO rN : RKe) (k : Int32) (v4 : Int64) (s5 : St) : Option (Int32 × St) := if k = 33 then (ca (rN 153 s5) fun r27 s28 => if r27 = 0 then ck (isb 1) (some (1, s28)) else ck (isb 0) (some (0, s28))) else if k = 40 then (ca (rO 153 s5) fun r24 s25 => bd (sI s25 153 71 (gI s25 153 71 + 1)) fun s26 => ck (isb r24) (some (r24, s26))) else (ca (f_X12_lockNumber fu 153 s5) fun r6 s7 => ca (f_X12_word fu 16 s7) fun r8 s9 => if lg_cmp v4 r8 = 0 then (ck (¬ gR s9 153 54 = 0) <| bd (gR s9 153 54) fun o21 => ck ((kd o21).1 = 102 ∧ inb r6 (kd o21).2) <| if gI s9 o21 (ix r6) = 0 then ck (isb 1) (some (1, s9)) else (ck (¬ gR s9 153 62 = 0) <| bd (gR s9 153 62) fun o22 => ck ((kd o22).1 = 100 ∧ inb r6 (kd o22).2) <| ck (¬ gR s9 153 63 = 0) <| bd (gR s9 153 63) fun o23 => ck ((kd o23).1 = 100 ∧ inb r6 (kd o23).2) <| if gI s9 o22 (ix r6) = gI s9 o23 (ix r6) then ck (isb 1) (some (1, s9)) else ck (isb 0) (some (0, s9)))) else (ca (f_X12_word fu 17 s9) fun r10 s11 => if lg_cmp v4 r10 = 0 then (ck (¬ gR s11 153 66 = 0) <| bd (gR s11 153 66) fun o20 => ck ((kd o20).1 = 102 ∧ inb r6 (kd o20).2) <| ck (isb (gI s11 o20 (ix r6))) (some (gI s11 o20 (ix r6), s11))) else (ca (f_X12_lockNext fu 153 s11) fun r12 s13 => if r12 = 60 then b_X12_notOf_160 fu (fun _ _ => none) (fun _ _ => none) (fun _ _ => none) 153 r6 1 s13 else b_X12_notOf_160 fu (fun _ _ => none) (fun _ _ => none) (fun _ _ => none) 153 r6 0 s13)))
theorem no_h {b : BY} {n m tt : Nat} {E : Nat → Int32} {A : Nat → Nat → Int32} {st : St} (h : EVS b n m tt E A st) (fu : Nat) (rO rA rN : RKe) {j : Nat} (hj : j < tt) : fb_X12_notOf fu rO rA rN 153 (cu st j) = noK fu rO rN (nI (so b n j)) (gL st 213 (61 * m + j)) (cu st (j + 1)) := by
  obtain ⟨hT0, hm, ht, hz, h72, h211, hK, -, -⟩ := id h
  have hT : Top (cu st j) := hT0.r rfl
  have g72 : gI (cu st j) 153 72 = nI m := by unfold cu; rw [gI_sI, if_neg (by decide)]; exact h72
  have g71 : gI (cu st j) 153 71 = nI j := by unfold cu; rw [gI_sI, if_pos (by decide)]
  have r70 : gR (cu st j) 153 70 = 213 := tp_153_70 hT
  have ix1 : (61 : Int32) * nI m + nI j = nI (61 * m + j) := by
    rw [show (61 : Int32) = nI 61 from rfl, pk_mul, nI_add]
  have ib : inb (nI (61 * m + j)) 488 := by simp (disch := first | decide | omega) [NF, NC, NB, inb]
  unfold fb_X12_notOf
  rw [ck_t (show (kd 153).1 = 12 from rfl), ln_e h fu (by omega), ca_s, r70, ck_t (show ¬ 213 = 0 by decide), ck_t (show (kd 153).1 = 12 from rfl), bd_e, ck_t (show (kd 153).1 = 12 from rfl), ck_t (show (kd 153).1 = 12 from rfl), g72, g71, ix1, ck_t (show (kd 213).1 = 103 ∧ inb (nI (61 * m + j)) (kd 213).2 from ⟨rfl, ib⟩), ixN (by omega), show gL (cu st j) 213 (61 * m + j) = gL st 213 (61 * m + j) from rfl, bd_e, ck_t (show (kd 153).1 = 12 from rfl), ck_t (show (kd 153).1 = 12 from rfl), show nI j + 1 = nI (j + 1) from nI_add j 1, cu_s, bd_e]
  rfl
theorem cuR (st : St) (j o : Nat) : gR (cu st j) o = gR st o := rfl
theorem cuI (st : St) (j : Nat) {o : Nat} (ho : o ≠ 153) : gI (cu st j) o = gI st o := gI_sI_n _ _ _ ho
theorem lc0 (x y : Int64) : (lg_cmp x y = 0) = (x = y) := LC.2.2.2.2.2.2.2 x y
theorem em_t {b : BY} {n m tt : Nat} {E : Nat → Int32} {A : Nat → Nat → Int32} {st : St} (h : EVS b n m tt E A st) {fu : Nat} (hf : 100 ≤ fu) (rO rN : RKe) {t t' : Nat} {x : LK} (hp : pTm b n t = .inl (x, t')) (ht : t' ≤ tt) : noK fu rO rN (nI (so b n t)) (gL st 213 (61 * m + t)) (cu st (t + 1)) = some (nI (x.2 E A).toNat, cu st t') := by
  have hg := (pTm_i hp).1
  obtain ⟨hT, hm, ht6, hz, h72, h211, hK, hE, hA⟩ := id h
  have kw := (hK t (by omega)).2.1
  have w16 := word_r (st := cu st (t + 2)) hf (w := 16) (by omega) (by omega)
  have w17 := word_r (st := cu st (t + 2)) hf (w := 17) (by omega) (by omega)
  have r54 : gR (cu st (t + 2)) 153 54 = 198 := tp_153_54 (hT.r rfl)
  have r62 : gR (cu st (t + 2)) 153 62 = 206 := tp_153_62 (hT.r rfl)
  have r63 : gR (cu st (t + 2)) 153 63 = 207 := tp_153_63 (hT.r rfl)
  have r66 : gR (cu st (t + 2)) 153 66 = 210 := tp_153_66 (hT.r rfl)
  -- a word and a number
  have head : ∀ w a, isW b n t w → so b n (t + 1) = 2 → a = nvt b n (t + 1) → t + 1 < tt → 1 ≤ w → w < 24 → noK fu rO rN (nI (so b n t)) (gL st 213 (61 * m + t)) (cu st (t + 1)) = if w = 16 then (ck (¬ gR (cu st (t + 2)) 153 54 = 0) <| bd (gR (cu st (t + 2)) 153 54) fun o21 => ck ((kd o21).1 = 102 ∧ inb (nI a) (kd o21).2) <| if gI (cu st (t + 2)) o21 (ix (nI a)) = 0 then ck (isb 1) (some (1, cu st (t + 2))) else (ck (¬ gR (cu st (t + 2)) 153 62 = 0) <| bd (gR (cu st (t + 2)) 153 62) fun o22 => ck ((kd o22).1 = 100 ∧ inb (nI a) (kd o22).2) <| ck (¬ gR (cu st (t + 2)) 153 63 = 0) <| bd (gR (cu st (t + 2)) 153 63) fun o23 => ck ((kd o23).1 = 100 ∧ inb (nI a) (kd o23).2) <| if gI (cu st (t + 2)) o22 (ix (nI a)) = gI (cu st (t + 2)) o23 (ix (nI a)) then ck (isb 1) (some (1, cu st (t + 2))) else ck (isb 0) (some (0, cu st (t + 2))))) else if w = 17 then (ck (¬ gR (cu st (t + 2)) 153 66 = 0) <| bd (gR (cu st (t + 2)) 153 66) fun o20 => ck ((kd o20).1 = 102 ∧ inb (nI a) (kd o20).2) <| ck (isb (gI (cu st (t + 2)) o20 (ix (nI a)))) (some (gI (cu st (t + 2)) o20 (ix (nI a)), cu st (t + 2)))) else (ca (f_X12_lockNext fu 153 (cu st (t + 2))) fun r12 s13 => if r12 = 60 then b_X12_notOf_160 fu (fun _ _ => none) (fun _ _ => none) (fun _ _ => none) 153 (nI a) 1 s13 else b_X12_notOf_160 fu (fun _ _ => none) (fun _ _ => none) (fun _ _ => none) 153 (nI a) 0 s13) := fun w a iw s2 ea l1 w1 w2 => by
    have s1 : so b n t = 1 := iw.1
    have v4 : gL st 213 (61 * m + t) = lN (cW w) := (kw s1).trans ((cW_iff w1 w2 s1).mpr iw)
    have c16 : (lg_cmp (gL st 213 (61 * m + t)) (lN (cW 16)) = 0) ↔ w = 16 := by
      rw [lc0, kw s1, cW_iff (by omega) (by omega) s1]
      exact ⟨fun z => isW_u (by omega) (by omega) iw z, fun z => z ▸ iw⟩
    have c17 : (lg_cmp (gL st 213 (61 * m + t)) (lN (cW 17)) = 0) ↔ w = 17 := by
      rw [lc0, kw s1, cW_iff (by omega) (by omega) s1]
      exact ⟨fun z => isW_u (by omega) (by omega) iw z, fun z => z ▸ iw⟩
    unfold noK
    rw [s1, if_neg (show ¬ nI 1 = 33 by decide), if_neg (show ¬ nI 1 = 40 by decide), lnum_e h fu l1 s2, ca_s, w16, ca_s, ← ea]
    by_cases e16 : w = 16
    · rw [if_pos e16, if_pos (c16.mpr e16)]
    · rw [if_neg e16, if_neg (fun z => e16 (c16.mp z)), w17, ca_s]
      by_cases e17 : w = 17
      · rw [if_pos e17, if_pos (c17.mpr e17)]
      · rw [if_neg e17, if_neg (fun z => e17 (c17.mp z))]
  unfold pTm at hp
  by_cases w9 : wB b n t 9 = true
  · rw [if_pos w9] at hp
    obtain ⟨-, hp⟩ := tk_i hp
    obtain ⟨a, t2, h1, hp⟩ := pb_inl hp
    obtain ⟨p1, p2, p3, p4, p5, p6⟩ := pN_i h1
    have e2 : t2 = t + 2 := by omega
    subst e2
    obtain ⟨A0, A8, A9⟩ := hA a (by omega)
    -- the end: compare
    have tail : ∀ (y : Nat) (c t3 : Nat), y ≤ 1 → so b n (t + 3) = 2 → c = nvt b n (t + 3) → c ≤ 99999 → t + 3 < tt → b_X12_notOf_160 fu (fun _ _ => none) (fun _ _ => none) (fun _ _ => none) 153 (nI a) (nI y) (cu st (t + 2)) = some (nI (tmV E A ((if y = 1 then 3 else 4) + 8 * a + 128 * c)).toNat, cu st (t + 4)) := fun y c t3 hy s2 ec hc lt => by
      have ln := lnum_e h fu lt s2
      rw [← ec] at ln
      have s54 : gR (cu st (t + 4)) 153 54 = 198 := tp_153_54 (hT.r rfl)
      have s62 : gR (cu st (t + 4)) 153 62 = 206 := tp_153_62 (hT.r rfl)
      have ib : inb (nI a) 8 := by simp (disch := first | decide | omega) [NF, NC, NB, inb]
      have ia : ix (nI a) = a := ixN (by omega)
      unfold b_X12_notOf_160
      rw [ck_t (show (kd 153).1 = 12 from rfl), ck_t (show (kd 153).1 = 12 from rfl), cu71, bd_e, ck_t (show (kd 153).1 = 12 from rfl), ln, ca_s, s54, ck_t (show ¬ 198 = 0 by decide), ck_t (show (kd 153).1 = 12 from rfl), bd_e, ck_t (show (kd 198).1 = 102 ∧ inb (nI a) (kd 198).2 from ⟨rfl, ib⟩), ia, cuI _ _ (by decide), A0, s62]
      have m3 : ∀ k, k < 8 → (k + 8 * a + 128 * c) % 8 = k ∧ (k + 8 * a + 128 * c) / 8 % 8 = a ∧ (k + 8 * a + 128 * c) / 128 = c := fun k hk => by omega
      by_cases z : A a 0 = 0
      · rw [if_pos z]
        have : tmV E A ((if y = 1 then 3 else 4) + 8 * a + 128 * c) = false := by
          unfold tmV
          by_cases y1 : y = 1
          · obtain ⟨q1, q2, q3⟩ := m3 3 (by omega)
            rw [if_pos y1, q1, q2, if_neg (by omega), if_neg (by omega), z]; rfl
          · obtain ⟨q1, q2, q3⟩ := m3 4 (by omega)
            rw [if_neg y1, q1, q2, if_neg (by omega), if_neg (by omega), z]; rfl
        rw [this]; rfl
      · rw [if_neg z]
        by_cases y1 : y = 1
        · subst y1
          obtain ⟨q1, q2, q3⟩ := m3 3 (by omega)
          rw [if_neg (show ¬ nI 1 = 0 by decide), ck_t (show ¬ 206 = 0 by decide), ck_t (show (kd 153).1 = 12 from rfl), bd_e, ck_t (show (kd 206).1 = 100 ∧ inb (nI a) (kd 206).2 from ⟨rfl, ib⟩), cuI _ _ (by decide), A8, if_pos rfl]
          have tv : tmV E A (3 + 8 * a + 128 * c) = decide (A a 8 < nI c) := by
            unfold tmV
            rw [q1, q2, q3, if_neg (by omega), if_neg (by omega), if_pos rfl, show decide (A a 0 ≠ 0) = true from decide_eq_true z, Bool.true_and]
          rw [tv]
          by_cases lt8 : A a 8 < nI c
          · rw [if_neg (fun q => by rw [Int32.lt_iff_toInt_lt] at lt8; rw [Int32.le_iff_toInt_le] at q; omega), decide_eq_true lt8]; rfl
          · rw [if_pos (by rw [Int32.lt_iff_toInt_lt] at lt8; rw [Int32.le_iff_toInt_le]; omega), decide_eq_false lt8]; rfl
        · have y0 : y = 0 := by omega
          subst y0
          obtain ⟨q1, q2, q3⟩ := m3 4 (by omega)
          rw [if_pos (show nI 0 = 0 from rfl), ck_t (show ¬ 206 = 0 by decide), ck_t (show (kd 153).1 = 12 from rfl), bd_e, ck_t (show (kd 206).1 = 100 ∧ inb (nI a) (kd 206).2 from ⟨rfl, ib⟩), cuI _ _ (by decide), A8, if_neg (show ¬ (0 : Nat) = 1 by decide)]
          have tv : tmV E A (4 + 8 * a + 128 * c) = decide (nI c < A a 8) := by
            unfold tmV
            rw [q1, q2, q3, if_neg (by omega), if_neg (by omega), if_neg (by omega), show decide (A a 0 ≠ 0) = true from decide_eq_true z, Bool.true_and]
          rw [tv]
          by_cases lt8 : nI c < A a 8
          · rw [if_neg (fun q => by rw [Int32.lt_iff_toInt_lt] at lt8; rw [Int32.le_iff_toInt_le] at q; omega), decide_eq_true lt8]; rfl
          · rw [if_pos (by rw [Int32.lt_iff_toInt_lt] at lt8; rw [Int32.le_iff_toInt_le]; omega), decide_eq_false lt8]; rfl
    by_cases s60 : so b n (t + 2) = 60
    · rw [if_pos s60] at hp
      obtain ⟨-, hp⟩ := tk_i hp
      obtain ⟨c, t4, h2, hp⟩ := pb_inl hp
      obtain ⟨c1, c2, c3, c4, c5, c6⟩ := pN_i h2
      injection hp with hp
      injection hp with e1 e2
      subst e1 e2
      rw [head 9 a (wB_t.mp w9) p1 p2 (by omega) (by omega) (by omega), if_neg (by decide), if_neg (by decide), ln_e h fu (by omega), ca_s, s60, if_pos (show nI 60 = 60 from rfl), c5]
      exact tail 1 c 0 (by omega) c1 c2 c4 (by omega)
    · rw [if_neg s60] at hp
      obtain ⟨u0, t3, h3, hp⟩ := pb_inl hp
      obtain ⟨s1, s2, s3⟩ := pS_i h3
      obtain ⟨c, t4, h2, hp9⟩ := pb_inl hp
      clear hp
      have e3 : t3 = t + 3 := by omega
      subst e3
      obtain ⟨c1, c2, c3, c4, c5, c6⟩ := pN_i h2
      injection hp9 with hp9
      injection hp9 with e1 e2
      subst e1 e2
      rw [head 9 a (wB_t.mp w9) p1 p2 (by omega) (by omega) (by omega), if_neg (by decide), if_neg (by decide), ln_e h fu (by omega), ca_s, s1, if_neg (show ¬ nI 62 = 60 by decide), c5]
      exact tail 0 c 0 (by omega) c1 c2 c4 (by omega)
  · rw [if_neg w9] at hp
    by_cases e16 : wB b n t 16 = true
    · rw [if_pos e16] at hp
      obtain ⟨-, hp⟩ := tk_i hp
      obtain ⟨a, t2, h1, hp⟩ := pb_inl hp
      obtain ⟨p1, p2, p3, p4, p5, p6⟩ := pN_i h1
      injection hp with hp
      injection hp with e1 e2
      have e2 : t' = t + 2 := by omega
      subst e1 e2
      obtain ⟨A0, A8, A9⟩ := hA a (by omega)
      have ib : inb (nI a) 8 := by simp (disch := first | decide | omega) [NF, NC, NB, inb]
      have ia : ix (nI a) = a := ixN (by omega)
      have tv : tmV E A (5 + 8 * a + 128 * 0) = (decide (A a 0 = 0) || decide (A a 8 = A a 9)) := by
        unfold tmV
        rw [show (5 + 8 * a + 128 * 0) % 8 = 5 by omega, show (5 + 8 * a + 128 * 0) / 8 % 8 = a by omega, if_neg (by omega), if_pos rfl]
      rw [head 16 a (wB_t.mp e16) p1 p2 (by omega) (by omega) (by omega), if_pos rfl, r54, ck_t (show ¬ 198 = 0 by decide), bd_e, ck_t (show (kd 198).1 = 102 ∧ inb (nI a) (kd 198).2 from ⟨rfl, ib⟩), ia, cuI _ _ (by decide), A0]
      show _ = some (nI (tmV E A (5 + 8 * a + 128 * 0)).toNat, cu st (t + 2))
      rw [tv]
      by_cases z : A a 0 = 0
      · rw [if_pos z, decide_eq_true z]; rfl
      · rw [if_neg z, decide_eq_false z, r62, ck_t (show ¬ 206 = 0 by decide), bd_e, ck_t (show (kd 206).1 = 100 ∧ inb (nI a) (kd 206).2 from ⟨rfl, ib⟩), r63, ck_t (show ¬ 207 = 0 by decide), bd_e, ck_t (show (kd 207).1 = 100 ∧ inb (nI a) (kd 207).2 from ⟨rfl, ib⟩), cuI _ _ (by decide), cuI _ _ (by decide), A8, A9]
        by_cases q : A a 8 = A a 9
        · rw [if_pos q, decide_eq_true q]; rfl
        · rw [if_neg q, decide_eq_false q]; rfl
    · rw [if_neg e16] at hp
      by_cases e17 : wB b n t 17 = true
      · rw [if_pos e17] at hp
        obtain ⟨-, hp⟩ := tk_i hp
        obtain ⟨a, t2, h1, hp⟩ := pb_inl hp
        obtain ⟨p1, p2, p3, p4, p5, p6⟩ := pN_i h1
        injection hp with hp
        injection hp with e1 e2
        have e2 : t' = t + 2 := by omega
        subst e1 e2
        obtain ⟨E0, E1⟩ := hE a (by omega)
        have ib : inb (nI a) 16 := by simp (disch := first | decide | omega) [NF, NC, NB, inb]
        have ia : ix (nI a) = a := ixN (by omega)
        have tv : tmV E A (6 + 8 * a + 128 * 0) = decide (E a ≠ 0) := by
          unfold tmV
          rw [show (6 + 8 * a + 128 * 0) % 8 = 6 by omega, show (6 + 8 * a + 128 * 0) / 8 % 16 = a by omega, if_pos rfl]
        rw [head 17 a (wB_t.mp e17) p1 p2 (by omega) (by omega) (by omega), if_neg (by decide), if_pos rfl, r66, ck_t (show ¬ 210 = 0 by decide), bd_e, ck_t (show (kd 210).1 = 102 ∧ inb (nI a) (kd 210).2 from ⟨rfl, ib⟩), ia, cuI _ _ (by decide), E0]
        show _ = some (nI (tmV E A (6 + 8 * a + 128 * 0)).toNat, cu st (t + 2))
        rw [tv]
        rcases E1 with q | q
        · rw [q]; rfl
        · rw [q]; rfl
      · rw [if_neg e17] at hp; cases hp
theorem GoS {fu D : Nat} : (F_X12_orOf fu (D + 1)).1 = fb_X12_orOf fu (F_X12_orOf fu D).1 (F_X12_orOf fu D).2.1 (F_X12_orOf fu D).2.2 := rfl
theorem GaS {fu D : Nat} : (F_X12_orOf fu (D + 1)).2.1 = fb_X12_andOf fu (F_X12_orOf fu D).1 (F_X12_orOf fu D).2.1 (F_X12_orOf fu D).2.2 := rfl
theorem GnS {fu D : Nat} : (F_X12_orOf fu (D + 1)).2.2 = fb_X12_notOf fu (F_X12_orOf fu D).1 (F_X12_orOf fu D).2.1 (F_X12_orOf fu D).2.2 := rfl
theorem en_p {b : BY} {n m tt : Nat} {E : Nat → Int32} {A : Nat → Nat → Int32} {st : St} (h : EVS b n m tt E A st) {fu : Nat} (hf : 100 ≤ fu) : ∀ (d D : Nat), d ≤ 12 → 3 * d + 1 ≤ D → EP E A st tt (F_X12_orOf fu D).2.2 (pNt b n d) := by
  intro d
  induction d with
  | zero =>
    intro D _ hD t x t' hp ht
    obtain ⟨D, rfl⟩ : ∃ k, D = k + 1 := ⟨D - 1, by omega⟩
    have g := (pNt_i _ _ _ _ hp).1
    rw [GnS, no_h h fu _ _ _ (by omega)]
    unfold pNt at hp
    by_cases c : so b n t = 33 ∨ so b n t = 40
    · rw [if_pos c] at hp; cases hp
    · rw [if_neg c] at hp
      exact em_t h hf _ _ hp ht
  | succ d ih =>
    intro D hd hD t x t' hp ht
    obtain ⟨D, rfl⟩ : ∃ k, D = k + 1 + 1 + 1 := ⟨D - 3, by omega⟩
    have g := (pNt_i _ _ _ _ hp).1
    have iN := ih (D + 1 + 1) (by omega) (by omega)
    have iO : EP E A st tt (F_X12_orOf fu (D + 1 + 1)).1 (pOrF b n (pNt b n d)) := by
      rw [GoS]
      exact eo_p h hf (by rw [GaS]; exact ea_p h hf (ih D (by omega) (by omega)) (pNt_i d)) (pNt_i d)
    rw [GnS, no_h h fu _ _ _ (by omega)]
    unfold pNt at hp
    by_cases c33 : so b n t = 33
    · rw [if_pos c33] at hp
      obtain ⟨-, hp⟩ := tk_i hp
      obtain ⟨y, t2, h1, hp⟩ := pb_inl hp
      injection hp with hp
      injection hp with e1 e2
      subst e1 e2
      unfold noK
      rw [c33, if_pos (show nI 33 = 33 from rfl), iN _ _ _ h1 ht, ca_s]
      show _ = some (nI (!(y.2 E A)).toNat, cu st t2)
      cases y.2 E A <;> rfl
    · rw [if_neg c33] at hp
      by_cases c40 : so b n t = 40
      · rw [if_pos c40] at hp
        obtain ⟨-, hp⟩ := tk_i hp
        obtain ⟨y, t2, h1, hp⟩ := pb_inl hp
        obtain ⟨u0, t3, h2, hp⟩ := pb_inl hp
        obtain ⟨s1, s2, s3⟩ := pS_i h2
        injection hp with hp
        injection hp with e1 e2
        subst e1 e2
        unfold noK
        rw [c40, if_neg (show ¬ nI 40 = 33 by decide), if_pos (show nI 40 = 40 from rfl), iO _ _ _ h1 (by omega), ca_s, cu71, bd_e, ck_t (bN _), s2]
      · rw [if_neg c40] at hp
        exact em_t h hf _ _ hp ht
theorem isTrue_r {b : BY} {n m tt : Nat} {E : Nat → Int32} {A : Nat → Nat → Int32} {st : St} (hT : Top st) (hm : m < 8) {x : LK} (hp : pLock b n = .inl (x, tt)) (h211 : gI st 211 m = nI tt) (hK : TKs b n m tt st) (hE : ∀ k, k < 16 → gI st 210 k = E k ∧ (E k = 0 ∨ E k = 1)) (hA : ∀ k, k < 8 → gI st 198 k = A k 0 ∧ gI st 206 k = A k 8 ∧ gI st 207 k = A k 9) {fu : Nat} (hf : 100 ≤ fu) : f_X12_isTrue fu 153 (nI m) st = some (nI (x.2 E A).toNat, cu (sI st 153 72 (nI m)) tt) := by
  obtain ⟨y, t1, h1, h2⟩ := pb_inl (show pb _ _ = _ from hp)
  by_cases c : so b n t1 = 0
  · rw [if_pos c] at h2
    injection h2 with h2
    injection h2 with e1 e2
    subst e1 e2
    obtain ⟨g1, g2, g3, g4⟩ := pOr_i h1
    have e72 : ∀ o, o ≠ 153 → gI (sI st 153 72 (nI m)) o = gI st o := fun o ho => gI_sI_n _ _ _ ho
    have ev : EVS b n m t1 E A (sI st 153 72 (nI m)) := by
      refine ⟨hT.r rfl, hm, g2, c, by rw [gI_sI]; simp, by rw [e72 211 (by decide)]; exact h211, fun i hi => ?_, fun k hk => by rw [e72 210 (by decide)]; exact hE k hk, fun k hk => ?_⟩
      · rw [e72 212 (by decide)]; exact hK i hi
      · rw [e72 198 (by decide), e72 206 (by decide), e72 207 (by decide)]; exact hA k hk
    have O : EP E A (sI st 153 72 (nI m)) t1 (F_X12_orOf fu 45).1 (pOrF b n (pNt b n 12)) := by
      have := eo_p ev hf (rO := (F_X12_orOf fu 44).1) (rN := (F_X12_orOf fu 44).2.2) (f := pNt b n 12) (rA := (F_X12_orOf fu 44).2.1) (by rw [GaS]; exact ea_p ev hf (en_p ev hf 12 43 (by omega) (by omega)) (pNt_i 12)) (pNt_i 12)
      exact this
    have e := O 0 _ _ h1 (Nat.le_refl _)
    have r68 : gR st 153 68 = 211 := tp_153_68 hT
    have ib : inb (nI m) 8 := by simp (disch := first | decide | omega) [NF, NC, NB, inb]
    unfold f_X12_isTrue
    rw [r68, ck_t (show ¬ 211 = 0 by decide), ck_t (show (kd 153).1 = 12 from rfl), bd_e, ck_t (show (kd 211).1 = 100 ∧ inb (nI m) (kd 211).2 from ⟨rfl, ib⟩), ixN (by omega), h211, if_neg (fun z => by have := (nI_eq (a := t1) (b := 0) (by omega) (by omega)).mp z; omega), ck_t (show (kd 153).1 = 12 from rfl), bd_e, ck_t (show (kd 153).1 = 12 from rfl), bd_e, ck_t (show (kd 153).1 = 12 from rfl), show f_X12_orOf fu 153 (sI (sI st 153 72 (nI m)) 153 71 0) = _ from e, ca_s, ck_t (bN _)]
  · rw [if_neg c] at h2; cases h2
