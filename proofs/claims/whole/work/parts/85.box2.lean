/-! PURE: enter, back, told -/
theorem isOpen_2 {st : St} (hT : Top st) (fu : Nat) {own : Nat → Nat} {n : Nat} {tr tf tm tp mk : Nat → Nat} (hB : BT st own n tr tf tm tp mk) (t : Int32) : (f_X2_isOpen fu 124 t st = some (nI 0, st) ∧ f_X12_isTicket fu 153 t st = some (nI 0, st)) ∨ ∃ j : Nat, j < n ∧ t = nI j ∧ mk j = 0 ∧ f_X2_isOpen fu 124 t st = some (nI 1, st) ∧ f_X12_isTicket fu 153 t st = some (nI 1, st) := by
  obtain ⟨⟨n1, n2, n3⟩, a, b⟩ := hB
  rcases pk_ix0 t (n := n) (by omega) with q | ⟨q1, q2⟩ | ⟨j, hj, rfl⟩
  · left
    constructor
    · simp (disch := first | decide | omega) [isb, ck_tt, NP, NF, NC, NB, NS, GS, kdC, tpC hT, f_X2_isOpen, b_X2_isOpen_32, b_X2_isOpen_33, q]
    · simp (disch := first | decide | omega) [isb, ck_tt, NP, NF, NC, NB, NS, GS, kdR, tpR hT, f_X12_isTicket, b_X12_isTicket_34, b_X12_isTicket_35, q]
  · left
    constructor
    · simp (disch := first | decide | omega) [isb, ck_tt, NP, NF, NC, NB, NS, GS, kdC, tpC hT, f_X2_isOpen, b_X2_isOpen_32, b_X2_isOpen_33, q1, q2, n2]
    · simp (disch := first | decide | omega) [isb, ck_tt, NP, NF, NC, NB, NS, GS, kdR, tpR hT, f_X12_isTicket, b_X12_isTicket_34, b_X12_isTicket_35, q1, q2, n3]
  · obtain ⟨⟨c1, c2, c3, c4, c5⟩, ⟨d1, d2, d3, d4⟩, ⟨e1, e2, e3, e4, e5, e6⟩, -⟩ := a j hj
    have h3 : mk j = 0 ∨ mk j = 1 ∨ mk j = 2 := by omega
    rcases h3 with h | h | h
    · right
      rw [h] at d4 e5 e6
      simp at e5 e6
      refine ⟨j, hj, rfl, h, ?_, ?_⟩
      · simp (disch := first | decide | omega) [isb, ck_tt, NP, NF, NC, NB, NS, GS, kdC, tpC hT, f_X2_isOpen, b_X2_isOpen_32, b_X2_isOpen_33, n2, d4]
      · simp (disch := first | decide | omega) [isb, ck_tt, NP, NF, NC, NB, NS, GS, kdR, tpR hT, f_X12_isTicket, b_X12_isTicket_34, b_X12_isTicket_35, n3, e5, e6]
    · left
      rw [h] at d4 e5 e6
      simp at e5 e6
      constructor
      · simp (disch := first | decide | omega) [isb, ck_tt, NP, NF, NC, NB, NS, GS, kdC, tpC hT, f_X2_isOpen, b_X2_isOpen_32, b_X2_isOpen_33, n2, d4]
      · simp (disch := first | decide | omega) [isb, ck_tt, NP, NF, NC, NB, NS, GS, kdR, tpR hT, f_X12_isTicket, b_X12_isTicket_34, b_X12_isTicket_35, n3, e5, e6]
    · left
      rw [h] at d4 e5 e6
      simp at e5 e6
      constructor
      · simp (disch := first | decide | omega) [isb, ck_tt, NP, NF, NC, NB, NS, GS, kdC, tpC hT, f_X2_isOpen, b_X2_isOpen_32, b_X2_isOpen_33, n2, d4]
      · simp (disch := first | decide | omega) [isb, ck_tt, NP, NF, NC, NB, NS, GS, kdR, tpR hT, f_X12_isTicket, b_X12_isTicket_34, b_X12_isTicket_35, n3, e5, e6]
theorem enter_2 {st : St} (hT : Top st) (hP : P_hb st) (fu : Nat) (t : Int32) : Two (f_X11_enter fu 1 t) (f_X12_enter fu 153 t) W_box P_hb st := by
  obtain ⟨hH, own, sz, hr, hf', n, tr, tf, tm, tp, mk, hB⟩ := hP
  rcases isOpen_2 hT fu hB.2.2.1 t with ⟨q1, q2⟩ | ⟨j, hj, rfl, hm, q1, q2⟩
  · refine ⟨-nI 1, st, st, ?_, ?_, Fr.rf, hH, own, sz, hr, hf', n, tr, tf, tm, tp, mk, hB⟩
    · simp (disch := first | decide | omega) [isb, ck_tt, NP, NF, NC, NB, NS, GS, kdC, tpC hT, f_X11_enter, b_X11_enter_23, q1]
    · simp (disch := first | decide | omega) [isb, ck_tt, NP, NF, NC, NB, NS, GS, kdR, tpR hT, f_X12_enter, q2]
  · obtain ⟨b1, b2, ⟨⟨n1, n2, n3⟩, a, b⟩, k1, k2, k3, k4, k5, k6⟩ := hB
    obtain ⟨⟨c1, c2, c3, c4, c5⟩, ⟨d1, d2, d3, d4⟩, ⟨e1, e2, e3, e4, e5, e6⟩, e7⟩ := a j hj
    have hc : f_X11_enter fu 1 (nI j) st = some (nI (tm j), sI (sI st 133 j (nI 1)) 124 16 (gI st 124 16 + nI (tm j))) := by
      simp (disch := first | decide | omega) [isb, ck_tt, NP, NF, NC, NB, NS, GS, kdC, tpC hT, f_X11_enter, b_X11_enter_23, q1, f_X2_letIn, d2]
    have q3 : f_X12_isTicket fu 153 (nI j) (sI (sI st 133 j (nI 1)) 124 16 (gI st 124 16 + nI (tm j))) = some (nI 1, sI (sI st 133 j (nI 1)) 124 16 (gI st 124 16 + nI (tm j))) := by
      rw [hm] at e5 e6
      simp at e5 e6
      simp (disch := first | decide | omega) [isb, ck_tt, NP, NF, NC, NB, NS, GS, kdR, tpR hT, f_X12_isTicket, b_X12_isTicket_34, b_X12_isTicket_35, n3, e5, e6]
    have hrr : f_X12_enter fu 153 (nI j) (sI (sI st 133 j (nI 1)) 124 16 (gI st 124 16 + nI (tm j))) = some (nI (tm j), sI (sI (sI st 133 j (nI 1)) 124 16 (gI st 124 16 + nI (tm j))) 232 j (nI 1)) := by
      simp (disch := first | decide | omega) [isb, ck_tt, NP, NF, NC, NB, NS, GS, kdR, tpR hT, f_X12_enter, q3, e3]
    have rd : ∀ o k, gI (sI (sI (sI st 133 j (nI 1)) 124 16 (gI st 124 16 + nI (tm j))) 232 j (nI 1)) o k = if o = 232 ∧ k = j then nI 1 else if o = 124 ∧ k = 16 then gI st 124 16 + nI (tm j) else if o = 133 ∧ k = j then nI 1 else gI st o k := fun o k => by simp only [gI_sI]
    have ef : ∀ o k, o ≠ 232 → o ≠ 133 → ¬ (o = 124 ∧ k = 16) → gI (sI (sI (sI st 133 j (nI 1)) 124 16 (gI st 124 16 + nI (tm j))) 232 j (nI 1)) o k = gI st o k := fun o k a b c => by rw [rd, if_neg (fun q => a q.1), if_neg c, if_neg (fun q => b q.1)]
    have ef2 : ∀ o, o ≠ 232 → o ≠ 133 → o ≠ 124 → gI (sI (sI (sI st 133 j (nI 1)) 124 16 (gI st 124 16 + nI (tm j))) 232 j (nI 1)) o = gI st o := fun o a b c => funext fun k => ef o k a b (fun q => c q.1)
    refine ⟨_, _, _, hc, hrr, (((Fr.ia st 133 _ _).tr (Fr.i _ 124 16 _)).tr (Fr.ia _ 232 _ _)).wd (by decide), ?_, own, sz, hr, hf', n, tr, tf, tm, tp, (fun x => if x = j then 1 else mk x), ?_, ?_, ?_, ?_⟩
    · refine P_hall.fr hH (Fr.same (W := [(133, none), (124, some 16), (232, none)]) ((((Fr.ia st 133 _ _).tr (Fr.i _ 124 16 _)).tr (Fr.ia _ 232 _ _)).wd (by decide)) (by decide))
    · intro k
      rw [ef 119 k (by decide) (by decide) (by omega)]
      exact b1 k
    · unfold BH
      rw [ef2 125 (by decide) (by decide) (by decide), ef2 126 (by decide) (by decide) (by decide), ef2 127 (by decide) (by decide) (by decide), ef2 128 (by decide) (by decide) (by decide), ef2 129 (by decide) (by decide) (by decide), ef2 117 (by decide) (by decide) (by decide), ef2 219 (by decide) (by decide) (by decide), ef2 220 (by decide) (by decide) (by decide), ef2 221 (by decide) (by decide) (by decide), ef2 222 (by decide) (by decide) (by decide), ef2 223 (by decide) (by decide) (by decide), ef2 224 (by decide) (by decide) (by decide), ef2 225 (by decide) (by decide) (by decide), ef2 226 (by decide) (by decide) (by decide), ef2 1 (by decide) (by decide) (by decide)]
      exact b2
    · unfold BT
      rw [ef2 130 (by decide) (by decide) (by decide), ef2 131 (by decide) (by decide) (by decide), ef2 132 (by decide) (by decide) (by decide), ef2 227 (by decide) (by decide) (by decide), ef2 228 (by decide) (by decide) (by decide), ef2 229 (by decide) (by decide) (by decide), ef2 230 (by decide) (by decide) (by decide), ef2 231 (by decide) (by decide) (by decide), ef 124 12 (by decide) (by decide) (by omega), ef 153 92 (by decide) (by decide) (by omega)]
      refine ⟨⟨n1, n2, n3⟩, fun x hx => ?_, fun x hx => ⟨(b x hx).1, ?_⟩⟩
      · obtain ⟨⟨c1, c2, c3, c4, c5⟩, ⟨d1, d2, d3, d4⟩, ⟨e1, e2, e3, e4, e5, e6⟩, e7⟩ := a x hx
        by_cases hxj : x = j
        · subst hxj
          rw [hm] at e5
          simp only [if_true]
          refine ⟨⟨c1, c2, c3, c4, by omega⟩, ⟨d1, d2, d3, by rw [rd]; simp⟩, ⟨e1, e2, e3, e4, ?_, by rw [rd]; simp⟩, fun _ => e7 (by omega)⟩
          rw [e5]
          simp
        · simp only [if_neg hxj]
          refine ⟨⟨c1, c2, c3, c4, c5⟩, ⟨d1, d2, d3, ?_⟩, ⟨e1, e2, e3, e4, e5, ?_⟩, e7⟩
          · rw [rd, if_neg (by omega), if_neg (by omega), if_neg (by omega)]; exact d4
          · rw [rd, if_neg (by omega), if_neg (by omega), if_neg (by omega)]; exact e6
      · rw [rd, if_neg (by omega), if_neg (by omega), if_neg (by omega)]; exact (b x hx).2
    · unfold BC_
      rw [ef 124 11 (by decide) (by decide) (by omega), ef 124 13 (by decide) (by decide) (by omega), ef 124 14 (by decide) (by decide) (by omega), ef 124 15 (by decide) (by decide) (by omega)]
      have m2 : ∀ x, ((if x = j then 1 else mk x) = 2) = (mk x = 2) := fun x => by
        by_cases hxj : x = j
        · subst hxj; rw [if_pos rfl, hm]; simp
        · rw [if_neg hxj]
      simp only [m2]
      refine ⟨k1, k2, k3, k4, k5, ?_⟩
      rw [rd, if_neg (by omega), if_pos ⟨rfl, rfl⟩, k6, nI_add]
      have hs := sm_u (f := fun t => if mk t = 1 then tm t else 0) (g := fun t => if (if t = j then 1 else mk t) = 1 then tm t else 0) (i := j) (n := n) hj (fun i _ hi => by simp only [if_neg hi])
      simp only [if_true] at hs
      rw [if_neg (by omega)] at hs
      congr 1
      omega
theorem back_2 {st : St} (hT : Top st) (hP : P_hb st) (fu : Nat) (hf : 100 ≤ fu) (d t : Int32) : Two (f_X11_back fu 1 d t) (f_X12_back fu 153 d t) W_box P_hb st := by
  obtain ⟨hH, own, sz, hr, hf', n, tr, tf, tm, tp, mk, hB⟩ := hP
  have hB3 := hB.2.2.1
  have no : f_X11_back fu 1 d t st = some (-nI 1, st) → f_X12_back fu 153 d t st = some (-nI 1, st) → Two (f_X11_back fu 1 d t) (f_X12_back fu 153 d t) W_box P_hb st := fun q1 q2 => ⟨-nI 1, st, st, q1, q2, Fr.rf, hH, own, sz, hr, hf', n, tr, tf, tm, tp, mk, hB⟩
  have hd : (¬ (0 ≤ d ∧ d ≤ 3)) ∨ ∃ e : Nat, e < 4 ∧ d = nI e := by
    by_cases h : 0 ≤ d ∧ d ≤ 3
    · obtain ⟨e, he, rfl⟩ := nI_of3 (m := 3) h.1 h.2 (by omega)
      exact Or.inr ⟨e, by omega, rfl⟩
    · exact Or.inl h
  rcases hd with hd | ⟨e, he, rfl⟩
  · refine no ?_ ?_
    · unfold f_X11_back
      simp only [within_eq, ca_s, if_neg hd]
      simp (disch := first | decide | omega) [isb, ck_tt, NP, NF, NC, NB, NS, GS, kdC, tpC hT, b_X11_back_32]
    · have hd2 : d < nI 0 ∨ (¬ d < nI 0 ∧ nI 3 < d) := by
        by_cases h0 : d < nI 0
        · exact Or.inl h0
        · refine Or.inr ⟨h0, ?_⟩
          apply lt_of_nle
          intro h3
          exact hd ⟨by rw [i32_le]; rw [i32_lt] at h0; exact Int.not_lt.mp h0, h3⟩
      rcases isOpen_2 hT fu hB3 t with ⟨q1, q2⟩ | ⟨j, hj, rfl, hm, q1, q2⟩
      · simp (disch := first | decide | omega) [isb, ck_tt, NP, NF, NC, NB, NS, GS, kdR, tpR hT, f_X12_back, b_X12_back_26, q2]
      · rcases hd2 with h | ⟨h, h2⟩
        · simp (disch := first | decide | omega) [isb, ck_tt, NP, NF, NC, NB, NS, GS, kdR, tpR hT, f_X12_back, b_X12_back_26, q2, h]
        · simp (disch := first | decide | omega) [isb, ck_tt, NP, NF, NC, NB, NS, GS, kdR, tpR hT, f_X12_back, b_X12_back_26, q2, h, h2]
  · have hw : (0 ≤ nI e ∧ nI e ≤ 3) := ⟨nI_pos' (by omega), nI_le (a := e) (b := 3) (by omega) (by omega)⟩
    obtain ⟨l1, l2⟩ := hH.2.2.2.2.2.2.2.2.2 e
    rcases l1 with l1 | l1
    · have c1 : gI st 120 e = nI 1 := by rw [l2 he, l1]; rfl
      refine no ?_ ?_
      · unfold f_X11_back
        simp only [within_eq, ca_s, if_pos hw]
        simp (disch := first | decide | omega) [isb, ck_tt, NP, NF, NC, NB, NS, GS, kdC, tpC hT, b_X11_back_32, c1]
      · rcases isOpen_2 hT fu hB3 t with ⟨q1, q2⟩ | ⟨j, hj, rfl, hm, q1, q2⟩
        · simp (disch := first | decide | omega) [isb, ck_tt, NP, NF, NC, NB, NS, GS, kdR, tpR hT, f_X12_back, b_X12_back_26, q2]
        · simp (disch := first | decide | omega) [isb, ck_tt, NP, NF, NC, NB, NS, GS, kdR, tpR hT, f_X12_back, b_X12_back_26, q2, l1]
    · have c0 : gI st 120 e = nI 0 := by rw [l2 he, l1]; rfl
      rcases isOpen_2 hT fu hB3 t with ⟨q1, q2⟩ | ⟨j, hj, rfl, hm, q1, q2⟩
      · refine no ?_ ?_
        · unfold f_X11_back
          simp only [within_eq, ca_s, if_pos hw]
          simp (disch := first | decide | omega) [isb, ck_tt, NP, NF, NC, NB, NS, GS, kdC, tpC hT, b_X11_back_32, c0, q1]
        · simp (disch := first | decide | omega) [isb, ck_tt, NP, NF, NC, NB, NS, GS, kdR, tpR hT, f_X12_back, b_X12_back_26, q2]
      · obtain ⟨b1, b2, ⟨⟨n1, n2, n3⟩, a, b⟩, k1, k2, k3, k4, k5, k6⟩ := hB
        obtain ⟨⟨c1, c2, c3, c4, c5⟩, ⟨d1, d2, d3, d4⟩, ⟨e1, e2, e3, e4, e5, e6⟩, e7⟩ := a j hj
        have hmk := mark_c (st := sI (sI (sI (sI st 133 j (nI 2)) 124 13 (gI st 124 13 + nI 1)) 124 14 (gI st 124 14 - nI (tp j))) 124 15 (gI st 124 15 - nI (tm j))) (hT.r rfl) hf (sp := 30 * tr j + tf j) (n := tm j) (nI 0) (by omega) (by omega)
        obtain ⟨u, hu⟩ : ∃ u, u = seg 119 (30 * tr j + tf j) (tm j) (nI 0) (sI (sI (sI (sI st 133 j (nI 2)) 124 13 (gI st 124 13 + nI 1)) 124 14 (gI st 124 14 - nI (tp j))) 124 15 (gI st 124 15 - nI (tm j))) := ⟨_, rfl⟩
        have hc : f_X11_back fu 1 (nI e) (nI j) st = some (nI (tp j), u) := by
          unfold f_X11_back
          simp only [within_eq, ca_s, if_pos hw]
          simp (disch := first | decide | omega) [isb, ck_tt, NP, NF, NC, NB, NS, GS, kdC, tpC hT, b_X11_back_32, c0, q1, f_X2_refund, d1, d2, d3, hmk, hu]
        have hTu : Top u := hT.r (by rw [hu]; rfl)
        have ru : ∀ o k, gI u o k = if o = 119 ∧ 30 * tr j + tf j ≤ k ∧ k < 30 * tr j + tf j + tm j then nI 0 else if o = 124 ∧ k = 15 then gI st 124 15 - nI (tm j) else if o = 124 ∧ k = 14 then gI st 124 14 - nI (tp j) else if o = 124 ∧ k = 13 then gI st 124 13 + nI 1 else if o = 133 ∧ k = j then nI 2 else gI st o k := fun o k => by rw [hu]; simp only [gI_sI, gI_seg]
        have uL : gL u = gL st := by rw [hu]; rfl
        have ur : ∀ o k, 153 ≤ o → gI u o k = gI st o k := fun o k h => by rw [ru, if_neg (by omega), if_neg (by omega), if_neg (by omega), if_neg (by omega), if_neg (by omega)]
        have q3 : f_X12_isTicket fu 153 (nI j) u = some (nI 1, u) := by
          rw [hm] at e5 e6
          simp at e5 e6
          have hT := hTu
          simp (disch := first | decide | omega) [isb, ck_tt, NP, NF, NC, NB, NS, GS, kdR, tpR hT, f_X12_isTicket, b_X12_isTicket_34, b_X12_isTicket_35, n3, e5, e6, ur]
        have hmr := mark_r (st := sI u 231 j (nI 1)) (hTu.r rfl) hf (r := tr j) (f := tf j) (n := tm j) (nI 0) (by omega) (by omega)
        have hrr : f_X12_back fu 153 (nI e) (nI j) u = some (nI (tp j), sL (seg 217 (30 * tr j + tf j) (tm j) (nI 0) (sI u 231 j (nI 1))) 153 93 (gL st 153 93 - lN (tp j))) := by
          have hT := hTu
          simp (disch := first | decide | omega) [isb, ck_tt, NP, NF, NC, NB, NS, GS, kdR, tpR hT, f_X12_back, q3, l1, ur, e1, e2, e3, e4, hmr, uL, LF]
        have rd : ∀ o k, gI (sL (seg 217 (30 * tr j + tf j) (tm j) (nI 0) (sI u 231 j (nI 1))) 153 93 (gL st 153 93 - lN (tp j))) o k = if o = 217 ∧ 30 * tr j + tf j ≤ k ∧ k < 30 * tr j + tf j + tm j then nI 0 else if o = 231 ∧ k = j then nI 1 else gI u o k := fun o k => by rw [gI_sL]; simp only [gI_sI, gI_seg]
        obtain ⟨w, hww⟩ : ∃ w, w = sL (seg 217 (30 * tr j + tf j) (tm j) (nI 0) (sI u 231 j (nI 1))) 153 93 (gL st 153 93 - lN (tp j)) := ⟨_, rfl⟩
        rw [← hww] at hrr
        rw [← hww] at rd
        have wL : gL w 153 93 = gL st 153 93 - lN (tp j) := by rw [hww]; simp [gL_sL]
        have ef : ∀ o k, o ≠ 231 → o ≠ 133 → o ≠ 119 → o ≠ 217 → ¬ (o = 124 ∧ (k = 13 ∨ k = 14 ∨ k = 15)) → gI w o k = gI st o k := fun o k a b c d e => by rw [rd, if_neg (by omega), if_neg (by omega), ru, if_neg (by omega), if_neg (by omega), if_neg (by omega), if_neg (by omega), if_neg (by omega)]
        have ef2 : ∀ o, o ≠ 231 → o ≠ 133 → o ≠ 119 → o ≠ 217 → o ≠ 124 → gI w o = gI st o := fun o a b c d e => funext fun k => ef o k a b c d (fun q => e q.1)
        have w119 : ∀ k, gI w 119 k = if 30 * tr j + tf j ≤ k ∧ k < 30 * tr j + tf j + tm j then nI 0 else gI st 119 k := fun k => by rw [rd, if_neg (by omega), if_neg (by omega), ru]; simp
        have w217 : ∀ k, gI w 217 k = if 30 * tr j + tf j ≤ k ∧ k < 30 * tr j + tf j + tm j then nI 0 else gI st 217 k := fun k => by rw [rd, ur _ _ (by omega)]; simp
        have frm : Fr W_box st w := by
          rw [hww, hu]
          exact ((((((Fr.ia st 133 _ _).tr (Fr.i _ 124 13 _)).tr (Fr.i _ 124 14 _)).tr (Fr.i _ 124 15 _)).tr (Fr.sg _ 119 _ _ _)).tr (((Fr.ia _ 231 _ _).tr (Fr.sg _ 217 _ _ _)).tr (Fr.l _ 153 93 _))).wd (by decide)
        refine ⟨_, u, w, hc, hrr, frm, ?_, (fun k => if 30 * tr j + tf j ≤ k ∧ k < 30 * tr j + tf j + tm j then 0 else own k), sz, hr, hf', n, tr, tf, tm, tp, (fun x => if x = j then 2 else mk x), ?_, ?_, ?_, ?_⟩
        · refine hH.mk c1 (m := tm j) (v := 0) c2 (by omega) (fun _ _ => Or.inl rfl) (fun o ho => ?_) w119 w217
          rcases ho with rfl | rfl | rfl | rfl | rfl | rfl | rfl | rfl <;> exact ef2 _ (by decide) (by decide) (by decide) (by decide) (by decide)
        · intro k
          show gI w 119 k = nI (oS (if 30 * tr j + tf j ≤ k ∧ k < 30 * tr j + tf j + tm j then 0 else own k))
          rw [w119]
          by_cases hk : 30 * tr j + tf j ≤ k ∧ k < 30 * tr j + tf j + tm j
          · rw [if_pos hk, if_pos hk]; rfl
          · rw [if_neg hk, if_neg hk]; exact b1 k
        · intro h hh
          rw [ef2 125 (by decide) (by decide) (by decide) (by decide) (by decide), ef2 126 (by decide) (by decide) (by decide) (by decide) (by decide), ef2 127 (by decide) (by decide) (by decide) (by decide) (by decide), ef2 128 (by decide) (by decide) (by decide) (by decide) (by decide), ef2 129 (by decide) (by decide) (by decide) (by decide) (by decide), ef2 117 (by decide) (by decide) (by decide) (by decide) (by decide), ef2 219 (by decide) (by decide) (by decide) (by decide) (by decide), ef2 220 (by decide) (by decide) (by decide) (by decide) (by decide), ef2 221 (by decide) (by decide) (by decide) (by decide) (by decide), ef2 222 (by decide) (by decide) (by decide) (by decide) (by decide), ef2 223 (by decide) (by decide) (by decide) (by decide) (by decide), ef2 224 (by decide) (by decide) (by decide) (by decide) (by decide), ef2 225 (by decide) (by decide) (by decide) (by decide) (by decide), ef2 226 (by decide) (by decide) (by decide) (by decide) (by decide), ef2 1 (by decide) (by decide) (by decide) (by decide) (by decide)]
          obtain ⟨x1, x2⟩ := b2 h hh
          refine ⟨x1, fun hp => ?_⟩
          obtain ⟨a1, a2, a3, a4, a5, a6⟩ := x2 hp
          refine ⟨a1, a2, a3, a4, a5, fun k g1 g2 => ?_⟩
          have o1 := a6 k g1 g2
          show (if 30 * tr j + tf j ≤ k ∧ k < 30 * tr j + tf j + tm j then 0 else own k) = _
          rw [if_neg]
          · exact o1
          · rintro ⟨f1, f2⟩
            have := e7 (by omega) k f1 f2
            omega
        · unfold BT
          rw [ef2 130 (by decide) (by decide) (by decide) (by decide) (by decide), ef2 131 (by decide) (by decide) (by decide) (by decide) (by decide), ef2 132 (by decide) (by decide) (by decide) (by decide) (by decide), ef2 227 (by decide) (by decide) (by decide) (by decide) (by decide), ef2 228 (by decide) (by decide) (by decide) (by decide) (by decide), ef2 229 (by decide) (by decide) (by decide) (by decide) (by decide), ef2 230 (by decide) (by decide) (by decide) (by decide) (by decide), ef2 232 (by decide) (by decide) (by decide) (by decide) (by decide), ef 124 12 (by decide) (by decide) (by decide) (by decide) (by omega), ef 153 92 (by decide) (by decide) (by decide) (by decide) (by omega)]
          refine ⟨⟨n1, n2, n3⟩, fun x hx => ?_, fun x hx => ⟨?_, (b x hx).2⟩⟩
          · obtain ⟨y1, ⟨d1, d2, d3, d4⟩, ⟨e1, e2, e3, e4, e5, e6⟩, e8⟩ := a x hx
            by_cases hxj : x = j
            · subst hxj
              rw [hm] at e6
              simp only [if_true]
              refine ⟨⟨y1.1, y1.2.1, y1.2.2.1, y1.2.2.2.1, by omega⟩, ⟨d1, d2, d3, by rw [rd, ru]; simp⟩, ⟨e1, e2, e3, e4, by rw [rd]; simp, ?_⟩, fun q => absurd rfl q⟩
              rw [e6]; simp
            · simp only [if_neg hxj]
              refine ⟨y1, ⟨d1, d2, d3, ?_⟩, ⟨e1, e2, e3, e4, ?_, e6⟩, fun hq k g1 g2 => ?_⟩
              · rw [rd, if_neg (by omega), if_neg (by omega), ru, if_neg (by omega), if_neg (by omega), if_neg (by omega), if_neg (by omega), if_neg (by omega)]; exact d4
              · rw [rd, if_neg (by omega), if_neg (by omega), ur _ _ (by omega)]; exact e5
              · have o1 := e8 hq k g1 g2
                show (if 30 * tr j + tf j ≤ k ∧ k < 30 * tr j + tf j + tm j then 0 else own k) = _
                rw [if_neg]
                · exact o1
                · rintro ⟨f1, f2⟩
                  have := e7 (by omega) k f1 f2
                  omega
          · rw [rd, if_neg (by omega), if_neg (by omega), ur _ _ (by omega)]; exact (b x hx).1
        · unfold BC_
          have m1 : ∀ x, ((if x = j then 2 else mk x) = 1) = (mk x = 1) := fun x => by
            by_cases hxj : x = j
            · subst hxj; rw [if_pos rfl, hm]; simp
            · rw [if_neg hxj]
          simp only [m1]
          rw [ef 124 11 (by decide) (by decide) (by decide) (by decide) (by omega), ef 124 16 (by decide) (by decide) (by decide) (by decide) (by omega), wL, k4]
          have s1 := sm_u (f := fun t => if mk t = 2 then 1 else 0) (g := fun t => if (if t = j then 2 else mk t) = 2 then 1 else 0) (i := j) (n := n) hj (fun i _ hi => by simp only [if_neg hi])
          have s2 := sm_u (f := fun t => if mk t = 2 then 0 else tp t) (g := fun t => if (if t = j then 2 else mk t) = 2 then 0 else tp t) (i := j) (n := n) hj (fun i _ hi => by simp only [if_neg hi])
          have s3 := sm_u (f := fun t => if mk t = 2 then 0 else tm t) (g := fun t => if (if t = j then 2 else mk t) = 2 then 0 else tm t) (i := j) (n := n) hj (fun i _ hi => by simp only [if_neg hi])
          simp only [if_true] at s1 s2 s3
          rw [if_neg (by omega)] at s1 s2 s3
          refine ⟨k1, ?_, ?_, ?_, ?_, k6⟩
          · rw [rd, ru]
            simp only [show ¬ ((124 : Nat) = 217) by decide, show ¬ ((124 : Nat) = 231) by decide, show ¬ ((124 : Nat) = 119) by decide, show ¬ ((13 : Nat) = 15) by decide, show ¬ ((13 : Nat) = 14) by decide, false_and, and_false, if_false, and_self, if_true]
            rw [k2, nI_add]
            congr 1
            omega
          · rw [rd, ru]
            simp only [show ¬ ((124 : Nat) = 217) by decide, show ¬ ((124 : Nat) = 231) by decide, show ¬ ((124 : Nat) = 119) by decide, show ¬ ((14 : Nat) = 15) by decide, false_and, and_false, if_false, and_self, if_true]
            rw [k3, pk_sub (by omega)]
            congr 1
            omega
          · rw [lN_sub (by omega)]
            congr 1
            omega
          · rw [rd, ru]
            simp only [show ¬ ((124 : Nat) = 217) by decide, show ¬ ((124 : Nat) = 231) by decide, show ¬ ((124 : Nat) = 119) by decide, false_and, and_false, if_false, and_self, if_true]
            rw [k5, pk_sub (by omega)]
            congr 1
            omega
