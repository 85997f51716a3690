/-! PURE: ask -/
theorem rngN (a : Int32) (lo hi : Nat) (hh : hi < 2147483647) (hl : lo ≤ hi) : (∃ j, lo ≤ j ∧ j ≤ hi ∧ a = nI j ∧ nI lo ≤ a ∧ a ≤ nI hi) ∨ (a < nI lo ∧ ¬ (nI lo ≤ a ∧ a ≤ nI hi)) ∨ ((¬ a < nI lo ∧ nI hi < a) ∧ ¬ (nI lo ≤ a ∧ a ≤ nI hi)) := by
  have l1 : (nI lo).toInt = lo := nI_toInt (by omega)
  have l2 : (nI hi).toInt = hi := nI_toInt (by omega)
  by_cases h1 : a < nI lo
  · refine Or.inr (Or.inl ⟨h1, fun h => ?_⟩)
    have := i32_lt.mp h1
    have := i32_le.mp h.1
    omega
  · by_cases h2 : nI hi < a
    · refine Or.inr (Or.inr ⟨⟨h1, h2⟩, fun h => ?_⟩)
      have := i32_lt.mp h2
      have := i32_le.mp h.2
      omega
    · have g1 : ¬ a.toInt < (nI lo).toInt := fun e => h1 (i32_lt.mpr e)
      have g2 : ¬ (nI hi).toInt < a.toInt := fun e => h2 (i32_lt.mpr e)
      refine Or.inl ⟨a.toInt.toNat, by omega, by omega, ?_, i32_le.mpr (by omega), i32_le.mpr (by omega)⟩
      rw [nI_z (by omega), show ((a.toInt.toNat : Nat) : Int) = a.toInt by omega, zI_x]
/-- a hold comes -/
theorem box_keep {st w : St} {own sz hr hf : Nat → Nat} {n : Nat} {tr tf tm tp mk : Nat → Nat} (hB : Bx st own sz hr hf n tr tf tm tp mk) {j r k m s x d : Nat} {till : Int32} (hj : j < 60) (hz : sz j = 0) (hm : 1 ≤ m ∧ m ≤ 10) (hr4 : r < 40) (hk : k + m ≤ 30) (hs : s ≤ 7) (hx : x ≤ 3) (hd : d ≤ 6) (ht : gI st 1 8 < till) (h117 : gI st 117 r = nI s)
    (hfree : ∀ y, 30 * r + k ≤ y → y < 30 * r + k + m → own y = 0)
    (fr : Fr [(119, none), (217, none), (124, some 11), (125, some j), (126, some j), (127, some j), (128, some j), (129, some j), (219, some j), (220, some j), (221, some j), (222, some j), (223, some j), (224, some j), (225, some j), (226, some j)] st w)
    (e1 : ∀ y, gI w 119 y = if 30 * r + k ≤ y ∧ y < 30 * r + k + m then nI 1 else gI st 119 y) (e2 : gI w 124 11 = gI st 124 11 + nI 1) (e3 : gI w 125 j = nI (30 * r + k)) (e4 : gI w 126 j = nI m) (e5 : gI w 127 j = nI x) (e6 : gI w 128 j = nI d) (e7 : gI w 129 j = till) (e8 : gI w 219 j = nI 1) (e9 : gI w 220 j = nI r) (e10 : gI w 221 j = nI k) (e11 : gI w 222 j = nI m) (e12 : gI w 223 j = till) (e13 : gI w 224 j = nI s) (e14 : gI w 225 j = nI x) (e15 : gI w 226 j = nI d) :
    Bx w (fun y => if 30 * r + k ≤ y ∧ y < 30 * r + k + m then j + 1 else own y) (xt sz j m) (xt hr j r) (xt hf j k) n tr tf tm tp mk := by
  obtain ⟨h1, h2, h3, h4⟩ := hB
  have ki : ∀ o y, (o = 125 ∨ o = 126 ∨ o = 127 ∨ o = 128 ∨ o = 129 ∨ o = 219 ∨ o = 220 ∨ o = 221 ∨ o = 222 ∨ o = 223 ∨ o = 224 ∨ o = 225 ∨ o = 226) → y ≠ j → gI w o y = gI st o y := fun o y h hy => fr.ki o y (by
    rcases h with rfl | rfl | rfl | rfl | rfl | rfl | rfl | rfl | rfl | rfl | rfl | rfl | rfl <;> simp [covers, Ne.symm hy])
  have kf : ∀ o, (o = 1 ∨ o = 117 ∨ o = 130 ∨ o = 131 ∨ o = 132 ∨ o = 133 ∨ o = 227 ∨ o = 228 ∨ o = 229 ∨ o = 230 ∨ o = 231 ∨ o = 232) → gI w o = gI st o := fun o h => fr.fi o (by
    rcases h with rfl | rfl | rfl | rfl | rfl | rfl | rfl | rfl | rfl | rfl | rfl | rfl <;> simp)
  refine ⟨fun y => ?_, fun h hh => ?_, ?_, ?_⟩
  · show gI w 119 y = nI (oS (if 30 * r + k ≤ y ∧ y < 30 * r + k + m then j + 1 else own y))
    rw [e1]
    by_cases hc : 30 * r + k ≤ y ∧ y < 30 * r + k + m
    · rw [if_pos hc, if_pos hc]
      unfold oS
      rw [if_neg (by omega), if_pos (by omega)]
    · rw [if_neg hc, if_neg hc]; exact h1 y
  · by_cases hej : h = j
    · subst hej
      rw [xt_n, xt_n, xt_n, e4, e8, e3, e9, e10, e11, e7, e12, e13, e5, e14, e6, e15, kf 1 (by omega), kf 117 (by omega)]
      refine ⟨⟨rfl, hm.2, ?_⟩, fun _ => ⟨⟨hr4, hk, rfl, rfl, rfl, rfl⟩, ⟨rfl, ht⟩, ⟨s, hs, h117, rfl⟩, ⟨x, hx, rfl, rfl⟩, ⟨d, hd, rfl, rfl⟩, fun y y1 y2 => ?_⟩⟩
      · rw [if_neg (by omega)]
      · show (if 30 * r + k ≤ y ∧ y < 30 * r + k + m then h + 1 else own y) = _
        rw [if_pos ⟨y1, y2⟩]
    · have hx := h2 h hh
      rw [xt_o _ _ hej, xt_o _ _ hej, xt_o _ _ hej, ki 126 h (by omega) hej, ki 219 h (by omega) hej, ki 125 h (by omega) hej, ki 220 h (by omega) hej, ki 221 h (by omega) hej, ki 222 h (by omega) hej, ki 129 h (by omega) hej, ki 223 h (by omega) hej, kf 1 (by omega), kf 117 (by omega), ki 224 h (by omega) hej, ki 127 h (by omega) hej, ki 225 h (by omega) hej, ki 128 h (by omega) hej, ki 226 h (by omega) hej]
      refine ⟨hx.1, fun hp => ?_⟩
      obtain ⟨a1, a2, a3, a4, a5, a6⟩ := hx.2 hp
      refine ⟨a1, a2, a3, a4, a5, fun y k1 k2 => ?_⟩
      have o1 := a6 y k1 k2
      show (if 30 * r + k ≤ y ∧ y < 30 * r + k + m then j + 1 else own y) = _
      rw [if_neg]
      · exact o1
      · rintro ⟨d1, d2⟩
        have := hfree y d1 d2
        omega
  · obtain ⟨⟨a1, a2, a3⟩, a4, a5⟩ := h3
    unfold BT
    rw [kf 130 (by omega), kf 131 (by omega), kf 132 (by omega), kf 133 (by omega), kf 227 (by omega), kf 228 (by omega), kf 229 (by omega), kf 230 (by omega), kf 231 (by omega), kf 232 (by omega), fr.ki 124 12 (by simp [covers]), fr.ki 153 92 (by simp [covers])]
    refine ⟨⟨a1, a2, a3⟩, fun t ht => ?_, a5⟩
    obtain ⟨b1, b2, b3, b4⟩ := a4 t ht
    refine ⟨b1, b2, b3, fun hmk y k1 k2 => ?_⟩
    have o1 := b4 hmk y k1 k2
    show (if 30 * r + k ≤ y ∧ y < 30 * r + k + m then j + 1 else own y) = _
    rw [if_neg]
    · exact o1
    · rintro ⟨d1, d2⟩
      have := hfree y d1 d2
      omega
  · obtain ⟨a1, a2, a3, a4, a5, a6⟩ := h4
    unfold BC_
    rw [e2, a1, fr.ki 124 13 (by simp [covers]), fr.ki 124 14 (by simp [covers]), fr.ki 124 15 (by simp [covers]), fr.ki 124 16 (by simp [covers]), fr.kl 153 93 (by simp [covers]), nI_add]
    refine ⟨?_, a2, a3, a4, a5, a6⟩
    have hs := sm_u (f := fun h => if sz h = 0 then 0 else 1) (g := fun h => if xt sz j m h = 0 then 0 else 1) (i := j) (n := 60) hj (fun i _ hi => by simp only [xt_o _ _ hi])
    simp only [xt_n] at hs
    rw [if_pos hz, if_neg (by omega)] at hs
    congr 1
    omega
theorem keep_c {st : St} (hT : Top st) {fu : Nat} (hf : 100 ≤ fu) {j sp m : Nat} (hj : j < 60) (hs : sp + m ≤ 1200) (hm : m ≤ 10) : f_X2_keep fu 124 (nI j) (nI sp) (nI m) st = some (seg 119 sp m (nI 1) (sI (sI (sI st 125 j (nI sp)) 126 j (nI m)) 124 11 (gI st 124 11 + nI 1))) := by
  have hmk := mark_c (st := sI (sI (sI st 125 j (nI sp)) 126 j (nI m)) 124 11 (gI st 124 11 + nI 1)) (hT.r rfl) hf (sp := sp) (n := m) (nI 1) hs (by omega)
  simp (disch := first | decide | omega) [isb, ck_tt, NP, NF, NC, NB, NS, GS, kdC, tpC hT, f_X2_keep, hmk]
theorem desc_c {st : St} (hT : Top st) (fu : Nat) {j : Nat} (hj : j < 60) (x d t : Int32) : f_X2_describe fu 124 (nI j) x d t st = some (sI (sI (sI st 127 j x) 128 j d) 129 j t) := by
  simp (disch := first | decide | omega) [isb, ck_tt, NP, NF, NC, NB, NS, GS, kdC, tpC hT, f_X2_describe]
theorem ask_in {st : St} {c : Nat} (hT : Top st) (hP : P_hb st) (hN : P_now c st) (fu : Nat) (hf : 200 ≤ fu) {d s n x y : Nat} (till : Int32) (hd : d ≤ 3) (hs : s ≤ 7) (hn1 : 1 ≤ n) (hn : n ≤ 10) (hx : x ≤ 3) (hy : y ≤ 6) (hC : f_X11_ask fu 1 (nI d) (nI s) (nI n) (nI x) (nI y) till st = if till ≤ gI st 1 8 then some (-nI 1, st) else b_X11_ask_64 fu 1 (nI d) (nI s) (nI n) (nI x) (nI y) till (nI 1) st) (hRr : ∀ u, f_X12_ask fu 153 (nI d) (nI s) (nI n) (nI x) (nI y) till u = b_X12_ask_58 fu fu 153 (nI d) (nI s) (nI n) (nI x) (nI y) till (nI 0) u) : Two (f_X11_ask fu 1 (nI d) (nI s) (nI n) (nI x) (nI y) till) (f_X12_ask fu 153 (nI d) (nI s) (nI n) (nI x) (nI y) till) W_box P_hb st := by
  obtain ⟨hH, own, sz, hr, hf', nt, tr, tf, tm, tp, mk, hB⟩ := hP
  have no : f_X11_ask fu 1 (nI d) (nI s) (nI n) (nI x) (nI y) till st = some (-nI 1, st) → f_X12_ask fu 153 (nI d) (nI s) (nI n) (nI x) (nI y) till st = some (-nI 1, st) → Two (f_X11_ask fu 1 (nI d) (nI s) (nI n) (nI x) (nI y) till) (f_X12_ask fu 153 (nI d) (nI s) (nI n) (nI x) (nI y) till) W_box P_hb st := fun q1 q2 => ⟨-nI 1, st, st, q1, q2, Fr.rf, hH, own, sz, hr, hf', nt, tr, tf, tm, tp, mk, hB⟩
  have hB2 := hB.2.1
  obtain ⟨N, -, hN2, hN3⟩ := hN
  obtain ⟨j, j1, j2, j3⟩ := least0 sz 60
  have fr := fun u (hTu : Top u) (e : ∀ h, gI u 219 h = gI st 219 h) => freeH_r hTu fu (sz := sz) (fun h hh => by rw [e]; exact (hB2 h hh).1.2.2) (nI d) (nI s) (nI n) (nI x) (nI y) till j1 j2 j3 fu 0 (by omega) (by omega)
  have fc := freeH_c hT fu (sz := sz) (fun h hh => ⟨(hB2 h hh).1.1, (hB2 h hh).1.2.1⟩) j1 j2 j3 fu 0 (by omega) (by omega)
  have fc' : f_X2_freeHold fu 124 st = some (if j < 60 then nI j else -nI 1, st) := fc
  clear fc
  by_cases ht : till ≤ gI st 1 8
  · rw [if_pos ht] at hC
    refine no hC ?_
    rw [hRr, fr st hT (fun _ => rfl)]
    rw [hN2, ← hN3] at ht
    clear hB hB2 hH fr fc' no
    simp (disch := first | decide | omega) [isb, ck_tt, NP, NF, NC, NB, NS, GS, kdR, tpR hT, b_X12_ask_81, b_X12_ask_97, ht]
  · rw [if_neg ht] at hC
    have ht2 : ¬ till ≤ gI st 153 40 := by rw [hN3, ← hN2]; exact ht
    rcases Nat.lt_or_ge j 60 with hj | hj
    · rw [if_pos hj] at fc'
      obtain ⟨se, hse⟩ := Classical.axiomOfChoice hH.2.2.2.1
      obtain ⟨q, hq⟩ : ∃ q : HQ, q = (se, (fun r k => decide (gI st 119 (30 * r + k) = nI 0)), (fun r => decide (gI st 117 r = nI s)), (fun d => decide (gI st 218 d = nI 1)), d, s, n) := ⟨_, rfl⟩
      have qd : q.d = d := by rw [hq]; rfl
      have qs : q.s = s := by rw [hq]; rfl
      have qn : q.n = n := by rw [hq]; rfl
      have qse : q.se = se := by rw [hq]; rfl
      have qC : q.C st := by
        rw [hq]
        refine ⟨fun r _ => ⟨(hse r).2, (hse r).1, fun _ => by show gI st 117 r = nI s ↔ decide (gI st 117 r = nI s) = true; simp⟩, fun r k _ _ => by show gI st 119 (30 * r + k) = nI 0 ↔ decide (gI st 119 (30 * r + k) = nI 0) = true; simp, fun e he => ?_, by show d < 4; omega, hn1, hn, hs⟩
        obtain ⟨l1, l2⟩ := hH.2.2.2.2.2.2.2.2.2 e
        show gI st 120 e = nI (if decide (gI st 218 e = nI 1) = true then 0 else 1)
        rw [l2 he]
        rcases l1 with l | l
        · rw [l]; decide +kernel
        · rw [l]; decide +kernel
      have qR : ∀ u, (∀ o, 134 ≤ o → gI u o = gI st o) → q.R u := fun u hu => by
        rw [hq]
        refine ⟨fun r _ => ⟨?_, (hse r).1, fun h0 => ?_⟩, fun r k _ _ => ?_, fun e he => ?_, by show d < 4; omega, hn1, hn, hs⟩
        · rw [hu 216 (by omega), ← hH.2.2.1]; exact (hse r).2
        · have h9 := hH.2.2.2.2.2.2.2.2.1 r (by
            rw [(hse r).2]
            exact nI_ne0 h0 (by have := (hse r).1; show se r < _; omega))
          show gI u 215 r = nI s ↔ decide (gI st 117 r = nI s) = true
          rw [hu 215 (by omega), ← h9.1]; simp
        · show gI u 217 (30 * r + k) = nI 0 ↔ decide (gI st 119 (30 * r + k) = nI 0) = true
          rw [hu 217 (by omega), ← hH.2.2.2.2.1]; simp
        · obtain ⟨l1, l2⟩ := hH.2.2.2.2.2.2.2.2.2 e
          show gI u 218 e = nI (if decide (gI st 218 e = nI 1) = true then 1 else 0)
          rw [hu 218 (by omega)]
          rcases l1 with l | l
          · rw [l]; decide +kernel
          · rw [l]; decide +kernel
      have hbest := best_c hT (fu := fu) (by omega) qC
      rw [qd, qs, qn] at hbest
      have ok := HQ.allf_ok q (fun r _ => by rw [qse]; exact (hse r).1) 40 (Nat.le_refl _)
      have cl : f_X11_ask fu 1 (nI d) (nI s) (nI n) (nI x) (nI y) till st = b_X11_ask_101 fu 1 (nI n) (nI x) (nI y) till (nI j) (HQ.eF (q.allf 40)) st := by
        rw [hC]
        clear hB hB2 hH fr no qC qR hse hC hRr ok
        simp (disch := first | decide | omega) [isb, ck_tt, NP, NF, NC, NB, NS, GS, kdC, tpC hT, b_X11_ask_64, fc', hbest]
      have rl : ∀ u (hTu : Top u) (e : ∀ o, 134 ≤ o → gI u o = gI st o), f_X12_ask fu 153 (nI d) (nI s) (nI n) (nI x) (nI y) till u = askF q (nI x) (nI y) till j (q.allf 40) u := fun u hTu e => by
        rw [hRr, fr u hTu (fun h => by rw [e 219 (by omega)])]
        have al := ask_all hTu (fu := fu) (by omega) (qR u e) (nI x) (nI y) till hj fu 0 (by omega) (by omega)
        rw [qd, qs, qn] at al
        have al' : b_X12_ask_114 fu fu 153 (nI d) (nI s) (nI n) (nI x) (nI y) till (nI j) (-nI 1) (-nI 1) (nI 0) (nI 0) (nI 0) u = askF q (nI x) (nI y) till j (q.allf 40) u := al
        have ht3 : ¬ till ≤ gI u 153 40 := by rw [e 153 (by omega)]; exact ht2
        have hT := hTu
        clear hB hB2 hH fr no qC qR hse hC hRr ok al
        simp (disch := first | decide | omega) [isb, ck_tt, NP, NF, NC, NB, NS, GS, kdR, tpR hT, b_X12_ask_81, b_X12_ask_97, ht3, al']
      cases hacc : q.allf 40 with
      | none =>
        rw [hacc] at cl
        refine no ?_ ?_
        · rw [cl]
          clear hB hB2 hH fr no qC qR hse hC hRr ok rl
          simp (disch := first | decide | omega) [isb, ck_tt, NP, NF, NC, NB, NS, GS, kdC, tpC hT, b_X11_ask_101, HQ.eF]
        · rw [rl st hT (fun _ _ => rfl), hacc]
          rfl
      | some acc =>
        obtain ⟨r, k, lo, fa⟩ := acc
        rw [hacc] at cl ok
        obtain ⟨r4, k4, k5, sec, oks, -, -⟩ := ok
        rw [qn, qse] at k4 k5
        have se30 := (hse r).1
        rw [qn] at oks
        have s117 : gI st 117 r = nI s := by
          rw [hq] at sec
          exact of_decide_eq_true sec
        obtain ⟨u, hu⟩ : ∃ u, u = sI (sI (sI (seg 119 (30 * r + k) n (nI 1) (sI (sI (sI st 125 j (nI (30 * r + k))) 126 j (nI n)) 124 11 (gI st 124 11 + nI 1))) 127 j (nI x)) 128 j (nI y)) 129 j till := ⟨_, rfl⟩
        have kc := keep_c hT (fu := fu) (by omega) (j := j) (sp := 30 * r + k) (m := n) hj (by omega) hn
        have dc := desc_c (st := seg 119 (30 * r + k) n (nI 1) (sI (sI (sI st 125 j (nI (30 * r + k))) 126 j (nI n)) 124 11 (gI st 124 11 + nI 1))) (hT.r rfl) fu (j := j) hj (nI x) (nI y) till
        rw [← hu] at dc
        have hc : f_X11_ask fu 1 (nI d) (nI s) (nI n) (nI x) (nI y) till st = some (nI j, u) := by
          rw [cl]
          clear hB hB2 hH fr no qC qR hse hC hRr rl oks hu
          simp (disch := first | decide | omega) [isb, ck_tt, NP, NF, NC, NB, NS, GS, kdC, tpC hT, b_X11_ask_101, HQ.eF, kc, dc]
        have fu1 : Fr [(119, none), (124, some 11), (125, some j), (126, some j), (127, some j), (128, some j), (129, some j)] st u := by
          rw [hu]
          exact (((((((Fr.i st 125 j _).tr (Fr.i _ 126 j _)).tr (Fr.i _ 124 11 _)).tr (Fr.sg _ 119 _ _ _)).tr (Fr.i _ 127 j _)).tr (Fr.i _ 128 j _)).tr (Fr.i _ 129 j _)).wd (by simp [within'])
        have hTu : Top u := hT.r (by rw [hu]; rfl)
        have ur : ∀ o, 134 ≤ o → gI u o = gI st o := fun o h => fu1.fi o (by simp; omega)
        have hrr := rl u hTu ur
        rw [hacc] at hrr
        have hrr2 : f_X12_ask fu 153 (nI d) (nI s) (nI n) (nI x) (nI y) till u = some (nI j, seg 217 (30 * r + k) q.n (nI 1) (sI (sI (sI (sI (sI (sI (sI (sI u 219 j (nI 1)) 220 j (nI r)) 221 j (nI k)) 222 j (nI q.n)) 223 j till) 224 j (nI q.s)) 225 j (nI x)) 226 j (nI y))) := hrr
        rw [qn, qs] at hrr2
        obtain ⟨w, hw⟩ : ∃ w, w = seg 217 (30 * r + k) n (nI 1) (sI (sI (sI (sI (sI (sI (sI (sI u 219 j (nI 1)) 220 j (nI r)) 221 j (nI k)) 222 j (nI n)) 223 j till) 224 j (nI s)) 225 j (nI x)) 226 j (nI y)) := ⟨_, rfl⟩
        rw [← hw] at hrr2
        clear hrr rl fr no cl kc dc hC hRr qC qR hbest
        have fw : Fr [(217, none), (219, some j), (220, some j), (221, some j), (222, some j), (223, some j), (224, some j), (225, some j), (226, some j)] u w := by
          rw [hw]
          exact (((((((((Fr.i u 219 j _).tr (Fr.i _ 220 j _)).tr (Fr.i _ 221 j _)).tr (Fr.i _ 222 j _)).tr (Fr.i _ 223 j _)).tr (Fr.i _ 224 j _)).tr (Fr.i _ 225 j _)).tr (Fr.i _ 226 j _)).tr (Fr.sg _ 217 _ _ _)).wd (by simp [within'])
        have ru : ∀ o z, gI u o z = if o = 129 ∧ z = j then till else if o = 128 ∧ z = j then nI y else if o = 127 ∧ z = j then nI x else if o = 119 ∧ 30 * r + k ≤ z ∧ z < 30 * r + k + n then nI 1 else if o = 124 ∧ z = 11 then gI st 124 11 + nI 1 else if o = 126 ∧ z = j then nI n else if o = 125 ∧ z = j then nI (30 * r + k) else gI st o z := fun o z => by rw [hu]; simp only [gI_sI, gI_seg]
        have rw_ : ∀ o z, gI w o z = if o = 217 ∧ 30 * r + k ≤ z ∧ z < 30 * r + k + n then nI 1 else if o = 226 ∧ z = j then nI y else if o = 225 ∧ z = j then nI x else if o = 224 ∧ z = j then nI s else if o = 223 ∧ z = j then till else if o = 222 ∧ z = j then nI n else if o = 221 ∧ z = j then nI k else if o = 220 ∧ z = j then nI r else if o = 219 ∧ z = j then nI 1 else gI u o z := fun o z => by rw [hw]; simp only [gI_sI, gI_seg]
        have frw : Fr [(119, none), (217, none), (124, some 11), (125, some j), (126, some j), (127, some j), (128, some j), (129, some j), (219, some j), (220, some j), (221, some j), (222, some j), (223, some j), (224, some j), (225, some j), (226, some j)] st w := (fu1.tr fw).wd (by simp [within'])
        have w119 : ∀ z, gI w 119 z = if 30 * r + k ≤ z ∧ z < 30 * r + k + n then nI 1 else gI st 119 z := fun z => by
          rw [fw.fi 119 (by simp), ru]
          simp
        have w217 : ∀ z, gI w 217 z = if 30 * r + k ≤ z ∧ z < 30 * r + k + n then nI 1 else gI st 217 z := fun z => by
          rw [rw_, ur _ (by omega)]
          simp
        have hfree : ∀ z, 30 * r + k ≤ z → z < 30 * r + k + n → own z = 0 := fun z z1 z2 => by
          have o1 := oks (z - 30 * r) (by omega) (by omega)
          unfold HQ.oks at o1
          rw [Bool.and_eq_true] at o1
          have o2 := o1.1
          rw [hq] at o2
          have o3 : gI st 119 (30 * r + (z - 30 * r)) = nI 0 := of_decide_eq_true o2
          rw [show 30 * r + (z - 30 * r) = z by omega, hB.1 z] at o3
          unfold oS at o3
          by_cases h0 : own z = 0
          · exact h0
          · rw [if_neg h0] at o3
            by_cases h6 : own z ≤ 60
            · rw [if_pos h6] at o3
              exact absurd o3 (by decide)
            · rw [if_neg h6] at o3
              exact absurd o3 (by decide)
        have hlt : gI st 1 8 < till := lt_of_nle ht
        refine ⟨_, u, w, hc, hrr2, frw.wd (by simp [within', W_box]), ?_, _, _, _, _, nt, tr, tf, tm, tp, mk, box_keep hB (till := till) hj (j3 hj) ⟨hn1, hn⟩ r4 (by omega) hs hx hy hlt s117 hfree frw w119 ?_ ?_ ?_ ?_ ?_ ?_ ?_ ?_ ?_ ?_ ?_ ?_ ?_ ?_⟩
        · refine hH.mk r4 (f := k) (m := n) (v := 1) (by omega) (by omega) (fun s' hs' => Or.inr ?_) (fun o ho => frw.fi o (by rcases ho with rfl | rfl | rfl | rfl | rfl | rfl | rfl | rfl <;> simp)) w119 w217
          rw [(hse r).2] at hs'
          by_cases hs30 : s' < 2147483648
          · have := (nI_eq (by omega) hs30).mp hs'
            omega
          · omega
        · rw [fw.ki 124 11 (by simp [covers]), ru]; simp
        · rw [fw.ki 125 j (by simp [covers]), ru]; simp
        · rw [fw.ki 126 j (by simp [covers]), ru]; simp
        · rw [fw.ki 127 j (by simp [covers]), ru]; simp
        · rw [fw.ki 128 j (by simp [covers]), ru]; simp
        · rw [fw.ki 129 j (by simp [covers]), ru]; simp
        · rw [rw_]; simp
        · rw [rw_]; simp
        · rw [rw_]; simp
        · rw [rw_]; simp
        · rw [rw_]; simp
        · rw [rw_]; simp
        · rw [rw_]; simp
        · rw [rw_]; simp
    · have : j = 60 := by omega
      subst this
      rw [if_neg (by omega)] at fc'
      refine no ?_ ?_
      · rw [hC]
        clear hB hB2 hH fr no hC hRr
        simp (disch := first | decide | omega) [isb, ck_tt, NP, NF, NC, NB, NS, GS, kdC, tpC hT, b_X11_ask_64, b_X11_ask_101, fc']
      · rw [hRr, fr st hT (fun _ => rfl)]
        clear hB hB2 hH fr fc' no hC hRr
        simp (disch := first | decide | omega) [isb, ck_tt, NP, NF, NC, NB, NS, GS, kdR, tpR hT, b_X12_ask_81, b_X12_ask_97, ht2]
theorem wi {α : Type} (c : Prop) [Decidable c] (A B : α) : (if (if c then (1 : Int32) else 0) = 0 then A else B) = if c then B else A := by
  by_cases h : c
  · rw [if_pos h, if_pos h, if_neg (by decide)]
  · rw [if_neg h, if_neg h, if_pos rfl]
theorem ask_2 {st : St} {c : Nat} (hT : Top st) (hP : P_hb st) (hN : P_now c st) (fu : Nat) (hf : 200 ≤ fu) (a1 a2 a3 a4 a5 a6 : Int32) : Two (f_X11_ask fu 1 a1 a2 a3 a4 a5 a6) (f_X12_ask fu 153 a1 a2 a3 a4 a5 a6) W_box P_hb st := by
  have no : f_X11_ask fu 1 a1 a2 a3 a4 a5 a6 st = some (-nI 1, st) → f_X12_ask fu 153 a1 a2 a3 a4 a5 a6 st = some (-nI 1, st) → Two (f_X11_ask fu 1 a1 a2 a3 a4 a5 a6) (f_X12_ask fu 153 a1 a2 a3 a4 a5 a6) W_box P_hb st := fun q1 q2 => ⟨-nI 1, st, st, q1, q2, Fr.rf, hP⟩
  have un : f_X11_ask fu 1 a1 a2 a3 a4 a5 a6 st = if (nI 0 ≤ a1 ∧ a1 ≤ nI 3) then (if (nI 0 ≤ a2 ∧ a2 ≤ nI 7) then (if (nI 1 ≤ a3 ∧ a3 ≤ nI 10) then (if (nI 0 ≤ a4 ∧ a4 ≤ nI 3) then (if (nI 0 ≤ a5 ∧ a5 ≤ nI 6) then (if a6 ≤ gI st 1 8 then some (-nI 1, st) else b_X11_ask_64 fu 1 a1 a2 a3 a4 a5 a6 (nI 1) st) else some (-nI 1, st)) else some (-nI 1, st)) else some (-nI 1, st)) else some (-nI 1, st)) else some (-nI 1, st) := by
    have e63 : b_X11_ask_63 fu 1 a1 a2 a3 a4 a5 a6 st = some (-nI 1, st) := by
      unfold b_X11_ask_63 b_X11_ask_64
      rw [if_pos rfl]
      rfl
    unfold f_X11_ask
    simp only [within_eq, ca_s, wi, e63, ck_t (show (kd 1).1 = 11 from rfl)]
    rfl
  rcases rngN a1 0 3 (by omega) (by omega) with ⟨d, -, d2, rfl, d3⟩ | ⟨g, g2⟩ | ⟨⟨g, g3⟩, g2⟩
  rotate_left
  · refine no (by rw [un, if_neg g2]) ?_
    simp (disch := first | decide | omega) [isb, ck_tt, NP, NF, NC, NB, NS, GS, kdR, tpR hT, f_X12_ask, b_X12_ask_53, g]
  · refine no (by rw [un, if_neg g2]) ?_
    simp (disch := first | decide | omega) [isb, ck_tt, NP, NF, NC, NB, NS, GS, kdR, tpR hT, f_X12_ask, b_X12_ask_53, g, g3]
  rcases rngN a2 0 7 (by omega) (by omega) with ⟨s, -, s2, rfl, s3⟩ | ⟨g, g2⟩ | ⟨⟨g, g3⟩, g2⟩
  rotate_left
  · refine no (by rw [un, if_pos d3, if_neg g2]) ?_
    simp (disch := first | decide | omega) [isb, ck_tt, NP, NF, NC, NB, NS, GS, kdR, tpR hT, f_X12_ask, b_X12_ask_53, g]
  · refine no (by rw [un, if_pos d3, if_neg g2]) ?_
    simp (disch := first | decide | omega) [isb, ck_tt, NP, NF, NC, NB, NS, GS, kdR, tpR hT, f_X12_ask, b_X12_ask_53, g, g3]
  rcases rngN a3 1 10 (by omega) (by omega) with ⟨n, n1, n2, rfl, n3⟩ | ⟨g, g2⟩ | ⟨⟨g, g3⟩, g2⟩
  rotate_left
  · refine no (by rw [un, if_pos d3, if_pos s3, if_neg g2]) ?_
    simp (disch := first | decide | omega) [isb, ck_tt, NP, NF, NC, NB, NS, GS, kdR, tpR hT, f_X12_ask, b_X12_ask_53, g]
  · refine no (by rw [un, if_pos d3, if_pos s3, if_neg g2]) ?_
    simp (disch := first | decide | omega) [isb, ck_tt, NP, NF, NC, NB, NS, GS, kdR, tpR hT, f_X12_ask, b_X12_ask_53, g, g3]
  rcases rngN a4 0 3 (by omega) (by omega) with ⟨x, -, x2, rfl, x3⟩ | ⟨g, g2⟩ | ⟨⟨g, g3⟩, g2⟩
  rotate_left
  · refine no (by rw [un, if_pos d3, if_pos s3, if_pos n3, if_neg g2]) ?_
    simp (disch := first | decide | omega) [isb, ck_tt, NP, NF, NC, NB, NS, GS, kdR, tpR hT, f_X12_ask, b_X12_ask_53, g]
  · refine no (by rw [un, if_pos d3, if_pos s3, if_pos n3, if_neg g2]) ?_
    simp (disch := first | decide | omega) [isb, ck_tt, NP, NF, NC, NB, NS, GS, kdR, tpR hT, f_X12_ask, b_X12_ask_53, g, g3]
  rcases rngN a5 0 6 (by omega) (by omega) with ⟨y, -, y2, rfl, y3⟩ | ⟨g, g2⟩ | ⟨⟨g, g3⟩, g2⟩
  rotate_left
  · refine no (by rw [un, if_pos d3, if_pos s3, if_pos n3, if_pos x3, if_neg g2]) ?_
    simp (disch := first | decide | omega) [isb, ck_tt, NP, NF, NC, NB, NS, GS, kdR, tpR hT, f_X12_ask, b_X12_ask_53, g]
  · have g4 : ¬ a5 ≤ nI 6 := fun e => by
      have := i32_lt.mp g3
      have := i32_le.mp e
      omega
    refine no (by rw [un, if_pos d3, if_pos s3, if_pos n3, if_pos x3, if_neg g2]) ?_
    simp (disch := first | decide | omega) [isb, ck_tt, NP, NF, NC, NB, NS, GS, kdR, tpR hT, f_X12_ask, b_X12_ask_53, g, g4]
  refine ask_in hT hP hN fu hf a6 d2 s2 n1 n2 x2 y2 ?_ (fun u => ?_)
  · rw [un, if_pos d3, if_pos s3, if_pos n3, if_pos x3, if_pos y3]
  · simp (disch := first | decide | omega) [isb, ck_tt, NP, NF, NC, NB, NS, GS, kdR, tpR hT, f_X12_ask]
