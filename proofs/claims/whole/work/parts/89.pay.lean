/-! PURE: hold, pay -/
theorem Fr.fi {W : List PL} {st w : St} (h : Fr W st w) (o : Nat) (hd : W.all (fun b => !(b.1 == o)) = true) : gI w o = gI st o := funext fun k => (h o k (List.any_eq_false.mpr fun b hb => by
  have := List.all_eq_true.mp hd b hb
  simp only [Bool.not_eq_true', beq_eq_false_iff_ne] at this
  simp [covers, this])).1
theorem Fr.ki {W : List PL} {st w : St} (h : Fr W st w) (o k : Nat) (hd : W.any (covers · o k) = false) : gI w o k = gI st o k := (h o k hd).1
theorem Fr.kl {W : List PL} {st w : St} (h : Fr W st w) (o k : Nat) (hd : W.any (covers · o k) = false) : gL w o k = gL st o k := (h o k hd).2.1
theorem Ans.two {fC fR : St → Option (Int32 × St)} {st : St} {W : List PL} {P : St → Prop} (h : Ans fC fR st) (hP : P st) : Two fC fR W P st := by
  obtain ⟨r, h1, h2⟩ := h
  exact ⟨r, st, st, h1, h2, Fr.rf, hP⟩
theorem hold_2 {st : St} (hT : Top st) (hP : P_hb st) (hR : P_rul st) (fu : Nat) (hf : 4100 ≤ fu) (h w : Int32) : Ans (f_X11_hold fu 1 h w) (f_X12_hold fu 153 h w) st := by
  obtain ⟨hH, own, sz, hr, hf', n, tr, tf, tm, tp, mk, hB⟩ := hP
  obtain ⟨g, hg⟩ := hR
  have hB2 := hB.2.1
  clear hB
  obtain ⟨i1, i2⟩ := isHold_r hT fu hB2 h
  have no : f_X2_hasHold fu 124 h st = some (0, st) → Ans (f_X11_hold fu 1 h w) (f_X12_hold fu 153 h w) st := fun q => by
    refine ⟨-nI 1, ?_, ?_⟩
    · simp (disch := first | decide | omega) [isb, ck_tt, NP, NF, NC, NB, NS, GS, kdC, tpC hT, f_X11_hold, b_X11_hold_24, q]
    · have := i1 q
      simp (disch := first | decide | omega) [isb, ck_tt, NP, NF, NC, NB, NS, GS, kdR, tpR hT, f_X12_hold, this]
  rcases hasHold_c hT fu hB2 h with q | ⟨j, hj, rfl, q1, q2⟩
  · exact no q
  · rcases Nat.eq_zero_or_pos (sz j) with z | z
    · exact no (q1 z)
    · have q := q2 z
      have i := i2 j hj rfl z
      obtain ⟨⟨b1, b2, b3⟩, b4⟩ := hB2 j hj
      obtain ⟨⟨c1, c2, c3, c4, c5, c6⟩, ⟨c7, c8⟩, ⟨s, s1, s2, s3⟩, ⟨x, x1, x2, x3⟩, ⟨d, d1, d2, d3⟩, c9⟩ := b4 z
      obtain ⟨p, p1, p2⟩ := hH.2.1 s
      have p3 : gI st 214 s = nI p := by rw [← hH.1]; exact p2
      have pc := price_c hT (fu := fu) (by omega) hg hj c1 (m := hf' j) (by omega) b2 x1 d1 s1 p1 c3 s2 b1 x2 d2 p2
      have pr := price_r hT hf hg hj b2 x1 d1 s1 p1 s3 c6 x3 d3 p3
      have dv : (30 * hr j + hf' j) / 30 = hr j := by omega
      have md : 30 * hr j + hf' j - hr j * 30 = hf' j := by omega
      clear hB2 i1 i2 no q1 q2 b4 c9 hH hg
      by_cases w0 : w = 0
      · subst w0
        refine ⟨nI (hr j), ?_, ?_⟩
        · simp (disch := first | decide | omega) [isb, ck_tt, NP, NF, NC, NB, NS, GS, kdC, tpC hT, f_X11_hold, b_X11_hold_24, q, f_X2_tellHold, c3, dv]
        · simp (disch := first | decide | omega) [isb, ck_tt, NP, NF, NC, NB, NS, GS, kdR, tpR hT, f_X12_hold, b_X12_hold_79, i, c4]
      by_cases w1 : w = 1
      · subst w1
        refine ⟨nI (hf' j), ?_, ?_⟩
        · simp (disch := first | decide | omega) [isb, ck_tt, NP, NF, NC, NB, NS, GS, kdC, tpC hT, f_X11_hold, b_X11_hold_24, q, f_X2_tellHold, c3, dv, md]
        · simp (disch := first | decide | omega) [isb, ck_tt, NP, NF, NC, NB, NS, GS, kdR, tpR hT, f_X12_hold, b_X12_hold_79, i, c5]
      by_cases w2 : w = 2
      · subst w2
        refine ⟨nI (sz j), ?_, ?_⟩
        · simp (disch := first | decide | omega) [isb, ck_tt, NP, NF, NC, NB, NS, GS, kdC, tpC hT, f_X11_hold, b_X11_hold_24, q, f_X2_tellHold, b1]
        · simp (disch := first | decide | omega) [isb, ck_tt, NP, NF, NC, NB, NS, GS, kdR, tpR hT, f_X12_hold, b_X12_hold_79, i, c6]
      by_cases w3 : w = 3
      · subst w3
        refine ⟨nI (g.prf (sz j) x d s g.cnt 0 (cap (sz j * p))), ?_, ?_⟩
        · simp (disch := first | decide | omega) [isb, ck_tt, NP, NF, NC, NB, NS, GS, kdC, tpC hT, f_X11_hold, b_X11_hold_24, q, f_X2_tellHold, pc]
        · simp (disch := first | decide | omega) [isb, ck_tt, NP, NF, NC, NB, NS, GS, kdR, tpR hT, f_X12_hold, b_X12_hold_79, i, pr]
      by_cases w4 : w = 4
      · subst w4
        refine ⟨gI st 129 j, ?_, ?_⟩
        · simp (disch := first | decide | omega) [isb, ck_tt, NP, NF, NC, NB, NS, GS, kdC, tpC hT, f_X11_hold, b_X11_hold_24, q, f_X2_tellHold]
        · simp (disch := first | decide | omega) [isb, ck_tt, NP, NF, NC, NB, NS, GS, kdR, tpR hT, f_X12_hold, b_X12_hold_79, i, c7]
      have w0' : ¬ w = nI 0 := w0
      have w1' : ¬ w = nI 1 := w1
      have w2' : ¬ w = nI 2 := w2
      have w3' : ¬ w = nI 3 := w3
      have w4' : ¬ w = nI 4 := w4
      refine ⟨-nI 1, ?_, ?_⟩
      · simp (disch := first | decide | omega) [isb, ck_tt, NP, NF, NC, NB, NS, GS, kdC, tpC hT, f_X11_hold, b_X11_hold_24, q, f_X2_tellHold, w0', w1', w2', w3', w4']
      · simp (disch := first | decide | omega) [isb, ck_tt, NP, NF, NC, NB, NS, GS, kdR, tpR hT, f_X12_hold, b_X12_hold_79, i, w0', w1', w2', w3', w4']
def S_bh : List PL := [(1, some 8), (117, none), (125, none), (126, none), (127, none), (128, none), (129, none), (219, none), (220, none), (221, none), (222, none), (223, none), (224, none), (225, none), (226, none)]
theorem BH.fr {st u : St} {own sz hr hf : Nat → Nat} (h2 : BH st own sz hr hf) (hs : Same S_bh st u) : BH u own sz hr hf := by
  unfold BH at h2 ⊢
  rw [hs.fi (o := 125) (by decide), hs.fi (o := 126) (by decide), hs.fi (o := 127) (by decide), hs.fi (o := 128) (by decide), hs.fi (o := 129) (by decide), hs.fi (o := 117) (by decide), hs.fi (o := 219) (by decide), hs.fi (o := 220) (by decide), hs.fi (o := 221) (by decide), hs.fi (o := 222) (by decide), hs.fi (o := 223) (by decide), hs.fi (o := 224) (by decide), hs.fi (o := 225) (by decide), hs.fi (o := 226) (by decide), hs.i (o := 1) (k := 8) (by decide)]
  exact h2
theorem sell_c {st : St} (hT : Top st) {fu : Nat} (hf : 100 ≤ fu) {own sz hr hf' : Nat → Nat} (hB : BH st own sz hr hf') {j n p : Nat} (hj : j < 60) (hz : 0 < sz j) (hn : n < 300) (e : gI st 124 12 = nI n) : f_X2_sell fu 124 (nI j) (nI p) st = some (nI n, seg 119 (30 * hr j + hf' j) (sz j) (nI 2) (sI (sI (seg 119 (30 * hr j + hf' j) (sz j) (nI 0) (sI (sI (sI (sI (sI (sI (sI st 130 n (nI (30 * hr j + hf' j))) 131 n (nI (sz j))) 132 n (nI p)) 133 n (nI 0)) 124 12 (nI (n + 1))) 124 14 (gI st 124 14 + nI p)) 124 15 (gI st 124 15 + nI (sz j)))) 126 j (nI 0)) 124 11 (gI st 124 11 - nI 1))) := by
  have b1 := (hB j hj).1.1
  have b2 := (hB j hj).1.2.1
  obtain ⟨⟨c1, c2, c3, c4, c5, c6⟩, -⟩ := (hB j hj).2 hz
  have fr : Fr [(130, none), (131, none), (132, none), (133, none), (124, some 12), (124, some 14), (124, some 15)] st (sI (sI (sI (sI (sI (sI (sI st 130 n (nI (30 * hr j + hf' j))) 131 n (nI (sz j))) 132 n (nI p)) 133 n (nI 0)) 124 12 (nI (n + 1))) 124 14 (gI st 124 14 + nI p)) 124 15 (gI st 124 15 + nI (sz j))) := (((((((Fr.ia st 130 _ _).tr (Fr.ia _ 131 _ _)).tr (Fr.ia _ 132 _ _)).tr (Fr.ia _ 133 _ _)).tr (Fr.i _ 124 12 _)).tr (Fr.i _ 124 14 _)).tr (Fr.i _ 124 15 _)).wd (by decide)
  have dr := drop_c (st := sI (sI (sI (sI (sI (sI (sI st 130 n (nI (30 * hr j + hf' j))) 131 n (nI (sz j))) 132 n (nI p)) 133 n (nI 0)) 124 12 (nI (n + 1))) 124 14 (gI st 124 14 + nI p)) 124 15 (gI st 124 15 + nI (sz j))) (hT.r rfl) hf (hB.fr (fr.same (by decide))) hj hz
  rw [show gI (sI (sI (sI (sI (sI (sI (sI st 130 n (nI (30 * hr j + hf' j))) 131 n (nI (sz j))) 132 n (nI p)) 133 n (nI 0)) 124 12 (nI (n + 1))) 124 14 (gI st 124 14 + nI p)) 124 15 (gI st 124 15 + nI (sz j))) 124 11 = gI st 124 11 from fr.ki 124 11 (by decide)] at dr
  have hm := mark_c (st := sI (sI (seg 119 (30 * hr j + hf' j) (sz j) (nI 0) (sI (sI (sI (sI (sI (sI (sI st 130 n (nI (30 * hr j + hf' j))) 131 n (nI (sz j))) 132 n (nI p)) 133 n (nI 0)) 124 12 (nI (n + 1))) 124 14 (gI st 124 14 + nI p)) 124 15 (gI st 124 15 + nI (sz j)))) 126 j (nI 0)) 124 11 (gI st 124 11 - nI 1)) (hT.r rfl) hf (sp := 30 * hr j + hf' j) (n := sz j) (nI 2) (by omega) (by omega)
  clear fr hB
  simp (disch := first | decide | omega) [isb, ck_tt, NP, NF, NC, NB, NS, GS, kdC, tpC hT, f_X2_sell, e, b1, c3, dr, hm]
theorem pay_r {st : St} (hT : Top st) {fu : Nat} (hf : 100 ≤ fu) {j n p r f m : Nat} (hj : j < 60) (hn : n < 300) (hp : p ≤ 1000000) (hr : r < 40) (hm : f + m ≤ 30) (q : f_X12_isHold fu 153 (nI j) st = some (nI 1, st)) (pr : f_X12_priceOfHold fu 153 (nI j) st = some (nI p, st)) (e : gI st 153 92 = nI n) (c4 : gI st 220 j = nI r) (c5 : gI st 221 j = nI f) (c6 : gI st 222 j = nI m) : f_X12_pay fu 153 (nI j) (nI p) st = some (nI n, sL (seg 217 (30 * r + f) m (nI 2) (sI (sI (sI (sI (sI (sI st 153 92 (nI (n + 1))) 227 n (nI r)) 228 n (nI f)) 229 n (nI m)) 230 n (nI p)) 219 j (nI 0))) 153 93 (gL st 153 93 + lN p)) := by
  have hmk := mark_r (st := sI (sI (sI (sI (sI (sI st 153 92 (nI (n + 1))) 227 n (nI r)) 228 n (nI f)) 229 n (nI m)) 230 n (nI p)) 219 j (nI 0)) (hT.r rfl) hf (r := r) (f := f) (n := m) (nI 2) hr hm
  simp (disch := first | decide | omega) [isb, ck_tt, NP, NF, NC, NB, NS, GS, kdR, tpR hT, f_X12_pay, b_X12_pay_27, q, pr, e, c4, c5, c6, hmk, LF]
theorem sm_x {f g : Nat → Nat} {n : Nat} (h : ∀ i, i < n → g i = f i) : sm (n + 1) g = sm n f + g n := by
  show sm n g + g n = _
  rw [sm_c h]
def xt (f : Nat → Nat) (n v : Nat) : Nat → Nat := fun x => if x = n then v else f x
theorem xt_n (f : Nat → Nat) (n v : Nat) : xt f n v n = v := if_pos rfl
theorem xt_o (f : Nat → Nat) {n x : Nat} (v : Nat) (h : x ≠ n) : xt f n v x = f x := if_neg h
/-- a hold is sold -/
theorem box_sell {st w : St} {own sz hr hf : Nat → Nat} {n : Nat} {tr tf tm tp mk : Nat → Nat} (hB : Bx st own sz hr hf n tr tf tm tp mk) {j p : Nat} (hj : j < 60) (hz : 0 < sz j) (hn : n < 300) (hp : p ≤ 1000000)
    (fr : Fr [(119, none), (217, none), (124, some 11), (124, some 12), (124, some 14), (124, some 15), (126, some j), (219, some j), (130, some n), (131, some n), (132, some n), (133, some n), (227, some n), (228, some n), (229, some n), (230, some n), (153, some 92), (153, some 93)] st w)
    (e1 : ∀ k, gI w 119 k = if 30 * hr j + hf j ≤ k ∧ k < 30 * hr j + hf j + sz j then nI 2 else gI st 119 k) (e2 : gI w 126 j = nI 0) (e3 : gI w 219 j = nI 0) (e4 : gI w 124 11 = gI st 124 11 - nI 1) (e5 : gI w 124 12 = nI (n + 1)) (e6 : gI w 124 14 = gI st 124 14 + nI p) (e7 : gI w 124 15 = gI st 124 15 + nI (sz j)) (e8 : gI w 130 n = nI (30 * hr j + hf j)) (e9 : gI w 131 n = nI (sz j)) (e10 : gI w 132 n = nI p) (e11 : gI w 133 n = nI 0) (e12 : gI w 153 92 = nI (n + 1)) (e13 : gI w 227 n = nI (hr j)) (e14 : gI w 228 n = nI (hf j)) (e15 : gI w 229 n = nI (sz j)) (e16 : gI w 230 n = nI p) (eL : gL w 153 93 = gL st 153 93 + lN p) :
    Bx w (fun k => if 30 * hr j + hf j ≤ k ∧ k < 30 * hr j + hf j + sz j then n + 61 else own k) (xt sz j 0) hr hf (n + 1) (xt tr n (hr j)) (xt tf n (hf j)) (xt tm n (sz j)) (xt tp n p) (xt mk n 0) := by
  obtain ⟨h1, h2, h3, h4⟩ := hB
  obtain ⟨⟨s1, s2, s3⟩, s4⟩ := h2 j hj
  obtain ⟨⟨c1, c2, c3, c4, c5, c6⟩, -, -, -, -, hw⟩ := s4 hz
  have ki : ∀ o k, (o = 126 ∨ o = 219) → k ≠ j → gI w o k = gI st o k := fun o k h hk => fr.ki o k (by
    rcases h with rfl | rfl <;> simp [covers, Ne.symm hk])
  have kn : ∀ o k, (o = 130 ∨ o = 131 ∨ o = 132 ∨ o = 133 ∨ o = 227 ∨ o = 228 ∨ o = 229 ∨ o = 230) → k ≠ n → gI w o k = gI st o k := fun o k h hk => fr.ki o k (by
    rcases h with rfl | rfl | rfl | rfl | rfl | rfl | rfl | rfl <;> simp [covers, Ne.symm hk])
  have kf : ∀ o, (o = 1 ∨ o = 117 ∨ o = 125 ∨ o = 127 ∨ o = 128 ∨ o = 129 ∨ o = 220 ∨ o = 221 ∨ o = 222 ∨ o = 223 ∨ o = 224 ∨ o = 225 ∨ o = 226 ∨ o = 231 ∨ o = 232) → gI w o = gI st o := fun o h => fr.fi o (by
    rcases h with rfl | rfl | rfl | rfl | rfl | rfl | rfl | rfl | rfl | rfl | rfl | rfl | rfl | rfl | rfl <;> simp)
  refine ⟨fun k => ?_, fun h hh => ?_, ?_, ?_⟩
  · show gI w 119 k = nI (oS (if 30 * hr j + hf j ≤ k ∧ k < 30 * hr j + hf j + sz j then n + 61 else own k))
    rw [e1]
    by_cases hc : 30 * hr j + hf j ≤ k ∧ k < 30 * hr j + hf j + sz j
    · rw [if_pos hc, if_pos hc]
      unfold oS
      rw [if_neg (by omega), if_neg (by omega)]
    · rw [if_neg hc, if_neg hc]; exact h1 k
  · by_cases hej : h = j
    · subst hej
      rw [xt_n]
      exact ⟨⟨e2, by omega, e3⟩, fun q => by omega⟩
    · have hx := h2 h hh
      rw [xt_o _ _ hej, ki 126 h (by omega) hej, ki 219 h (by omega) hej, kf 125 (by omega), kf 220 (by omega), kf 221 (by omega), kf 222 (by omega), kf 129 (by omega), kf 223 (by omega), kf 1 (by omega), kf 117 (by omega), kf 224 (by omega), kf 127 (by omega), kf 225 (by omega), kf 128 (by omega), kf 226 (by omega)]
      refine ⟨hx.1, fun hp => ?_⟩
      obtain ⟨a1, a2, a3, a4, a5, a6⟩ := hx.2 hp
      refine ⟨a1, a2, a3, a4, a5, fun k k1 k2 => ?_⟩
      have o1 := a6 k k1 k2
      show (if 30 * hr j + hf j ≤ k ∧ k < 30 * hr j + hf j + sz j then n + 61 else own k) = _
      rw [if_neg]
      · exact o1
      · rintro ⟨d1, d2⟩
        have := hw k d1 d2
        omega
  · obtain ⟨⟨a1, a2, a3⟩, a4, a5⟩ := h3
    refine ⟨⟨by omega, e5, e12⟩, fun t ht => ?_, fun t ht => ?_⟩
    · by_cases het : t = n
      · subst het
        rw [xt_n, xt_n, xt_n, xt_n, xt_n, e8, e9, e10, e11, e13, e14, e15, e16, kf 231 (by omega), kf 232 (by omega), (a5 t (Nat.le_refl _)).1, (a5 t (Nat.le_refl _)).2]
        refine ⟨⟨c1, c2, s2, hp, by omega⟩, ⟨rfl, rfl, rfl, rfl⟩, ⟨rfl, rfl, rfl, rfl, rfl, rfl⟩, fun _ k k1 k2 => ?_⟩
        show (if 30 * hr j + hf j ≤ k ∧ k < 30 * hr j + hf j + sz j then t + 61 else own k) = _
        rw [if_pos ⟨k1, k2⟩]
      · obtain ⟨b1, b2, b3, b4⟩ := a4 t (by omega)
        rw [xt_o _ _ het, xt_o _ _ het, xt_o _ _ het, xt_o _ _ het, xt_o _ _ het, kn 130 t (by omega) het, kn 131 t (by omega) het, kn 132 t (by omega) het, kn 133 t (by omega) het, kn 227 t (by omega) het, kn 228 t (by omega) het, kn 229 t (by omega) het, kn 230 t (by omega) het, kf 231 (by omega), kf 232 (by omega)]
        refine ⟨b1, b2, b3, fun hm k k1 k2 => ?_⟩
        have o1 := b4 hm k k1 k2
        show (if 30 * hr j + hf j ≤ k ∧ k < 30 * hr j + hf j + sz j then n + 61 else own k) = _
        rw [if_neg]
        · exact o1
        · rintro ⟨d1, d2⟩
          have := hw k d1 d2
          omega
    · rw [kf 231 (by omega), kf 232 (by omega)]
      exact a5 t (by omega)
  · obtain ⟨a1, a2, a3, a4, a5, a6⟩ := h4
    have ne : ∀ i, i < n → i ≠ n := fun i hi => by omega
    unfold BC_
    have q1 := sm_x (n := n) (f := fun t => if mk t = 2 then 1 else 0) (g := fun t => if xt mk n 0 t = 2 then 1 else 0) (fun i hi => by simp only [xt_o _ _ (ne i hi)])
    have q2 := sm_x (n := n) (f := fun t => if mk t = 2 then 0 else tp t) (g := fun t => if xt mk n 0 t = 2 then 0 else xt tp n p t) (fun i hi => by simp only [xt_o _ _ (ne i hi)])
    have q3 := sm_x (n := n) (f := fun t => if mk t = 2 then 0 else tm t) (g := fun t => if xt mk n 0 t = 2 then 0 else xt tm n (sz j) t) (fun i hi => by simp only [xt_o _ _ (ne i hi)])
    have q4 := sm_x (n := n) (f := fun t => if mk t = 1 then tm t else 0) (g := fun t => if xt mk n 0 t = 1 then xt tm n (sz j) t else 0) (fun i hi => by simp only [xt_o _ _ (ne i hi)])
    simp only [xt_n] at q1 q2 q3 q4
    rw [if_neg (by decide)] at q1 q2 q3 q4
    rw [q1, q2, q3, q4]
    rw [e4, e6, e7, eL, a1, a3, a4, a5, fr.ki 124 13 (by simp [covers]), fr.ki 124 16 (by simp [covers]), a2, a6, nI_add, nI_add, lN_add]
    refine ⟨?_, rfl, rfl, rfl, rfl, rfl⟩
    have hs := sm_u (f := fun h => if sz h = 0 then 0 else 1) (g := fun h => if xt sz j 0 h = 0 then 0 else 1) (i := j) (n := 60) hj (fun i _ hi => by simp only [xt_o _ _ hi])
    have hg := sm_g (f := fun h => if sz h = 0 then 0 else 1) (i := j) (n := 60) hj
    simp only [xt_n, if_true] at hs
    rw [if_neg (by omega)] at hs
    rw [if_neg (by omega)] at hg
    rw [pk_sub (by omega)]
    congr 1
    omega
theorem pay_2 {st : St} (hT : Top st) (hP : P_hb st) (hR : P_rul st) (fu : Nat) (hf : 4100 ≤ fu) (h a : Int32) : Two (f_X11_pay fu 1 h a) (f_X12_pay fu 153 h a) W_box P_hb st := by
  obtain ⟨hH, own, sz, hr, hf', n, tr, tf, tm, tp, mk, hB⟩ := hP
  obtain ⟨g, hg⟩ := hR
  have hB2 := hB.2.1
  obtain ⟨i1, i2⟩ := isHold_r hT fu hB2 h
  have no : f_X11_pay fu 1 h a st = some (-nI 1, st) → f_X12_pay fu 153 h a st = some (-nI 1, st) → Two (f_X11_pay fu 1 h a) (f_X12_pay fu 153 h a) W_box P_hb st := fun q1 q2 => ⟨-nI 1, st, st, q1, q2, Fr.rf, hH, own, sz, hr, hf', n, tr, tf, tm, tp, mk, hB⟩
  have no1 : f_X2_hasHold fu 124 h st = some (0, st) → Two (f_X11_pay fu 1 h a) (f_X12_pay fu 153 h a) W_box P_hb st := fun q => by
    refine no ?_ ?_
    · simp (disch := first | decide | omega) [isb, ck_tt, NP, NF, NC, NB, NS, GS, kdC, tpC hT, f_X11_pay, b_X11_pay_36, q]
    · have := i1 q
      simp (disch := first | decide | omega) [isb, ck_tt, NP, NF, NC, NB, NS, GS, kdR, tpR hT, f_X12_pay, b_X12_pay_27, this]
  rcases hasHold_c hT fu hB2 h with q | ⟨j, hj, rfl, q1, q2⟩
  · exact no1 q
  · rcases Nat.eq_zero_or_pos (sz j) with z | z
    · exact no1 (q1 z)
    · have q := q2 z
      have i := i2 j hj rfl z
      clear i1 i2 q1 q2 no1
      obtain ⟨⟨b1, b2, b3⟩, b4⟩ := hB2 j hj
      obtain ⟨⟨c1, c2, c3, c4, c5, c6⟩, ⟨c7, c8⟩, ⟨s, s1, s2, s3⟩, ⟨x, x1, x2, x3⟩, ⟨d, d1, d2, d3⟩, c9⟩ := b4 z
      obtain ⟨p, p1, p2⟩ := hH.2.1 s
      have p3 : gI st 214 s = nI p := by rw [← hH.1]; exact p2
      have pc := price_c hT (fu := fu) (by omega) hg hj c1 (m := hf' j) (by omega) b2 x1 d1 s1 p1 c3 s2 b1 x2 d2 p2
      have pr := price_r hT hf hg hj b2 x1 d1 s1 p1 s3 c6 x3 d3 p3
      obtain ⟨v, hv⟩ : ∃ v, v = g.prf (sz j) x d s g.cnt 0 (cap (sz j * p)) := ⟨_, rfl⟩
      have hvb : v ≤ 1000000 := by rw [hv]; exact prf_b _ _ _ _ _ _ _ _ (cap_le _)
      rw [← hv] at pc pr
      obtain ⟨n1, n2, n3⟩ := hB.2.2.1.1
      by_cases hn : n = 300
      · subst hn
        refine no ?_ ?_
        · clear hB hB2 hH hg b4 c9
          simp (disch := first | decide | omega) [isb, ck_tt, NP, NF, NC, NB, NS, GS, kdC, tpC hT, f_X11_pay, b_X11_pay_36, q, n2]
        · clear hB hB2 hH hg b4 c9
          by_cases ha : a = nI v
          · simp (disch := first | decide | omega) [isb, ck_tt, NP, NF, NC, NB, NS, GS, kdR, tpR hT, f_X12_pay, b_X12_pay_27, i, pr, n3, ha]
          · simp (disch := first | decide | omega) [isb, ck_tt, NP, NF, NC, NB, NS, GS, kdR, tpR hT, f_X12_pay, b_X12_pay_27, i, pr, n3, ha]
      · by_cases ha : a = nI v
        · subst ha
          have sl := sell_c hT (fu := fu) (by omega) hB2 (p := v) hj z (show n < 300 by omega) n2
          obtain ⟨u, hu⟩ : ∃ u, u = seg 119 (30 * hr j + hf' j) (sz j) (nI 2) (sI (sI (seg 119 (30 * hr j + hf' j) (sz j) (nI 0) (sI (sI (sI (sI (sI (sI (sI st 130 n (nI (30 * hr j + hf' j))) 131 n (nI (sz j))) 132 n (nI v)) 133 n (nI 0)) 124 12 (nI (n + 1))) 124 14 (gI st 124 14 + nI v)) 124 15 (gI st 124 15 + nI (sz j)))) 126 j (nI 0)) 124 11 (gI st 124 11 - nI 1)) := ⟨_, rfl⟩
          rw [← hu] at sl
          have hc : f_X11_pay fu 1 (nI j) (nI v) st = some (nI n, u) := by
            clear hB hB2 hH hg b4 c9
            simp (disch := first | decide | omega) [isb, ck_tt, NP, NF, NC, NB, NS, GS, kdC, tpC hT, f_X11_pay, b_X11_pay_36, q, n2, pc, sl]
          have fu1 : Fr [(119, none), (124, some 11), (124, some 12), (124, some 14), (124, some 15), (126, some j), (130, some n), (131, some n), (132, some n), (133, some n)] st u := by
            rw [hu]
            exact (((((((((((Fr.i st 130 n _).tr (Fr.i _ 131 n _)).tr (Fr.i _ 132 n _)).tr (Fr.i _ 133 n _)).tr (Fr.i _ 124 12 _)).tr (Fr.i _ 124 14 _)).tr (Fr.i _ 124 15 _)).tr (Fr.sg _ 119 _ _ _)).tr (Fr.i _ 126 j _)).tr (Fr.i _ 124 11 _)).tr (Fr.sg _ 119 _ _ _)).wd (by simp [within'])
          have hTu : Top u := hT.r (by rw [hu]; rfl)
          have ur : ∀ o, 134 ≤ o → gI u o = gI st o := fun o h => fu1.fi o (by simp; omega)
          have iu : f_X12_isHold fu 153 (nI j) u = some (nI 1, u) := by
            rw [if_neg (by omega)] at b3
            have hT := hTu
            simp (disch := first | decide | omega) [isb, ck_tt, NP, NF, NC, NB, NS, GS, kdR, tpR hT, f_X12_isHold, b_X12_isHold_23, b_X12_isHold_24, b3, ur]
          have gu : g.at_ u := RG.fr hg ((fu1.wd (V := W_box) (by simp [within', W_box])).same (by decide))
          have pru := price_r hTu hf gu hj b2 x1 d1 s1 p1 (by rw [ur _ (by omega)]; exact s3) (by rw [ur _ (by omega)]; exact c6) (by rw [ur _ (by omega)]; exact x3) (by rw [ur _ (by omega)]; exact d3) (by rw [ur _ (by omega)]; exact p3)
          rw [← hv] at pru
          have hrr := pay_r hTu (fu := fu) (by omega) hj (show n < 300 by omega) hvb c1 c2 iu pru (by rw [ur _ (by omega)]; exact n3) (by rw [ur _ (by omega)]; exact c4) (by rw [ur _ (by omega)]; exact c5) (by rw [ur _ (by omega)]; exact c6)
          obtain ⟨w, hw⟩ : ∃ w, w = sL (seg 217 (30 * hr j + hf' j) (sz j) (nI 2) (sI (sI (sI (sI (sI (sI u 153 92 (nI (n + 1))) 227 n (nI (hr j))) 228 n (nI (hf' j))) 229 n (nI (sz j))) 230 n (nI v)) 219 j (nI 0))) 153 93 (gL u 153 93 + lN v) := ⟨_, rfl⟩
          rw [← hw] at hrr
          have fw : Fr [(217, none), (219, some j), (227, some n), (228, some n), (229, some n), (230, some n), (153, some 92), (153, some 93)] u w := by
            rw [hw]
            exact ((((((((Fr.i u 153 92 _).tr (Fr.i _ 227 n _)).tr (Fr.i _ 228 n _)).tr (Fr.i _ 229 n _)).tr (Fr.i _ 230 n _)).tr (Fr.i _ 219 j _)).tr (Fr.sg _ 217 _ _ _)).tr (Fr.l _ 153 93 _)).wd (by simp [within'])
          have ru : ∀ o k, gI u o k = if o = 119 ∧ 30 * hr j + hf' j ≤ k ∧ k < 30 * hr j + hf' j + sz j then nI 2 else if o = 124 ∧ k = 11 then gI st 124 11 - nI 1 else if o = 126 ∧ k = j then nI 0 else if o = 119 ∧ 30 * hr j + hf' j ≤ k ∧ k < 30 * hr j + hf' j + sz j then nI 0 else if o = 124 ∧ k = 15 then gI st 124 15 + nI (sz j) else if o = 124 ∧ k = 14 then gI st 124 14 + nI v else if o = 124 ∧ k = 12 then nI (n + 1) else if o = 133 ∧ k = n then nI 0 else if o = 132 ∧ k = n then nI v else if o = 131 ∧ k = n then nI (sz j) else if o = 130 ∧ k = n then nI (30 * hr j + hf' j) else gI st o k := fun o k => by rw [hu]; simp only [gI_sI, gI_seg]
          have rw_ : ∀ o k, gI w o k = if o = 217 ∧ 30 * hr j + hf' j ≤ k ∧ k < 30 * hr j + hf' j + sz j then nI 2 else if o = 219 ∧ k = j then nI 0 else if o = 230 ∧ k = n then nI v else if o = 229 ∧ k = n then nI (sz j) else if o = 228 ∧ k = n then nI (hf' j) else if o = 227 ∧ k = n then nI (hr j) else if o = 153 ∧ k = 92 then nI (n + 1) else gI u o k := fun o k => by rw [hw, gI_sL]; simp only [gI_sI, gI_seg]
          have fr : Fr [(119, none), (217, none), (124, some 11), (124, some 12), (124, some 14), (124, some 15), (126, some j), (219, some j), (130, some n), (131, some n), (132, some n), (133, some n), (227, some n), (228, some n), (229, some n), (230, some n), (153, some 92), (153, some 93)] st w := (fu1.tr fw).wd (by simp [within'])
          have w119 : ∀ k, gI w 119 k = if 30 * hr j + hf' j ≤ k ∧ k < 30 * hr j + hf' j + sz j then nI 2 else gI st 119 k := fun k => by
            rw [fw.fi 119 (by simp), ru]
            by_cases hk : 30 * hr j + hf' j ≤ k ∧ k < 30 * hr j + hf' j + sz j
            · simp [hk]
            · simp [hk]
          have w217 : ∀ k, gI w 217 k = if 30 * hr j + hf' j ≤ k ∧ k < 30 * hr j + hf' j + sz j then nI 2 else gI st 217 k := fun k => by
            rw [rw_, ur _ (by omega)]
            simp
          refine ⟨_, u, w, hc, hrr, fr.wd (by simp [within', W_box]), ?_, _, _, hr, hf', n + 1, _, _, _, _, _, box_sell hB hj z (show n < 300 by omega) hvb fr w119 ?_ ?_ ?_ ?_ ?_ ?_ ?_ ?_ ?_ ?_ ?_ ?_ ?_ ?_ ?_ ?_⟩
          · refine hH.mk c1 (m := sz j) (v := 2) c2 (by omega) (fun s' hs' => Or.inr ?_) (fun o ho => fr.fi o (by rcases ho with rfl | rfl | rfl | rfl | rfl | rfl | rfl | rfl <;> simp)) w119 w217
            -- the seats that are held lie within the row
            apply Classical.byContradiction
            intro hlt
            have hk1 : 30 * hr j + hf' j ≤ 30 * hr j + (hf' j + sz j - 1) := by omega
            have o1 := c9 (30 * hr j + (hf' j + sz j - 1)) (by omega) (by omega)
            have o2 := hB.1 (30 * hr j + (hf' j + sz j - 1))
            rw [o1] at o2
            have o3 := hH.2.2.2.2.2.1 (hr j) (hf' j + sz j - 1) s' hs' (by omega) (by omega)
            rw [o2] at o3
            unfold oS at o3
            rw [if_neg (by omega), if_pos (by omega)] at o3
            revert o3
            decide
          · rw [fw.ki 126 j (by simp [covers]), ru]; simp
          · rw [rw_]; simp
          · rw [fw.ki 124 11 (by simp [covers]), ru]; simp
          · rw [fw.ki 124 12 (by simp [covers]), ru]; simp
          · rw [fw.ki 124 14 (by simp [covers]), ru]; simp
          · rw [fw.ki 124 15 (by simp [covers]), ru]; simp
          · rw [fw.ki 130 n (by simp [covers]), ru]; simp
          · rw [fw.ki 131 n (by simp [covers]), ru]; simp
          · rw [fw.ki 132 n (by simp [covers]), ru]; simp
          · rw [fw.ki 133 n (by simp [covers]), ru]; simp
          · rw [rw_]; simp
          · rw [rw_]; simp
          · rw [rw_]; simp
          · rw [rw_]; simp
          · rw [rw_]; simp
          · rw [hw, gL_sL, hu]; simp [NS, gL_seg]
        · refine no ?_ ?_
          · have ha2 : ¬ nI v = a := fun e => ha e.symm
            clear hB hB2 hH hg b4 c9
            simp (disch := first | decide | omega) [isb, ck_tt, NP, NF, NC, NB, NS, GS, kdC, tpC hT, f_X11_pay, b_X11_pay_36, q, n2, pc, ha2]
          · clear hB hB2 hH hg b4 c9
            simp (disch := first | decide | omega) [isb, ck_tt, NP, NF, NC, NB, NS, GS, kdR, tpR hT, f_X12_pay, b_X12_pay_27, i, pr, n3, ha]
