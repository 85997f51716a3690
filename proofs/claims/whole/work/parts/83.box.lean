/-! PURE: the box: holds and tickets. Ghosts: own (who has a seat: 0, hold + 1, ticket + 61), sz hr hf (holds), n, tr tf tm tp mk (tickets) -/
def BH (st : St) (own sz hr hf : Nat → Nat) : Prop := ∀ h, h < 60 → (gI st 126 h = nI (sz h) ∧ sz h ≤ 10 ∧ gI st 219 h = nI (if sz h = 0 then 0 else 1)) ∧ (0 < sz h → (hr h < 40 ∧ hf h + sz h ≤ 30 ∧ gI st 125 h = nI (30 * hr h + hf h) ∧ gI st 220 h = nI (hr h) ∧ gI st 221 h = nI (hf h) ∧ gI st 222 h = nI (sz h)) ∧ (gI st 129 h = gI st 223 h ∧ gI st 1 8 < gI st 129 h) ∧ (∃ s : Nat, s ≤ 7 ∧ gI st 117 (hr h) = nI s ∧ gI st 224 h = nI s) ∧ (∃ x : Nat, x ≤ 3 ∧ gI st 127 h = nI x ∧ gI st 225 h = nI x) ∧ (∃ x : Nat, x ≤ 6 ∧ gI st 128 h = nI x ∧ gI st 226 h = nI x) ∧ ∀ k, 30 * hr h + hf h ≤ k → k < 30 * hr h + hf h + sz h → own k = h + 1)
def BT (st : St) (own : Nat → Nat) (n : Nat) (tr tf tm tp mk : Nat → Nat) : Prop := (n ≤ 300 ∧ gI st 124 12 = nI n ∧ gI st 153 92 = nI n) ∧ (∀ t, t < n → (tr t < 40 ∧ tf t + tm t ≤ 30 ∧ tm t ≤ 10 ∧ tp t ≤ 1000000 ∧ mk t ≤ 2) ∧ (gI st 130 t = nI (30 * tr t + tf t) ∧ gI st 131 t = nI (tm t) ∧ gI st 132 t = nI (tp t) ∧ gI st 133 t = nI (mk t)) ∧ (gI st 227 t = nI (tr t) ∧ gI st 228 t = nI (tf t) ∧ gI st 229 t = nI (tm t) ∧ gI st 230 t = nI (tp t) ∧ gI st 231 t = nI (if mk t = 2 then 1 else 0) ∧ gI st 232 t = nI (if mk t = 1 then 1 else 0)) ∧ (mk t ≠ 2 → ∀ k, 30 * tr t + tf t ≤ k → k < 30 * tr t + tf t + tm t → own k = t + 61)) ∧ (∀ t, n ≤ t → gI st 231 t = 0 ∧ gI st 232 t = 0)
def BC_ (st : St) (sz : Nat → Nat) (n : Nat) (tm tp mk : Nat → Nat) : Prop := gI st 124 11 = nI (sm 60 fun h => if sz h = 0 then 0 else 1) ∧ gI st 124 13 = nI (sm n fun t => if mk t = 2 then 1 else 0) ∧ gI st 124 14 = nI (sm n fun t => if mk t = 2 then 0 else tp t) ∧ gL st 153 93 = lN (sm n fun t => if mk t = 2 then 0 else tp t) ∧ gI st 124 15 = nI (sm n fun t => if mk t = 2 then 0 else tm t) ∧ gI st 124 16 = nI (sm n fun t => if mk t = 1 then tm t else 0)
def oS (x : Nat) : Nat := if x = 0 then 0 else if x ≤ 60 then 1 else 2
def BO (st : St) (own : Nat → Nat) : Prop := ∀ k, gI st 119 k = nI (oS (own k))
def Bx (st : St) (own sz hr hf : Nat → Nat) (n : Nat) (tr tf tm tp mk : Nat → Nat) : Prop := BO st own ∧ BH st own sz hr hf ∧ BT st own n tr tf tm tp mk ∧ BC_ st sz n tm tp mk
def P_box (st : St) : Prop := ∃ (own sz hr hf : Nat → Nat) (n : Nat) (tr tf tm tp mk : Nat → Nat), Bx st own sz hr hf n tr tf tm tp mk
def S_box : List PL := [(1, some 8), (117, none), (119, none), (124, some 11), (124, some 12), (124, some 13), (124, some 14), (124, some 15), (124, some 16), (125, none), (126, none), (127, none), (128, none), (129, none), (130, none), (131, none), (132, none), (133, none), (153, some 92), (153, some 93), (219, none), (220, none), (221, none), (222, none), (223, none), (224, none), (225, none), (226, none), (227, none), (228, none), (229, none), (230, none), (231, none), (232, none)]
/-- what a sale, a hold, a return may change -/
def W_box : List PL := [(119, none), (217, none), (124, some 11), (124, some 12), (124, some 13), (124, some 14), (124, some 15), (124, some 16), (125, none), (126, none), (127, none), (128, none), (129, none), (130, none), (131, none), (132, none), (133, none), (153, some 92), (153, some 93), (219, none), (220, none), (221, none), (222, none), (223, none), (224, none), (225, none), (226, none), (227, none), (228, none), (229, none), (230, none), (231, none), (232, none)]
theorem P_box.fr {st u : St} (h : P_box st) (hs : Same S_box st u) : P_box u := by
  obtain ⟨own, sz, hr, hf, n, tr, tf, tm, tp, mk, h1, h2, h3, h4⟩ := h
  refine ⟨own, sz, hr, hf, n, tr, tf, tm, tp, mk, ?_, ?_, ?_, ?_⟩
  · unfold BO at h1 ⊢
    rw [hs.fi (o := 119) (by decide)]
    exact h1
  · unfold BH at h2 ⊢
    rw [hs.fi (o := 125) (by decide), hs.fi (o := 126) (by decide), hs.fi (o := 127) (by decide), hs.fi (o := 128) (by decide), hs.fi (o := 129) (by decide), hs.fi (o := 117) (by decide), hs.fi (o := 219) (by decide), hs.fi (o := 220) (by decide), hs.fi (o := 221) (by decide), hs.fi (o := 222) (by decide), hs.fi (o := 223) (by decide), hs.fi (o := 224) (by decide), hs.fi (o := 225) (by decide), hs.fi (o := 226) (by decide), hs.i (o := 1) (k := 8) (by decide)]
    exact h2
  · unfold BT at h3 ⊢
    rw [hs.fi (o := 130) (by decide), hs.fi (o := 131) (by decide), hs.fi (o := 132) (by decide), hs.fi (o := 133) (by decide), hs.fi (o := 227) (by decide), hs.fi (o := 228) (by decide), hs.fi (o := 229) (by decide), hs.fi (o := 230) (by decide), hs.fi (o := 231) (by decide), hs.fi (o := 232) (by decide), hs.i (o := 124) (k := 12) (by decide), hs.i (o := 153) (k := 92) (by decide)]
    exact h3
  · unfold BC_ at h4 ⊢
    rw [hs.i (o := 124) (k := 11) (by decide), hs.i (o := 124) (k := 13) (by decide), hs.i (o := 124) (k := 14) (by decide), hs.i (o := 124) (k := 15) (by decide), hs.i (o := 124) (k := 16) (by decide), hs.l (o := 153) (k := 93) (by decide)]
    exact h4
/-- the hall when the seats of a run get one state, in class and reference -/
theorem P_hall.mk {st w : St} (h : P_hall st) {r f m v : Nat} (hr : r < 40) (hm : f + m ≤ 30) (hv : v ≤ 2) (hs : ∀ s : Nat, gI st 118 r = nI s → v = 0 ∨ f + m ≤ s) (e : ∀ o, o = 116 ∨ o = 117 ∨ o = 118 ∨ o = 120 ∨ o = 214 ∨ o = 215 ∨ o = 216 ∨ o = 218 → gI w o = gI st o) (e1 : ∀ k, gI w 119 k = if 30 * r + f ≤ k ∧ k < 30 * r + f + m then nI v else gI st 119 k) (e2 : ∀ k, gI w 217 k = if 30 * r + f ≤ k ∧ k < 30 * r + f + m then nI v else gI st 217 k) : P_hall w := by
  obtain ⟨h1, h2, h3, h4, h5, h6, h7, h8, h9, h10⟩ := h
  unfold P_hall
  rw [e 116 (by simp), e 117 (by simp), e 118 (by simp), e 120 (by simp), e 214 (by simp), e 215 (by simp), e 216 (by simp), e 218 (by simp)]
  refine ⟨h1, h2, h3, h4, ?_, ?_, ?_, h8, h9, h10⟩
  · funext k
    rw [e1, e2, h5]
  · intro a k n ha hn hk
    rw [e1]
    by_cases hc : 30 * r + f ≤ 30 * a + k ∧ 30 * a + k < 30 * r + f + m
    · rw [if_pos hc]
      have ea : a = r := by omega
      subst ea
      rcases hs n ha with q | q
      · rw [q]; rfl
      · omega
    · rw [if_neg hc]; exact h6 a k n ha hn hk
  · intro k
    rw [e1]
    by_cases hc : 30 * r + f ≤ k ∧ k < 30 * r + f + m
    · rw [if_pos hc]
      have : v = 0 ∨ v = 1 ∨ v = 2 := by omega
      rcases this with rfl | rfl | rfl
      · exact Or.inl rfl
      · exact Or.inr (Or.inl rfl)
      · exact Or.inr (Or.inr rfl)
    · rw [if_neg hc]; exact h7 k
theorem hasHold_c {st : St} (hT : Top st) (fu : Nat) {own sz hr hf : Nat → Nat} (hB : BH st own sz hr hf) (h : Int32) : f_X2_hasHold fu 124 h st = some (0, st) ∨ ∃ j : Nat, j < 60 ∧ h = nI j ∧ (sz j = 0 → f_X2_hasHold fu 124 h st = some (0, st)) ∧ (0 < sz j → f_X2_hasHold fu 124 h st = some (1, st)) := by
  rcases pk_ix0 h (n := 60) (by omega) with q | ⟨q1, q2⟩ | ⟨j, hj, rfl⟩
  · left
    simp (disch := first | decide | omega) [isb, ck_tt, NP, NF, NC, NB, NS, GS, kdC, tpC hT, f_X2_hasHold, b_X2_hasHold_23, b_X2_hasHold_24, q]
  · left
    simp (disch := first | decide | omega) [isb, ck_tt, NP, NF, NC, NB, NS, GS, kdC, tpC hT, f_X2_hasHold, b_X2_hasHold_23, b_X2_hasHold_24, q1, q2]
  · right
    have hb := (hB j hj).1.1
    have hb2 := (hB j hj).1.2.1
    refine ⟨j, hj, rfl, fun z => ?_, fun z => ?_⟩
    · rw [z] at hb
      simp (disch := first | decide | omega) [isb, ck_tt, NP, NF, NC, NB, NS, GS, kdC, tpC hT, f_X2_hasHold, b_X2_hasHold_23, b_X2_hasHold_24, hb]
    · simp (disch := first | decide | omega) [isb, ck_tt, NP, NF, NC, NB, NS, GS, kdC, tpC hT, f_X2_hasHold, b_X2_hasHold_23, b_X2_hasHold_24, hb]
theorem isHold_r {st : St} (hT : Top st) (fu : Nat) {own sz hr hf : Nat → Nat} (hB : BH st own sz hr hf) (h : Int32) : (f_X2_hasHold fu 124 h st = some (0, st) → f_X12_isHold fu 153 h st = some (0, st)) ∧ (∀ j, j < 60 → h = nI j → 0 < sz j → f_X12_isHold fu 153 h st = some (1, st)) := by
  refine ⟨fun e => ?_, ?_⟩
  · rcases pk_ix0 h (n := 60) (by omega) with q | ⟨q1, q2⟩ | ⟨j, hj, rfl⟩
    · simp (disch := first | decide | omega) [isb, ck_tt, NP, NF, NC, NB, NS, GS, kdR, tpR hT, f_X12_isHold, b_X12_isHold_23, b_X12_isHold_24, q]
    · simp (disch := first | decide | omega) [isb, ck_tt, NP, NF, NC, NB, NS, GS, kdR, tpR hT, f_X12_isHold, b_X12_isHold_23, b_X12_isHold_24, q1, q2]
    · have hb := (hB j hj).1.1
      have hb2 := (hB j hj).1.2.1
      have hb3 := (hB j hj).1.2.2
      rcases Nat.eq_zero_or_pos (sz j) with z | z
      · rw [if_pos z] at hb3
        simp (disch := first | decide | omega) [isb, ck_tt, NP, NF, NC, NB, NS, GS, kdR, tpR hT, f_X12_isHold, b_X12_isHold_23, b_X12_isHold_24, hb3]
      · exfalso
        revert e
        simp (disch := first | decide | omega) [isb, ck_tt, NP, NF, NC, NB, NS, GS, kdC, tpC hT, f_X2_hasHold, b_X2_hasHold_23, b_X2_hasHold_24, hb]
  · rintro j hj rfl z
    have hb3 := (hB j hj).1.2.2
    rw [if_neg (by omega)] at hb3
    simp (disch := first | decide | omega) [isb, ck_tt, NP, NF, NC, NB, NS, GS, kdR, tpR hT, f_X12_isHold, b_X12_isHold_23, b_X12_isHold_24, hb3]
theorem upz {f : Nat → Nat} {j i : Nat} (h : i ≠ j) (v : Nat) : (fun x => if x = j then v else f x) i = f i := if_neg h
/-- a hold goes -/
theorem box_drop {st w : St} {own sz hr hf : Nat → Nat} {n : Nat} {tr tf tm tp mk : Nat → Nat} (hB : Bx st own sz hr hf n tr tf tm tp mk) {j : Nat} (hj : j < 60) (hz : 0 < sz j)
    (e0 : ∀ o k, o ≠ 119 → o ≠ 217 → ¬ (o = 124 ∧ k = 11) → ¬ (o = 126 ∧ k = j) → ¬ (o = 219 ∧ k = j) → gI w o k = gI st o k)
    (e1 : ∀ k, gI w 119 k = if 30 * hr j + hf j ≤ k ∧ k < 30 * hr j + hf j + sz j then nI 0 else gI st 119 k) (e2 : gI w 126 j = nI 0) (e3 : gI w 219 j = nI 0) (e4 : gI w 124 11 = gI st 124 11 - nI 1) (eL : gL w = gL st) :
    Bx w (fun k => if 30 * hr j + hf j ≤ k ∧ k < 30 * hr j + hf j + sz j then 0 else own k) (fun x => if x = j then 0 else sz x) hr hf n tr tf tm tp mk := by
  obtain ⟨h1, h2, h3, h4⟩ := hB
  have hw := ((h2 j hj).2 hz).2.2.2.2.2
  have ef : ∀ o, o ≠ 119 → o ≠ 217 → o ≠ 124 → o ≠ 126 → o ≠ 219 → gI w o = gI st o := fun o a b c d e => funext fun k => e0 o k a b (fun q => c q.1) (fun q => d q.1) (fun q => e q.1)
  refine ⟨fun k => ?_, fun h hh => ?_, ?_, ?_⟩
  · show gI w 119 k = nI (oS (if 30 * hr j + hf j ≤ k ∧ k < 30 * hr j + hf j + sz j then 0 else own k))
    rw [e1]
    by_cases hc : 30 * hr j + hf j ≤ k ∧ k < 30 * hr j + hf j + sz j
    · rw [if_pos hc, if_pos hc]; rfl
    · rw [if_neg hc, if_neg hc]; exact h1 k
  · by_cases hej : h = j
    · subst hej
      simp only [if_true]
      exact ⟨⟨e2, by omega, e3⟩, fun q => by omega⟩
    · have hx := h2 h hh
      simp only [if_neg hej]
      rw [e0 126 h (by decide) (by decide) (by omega) (by omega) (by omega), e0 219 h (by decide) (by decide) (by omega) (by omega) (by omega), ef 125 (by decide) (by decide) (by decide) (by decide) (by decide), ef 220 (by decide) (by decide) (by decide) (by decide) (by decide), ef 221 (by decide) (by decide) (by decide) (by decide) (by decide), ef 222 (by decide) (by decide) (by decide) (by decide) (by decide), ef 129 (by decide) (by decide) (by decide) (by decide) (by decide), ef 223 (by decide) (by decide) (by decide) (by decide) (by decide), ef 1 (by decide) (by decide) (by decide) (by decide) (by decide), ef 117 (by decide) (by decide) (by decide) (by decide) (by decide), ef 224 (by decide) (by decide) (by decide) (by decide) (by decide), ef 127 (by decide) (by decide) (by decide) (by decide) (by decide), ef 225 (by decide) (by decide) (by decide) (by decide) (by decide), ef 128 (by decide) (by decide) (by decide) (by decide) (by decide), ef 226 (by decide) (by decide) (by decide) (by decide) (by decide)]
      refine ⟨hx.1, fun hp => ?_⟩
      obtain ⟨a1, a2, a3, a4, a5, a6⟩ := hx.2 hp
      refine ⟨a1, a2, a3, a4, a5, fun k k1 k2 => ?_⟩
      have o1 := a6 k k1 k2
      show (if 30 * hr j + hf j ≤ k ∧ k < 30 * hr j + hf j + sz j then 0 else own k) = _
      rw [if_neg]
      · exact o1
      · rintro ⟨c1, c2⟩
        have := hw k c1 c2
        omega
  · obtain ⟨⟨a1, a2, a3⟩, a4, a5⟩ := h3
    unfold BT
    rw [ef 130 (by decide) (by decide) (by decide) (by decide) (by decide), ef 131 (by decide) (by decide) (by decide) (by decide) (by decide), ef 132 (by decide) (by decide) (by decide) (by decide) (by decide), ef 133 (by decide) (by decide) (by decide) (by decide) (by decide), ef 227 (by decide) (by decide) (by decide) (by decide) (by decide), ef 228 (by decide) (by decide) (by decide) (by decide) (by decide), ef 229 (by decide) (by decide) (by decide) (by decide) (by decide), ef 230 (by decide) (by decide) (by decide) (by decide) (by decide), ef 231 (by decide) (by decide) (by decide) (by decide) (by decide), ef 232 (by decide) (by decide) (by decide) (by decide) (by decide), e0 124 12 (by decide) (by decide) (by omega) (by omega) (by omega), e0 153 92 (by decide) (by decide) (by omega) (by omega) (by omega)]
    refine ⟨⟨a1, a2, a3⟩, fun t ht => ?_, a5⟩
    obtain ⟨b1, b2, b3, b4⟩ := a4 t ht
    refine ⟨b1, b2, b3, fun hm k k1 k2 => ?_⟩
    have o1 := b4 hm k k1 k2
    show (if 30 * hr j + hf j ≤ k ∧ k < 30 * hr j + hf j + sz j then 0 else own k) = _
    rw [if_neg]
    · exact o1
    · rintro ⟨c1, c2⟩
      have := hw k c1 c2
      omega
  · obtain ⟨a1, a2, a3, a4, a5, a6⟩ := h4
    unfold BC_
    rw [e4, a1, e0 124 13 (by decide) (by decide) (by omega) (by omega) (by omega), e0 124 14 (by decide) (by decide) (by omega) (by omega) (by omega), e0 124 15 (by decide) (by decide) (by omega) (by omega) (by omega), e0 124 16 (by decide) (by decide) (by omega) (by omega) (by omega), eL]
    refine ⟨?_, a2, a3, a4, a5, a6⟩
    have hs := sm_u (f := fun h => if sz h = 0 then 0 else 1) (g := fun h => if (if h = j then 0 else sz h) = 0 then 0 else 1) (i := j) (n := 60) hj (fun i _ hi => by simp only [if_neg hi])
    have hg := sm_g (f := fun h => if sz h = 0 then 0 else 1) (i := j) (n := 60) hj
    simp only [if_true] at hs
    rw [if_neg (by omega)] at hs
    rw [if_neg (by omega)] at hg
    rw [pk_sub (by omega)]
    show nI _ = nI (sm 60 fun h => if (if h = j then 0 else sz h) = 0 then 0 else 1)
    congr 1
    omega
theorem drop_c {st : St} (hT : Top st) {fu : Nat} (hf : 100 ≤ fu) {own sz hr hf : Nat → Nat} (hB : BH st own sz hr hf) {j : Nat} (hj : j < 60) (hz : 0 < sz j) : f_X2_drop fu 124 (nI j) st = some (sI (sI (seg 119 (30 * hr j + hf j) (sz j) (nI 0) st) 126 j (nI 0)) 124 11 (gI st 124 11 - nI 1)) := by
  have b1 := (hB j hj).1.1
  have b2 := (hB j hj).1.2.1
  obtain ⟨⟨c1, c2, c3, c4, c5, c6⟩, -⟩ := (hB j hj).2 hz
  have hm := mark_c hT (fu := fu) (by omega) (sp := 30 * hr j + hf j) (n := sz j) (nI 0) (by omega) (by omega)
  simp (disch := first | decide | omega) [isb, ck_tt, NP, NF, NC, NB, NS, GS, kdC, tpC hT, f_X2_drop, b1, c3, hm]
theorem frees_r {st : St} (hT : Top st) {fu : Nat} (hf : 100 ≤ fu) {j r f m : Nat} (hj : j < 60) (hr : r < 40) (hm : f + m ≤ 30) (e1 : gI st 220 j = nI r) (e2 : gI st 221 j = nI f) (e3 : gI st 222 j = nI m) : f_X12_frees fu 153 (nI j) st = some (seg 217 (30 * r + f) m (nI 0) (sI st 219 j (nI 0))) := by
  have hmk := mark_r (st := sI st 219 j (nI 0)) (hT.r rfl) (fu := fu) (by omega) (r := r) (f := f) (n := m) (nI 0) hr hm
  simp (disch := first | decide | omega) [isb, ck_tt, NP, NF, NC, NB, NS, GS, kdR, tpR hT, f_X12_frees, hmk, e1, e2, e3]
abbrev P_hb (st : St) : Prop := P_hall st ∧ P_box st
theorem give_2 {st : St} (hT : Top st) (hP : P_hb st) (fu : Nat) (hf : 100 ≤ fu) (h : Int32) : Two (f_X11_give fu 1 h) (f_X12_give fu 153 h) W_box P_hb st := by
  obtain ⟨hH, own, sz, hr, hf', n, tr, tf, tm, tp, mk, hB⟩ := hP
  have hB2 := hB.2.1
  obtain ⟨i1, i2⟩ := isHold_r hT fu hB2 h
  have no : f_X2_hasHold fu 124 h st = some (0, st) → Two (f_X11_give fu 1 h) (f_X12_give fu 153 h) W_box P_hb st := fun q => by
    refine ⟨0, st, st, ?_, ?_, Fr.rf, hH, own, sz, hr, hf', n, tr, tf, tm, tp, mk, hB⟩
    · simp (disch := first | decide | omega) [isb, ck_tt, NP, NF, NC, NB, NS, GS, kdC, tpC hT, f_X11_give, q]
    · have := i1 q
      simp (disch := first | decide | omega) [isb, ck_tt, NP, NF, NC, NB, NS, GS, kdR, tpR hT, f_X12_give, this]
  rcases hasHold_c hT fu hB2 h with q | ⟨j, hj, rfl, q1, q2⟩
  · exact no q
  · rcases Nat.eq_zero_or_pos (sz j) with z | z
    · exact no (q1 z)
    · have q := q2 z
      have i := i2 j hj rfl z
      have d := drop_c hT hf hB2 hj z
      obtain ⟨⟨c1, c2, c3, c4, c5, c6⟩, -⟩ := (hB2 j hj).2 z
      have hTu : Top (sI (sI (seg 119 (30 * hr j + hf' j) (sz j) (nI 0) st) 126 j (nI 0)) 124 11 (gI st 124 11 - nI 1)) := hT.r rfl
      have fr := frees_r hTu hf hj c1 c2 (by simp [gI_sI, gI_seg, c4]) (by simp [gI_sI, gI_seg, c5]) (by simp [gI_sI, gI_seg, c6])
      have i' : f_X12_isHold fu 153 (nI j) (sI (sI (seg 119 (30 * hr j + hf' j) (sz j) (nI 0) st) 126 j (nI 0)) 124 11 (gI st 124 11 - nI 1)) = some (1, sI (sI (seg 119 (30 * hr j + hf' j) (sz j) (nI 0) st) 126 j (nI 0)) 124 11 (gI st 124 11 - nI 1)) := by
        have b3 := (hB2 j hj).1.2.2
        rw [if_neg (by omega)] at b3
        have hT := hTu
        simp (disch := first | decide | omega) [isb, ck_tt, NP, NF, NC, NB, NS, GS, kdR, tpR hT, f_X12_isHold, b_X12_isHold_23, b_X12_isHold_24, b3]
      have rd : ∀ o k, gI (seg 217 (30 * hr j + hf' j) (sz j) (nI 0) (sI (sI (sI (seg 119 (30 * hr j + hf' j) (sz j) (nI 0) st) 126 j (nI 0)) 124 11 (gI st 124 11 - nI 1)) 219 j (nI 0))) o k = if o = 217 ∧ 30 * hr j + hf' j ≤ k ∧ k < 30 * hr j + hf' j + sz j then nI 0 else if o = 219 ∧ k = j then nI 0 else if o = 124 ∧ k = 11 then gI st 124 11 - nI 1 else if o = 126 ∧ k = j then nI 0 else if o = 119 ∧ 30 * hr j + hf' j ≤ k ∧ k < 30 * hr j + hf' j + sz j then nI 0 else gI st o k := fun o k => by simp only [gI_seg, gI_sI]
      have hc : f_X11_give fu 1 (nI j) st = some (1, sI (sI (seg 119 (30 * hr j + hf' j) (sz j) (nI 0) st) 126 j (nI 0)) 124 11 (gI st 124 11 - nI 1)) := by
        simp (disch := first | decide | omega) [isb, ck_tt, NP, NF, NC, NB, NS, GS, kdC, tpC hT, f_X11_give, q, d]
      have hrr : f_X12_give fu 153 (nI j) (sI (sI (seg 119 (30 * hr j + hf' j) (sz j) (nI 0) st) 126 j (nI 0)) 124 11 (gI st 124 11 - nI 1)) = some (1, seg 217 (30 * hr j + hf' j) (sz j) (nI 0) (sI (sI (sI (seg 119 (30 * hr j + hf' j) (sz j) (nI 0) st) 126 j (nI 0)) 124 11 (gI st 124 11 - nI 1)) 219 j (nI 0))) := by
        have hT := hTu
        simp (disch := first | decide | omega) [isb, ck_tt, NP, NF, NC, NB, NS, GS, kdR, tpR hT, f_X12_give, i', fr]
      refine ⟨1, _, _, hc, hrr, ((((Fr.sg st 119 _ _ _).tr (Fr.ia _ 126 _ _)).tr (Fr.i _ 124 11 _)).tr ((Fr.ia _ 219 _ _).tr (Fr.sg _ 217 _ _ _))).wd (by decide), ?_, ?_⟩
      · refine hH.mk c1 (m := sz j) (v := 0) c2 (by omega) (fun _ _ => Or.inl rfl) (fun o ho => ?_) (fun k => ?_) (fun k => ?_)
        · funext k
          rw [rd]
          rcases ho with rfl | rfl | rfl | rfl | rfl | rfl | rfl | rfl <;> simp
        · rw [rd]; simp
        · rw [rd]; simp
      · refine ⟨_, _, hr, hf', n, tr, tf, tm, tp, mk, box_drop hB hj z (fun o k a1 a2 a3 a4 a5 => ?_) (fun k => ?_) ?_ ?_ ?_ rfl⟩
        · rw [rd, if_neg (fun q => a2 q.1), if_neg a5, if_neg a3, if_neg a4, if_neg (fun q => a1 q.1)]
        · rw [rd]; simp
        · rw [rd]; simp
        · rw [rd]; simp
        · rw [rd]; simp
