def W_tape : List PL := [(2, some 1), (3, none), (153, some 1), (154, none)]
/-- both answer alike, and what they leave -/
def Two (fC fR : St → Option (Int32 × St)) (W : List PL) (Q : St → Prop) (st : St) : Prop := ∃ r u w, fC st = some (r, u) ∧ fR u = some (r, w) ∧ Fr W st w ∧ Q w
theorem room_c {st : St} (fu : Nat) {n : Nat} (hn : n ≤ 4000) (hl : gI st 2 1 = nI n) : f_X9_hasRoom fu 2 st = some (if n + 20 ≤ 4000 then 1 else 0, st) := by
  unfold f_X9_hasRoom
  have e1 : gI st 2 1 + 20 = nI (n + 20) := by rw [hl]; exact nI_add n 20
  by_cases h : n + 20 ≤ 4000
  · have e2 : ¬ (4000 : Int32) < nI (n + 20) := by
      intro q
      have := (nI_ltI (a := 4000) (b := n + 20) (by omega) (by omega)).mp q
      omega
    simp [ck, kd_2, e1, e2, h, b_X9_hasRoom_18, isb]
  · have e2 : (4000 : Int32) < nI (n + 20) := (nI_ltI (a := 4000) (b := n + 20) (by omega) (by omega)).mpr (by omega)
    simp [ck, kd_2, e1, e2, h, b_X9_hasRoom_18, isb]
def ap20 (o x : Nat) (st : St) (a b c d e : Int32) : St := ap4 o x (ap4 o x (ap4 o x (ap4 o x (ap4 o x st a) b) c) d) e
def bt20 (f : Nat → Int32) (n : Nat) (a b c d e : Int32) : Nat → Int32 := bt4 (bt4 (bt4 (bt4 (bt4 f n a) (n + 4) b) (n + 8) c) (n + 12) d) (n + 16) e
theorem ap20_is {o x : Nat} (hox : o ≠ x) {st : St} {n : Nat} (hn : n + 20 ≤ 4000) (hl : gI st o 1 = nI n) (a b c d e : Int32) : Fr [(o, some 1), (x, none)] st (ap20 o x st a b c d e) ∧ gR (ap20 o x st a b c d e) = gR st ∧ gI (ap20 o x st a b c d e) x = bt20 (gI st x) n a b c d e ∧ gI (ap20 o x st a b c d e) o 1 = nI (n + 20) := by
  obtain ⟨a1, a2, a3, a4⟩ := ap4_is hox (n := n) (by omega) hl a
  obtain ⟨b1, b2, b3, b4⟩ := ap4_is hox (n := n + 4) (by omega) a4 b
  obtain ⟨c1, c2, c3, c4⟩ := ap4_is hox (n := n + 8) (by omega) b4 c
  obtain ⟨d1, d2, d3, d4⟩ := ap4_is hox (n := n + 12) (by omega) c4 d
  obtain ⟨e1, e2, e3, e4⟩ := ap4_is hox (n := n + 16) (by omega) d4 e
  refine ⟨((((a1.tr b1).tr c1).tr d1).tr e1).wd (by simp [within']), e2.trans (d2.trans (c2.trans (b2.trans a2))), ?_, e4⟩
  unfold ap20 bt20
  rw [e3, d3, c3, b3, a3]
theorem feed_c {st : St} (hT : Top st) (fu : Nat) (a b c d e : Int32) {n : Nat} (hn : n ≤ 4000) (hl : gI st 2 1 = nI n) : f_X11_feed (fu + 5) 1 a b c d e st = some (if n + 20 ≤ 4000 then (nI (n + 20), ap20 2 3 st a b c d e) else (-1, st)) := by
  unfold f_X11_feed
  by_cases h : n + 20 ≤ 4000
  · obtain ⟨a1, a2, a3, a4⟩ := ap4_is (o := 2) (a := 3) (by decide) (n := n) (by omega) hl a
    obtain ⟨b1, b2, b3, b4⟩ := ap4_is (o := 2) (a := 3) (by decide) (n := n + 4) (by omega) a4 b
    obtain ⟨c1, c2, c3, c4⟩ := ap4_is (o := 2) (a := 3) (by decide) (n := n + 8) (by omega) b4 c
    obtain ⟨d1, d2, d3, d4⟩ := ap4_is (o := 2) (a := 3) (by decide) (n := n + 12) (by omega) c4 d
    obtain ⟨e1, e2, e3, e4⟩ := ap4_is (o := 2) (a := 3) (by decide) (n := n + 16) (by omega) d4 e
    have t1 := hT.r a2
    have t2 := t1.r b2
    have t3 := t2.r c2
    have t4 := t3.r d2
    have t5 := t4.r e2
    simp only [tp_1_0 hT, kd_1, kd_2, bd, ck, room_c _ hn hl, ca_s, h, app_c hT fu a (n := n) (by omega) hl, cv_s, tp_1_0 t1, app_c t1 fu b (n := n + 4) (by omega) a4, tp_1_0 t2, app_c t2 fu c (n := n + 8) (by omega) b4, tp_1_0 t3, app_c t3 fu d (n := n + 12) (by omega) c4, tp_1_0 t4, app_c t4 fu e (n := n + 16) (by omega) d4, tp_1_0 t5, e4]
    simp [ap20]
  · simp [tp_1_0 hT, kd_1, kd_2, bd, ck, room_c _ hn hl, ca_s, h]
theorem feed_r {st : St} (hT : Top st) (fu : Nat) (a b c d e : Int32) {n : Nat} (hn : n ≤ 4000) (hl : gI st 153 1 = nI n) : f_X12_feed (fu + 5) 153 a b c d e st = some (if n + 20 ≤ 4000 then (nI (n + 20), ap20 153 154 st a b c d e) else (-1, st)) := by
  unfold f_X12_feed
  have e1 : gI st 153 1 + 20 = nI (n + 20) := by rw [hl]; exact nI_add n 20
  by_cases h : n + 20 ≤ 4000
  · have ee : nI (n + 20) ≤ (4000 : Int32) := (nI_leI (a := n + 20) (b := 4000) (by omega) (by omega)).mpr (by omega)
    obtain ⟨a1, a2, a3, a4⟩ := ap4_is (o := 153) (a := 154) (by decide) (n := n) (by omega) hl a
    obtain ⟨b1, b2, b3, b4⟩ := ap4_is (o := 153) (a := 154) (by decide) (n := n + 4) (by omega) a4 b
    obtain ⟨c1, c2, c3, c4⟩ := ap4_is (o := 153) (a := 154) (by decide) (n := n + 8) (by omega) b4 c
    obtain ⟨d1, d2, d3, d4⟩ := ap4_is (o := 153) (a := 154) (by decide) (n := n + 12) (by omega) c4 d
    obtain ⟨e1', e2, e3, e4⟩ := ap4_is (o := 153) (a := 154) (by decide) (n := n + 16) (by omega) d4 e
    have t1 := hT.r a2
    have t2 := t1.r b2
    have t3 := t2.r c2
    have t4 := t3.r d2
    simp only [kd_153, ck, e1, ee, h, lay_c hT fu a (n := n) (by omega) hl, cv_s, lay_c t1 fu b (n := n + 4) (by omega) a4, lay_c t2 fu c (n := n + 8) (by omega) b4, lay_c t3 fu d (n := n + 12) (by omega) c4, lay_c t4 fu e (n := n + 16) (by omega) d4, e4]
    simp [ap20]
  · have ee : ¬ nI (n + 20) ≤ (4000 : Int32) := fun q => by
      have := (nI_leI (a := n + 20) (b := 4000) (by omega) (by omega)).mp q
      omega
    simp [kd_153, ck, e1, ee, h]
theorem feed_2 {st : St} (hT : Top st) (hP : P_tape st) (fu : Nat) (a b c d e : Int32) : Two (f_X11_feed (fu + 5) 1 a b c d e) (f_X12_feed (fu + 5) 153 a b c d e) W_tape P_tape st := by
  obtain ⟨h1, h2, n, hn, hl⟩ := hP
  have hc := feed_c hT fu a b c d e hn hl
  by_cases h : n + 20 ≤ 4000
  · rw [if_pos h] at hc
    obtain ⟨c1, c2, c3, c4⟩ := ap20_is (o := 2) (x := 3) (by decide) h hl a b c d e
    have sr : Same [(153, some 1), (154, none)] st (ap20 2 3 st a b c d e) := c1.same (by decide)
    have hl2 : gI (ap20 2 3 st a b c d e) 153 1 = nI n := by rw [sr.i (by decide), ← h2]; exact hl
    have hr := feed_r (hT.r c2) fu a b c d e hn hl2
    rw [if_pos h] at hr
    obtain ⟨d1, d2, d3, d4⟩ := ap20_is (o := 153) (x := 154) (by decide) h hl2 a b c d e
    have sc : Same [(2, some 1), (3, none)] (ap20 2 3 st a b c d e) (ap20 153 154 (ap20 2 3 st a b c d e) a b c d e) := d1.same (by decide)
    refine ⟨_, _, _, hc, hr, (c1.tr d1).wd (by decide), ?_, ?_, n + 20, h, ?_⟩
    · rw [d3, sc.fi (o := 3) (by decide), c3, sr.fi (o := 154) (by decide), h1]
    · rw [d4, sc.i (o := 2) (k := 1) (by decide), c4]
    · rw [sc.i (o := 2) (k := 1) (by decide), c4]
  · rw [if_neg h] at hc
    have hr := feed_r hT fu a b c d e hn (h2 ▸ hl)
    rw [if_neg h] at hr
    exact ⟨_, _, _, hc, hr, Fr.rf, h1, h2, n, hn, hl⟩
theorem cut_2 {st : St} (hT : Top st) (hP : P_tape st) (fu : Nat) (n : Int32) : Two (f_X11_cut fu 1 n) (f_X12_cut fu 153 n) W_tape P_tape st := by
  obtain ⟨h1, h2, m, hm, hl⟩ := hP
  have hc := cut_c hT fu n
  by_cases h : 0 ≤ n ∧ n ≤ gI st 2 1
  · rw [if_pos h] at hc
    have hr := cut_r (st := sI st 2 1 n) fu n
    have e1 : gI (sI st 2 1 n) 153 1 = gI st 2 1 := by rw [gI_sI, if_neg (by decide)]; exact h2.symm
    rw [e1, if_pos h] at hr
    obtain ⟨j, hj, rfl⟩ := nI_of (x := n) (fun q => by have := i32_lt.mp q; have := i32_le.mp h.1; omega)
    have hjm : j ≤ m := by
      have := h.2
      rw [hl] at this
      exact (nI_leI hj (by omega)).mp this
    refine ⟨_, _, _, hc, hr, ((Fr.i st 2 1 _).tr (Fr.i _ 153 1 _)).wd (by decide), ?_, ?_, j, by omega, ?_⟩
    · rw [gI_sI_n _ _ _ (by decide), gI_sI_n _ _ _ (by decide), gI_sI_n _ _ _ (by decide), gI_sI_n _ _ _ (by decide)]; exact h1
    · rw [gI_sI, if_neg (by decide), gI_sI, if_pos ⟨rfl, rfl⟩, gI_sI, if_pos ⟨rfl, rfl⟩]
    · rw [gI_sI, if_neg (by decide), gI_sI, if_pos ⟨rfl, rfl⟩]
  · rw [if_neg h] at hc
    have hr := cut_r (st := st) fu n
    rw [← h2, if_neg h] at hr
    exact ⟨_, _, _, hc, hr, Fr.rf, h1, h2, m, hm, hl⟩
