/-! PURE: what is fed are bytes -/
theorem by1_b (v sh : Int32) : by1 v sh ≤ nI 127 := by
  unfold by1
  rw [Int32.le_iff_toInt_le, Int8.toInt_toInt32, nI_toInt (by omega)]
  have := Int8.toInt_lt ((v >>> (sh &&& 31)).toInt8.toInt32.toInt8)
  omega
theorem upd_b {f : Nat → Int32} (h : ∀ k, f k ≤ nI 127) (n : Nat) {x : Int32} (hx : x ≤ nI 127) : ∀ k, upd f n x k ≤ nI 127 := fun k => by
  unfold upd
  by_cases c : k = n
  · rw [if_pos c]; exact hx
  · rw [if_neg c]; exact h k
theorem bt4_b {f : Nat → Int32} (h : ∀ k, f k ≤ nI 127) (n : Nat) (v : Int32) : ∀ k, bt4 f n v k ≤ nI 127 := upd_b (upd_b (upd_b (upd_b h n (by1_b v 24)) (n + 1) (by1_b v 16)) (n + 2) (by1_b v 8)) (n + 3) (by1_b v 0)
theorem bt20_b {f : Nat → Int32} (h : ∀ k, f k ≤ nI 127) (n : Nat) (a b c d e : Int32) : ∀ k, bt20 f n a b c d e k ≤ nI 127 := bt4_b (bt4_b (bt4_b (bt4_b (bt4_b h n a) (n + 4) b) (n + 8) c) (n + 12) d) (n + 16) e
theorem feed_2b {st : St} (hT : Top st) (hP : P_tape st) (hB : P_byte st) (fu : Nat) (a b c d e : Int32) : Two (f_X11_feed (fu + 5) 1 a b c d e) (f_X12_feed (fu + 5) 153 a b c d e) W_tape (fun w => P_tape w ∧ P_byte w) st := by
  obtain ⟨r, u, w, g1, g2, g3, g4⟩ := feed_2 hT hP fu a b c d e
  refine ⟨r, u, w, g1, g2, g3, g4, ?_⟩
  obtain ⟨h1, h2, n, hn, hl⟩ := hP
  have hc := feed_c hT fu a b c d e hn hl
  rw [hc] at g1
  by_cases h : n + 20 ≤ 4000
  · rw [if_pos h] at g1
    have hu : ap20 2 3 st a b c d e = u := (Prod.mk.inj (Option.some.inj g1)).2
    obtain ⟨c1, c2, c3, c4⟩ := ap20_is (o := 2) (x := 3) (by decide) h hl a b c d e
    have sr : Same [(153, some 1), (154, none)] st (ap20 2 3 st a b c d e) := c1.same (by decide)
    have hl2 : gI (ap20 2 3 st a b c d e) 153 1 = nI n := by rw [sr.i (by decide), ← h2]; exact hl
    have hr := feed_r (hT.r c2) fu a b c d e hn hl2
    rw [if_pos h, hu, g2] at hr
    have hw := (Prod.mk.inj (Option.some.inj hr)).2
    rw [← hu] at hw
    obtain ⟨d1, d2, d3, d4⟩ := ap20_is (o := 153) (x := 154) (by decide) h hl2 a b c d e
    have sc : Same [(2, some 1), (3, none)] (ap20 2 3 st a b c d e) (ap20 153 154 (ap20 2 3 st a b c d e) a b c d e) := d1.same (by decide)
    intro k
    rw [hw, sc.fi (o := 3) (by decide), c3]
    exact bt20_b hB n a b c d e k
  · rw [if_neg h] at g1
    have hu := (Prod.mk.inj (Option.some.inj g1)).2
    have hr := feed_r hT fu a b c d e hn (h2 ▸ hl)
    rw [if_neg h, hu, g2] at hr
    have hw := (Prod.mk.inj (Option.some.inj hr)).2
    intro k
    rw [hw, ← hu]
    exact hB k
