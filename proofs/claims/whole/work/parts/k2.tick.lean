/-! PURE: tick, both -/
theorem SFd_own {st : St} {own sz hr hf : Nat → Nat} (hB : BH st own sz hr hf) {T : Nat → Int32} {N k : Nat} (h : SFd sz hr hf (PN sz T N) k = true) : ∃ j, j < 60 ∧ PN sz T N j = true ∧ own k = j + 1 := by
  obtain ⟨j, h1, h2, h3, h4⟩ := SFd_t.mp h
  have z : 0 < sz j := by
    unfold PN at h2
    simp only [Bool.and_eq_true, decide_eq_true_eq] at h2
    exact h2.1
  exact ⟨j, h1, h2, ((hB j h1).2 z).2.2.2.2.2 k h3 h4⟩
def ow2 (own sz hr hf : Nat → Nat) (P : Nat → Bool) (k : Nat) : Nat := if SFd sz hr hf P k then 0 else own k
def sz2 (sz : Nat → Nat) (P : Nat → Bool) (h : Nat) : Nat := if P h then 0 else sz h
theorem box_set {st w : St} {own sz hr hf : Nat → Nat} {n : Nat} {tr tf tm tp mk : Nat → Nat} (hB : Bx st own sz hr hf n tr tf tm tp mk) {N : Nat} (n8 : gI w 1 8 = nI N) (hC : CDs st sz hr hf (PN sz (gI st 129) N) w) (hR : RDs st sz hr hf (PN sz (gI st 129) N) w) (e : ∀ o, o = 117 ∨ (127 ≤ o ∧ o ≤ 133) ∨ (224 ≤ o ∧ o ≤ 232) → gI w o = gI st o) (e4 : ∀ j, 12 ≤ j → j ≤ 16 → gI w 124 j = gI st 124 j) (e5 : gI w 153 92 = gI st 153 92) (e6 : gL w 153 93 = gL st 153 93) : P_box w := by
  obtain ⟨h1, h2, h3, h4⟩ := hB
  obtain ⟨c1, c2, c3, c4, c5⟩ := hC
  obtain ⟨r1, r2, r3, r4, r5, r6⟩ := hR
  obtain ⟨P, hP⟩ : ∃ P, P = PN sz (gI st 129) N := ⟨_, rfl⟩
  have own1 : ∀ k, SFd sz hr hf P k = true → ∃ j, j < 60 ∧ P j = true ∧ own k = j + 1 := fun k hk => by rw [hP] at hk ⊢; exact SFd_own h2 hk
  rw [← hP] at c1 c2 c3 r1 r2
  refine ⟨ow2 own sz hr hf P, sz2 sz P, hr, hf, n, tr, tf, tm, tp, mk, fun k => ?_, fun h hh => ?_, ?_, ?_⟩
  · rw [c2, h1 k]
    unfold ow2
    by_cases c : SFd sz hr hf P k = true
    · rw [if_pos c, if_pos c]; rfl
    · rw [if_neg c, if_neg c]
  · obtain ⟨⟨b1, b2, b3⟩, b4⟩ := h2 h hh
    unfold sz2
    by_cases p : P h = true
    · rw [if_pos p, c1 h hh, if_pos p, r1 h hh, if_pos p]
      exact ⟨⟨rfl, by omega, rfl⟩, fun z => by omega⟩
    · rw [if_neg p, c1 h hh, if_neg p, r1 h hh, if_neg p]
      refine ⟨⟨b1, b2, b3⟩, fun z => ?_⟩
      obtain ⟨q1, ⟨q2, q2'⟩, q3, q4, q5, q6⟩ := b4 z
      rw [c4, c5, r3, r4, r5, r6, e 117 (by omega), e 127 (by omega), e 128 (by omega), e 224 (by omega), e 225 (by omega), e 226 (by omega), n8]
      refine ⟨q1, ⟨q2, ?_⟩, q3, q4, q5, fun k k1 k2 => ?_⟩
      · rw [hP] at p
        unfold PN at p
        rw [decide_eq_true z, Bool.true_and] at p
        simpa using p
      · have o := q6 k k1 k2
        unfold ow2
        rw [if_neg]
        · exact o
        · intro s
          obtain ⟨j, j1, j2, j3⟩ := own1 k s
          have : j = h := by omega
          subst this
          exact p j2
  · obtain ⟨⟨t1, t2, t3⟩, t4, t5⟩ := h3
    unfold BT
    rw [e 130 (by omega), e 131 (by omega), e 132 (by omega), e 133 (by omega), e 227 (by omega), e 228 (by omega), e 229 (by omega), e 230 (by omega), e 231 (by omega), e 232 (by omega), e4 12 (by omega) (by omega), e5]
    refine ⟨⟨t1, t2, t3⟩, fun t ht => ?_, t5⟩
    obtain ⟨b1, b2, b3, b4⟩ := t4 t ht
    refine ⟨b1, b2, b3, fun hm k k1 k2 => ?_⟩
    have o := b4 hm k k1 k2
    unfold ow2
    rw [if_neg]
    · exact o
    · intro s
      obtain ⟨j, j1, j2, j3⟩ := own1 k s
      omega
  · obtain ⟨s1, s2, s3, s4, s5, s6⟩ := h4
    unfold BC_
    rw [e4 13 (by omega) (by omega), e4 14 (by omega) (by omega), e4 15 (by omega) (by omega), e4 16 (by omega) (by omega), e6]
    refine ⟨?_, s2, s3, s4, s5, s6⟩
    rw [c3]
    congr 1
    refine sm_c (fun i hi => ?_)
    show (if P i = true ∨ sz i = 0 then 0 else 1) = (if sz2 sz P i = 0 then 0 else 1)
    unfold sz2
    by_cases p : P i = true
    · rw [if_pos (Or.inl p), if_pos p, if_pos rfl]
    · rw [if_neg p]
      by_cases z : sz i = 0
      · rw [if_pos (Or.inr z), if_pos z]
      · rw [if_neg (fun q => by rcases q with q | q; exact p q; exact z q), if_neg z]
theorem hall_set {st w : St} (h : P_hall st) {S : Nat → Bool} (e : ∀ o, o = 116 ∨ o = 117 ∨ o = 118 ∨ o = 120 ∨ o = 214 ∨ o = 215 ∨ o = 216 ∨ o = 218 → gI w o = gI st o) (e1 : ∀ k, gI w 119 k = if S k then nI 0 else gI st 119 k) (e2 : ∀ k, gI w 217 k = if S k then nI 0 else gI st 217 k) : P_hall w := by
  obtain ⟨h1, h2, h3, h4, h5, h6, h7, h8, h9, h10⟩ := h
  unfold P_hall
  rw [e 116 (by simp), e 117 (by simp), e 118 (by simp), e 120 (by simp), e 214 (by simp), e 215 (by simp), e 216 (by simp), e 218 (by simp)]
  refine ⟨h1, h2, h3, h4, ?_, ?_, ?_, h8, h9, h10⟩
  · funext k
    rw [e1, e2, h5]
  · intro a k n ha hn hk
    rw [e1]
    by_cases hc : S (30 * a + k) = true
    · rw [if_pos hc]; rfl
    · rw [if_neg hc]; exact h6 a k n ha hn hk
  · intro k
    rw [e1]
    by_cases hc : S k = true
    · rw [if_pos hc]; exact Or.inl rfl
    · rw [if_neg hc]; exact h7 k
theorem B2.hd {N : Nat} {lo : Nat → Nat} {sp : Nat} {Q C A : Nat → Nat} {DD : Nat → LD} {L : Nat → Option LK} {m m' : St} (h : B2 N lo sp Q C A DD L m) (fr : Fr [(119, none), (126, none), (124, some 11), (217, none), (219, none)] m m') : B2 N lo sp Q C A DD L m' := by
  obtain ⟨⟨a1, a2, a3, a4, a5, a6, a7, a8⟩, h3, h4⟩ := h
  refine ⟨⟨by rw [fr.ki 153 40 (by decide)]; exact a1, a2.fr (fr.same (by decide)), fun l hl => ⟨(a3 l hl).1, (a3 l hl).2.e (fun k _ _ => ?_) (fun o o1 o2 => ?_)⟩, a4.fr (fr.same (by decide)), a5.fe (fr.fi 6 (by decide)) (fr.fi 210 (by decide)), a6.fr (fr.same (by decide)), a7.fr a6 (fr.same (by decide)), a8.fr (fr.same (by decide))⟩, fun l hl => (h3 l hl).e (fun k hk => ?_) (fun o o1 o2 c _ => ?_), h4.a (fr.fi 26 (by decide)) (fr.fi 195 (by decide))⟩
  · rw [fr.fi _ (by simp <;> omega)]
  · rw [fr.fi _ (by simp <;> omega)]
  · exact fr.fi _ (by simp <;> omega)
  · rw [fr.fi _ (by simp <;> omega)]
theorem PN_up {sz : Nat → Nat} {T : Nat → Int32} {N h : Nat} (hN : N < 1000000) : (PN sz T N h || PN sz T (N + 1) h) = PN sz T (N + 1) h := by
  cases q : PN sz T N h with
  | false => rfl
  | true =>
    have : PN sz T (N + 1) h = true := by
      unfold PN at q ⊢
      simp only [Bool.and_eq_true, decide_eq_true_eq, Bool.not_eq_true', decide_eq_false_iff_not] at q ⊢
      refine ⟨q.1, fun z => q.2 ?_⟩
      rw [Int32.lt_iff_toInt_lt, nI_toInt (by omega)] at z ⊢
      omega
    rw [this]; rfl
def WZr : List PL := WYr ++ [(217, none), (219, none)]
set_option maxRecDepth 100000 in
set_option maxHeartbeats 4000000 in
theorem tick_l {st : St} {own sz hr hf : Nat → Nat} (hB : BH st own sz hr hf) {N n sp : Nat} {Q C A : Nat → Nat} {DD : Nat → LD} {L : Nat → Option LK} (hN : N + n < 100000) (hn : n ≤ 500) {fu : Nat} (hfu : 3000 ≤ fu) : ∀ (r i F F' : Nat) (u w : St), i + r = n → r < F → r < F' → B2 (N + i) (fun _ => N + i) sp Q C A DD L (mg u w) → gI u 1 8 = nI (N + i) → Top u → Top w → RDs st sz hr hf (PN sz (gI st 223) (N + i)) w → ∃ u' w', b_X11_tick_15 fu F 1 (nI n) (nI i) u = (cv (f_X2_expire fu 124 (nI (N + n)) u') fun s4 => some (gI s4 1 8, s4)) ∧ b_X12_tick_15 fu F' 153 (nI n) (nI i) w = some (nI (N + n), w') ∧ Fr WYc u u' ∧ Fr WZr w w' ∧ Top u' ∧ Top w' ∧ gI u' 1 8 = nI (N + n) ∧ B2 (N + n) (fun _ => N + n) sp Q C A DD L (mg u' w') ∧ RDs st sz hr hf (PN sz (gI st 223) (N + n)) w' := by
  intro r
  induction r with
  | zero =>
    intro i F F' u w hi hF hF' h n8 hTu hTw hD
    have e : i = n := by omega
    subst e
    obtain ⟨F, rfl⟩ : ∃ x, F = x + 1 := ⟨F - 1, by omega⟩
    obtain ⟨F', rfl⟩ : ∃ x, F' = x + 1 := ⟨F' - 1, by omega⟩
    have n40 : gI w 153 40 = nI (N + i) := by rw [← (mgR u w (o := 153) (by omega)).1]; exact h.1.1
    refine ⟨u, w, ?_, ?_, Fr.rf, Fr.rf, hTu, hTw, n8, h, hD⟩
    · show b_X11_tick_15_b fu (b_X11_tick_15 fu F) 1 (nI i) (nI i) u = _
      unfold b_X11_tick_15_b
      rw [if_pos (Int32.le_refl _), tp_1_5 hTu, ck_t (show ¬ 124 = 0 by decide), ck_t (show (kd 1).1 = 11 from rfl), bd_e, ck_t (show (kd 1).1 = 11 from rfl), ck_t (show (kd 124).1 = 2 from rfl), n8]
      rfl
    · show b_X12_tick_15_b fu (b_X12_tick_15 fu F') 153 (nI i) (nI i) w = _
      unfold b_X12_tick_15_b
      rw [if_pos (Int32.le_refl _), ck_t (show (kd 153).1 = 12 from rfl), n40]
  | succ r ih =>
    intro i F F' u w hi hF hF' h n8 hTu hTw hD
    obtain ⟨F, rfl⟩ : ∃ x, F = x + 1 := ⟨F - 1, by omega⟩
    obtain ⟨F', rfl⟩ : ∃ x, F' = x + 1 := ⟨F' - 1, by omega⟩
    obtain ⟨u1, w1, a1, a2, a3, a4, a5, a6, a7, a8⟩ := tick1_2 h hTu hTw (show N + i < 100000 by omega) hfu (b_X11_tick_15 fu F) (nI n) (nI i)
    have n40 : gI w1 153 40 = nI (N + i + 1) := by rw [← (mgR u1 w1 (o := 153) (by omega)).1]; exact a8.1.1
    have hD1 : RDs st sz hr hf (PN sz (gI st 223) (N + i)) w1 := hD.e (fun o ho => by
      have d1 : WYr.all (fun b => !(b.1 == 217)) = true := by decide
      have d2 : ∀ d, d < 5 → WYr.all (fun b => !(b.1 == 219 + d)) = true := by decide
      rcases ho with rfl | ⟨o1, o2⟩
      · exact a4.fi 217 d1
      · have := d2 (o - 219) (by omega)
        rw [show 219 + (o - 219) = o by omega] at this
        exact a4.fi o this)
    obtain ⟨w2, b1, b2, b3, b4⟩ := hold_l hB (N := N + i + 1) (O := PN sz (gI st 223) (N + i)) (fu := fu) (by omega) fu 0 w1 (by omega) (by omega) a6 n40 (hD1.c (fun h hh => by simp))
    have hD2 : RDs st sz hr hf (PN sz (gI st 223) (N + (i + 1))) w2 := b4.c (fun h hh => (PN_up (N := N + i) (by omega)).symm)
    have hB2 : B2 (N + (i + 1)) (fun _ => N + (i + 1)) sp Q C A DD L (mg u1 w2) := a8.hd ((mg_fr (Fr.rf (W := []) (st := u1)) b2).wd (by decide))
    obtain ⟨u', w', c1, c2, c3, c4, c5⟩ := ih (i + 1) F F' u1 w2 (by omega) (by omega) (by omega) hB2 a7 a5 b3 hD2
    have lt : ¬ nI n ≤ nI i := fun z => by have := (nI_leI (a := n) (b := i) (by omega) (by omega)).mp z; omega
    have i1 : nI i + 1 = nI (i + 1) := nI_add i 1
    refine ⟨u', w', ?_, ?_, a3.tt c3, (a4.sub (by intro x hx; exact List.mem_append_left _ hx)).tt ((b2.wd (by decide)).tt c4), c5⟩
    · show b_X11_tick_15_b fu (b_X11_tick_15 fu F) 1 (nI n) (nI i) u = _
      unfold b_X11_tick_15_b
      rw [if_neg lt, ck_t (show (kd 1).1 = 11 from rfl), ck_t (show (kd 1).1 = 11 from rfl), n8, show nI (N + i) + 1 = nI (N + i + 1) from nI_add _ 1, bd_e]
      have := a1
      rw [i1] at this
      exact this.trans c1
    · show b_X12_tick_15_b fu (b_X12_tick_15 fu F') 153 (nI n) (nI i) w = _
      unfold b_X12_tick_15_b
      rw [if_neg lt, ck_t (show (kd 153).1 = 12 from rfl), a2, b1, cv_s, i1, bd_e]
      exact c2
def W_tc : List PL := WYc ++ [(119, none), (126, none), (124, some 11)]
theorem wz1 : W_tc.all (fun x => decide (x.1 < 153)) = true := by decide
theorem wz2 : WZr.all (fun x => decide (153 ≤ x.1)) = true := by decide
theorem wz3 : ∀ o ∈ [116, 117, 118, 120, 214, 215, 216, 218], (W_tc ++ WZr).all (fun b => !(b.1 == o)) = true := by decide
theorem wz4 : ∀ d, d < 7 → (W_tc ++ WZr).all (fun b => !(b.1 == 127 + d)) = true := by decide
theorem wz5 : ∀ d, d < 9 → (W_tc ++ WZr).all (fun b => !(b.1 == 224 + d)) = true := by decide
theorem wz6 : ∀ d, d < 5 → (W_tc ++ WZr).any (covers · 124 (12 + d)) = false := by decide
theorem wz7 : (W_tc ++ WZr).any (covers · 153 92) = false ∧ (W_tc ++ WZr).any (covers · 153 93) = false := by decide
theorem tick_no {st : St} (hT : Top st) (fu : Nat) {a : Int32} (na : ¬ (nI 0 ≤ a ∧ a ≤ nI 500)) : f_X11_tick fu 1 a st = some (-nI 1, st) ∧ f_X12_tick fu 153 a st = some (-nI 1, st) := by
  have e1 : f_X11_within fu a (nI 0) (nI 500) st = some (nI 0, st) := win_n fu st na
  refine ⟨?_, ?_⟩
  · unfold f_X11_tick
    rw [show f_X11_within fu a 0 500 st = some (nI 0, st) from e1, ca_s, if_pos (show nI 0 = 0 from rfl)]
    rfl
  · unfold f_X12_tick b_X12_tick_11
    by_cases c : a < 0
    · rw [if_pos c]; rfl
    · have c7 : ¬ a ≤ 500 := fun z => na ⟨by
        show (0 : Int32) ≤ a
        rw [Int32.lt_iff_toInt_lt] at c
        rw [Int32.le_iff_toInt_le]
        omega, z⟩
      rw [if_neg c, if_neg c7]; rfl
theorem tk_D0 {st w : St} {own sz hr hff : Nat → Nat} (hBH : BH st own sz hr hff) {N : Nat} (n8 : gI st 1 8 = nI N) (er : ∀ o, 153 ≤ o → gI w o = gI st o ∧ gL w o = gL st o) : RDs st sz hr hff (PN sz (gI st 223) N) w := by
  have P0 : ∀ j, j < 60 → PN sz (gI st 223) N j = false := fun j hj => by
    unfold PN
    by_cases z : 0 < sz j
    · have q := (hBH j hj).2 z
      have : nI N < gI st 223 j := by rw [← n8, ← q.2.1.1]; exact q.2.1.2
      rw [decide_eq_true this]; simp
    · rw [decide_eq_false z]; rfl
  refine ⟨fun j hj => ?_, fun x => ?_, (er 220 (by omega)).1, (er 221 (by omega)).1, (er 222 (by omega)).1, (er 223 (by omega)).1⟩
  · rw [P0 j hj, if_neg (by decide), (er 219 (by omega)).1]
  · have : SFd sz hr hff (PN sz (gI st 223) N) x = false := by
      cases q : SFd sz hr hff (PN sz (gI st 223) N) x with
      | false => rfl
      | true =>
        obtain ⟨j, j1, j2, -⟩ := SFd_t.mp q
        rw [P0 j j1] at j2
        exact absurd j2 (by decide)
    rw [this, if_neg (by decide), (er 217 (by omega)).1]
theorem wz8 : WYc.all (fun b => !(b.1 == 126)) = true ∧ WYc.all (fun b => !(b.1 == 119)) = true ∧ WYc.all (fun b => !(b.1 == 125)) = true ∧ WYc.all (fun b => !(b.1 == 129)) = true ∧ WYc.any (covers · 124 11) = false := by decide
theorem tk_C0 {st u1 : St} {sz hr hff : Nat → Nat} {N : Nat} (a3 : Fr WYc st u1) (h11 : gI st 124 11 = nI (sm 60 fun h => if sz h = 0 then 0 else 1)) : CDs st sz hr hff (fun j => decide (j < 0) && PN sz (gI st 129) N j) u1 := by
  obtain ⟨z1, z2, z3, z4, z5⟩ := wz8
  refine ⟨fun j hj => ?_, fun x => ?_, ?_, ?_, ?_⟩
  · simp only [Nat.not_lt_zero, decide_false, Bool.false_and]
    rw [if_neg (by decide), a3.fi 126 z1]
  · have : SFd sz hr hff (fun j => decide (j < 0) && PN sz (gI st 129) N j) x = false := by
      cases q : SFd sz hr hff (fun j => decide (j < 0) && PN sz (gI st 129) N j) x with
      | false => rfl
      | true =>
        obtain ⟨j, j1, j2, -⟩ := SFd_t.mp q
        simp at j2
    rw [this, if_neg (by decide), a3.fi 119 z2]
  · rw [a3.ki 124 11 z5, h11]
    congr 1
    exact sm_c (fun i hi => by simp)
  · exact a3.fi 125 z3
  · exact a3.fi 129 z4
theorem tk_fin {st m : St} {own sz hr hff : Nat → Nat} {nt : Nat} {tr tf tm tp mk : Nat → Nat} (hHall : P_hall st) (hBx : Bx st own sz hr hff nt tr tf tm tp mk) {N : Nat} (n8 : gI m 1 8 = nI N) (cM : CDs st sz hr hff (PN sz (gI st 129) N) m) (rM : RDs st sz hr hff (PN sz (gI st 129) N) m) (FW : Fr (W_tc ++ WZr) st m) : P_hb m := by
  refine ⟨?_, ?_⟩
  · refine hall_set hHall (S := SFd sz hr hff (PN sz (gI st 129) N)) (fun o ho => ?_) cM.2.1 rM.2.1
    exact FW.fi _ (wz3 o (by simp; omega))
  · refine box_set hBx (N := N) n8 cM rM (fun o ho => ?_) (fun j j1 j2 => ?_) (FW.ki 153 92 wz7.1) ?_
    · rcases ho with rfl | ⟨o1, o2⟩ | ⟨o1, o2⟩
      · exact FW.fi _ (wz3 117 (by simp))
      · have := wz4 (o - 127) (by omega)
        rw [show 127 + (o - 127) = o by omega] at this
        exact FW.fi _ this
      · have := wz5 (o - 224) (by omega)
        rw [show 224 + (o - 224) = o by omega] at this
        exact FW.fi _ this
    · have := wz6 (j - 12) (by omega)
      rw [show 12 + (j - 12) = j by omega] at this
      exact FW.ki 124 j this
    · exact (FW 153 93 wz7.2).2.1
theorem tk_ce {st u1 u2 : St} {N n fu : Nat} (b1 : b_X2_expire_2 fu fu 124 (nI (N + n)) (nI 0) u1 = some u2) (n82 : gI u2 1 8 = nI (N + n)) : (cv (f_X2_expire fu 124 (nI (N + n)) u1) fun s4 => some (gI s4 1 8, s4)) = some (nI (N + n), u2) := by
  rw [show f_X2_expire fu 124 (nI (N + n)) u1 = some u2 from b1, cv_s, n82]
theorem wtc_l {a b : St} (h : Fr WYc a b) : Fr W_tc a b := h.sub (by intro x hx; exact List.mem_append_left _ hx)
theorem wtc_r {a b : St} (h : Fr [(119, none), (126, none), (124, some 11)] a b) : Fr W_tc a b := h.sub (by intro x hx; exact List.mem_append_right _ hx)
theorem tick_t0 {st w : St} {own sz hr hff : Nat → Nat} (hBH : BH st own sz hr hff) {N n sp : Nat} {Q C A : Nat → Nat} {DD : Nat → LD} {L : Nat → Option LK} (hN : N + n < 100000) (hn : n ≤ 500) {fu : Nat} (hf : 3000 ≤ fu) (hB0 : B2 N (fun _ => N) sp Q C A DD L (mg st w)) (n8 : gI st 1 8 = nI N) (hT : Top st) (hTw : Top w) (D0 : RDs st sz hr hff (PN sz (gI st 223) N) w) : ∃ u' w', b_X11_tick_15 fu fu 1 (nI n) (nI 0) st = (cv (f_X2_expire fu 124 (nI (N + n)) u') fun s4 => some (gI s4 1 8, s4)) ∧ b_X12_tick_15 fu fu 153 (nI n) (nI 0) w = some (nI (N + n), w') ∧ Fr WYc st u' ∧ Fr WZr w w' ∧ Top u' ∧ Top w' ∧ gI u' 1 8 = nI (N + n) ∧ B2 (N + n) (fun _ => N + n) sp Q C A DD L (mg u' w') ∧ RDs st sz hr hff (PN sz (gI st 223) (N + n)) w' := by
  have := tick_l hBH (N := N) (n := n) (sp := sp) (Q := Q) (C := C) (A := A) (DD := DD) (L := L) hN hn hf n 0 fu fu st w (Nat.zero_add _) (by omega) (by omega)
  rw [Nat.add_zero] at this
  exact this hB0 n8 hT hTw D0
theorem t1_a {st : St} {own sz hr hff : Nat → Nat} (hBH : BH st own sz hr hff) (M : Nat) : ∀ j, j < 60 → PN sz (gI st 129) M j = PN sz (gI st 223) M j := fun j hj => by
  unfold PN
  by_cases z : 0 < sz j
  · rw [((hBH j hj).2 z).2.1.1]
  · rw [decide_eq_false z, Bool.false_and, Bool.false_and]
theorem t1_b {st u1 : St} {own sz hr hff : Nat → Nat} {nt : Nat} {tr tf tm tp mk : Nat → Nat} (hBx : Bx st own sz hr hff nt tr tf tm tp mk) {M : Nat} {fu : Nat} (hf : 3000 ≤ fu) (a3 : Fr WYc st u1) (a5 : Top u1) : ∃ u2, f_X2_expire fu 124 (nI M) u1 = some u2 ∧ Fr [(119, none), (126, none), (124, some 11)] u1 u2 ∧ Top u2 ∧ CDs st sz hr hff (PN sz (gI st 129) M) u2 := exp_l hBx.2.1 (N := M) (fu := fu) (by omega) fu 0 u1 (by omega) (by omega) a5 (tk_C0 a3 hBx.2.2.2.1)
theorem t1_c {st u2 w1 : St} {sz hr hff : Nat → Nat} {P : Nat → Bool} (b4 : CDs st sz hr hff P u2) : CDs st sz hr hff P (mg u2 w1) := by
  obtain ⟨c1, c2, c3, c4, c5⟩ := b4
  have mC : ∀ o, o < 153 → gI (mg u2 w1) o = gI u2 o := fun o ho => (mgC u2 w1 ho).1
  exact ⟨fun h hh => by rw [mC 126 (by omega)]; exact c1 h hh, fun k => by rw [mC 119 (by omega)]; exact c2 k, by rw [mC 124 (by omega)]; exact c3, by rw [mC 125 (by omega)]; exact c4, by rw [mC 129 (by omega)]; exact c5⟩
theorem t1_d {st u2 w1 : St} {sz hr hff : Nat → Nat} {P : Nat → Bool} (b4 : RDs st sz hr hff P w1) : RDs st sz hr hff P (mg u2 w1) := b4.e (fun o ho => (mgR u2 w1 (by omega)).1)
theorem t1_e {st w u1 u2 w1 : St} (em : mg st w = st) (a3 : Fr WYc st u1) (a4 : Fr WZr w w1) (b2 : Fr [(119, none), (126, none), (124, some 11)] u1 u2) : Fr W_tc st u2 ∧ Fr (W_tc ++ WZr) st (mg u2 w1) := by
  have FU : Fr W_tc st u2 := (wtc_l a3).tt (wtc_r b2)
  have FW : Fr (W_tc ++ WZr) (mg st w) (mg u2 w1) := mg_fr FU a4
  rw [em] at FW
  exact ⟨FU, FW⟩
theorem tick_t1 {st w u1 w1 : St} {own sz hr hff : Nat → Nat} {nt : Nat} {tr tf tm tp mk : Nat → Nat} (hHall : P_hall st) (hBx : Bx st own sz hr hff nt tr tf tm tp mk) {M sp : Nat} {Q C A : Nat → Nat} {DD : Nat → LD} {L : Nat → Option LK} {fu : Nat} (hf : 3000 ≤ fu) (em : mg st w = st) (a3 : Fr WYc st u1) (a4 : Fr WZr w w1) (a5 : Top u1) (a7 : gI u1 1 8 = nI M) (a8 : B2 M (fun _ => M) sp Q C A DD L (mg u1 w1)) (a9 : RDs st sz hr hff (PN sz (gI st 223) M) w1) : ∃ u2, f_X2_expire fu 124 (nI M) u1 = some u2 ∧ Fr W_tc st u2 ∧ Top u2 ∧ gI u2 1 8 = nI M ∧ B2 M (fun _ => M) sp Q C A DD L (mg u2 w1) ∧ P_hb (mg u2 w1) := by
  obtain ⟨u2, b1, b2, b3, b4⟩ := t1_b (M := M) hBx hf a3 a5
  have n82 : gI u2 1 8 = nI M := by rw [b2.ki 1 8 (by decide)]; exact a7
  obtain ⟨FU, FW⟩ := t1_e em a3 a4 b2
  have n8m : gI (mg u2 w1) 1 8 = nI M := by rw [(mgC u2 w1 (o := 1) (by omega)).1]; exact n82
  have hBm : B2 M (fun _ => M) sp Q C A DD L (mg u2 w1) := a8.hd ((mg_fr b2 (Fr.rf (W := []) (st := w1))).wd (by decide))
  exact ⟨u2, b1, FU, b3, n82, hBm, tk_fin hHall hBx n8m (t1_c b4) ((t1_d a9).c (t1_a hBx.2.1 M)) FW⟩
theorem tick_ok {k n : Nat} (hk : k < 64) {st : St} (hT : Top st) (h : LI k st) (hH : P_hb st) (fu : Nat) (hf : 3000 ≤ fu) (hn : n ≤ 500) : Two (fun s => b_X11_tick_15 fu fu 1 (nI n) (nI 0) s) (fun s => b_X12_tick_15 fu fu 153 (nI n) (nI 0) s) (W_tc ++ WZr) (fun w => LI (k + 1) w ∧ P_hb w) st := by
  obtain ⟨N, sp, Q, C, A, DD, L, hN, n8, hB⟩ := id h
  obtain ⟨hHall, own, sz, hr, hff, nt, tr, tf, tm, tp, mk, hBx⟩ := id hH
  have hN1 : N + n ≤ 500 * (k + 1) := by omega
  have hN0 : N + n < 100000 := by omega
  refine two_of hT wz1 wz2 (fun w hTw em => ?_)
  have er : ∀ o, 153 ≤ o → gI w o = gI st o ∧ gL w o = gL st o := fun o ho => by
    rw [← (mgR st w (o := o) ho).1, ← (mgR st w (o := o) ho).2.1, em]; exact ⟨rfl, rfl⟩
  have D0 := tk_D0 hBx.2.1 n8 er
  have hB0 : B2 N (fun _ => N) sp Q C A DD L (mg st w) := by rw [em]; exact hB
  obtain ⟨u1, w1, a1, a2, a3, a4, a5, a6, a7, a8, a9⟩ := tick_t0 hBx.2.1 hN0 hn hf hB0 n8 hT hTw D0
  obtain ⟨u2, b1, b2, b3, b4, b5, b6⟩ := tick_t1 hHall hBx hf em a3 a4 a5 a7 a8 a9
  refine ⟨nI (N + n), u2, w1, ?_, a2, b2, a4, b3, ⟨N + n, sp, Q, C, A, DD, L, hN1, ?_, b5⟩, b6⟩
  · show b_X11_tick_15 fu fu 1 (nI n) (nI 0) st = _
    rw [a1, b1, cv_s, b4]
  · rw [(mgC u2 w1 (o := 1) (by omega)).1]; exact b4
theorem tick_2 {k : Nat} (hk : k < 64) {st : St} (hT : Top st) (h : LI k st) (hH : P_hb st) (fu : Nat) (hf : 3000 ≤ fu) (a : Int32) : Two (f_X11_tick fu 1 a) (f_X12_tick fu 153 a) (W_tc ++ WZr) (fun w => LI (k + 1) w ∧ P_hb w) st := by
  have up : LI (k + 1) st := by
    obtain ⟨N, sp, Q, C, A, DD, L, hN, n8, hB⟩ := h
    exact ⟨N, sp, Q, C, A, DD, L, by omega, n8, hB⟩
  rcases rngN a 0 500 (by omega) (by omega) with ⟨n, -, hn, rfl, -⟩ | ⟨-, na⟩ | ⟨-, na⟩
  · obtain ⟨r, u, w, e1, e2, e3, e4⟩ := tick_ok hk hT h hH fu hf hn
    refine ⟨r, u, w, ?_, ?_, e3, e4⟩
    · have ew : f_X11_within fu (nI n) (nI 0) (nI 500) st = some (nI 1, st) := win_y fu st (x := n) (lo := 0) (hi := 500) (by omega) (by omega) (by omega)
      unfold f_X11_tick
      rw [show f_X11_within fu (nI n) 0 500 st = some (nI 1, st) from ew, ca_s, if_neg (show ¬ nI 1 = 0 by decide)]
      exact e1
    · unfold f_X12_tick
      rw [if_neg (show ¬ nI n < (0 : Int32) from fun z => by have := (nI_ltI (a := n) (b := 0) (by omega) (by omega)).mp z; omega), if_pos (show nI n ≤ (500 : Int32) from (nI_leI (a := n) (b := 500) (by omega) (by omega)).mpr hn)]
      exact e2
  · obtain ⟨e1, e2⟩ := tick_no hT fu na
    exact ⟨_, st, st, e1, e2, Fr.rf, up, hH⟩
  · obtain ⟨e1, e2⟩ := tick_no hT fu na
    exact ⟨_, st, st, e1, e2, Fr.rf, up, hH⟩
