/-! PURE: axes: a tick of all of them, reference; both -/
theorem mvR_g {n : Nat} {s : St} {p x : Int} {T : Int32} {k : Nat} (hk : k < 12) (m : Nat) : gI (mvR n p x T s) (198 + k) m = if m = n then (if k = 7 then T else if k = 5 then zI (p + x) else if k = 6 then zI x else gI s (198 + k) m) else gI s (198 + k) m := by
  unfold mvR
  rw [gI_sI, gI_sI, gI_sI]
  by_cases e : m = n
  · rw [if_pos e]
    by_cases k7 : k = 7
    · rw [if_pos k7, if_pos (by omega)]
    · rw [if_neg k7, if_neg (by omega)]
      by_cases k5 : k = 5
      · rw [if_pos k5, if_pos (by omega)]
      · rw [if_neg k5, if_neg (by omega)]
        by_cases k6 : k = 6
        · rw [if_pos k6, if_pos (by omega)]
        · rw [if_neg k6, if_neg (by omega)]
  · rw [if_neg e, if_neg (by omega), if_neg (by omega), if_neg (by omega)]
theorem mvR_f (n : Nat) (s : St) (p x : Int) (T : Int32) : Fr [(203, none), (204, none), (205, none)] s (mvR n p x T s) ∧ gR (mvR n p x T s) = gR s := by
  unfold mvR
  exact ⟨(((Fr.ia s 204 n _).tr (Fr.ia _ 203 n _)).tr (Fr.ia _ 205 n _)).wd (by decide), rfl⟩
def axW (w : St) (m : Nat) : Nat → Int32 := fun k => gI w (198 + k) m
theorem AXM_0 {f : Nat → Int32} (h : f 0 = nI 0) (k : Nat) : AXM f k = f k := if_pos h
theorem AXL_0 {f : Nat → Int32} (h : f 0 = nI 0) (k : Nat) : AXL f k = f k := if_pos h
theorem AXM_z (f : Nat → Int32) : AXM f 0 = f 0 := by
  unfold AXM
  by_cases h : f 0 = nI 0
  · rw [if_pos h]
  · rw [if_neg h, if_neg (by decide), if_neg (by decide), if_neg (by decide)]
theorem ax1_r {w : St} {n : Nat} (hn : n < 8) (hO : axOK (axW w n)) (h0 : ¬ gI w 198 n = nI 0) (hT : Top w) {fu : Nat} (hf : 3000 ≤ fu) : ∃ w', f_X12_moveAxis fu 153 (nI n) w = some w' ∧ Fr [(203, none), (204, none), (205, none)] w w' ∧ Top w' ∧ ∀ m k, k < 12 → gI w' (198 + k) m = if m = n then AXM (axW w n) k else gI w (198 + k) m := by
  have h0' : ¬ axW w n 0 = nI 0 := h0
  obtain ⟨sp, a, fl, e3, e4, e10, s1, s2, a1, a2, f7, e5, e6, e7, ht, hp, hv, ea, eM, r1, r2⟩ := ax_d hO h0'
  have mc := move_r hT hn (show gI w 201 n = nI sp from e3) (show gI w 202 n = nI a from e4) (show gI w 208 n = nI fl from e10) s1 s2 a1 a2 f7 (show gI w 203 n = _ from e5) (show gI w 204 n = _ from e6) (show gI w 205 n = _ from e7) ht hp hv hf
  obtain ⟨f1, f2⟩ := mvR_f n w (axP (axW w n)) (mvV a (tpS sp fl) (axP (axW w n)) (axV (axW w n)) (axT (axW w n))) (mvT a (tpS sp fl) (axP (axW w n)) (axV (axW w n)) (axT (axW w n)))
  refine ⟨_, mc, f1, hT.r f2, fun m k hk => ?_⟩
  rw [mvR_g hk]
  by_cases e : m = n
  · subst e
    rw [if_pos rfl, if_pos rfl]
    unfold AXM
    rw [if_neg h0', ea, eM]
    by_cases k6 : k = 6
    · rw [if_neg (show ¬ k = 7 by omega), if_neg (show ¬ k = 5 by omega), if_pos k6, if_pos k6]
    · rw [if_neg k6, if_neg k6]
      by_cases k5' : k = 5
      · rw [if_neg (show ¬ k = 7 by omega), if_pos k5', if_pos k5']
      · rw [if_neg k5', if_neg k5']; rfl
  · rw [if_neg e, if_neg e]
theorem mvl_r {fu : Nat} (hf : 3000 ≤ fu) : ∀ (F n : Nat) (w : St), n ≤ 8 → 8 < F + n → Top w → (∀ m, m < 8 → axOK (axW w m)) → ∃ w', b_X12_oneTick_222 fu F 153 (nI n) w = b_X12_oneTick_250 fu fu 153 (nI 0) w' ∧ Fr [(203, none), (204, none), (205, none)] w w' ∧ Top w' ∧ ∀ m, m < 8 → ∀ k, k < 12 → gI w' (198 + k) m = if n ≤ m then AXM (axW w m) k else gI w (198 + k) m := by
  intro F
  induction F with
  | zero => intro n w h1 h2; omega
  | succ F ih =>
    intro n w hn hF hT hO
    have un : b_X12_oneTick_222 fu (F + 1) 153 (nI n) w = b_X12_oneTick_222_b fu (b_X12_oneTick_222 fu F) 153 (nI n) w := rfl
    rw [un]
    by_cases c : n = 8
    · subst c
      refine ⟨w, ?_, Fr.rf, hT, fun m hm k hk => by rw [if_neg (by omega)]⟩
      unfold b_X12_oneTick_222_b
      rw [if_pos (show (8 : Int32) ≤ nI 8 from Int32.le_refl _)]; rfl
    · have hn8 : n < 8 := by omega
      by_cases z : gI w 198 n = nI 0
      · obtain ⟨w', e1, e2, e3, e4⟩ := ih (n + 1) w (by omega) (by omega) hT hO
        refine ⟨w', ?_, e2, e3, fun m hm k hk => ?_⟩
        · rw [← e1]
          clear ih un hO e1 e2 e3 e4
          simp (disch := first | decide | omega) [↓bd_e, isb, ck_tt, NP, NF, NC, NB, NS, GS, kdR, tpR hT, b_X12_oneTick_222_b, b_X12_oneTick_242, z]
        · rw [e4 m hm k hk]
          by_cases q : m = n
          · subst q; rw [if_neg (show ¬ m + 1 ≤ m by omega), if_pos (Nat.le_refl _), AXM_0 (show axW w m 0 = nI 0 from z)]; rfl
          · by_cases q2 : n + 1 ≤ m
            · rw [if_pos q2, if_pos (show n ≤ m by omega)]
            · rw [if_neg q2, if_neg (show ¬ n ≤ m by omega)]
      · obtain ⟨w1, m1, m3, m4, m5⟩ := ax1_r hn8 (hO n hn8) z hT hf
        have oth : ∀ m, m ≠ n → ∀ k, k < 12 → axW w1 m k = axW w m k := fun m hne k hk => by
          show gI w1 (198 + k) m = gI w (198 + k) m
          rw [m5 m k hk, if_neg hne]
        have own : ∀ k, k < 12 → axW w1 n k = AXM (axW w n) k := fun k hk => by
          show gI w1 (198 + k) n = _
          rw [m5 n k hk, if_pos rfl]
        have hO1 : ∀ m, m < 8 → axOK (axW w1 m) := fun m hm => by
          by_cases q : m = n
          · subst q; exact (hO m hm).mv.congr own
          · exact (hO m hm).congr (oth m q)
        obtain ⟨w', e1, e2, e3, e4⟩ := ih (n + 1) w1 (by omega) (by omega) m4 hO1
        refine ⟨w', ?_, m3.tt e2, e3, fun m hm k hk => ?_⟩
        · rw [← e1]
          clear ih un hO hO1 e1 e2 e3 e4 m5 oth own
          simp (disch := first | decide | omega) [↓bd_e, isb, ck_tt, NP, NF, NC, NB, NS, GS, kdR, tpR hT, b_X12_oneTick_222_b, b_X12_oneTick_242, z, ↓cvO m1]
        · rw [e4 m hm k hk]
          by_cases q : m = n
          · subst q
            rw [if_neg (show ¬ m + 1 ≤ m by omega), if_pos (Nat.le_refl _)]
            exact own k hk
          · by_cases q2 : n + 1 ≤ m
            · rw [if_pos q2, if_pos (show n ≤ m by omega)]
              exact AXM.c (oth m q) hk
            · rw [if_neg q2, if_neg (show ¬ n ≤ m by omega)]
              exact oth m q k hk
theorem lk1_r {w : St} {n : Nat} (hn : n < 8) (hO : axOK (axW w n)) (h0 : ¬ gI w 198 n = nI 0) (hT : Top w) (fu : Nat) (K : Nat → Int32 → St → Option St) : b_X12_oneTick_250_b fu K 153 (nI n) w = K 153 (nI (n + 1)) (sI (sI w 207 n (gI w 206 n)) 206 n (if gI w 208 n &&& 2 = 0 then gI w 203 n else gI w 206 n)) := by
  obtain ⟨sp, a, fl, e3, e4, e10, s1, s2, a1, a2, f7, -⟩ := ax_d hO (show ¬ axW w n 0 = nI 0 from h0)
  have h208 : gI w 208 n = nI fl := e10
  have fd : ∀ fl, fl ≤ 7 → ((nI fl / 2 - nI fl / 2 / 2 * 2 = nI 1) ↔ ¬ nI fl &&& 2 = 0) := by decide +kernel
  have fd := fd fl f7
  rw [h208]
  clear hO e3 e4 e10
  have ib : inb (nI n) 8 := by simp (disch := first | decide | omega) [NF, NC, NB, inb]
  have ia : ix (nI n) = n := ixN (by omega)
  obtain ⟨s1', hs1⟩ : ∃ s, s = sI w 207 n (gI w 206 n) := ⟨_, rfl⟩
  have hT1 : Top s1' := hT.r (by rw [hs1]; rfl)
  have g208 : gI s1' 208 n = nI fl := by rw [hs1, gI_sI_n _ _ _ (by decide)]; exact h208
  have g206 : gI s1' 206 n = gI w 206 n := by rw [hs1, gI_sI_n _ _ _ (by decide)]
  have g203 : gI s1' 203 n = gI w 203 n := by rw [hs1, gI_sI_n _ _ _ (by decide)]
  unfold b_X12_oneTick_250_b b_X12_oneTick_311 b_X12_oneTick_312
  rw [if_neg (show ¬ (8 : Int32) ≤ nI n from fun z => by have := (nI_leI (a := 8) (b := n) (by omega) (by omega)).mp z; omega), tp_153_54 hT, ck_t (show ¬ 198 = 0 by decide), ck_t (show (kd 153).1 = 12 from rfl), bd_e, ck_t (show (kd 198).1 = 102 ∧ inb (nI n) (kd 198).2 from ⟨rfl, ib⟩), ia, if_neg (show ¬ gI w 198 n = 0 from h0), tp_153_63 hT, ck_t (show ¬ 207 = 0 by decide), ck_t (show (kd 153).1 = 12 from rfl), bd_e, tp_153_62 hT, ck_t (show ¬ 206 = 0 by decide), ck_t (show (kd 153).1 = 12 from rfl), bd_e, ck_t (show (kd 206).1 = 100 ∧ inb (nI n) (kd 206).2 from ⟨rfl, ib⟩), ck_t (show (kd 207).1 = 100 ∧ inb (nI n) (kd 207).2 from ⟨rfl, ib⟩), ← hs1, bd_e, tp_153_62 hT1, ck_t (show ¬ 206 = 0 by decide), ck_t (show (kd 153).1 = 12 from rfl), bd_e, tp_153_64 hT1, ck_t (show ¬ 208 = 0 by decide), ck_t (show (kd 153).1 = 12 from rfl), bd_e, ck_t (show (kd 208).1 = 100 ∧ inb (nI n) (kd 208).2 from ⟨rfl, ib⟩), ck_t (by decide), ck_t (by decide), g208]
  have i1 : nI n + 1 = nI (n + 1) := nI_add n 1
  by_cases c : nI fl &&& 2 = 0
  · rw [if_neg (show ¬ nI fl / 2 - nI fl / 2 / 2 * 2 = 1 from fun z => fd.mp z c), tp_153_59 hT1, ck_t (show ¬ 203 = 0 by decide), ck_t (show (kd 153).1 = 12 from rfl), bd_e, ck_t (show (kd 203).1 = 100 ∧ inb (nI n) (kd 203).2 from ⟨rfl, ib⟩), ck_t (show (kd 206).1 = 100 ∧ inb (nI n) (kd 206).2 from ⟨rfl, ib⟩), g203, bd_e, i1, bd_e, if_pos c]
  · rw [if_pos (show nI fl / 2 - nI fl / 2 / 2 * 2 = 1 from fd.mpr c), ck_t (show ¬ 206 = 0 by decide), ck_t (show (kd 153).1 = 12 from rfl), bd_e, ck_t (show (kd 206).1 = 100 ∧ inb (nI n) (kd 206).2 from ⟨rfl, ib⟩), ck_t (show (kd 206).1 = 100 ∧ inb (nI n) (kd 206).2 from ⟨rfl, ib⟩), g206, bd_e, i1, bd_e, if_neg c]
theorem lkl_r {fu : Nat} : ∀ (F n : Nat) (w : St), n ≤ 8 → 8 < F + n → Top w → (∀ m, m < 8 → axOK (axW w m)) → ∃ w', b_X12_oneTick_250 fu F 153 (nI n) w = b_X12_oneTick_320 fu fu 153 (nI 0) w' ∧ Fr [(206, none), (207, none)] w w' ∧ Top w' ∧ ∀ m, m < 8 → ∀ k, k < 12 → gI w' (198 + k) m = if n ≤ m then AXL (axW w m) k else gI w (198 + k) m := by
  intro F
  induction F with
  | zero => intro n w h1 h2; omega
  | succ F ih =>
    intro n w hn hF hT hO
    have un : b_X12_oneTick_250 fu (F + 1) 153 (nI n) w = b_X12_oneTick_250_b fu (b_X12_oneTick_250 fu F) 153 (nI n) w := rfl
    rw [un]
    by_cases c : n = 8
    · subst c
      refine ⟨w, ?_, Fr.rf, hT, fun m hm k hk => by rw [if_neg (by omega)]⟩
      unfold b_X12_oneTick_250_b
      rw [if_pos (show (8 : Int32) ≤ nI 8 from Int32.le_refl _)]; rfl
    · have hn8 : n < 8 := by omega
      by_cases z : gI w 198 n = nI 0
      · obtain ⟨w', e1, e2, e3, e4⟩ := ih (n + 1) w (by omega) (by omega) hT hO
        refine ⟨w', ?_, e2, e3, fun m hm k hk => ?_⟩
        · rw [← e1]
          clear ih un hO e1 e2 e3 e4
          simp (disch := first | decide | omega) [↓bd_e, isb, ck_tt, NP, NF, NC, NB, NS, GS, kdR, tpR hT, b_X12_oneTick_250_b, b_X12_oneTick_312, z]
        · rw [e4 m hm k hk]
          by_cases q : m = n
          · subst q; rw [if_neg (show ¬ m + 1 ≤ m by omega), if_pos (Nat.le_refl _), AXL_0 (show axW w m 0 = nI 0 from z)]; rfl
          · by_cases q2 : n + 1 ≤ m
            · rw [if_pos q2, if_pos (show n ≤ m by omega)]
            · rw [if_neg q2, if_neg (show ¬ n ≤ m by omega)]
      · have one := lk1_r hn8 (hO n hn8) z hT fu (b_X12_oneTick_250 fu F)
        obtain ⟨w1, hw1⟩ : ∃ w1, w1 = sI (sI w 207 n (gI w 206 n)) 206 n (if gI w 208 n &&& 2 = 0 then gI w 203 n else gI w 206 n) := ⟨_, rfl⟩
        rw [← hw1] at one
        have m3 : Fr [(206, none), (207, none)] w w1 := by rw [hw1]; exact ((Fr.ia w 207 n _).tr (Fr.ia _ 206 n _)).wd (by decide)
        have m4 : Top w1 := hT.r (by rw [hw1]; rfl)
        have oth : ∀ m, m ≠ n → ∀ k, k < 12 → axW w1 m k = axW w m k := fun m hne k hk => by
          show gI w1 (198 + k) m = gI w (198 + k) m
          rw [hw1, gI_sI, if_neg (by omega), gI_sI, if_neg (by omega)]
        have own : ∀ k, k < 12 → axW w1 n k = AXL (axW w n) k := fun k hk => by
          show gI w1 (198 + k) n = _
          unfold AXL
          rw [if_neg (show ¬ axW w n 0 = nI 0 from z), hw1, gI_sI]
          by_cases k8 : k = 8
          · subst k8; rw [if_pos ⟨rfl, rfl⟩, if_neg (show ¬ (8 : Nat) = 9 by decide)]; rfl
          · rw [if_neg (by omega), gI_sI]
            by_cases k9 : k = 9
            · subst k9; rw [if_pos ⟨rfl, rfl⟩, if_pos rfl]; rfl
            · rw [if_neg (by omega), if_neg k9, if_neg k8]; rfl
        have hO1 : ∀ m, m < 8 → axOK (axW w1 m) := fun m hm => by
          by_cases q : m = n
          · subst q; exact (hO m hm).lk.congr own
          · exact (hO m hm).congr (oth m q)
        obtain ⟨w', e1, e2, e3, e4⟩ := ih (n + 1) w1 (by omega) (by omega) m4 hO1
        refine ⟨w', by rw [one]; exact e1, m3.tt e2, e3, fun m hm k hk => ?_⟩
        rw [e4 m hm k hk]
        by_cases q : m = n
        · subst q
          rw [if_neg (show ¬ m + 1 ≤ m by omega), if_pos (Nat.le_refl _)]
          exact own k hk
        · by_cases q2 : n + 1 ≤ m
          · rw [if_pos q2, if_pos (show n ≤ m by omega)]
            exact AXL.c (oth m q) hk
          · rw [if_neg q2, if_neg (show ¬ n ≤ m by omega)]
            exact oth m q k hk
def WXc : List PL := WTo ++ WMc
def WXr : List PL := WTr ++ [(203, none), (204, none), (206, none), (207, none)]
/-- the axes' part of a tick -/
theorem axes_2 {L : Nat → Option LK} {fu : Nat} (hf : 3000 ≤ fu) {u w : St} (hTu : Top u) (hTw : Top w) (hA : P_ax (mg u w)) (hE : P_ev (mg u w)) (hCo : P_cod u) (hC : LCk L u) (hR : LRk L w) : ∃ u' w', f_X7_step fu 4 u = some u' ∧ b_X12_oneTick_174 fu fu 153 (nI 0) w = b_X12_oneTick_320 fu fu 153 (nI 0) w' ∧ Fr WXc u u' ∧ Fr WXr w w' ∧ Top u' ∧ Top w' ∧ P_ax (mg u' w') := by
  obtain ⟨u1, w1, a1, a2, a3, a4, a5, a6, a7⟩ := drop_2 (fu := fu) (L := L) (by omega) fu fu 0 u w (by omega) (by omega) (by omega) hTu hTw hA hE hCo hC hR
  have eC : ∀ m k, m < 8 → gI (mg u1 w1) (8 + 2 * m) k = gI u1 (8 + 2 * m) k := fun m k hm => by rw [(mgC u1 w1 (o := 8 + 2 * m) (by omega)).1]
  have eR : ∀ m k, k < 12 → gI (mg u1 w1) (198 + k) m = axW w1 m k := fun m k hk => by rw [(mgR u1 w1 (o := 198 + k) (by omega)).1]; rfl
  have cr : ∀ m, m < 8 → ∀ k, k < 12 → axW w1 m k = gI u1 (8 + 2 * m) k := fun m hm k hk => by rw [← eC m k hm, ← eR m k hk]; exact (a7.1 m k hm hk).symm
  have okC : ∀ m, m < 8 → axOK (gI u1 (8 + 2 * m)) := fun m hm => (a7.2.1 m hm).congr (fun k _ => (eC m k hm).symm)
  have okR : ∀ m, m < 8 → axOK (axW w1 m) := fun m hm => (okC m hm).congr (cr m hm)
  obtain ⟨u2, b1, b2, b3, b4⟩ := mvl_c (fu := fu) (by omega) fu 0 u1 (by omega) (by omega) a5 okC
  obtain ⟨w2, c1, c2, c3, c4⟩ := mvl_r hf fu 0 w1 (by omega) (by omega) a6 okR
  have ok2 : ∀ m, m < 8 → axOK (axW w2 m) := fun m hm => (okR m hm).mv.congr (fun k hk => by
    show gI w2 (198 + k) m = _
    rw [c4 m hm k hk, if_pos (Nat.zero_le _)])
  obtain ⟨w3, d1, d2, d3, d4⟩ := lkl_r (fu := fu) fu 0 w2 (by omega) (by omega) c3 ok2
  have fu3 : Fr WXc u u2 := (a3.sub (by intro x hx; exact List.mem_append_left _ hx)).tt (b2.sub (by intro x hx; exact List.mem_append_right _ hx))
  have fw3 : Fr WXr w w3 := (a4.wd (by decide)).tt ((c2.wd (by decide)).tt (d2.wd (by decide)))
  -- the new data
  have nC : ∀ m, m < 8 → ∀ k, k < 12 → gI u2 (8 + 2 * m) k = AXL (AXM (gI u1 (8 + 2 * m))) k := fun m hm k hk => by
    rw [b4 m hm k hk, if_pos (Nat.zero_le _)]
    by_cases z : gI u1 (8 + 2 * m) 0 = nI 0
    · rw [if_pos z, AXL_0 (by rw [AXM_z]; exact z), AXM_0 z]
    · rw [if_neg z]
  have nR : ∀ m, m < 8 → ∀ k, k < 12 → gI w3 (198 + k) m = AXL (AXM (gI u1 (8 + 2 * m))) k := fun m hm k hk => by
    rw [d4 m hm k hk, if_pos (Nat.zero_le _)]
    refine AXL.c (fun j hj => ?_) hk
    show gI w2 (198 + j) m = _
    rw [c4 m hm j hj, if_pos (Nat.zero_le _)]
    exact AXM.c (cr m hm) hj
  refine ⟨u2, w3, ?_, ?_, fu3, fw3, b3, d3, fun m k hm hk => ?_, fun m hm => ?_, ?_, ?_, fun e m hm => ?_⟩
  · unfold f_X7_step
    exact a1.trans b1
  · rw [a2, c1, d1]
  · rw [(mgC u2 w3 (o := 8 + 2 * m) (by omega)).1, (mgR u2 w3 (o := 198 + k) (by omega)).1, nC m hm k hk, nR m hm k hk]
  · refine (okC m hm).mv.lk.congr (fun k hk => ?_)
    rw [(mgC u2 w3 (o := 8 + 2 * m) (by omega)).1, nC m hm k hk]
  · rw [(mgC u2 w3 (o := 4) (by omega)).1, (mgR u2 w3 (o := 153) (by omega)).1, b2.ki 4 2 (by decide), d2.ki 153 67 (by decide), c2.ki 153 67 (by decide), ← (mgC u1 w1 (o := 4) (by omega)).1, ← (mgR u1 w1 (o := 153) (by omega)).1]
    exact a7.2.2.1
  · rw [(mgC u2 w3 (o := 4) (by omega)).1, b2.ki 4 2 (by decide), ← (mgC u1 w1 (o := 4) (by omega)).1]
    exact a7.2.2.2.1
  · rw [(mgC u2 w3 (o := 4) (by omega)).1, b2.ki 4 2 (by decide), ← (mgC u1 w1 (o := 4) (by omega)).1] at e
    have h7 := a7.2.2.2.2 e m hm
    rw [eC m 7 hm] at h7
    rw [(mgC u2 w3 (o := 8 + 2 * m) (by omega)).1, nC m hm 7 (by omega)]
    have t7 : AXM (gI u1 (8 + 2 * m)) 7 = -1 := by
      unfold AXM
      by_cases z : gI u1 (8 + 2 * m) 0 = nI 0
      · rw [if_pos z]; exact h7
      · have eT : axT (gI u1 (8 + 2 * m)) = none := if_pos h7
        rw [if_neg z, if_neg (by decide), if_neg (by decide), if_pos rfl, eT]
        rfl
    unfold AXL
    by_cases z : AXM (gI u1 (8 + 2 * m)) 0 = nI 0
    · rw [if_pos z]; exact t7
    · rw [if_neg z, if_neg (by decide), if_neg (by decide)]; exact t7
