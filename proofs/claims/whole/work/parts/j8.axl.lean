/-! PURE: axes: a tick of all of them -/
theorem AXM.c {f g : Nat → Int32} (e : ∀ k, k < 12 → g k = f k) {k : Nat} (hk : k < 12) : AXM g k = AXM f k := by
  have e1 : axP g = axP f := by unfold axP; rw [e 5 (by omega)]
  have e2 : axV g = axV f := by unfold axV; rw [e 6 (by omega)]
  have e3 : axAc g = axAc f := by unfold axAc; rw [e 4 (by omega)]
  have e4 : axM g = axM f := by unfold axM; rw [e 3 (by omega), e 10 (by omega)]
  have e5 : axT g = axT f := by unfold axT; rw [e 7 (by omega)]
  unfold AXM
  rw [e1, e2, e3, e4, e5, e 0 (by omega), e k hk]
theorem AXL.c {f g : Nat → Int32} (e : ∀ k, k < 12 → g k = f k) {k : Nat} (hk : k < 12) : AXL g k = AXL f k := by
  unfold AXL
  rw [e 0 (by omega), e k hk, e 8 (by omega), e 10 (by omega), e 5 (by omega)]
/-! what ends at a lock that is false -/
theorem dropc {u : St} (hT : Top u) {n : Nat} (hn : n < 8) (fu : Nat) (K : Nat → Int32 → St → Option St) : (gI u (8 + 2 * n) 7 = -nI 1 → b_X7_step_2_b fu K 4 (nI n) u = K 4 (nI (n + 1)) u) ∧ (¬ gI u (8 + 2 * n) 7 = -nI 1 → ∀ b : Bool, f_X7_lockTrue fu 4 (nI n) u = some (nI b.toNat, u) → b_X7_step_2_b fu K 4 (nI n) u = K 4 (nI (n + 1)) (if b then u else sI u (8 + 2 * n) 7 (-nI 1))) := by
  obtain ⟨r5, k5⟩ := axR hn hT
  refine ⟨fun h => ?_, fun h b e => ?_⟩
  · simp (disch := first | decide | omega) [↓bd_e, isb, ck_tt, NP, NF, NC, NB, NS, GS, kdC, tpC hT, b_X7_step_2_b, b_X7_step_39, r5, k5, h]
  · cases b with
    | false =>
      have e' : f_X7_lockTrue fu 4 (nI n) u = some (nI 0, u) := e
      show _ = K 4 (nI (n + 1)) (sI u (8 + 2 * n) 7 (-nI 1))
      simp (disch := first | decide | omega) [↓bd_e, isb, ck_tt, NP, NF, NC, NB, NS, GS, kdC, tpC hT, b_X7_step_2_b, b_X7_step_39, r5, k5, h, ↓caO e']
    | true =>
      have e' : f_X7_lockTrue fu 4 (nI n) u = some (nI 1, u) := e
      show _ = K 4 (nI (n + 1)) u
      simp (disch := first | decide | omega) [↓bd_e, isb, ck_tt, NP, NF, NC, NB, NS, GS, kdC, tpC hT, b_X7_step_2_b, b_X7_step_39, r5, k5, h, ↓caO e']
theorem dropr {w : St} (hT : Top w) {n : Nat} (hn : n < 8) (fu : Nat) (K : Nat → Int32 → St → Option St) : ((gI w 198 n = nI 0 ∨ gI w 205 n = -nI 1) → b_X12_oneTick_174_b fu K 153 (nI n) w = K 153 (nI (n + 1)) w) ∧ (¬ gI w 198 n = nI 0 → ¬ gI w 205 n = -nI 1 → ∀ (b : Bool) (w1 : St), Top w1 → f_X12_isTrue fu 153 (nI n) w = some (nI b.toNat, w1) → b_X12_oneTick_174_b fu K 153 (nI n) w = K 153 (nI (n + 1)) (if b then w1 else sI w1 205 n (-nI 1))) := by
  refine ⟨fun h => ?_, fun h0 h b w1 hT1 e => ?_⟩
  · by_cases z : gI w 198 n = nI 0
    · simp (disch := first | decide | omega) [↓bd_e, isb, ck_tt, NP, NF, NC, NB, NS, GS, kdR, tpR hT, b_X12_oneTick_174_b, b_X12_oneTick_214, z]
    · have h' : gI w 205 n = -nI 1 := by rcases h with q | q; exact absurd q z; exact q
      simp (disch := first | decide | omega) [↓bd_e, isb, ck_tt, NP, NF, NC, NB, NS, GS, kdR, tpR hT, b_X12_oneTick_174_b, b_X12_oneTick_214, z, h']
  · have r61 := tp_153_61 hT1
    cases b with
    | false =>
      have e' : f_X12_isTrue fu 153 (nI n) w = some (nI 0, w1) := e
      show _ = K 153 (nI (n + 1)) (sI w1 205 n (-nI 1))
      simp (disch := first | decide | omega) [↓bd_e, isb, ck_tt, NP, NF, NC, NB, NS, GS, kdR, tpR hT, b_X12_oneTick_174_b, b_X12_oneTick_214, h0, h, ↓caO e', r61]
    | true =>
      have e' : f_X12_isTrue fu 153 (nI n) w = some (nI 1, w1) := e
      show _ = K 153 (nI (n + 1)) w1
      simp (disch := first | decide | omega) [↓bd_e, isb, ck_tt, NP, NF, NC, NB, NS, GS, kdR, tpR hT, b_X12_oneTick_174_b, b_X12_oneTick_214, h0, h, ↓caO e']
theorem drop_2 {L : Nat → Option LK} {fu : Nat} (hf : 100 ≤ fu) : ∀ (F F' n : Nat) (u w : St), n ≤ 8 → 8 < F + n → 8 < F' + n → Top u → Top w → P_ax (mg u w) → P_ev (mg u w) → P_cod u → LCk L u → LRk L w → ∃ u' w', b_X7_step_2 fu F 4 (nI n) u = b_X7_step_47 fu fu 4 (nI 0) u' ∧ b_X12_oneTick_174 fu F' 153 (nI n) w = b_X12_oneTick_222 fu fu 153 (nI 0) w' ∧ Fr WTo u u' ∧ Fr WTr w w' ∧ Top u' ∧ Top w' ∧ P_ax (mg u' w') := by
  intro F
  induction F with
  | zero => intro F' n u w h1 h2; omega
  | succ F ih =>
    intro F' n u w hn hF hF' hTu hTw hA hE hCo hC hR
    obtain ⟨F', rfl⟩ : ∃ x, F' = x + 1 := ⟨F' - 1, by omega⟩
    have un : b_X7_step_2 fu (F + 1) 4 (nI n) u = b_X7_step_2_b fu (b_X7_step_2 fu F) 4 (nI n) u := rfl
    have ur : b_X12_oneTick_174 fu (F' + 1) 153 (nI n) w = b_X12_oneTick_174_b fu (b_X12_oneTick_174 fu F') 153 (nI n) w := rfl
    rw [un, ur]
    by_cases c : n = 8
    · subst c
      refine ⟨u, w, ?_, ?_, Fr.rf, Fr.rf, hTu, hTw, hA⟩
      · unfold b_X7_step_2_b
        rw [if_pos (show (8 : Int32) ≤ nI 8 from Int32.le_refl _)]; rfl
      · unfold b_X12_oneTick_174_b
        rw [if_pos (show (8 : Int32) ≤ nI 8 from Int32.le_refl _)]; rfl
    · have hn8 : n < 8 := by omega
      obtain ⟨c1, c2⟩ := dropc hTu hn8 fu (b_X7_step_2 fu F)
      obtain ⟨r1, r2⟩ := dropr hTw hn8 fu (b_X12_oneTick_174 fu F')
      have eC : ∀ k, gI (mg u w) (8 + 2 * n) k = gI u (8 + 2 * n) k := fun k => by rw [(mgC u w (o := 8 + 2 * n) (by omega)).1]
      have eR : ∀ k, gI (mg u w) (198 + k) n = gI w (198 + k) n := fun k => by rw [(mgR u w (o := 198 + k) (by omega)).1]
      have e7 : gI u (8 + 2 * n) 7 = gI w 205 n := by rw [← eC, hA.1 n 7 hn8 (by omega)]; exact eR 7
      have e0 : gI u (8 + 2 * n) 0 = gI w 198 n := by rw [← eC, hA.1 n 0 hn8 (by omega)]; exact eR 0
      by_cases h7 : gI u (8 + 2 * n) 7 = -nI 1
      · rw [c1 h7, r1 (Or.inr (by rw [← e7]; exact h7))]
        exact ih F' (n + 1) u w (by omega) (by omega) (by omega) hTu hTw hA hE hCo hC hR
      · have h0 : ¬ gI w 198 n = nI 0 := fun z => by
          rcases hA.2.1 n hn8 with ⟨o1, o2⟩ | ⟨o1, -⟩
          · rw [eC] at o2; exact h7 o2
          · rw [eC, e0, z] at o1; exact absurd o1 (by decide)
        have e6 : gI (mg u w) 6 = gI u 6 := (mgC u w (by omega)).1
        have e210 : gI (mg u w) 210 = gI w 210 := (mgR u w (by omega)).1
        have hE6 : ∀ k, gI u 6 k = 0 ∨ gI u 6 k = 1 := fun k => by rw [← e6]; exact hE.2 k
        have q1 := lkC hC hTu hE6 hn8 hf
        obtain ⟨w1, q2, fr1, hT1⟩ := lkR hR hTw (E := gI u 6) (A := axA u) (fun k _ => ⟨by rw [← e210, ← hE.1, e6], hE6 k⟩) (fun k hk => by
          have a : ∀ j, j < 12 → gI w (198 + j) k = axA u k j := fun j hj => by
            show _ = gI u (8 + 2 * k) j
            rw [← (mgR u w (o := 198 + j) (by omega)).1, ← (mgC u w (o := 8 + 2 * k) (by omega)).1]
            exact (hA.1 k j hk hj).symm
          exact ⟨a 0 (by omega), a 8 (by omega), a 9 (by omega)⟩) hn8 hf
        obtain ⟨b, hb⟩ : ∃ b, b = lkV (L n) (gI u 6) (axA u) := ⟨_, rfl⟩
        rw [← hb] at q1 q2
        rw [c2 h7 b q1, r2 h0 (by rw [← e7]; exact h7) b w1 hT1 q2]
        have fr1' : Fr WTr w w1 := fr1.wd (by decide)
        have fm0 := mg_fr (Fr.rf (W := []) (st := u)) fr1
        have hA1 : P_ax (mg u w1) := hA.fr (fm0.same (by decide))
        have hE1 : P_ev (mg u w1) := hE.fe (fm0.fi 6 (by decide)) (fm0.fi 210 (by decide))
        have hR1 : LRk L w1 := hR.fr (fr1.same (by decide))
        cases b with
        | true =>
          obtain ⟨u2, w2, g1, g2, g3, g4, g5⟩ := ih F' (n + 1) u w1 (by omega) (by omega) (by omega) hTu hT1 hA1 hE1 hCo hC hR1
          exact ⟨u2, w2, g1, g2, g3, fr1'.tt g4, g5⟩
        | false =>
          have f1 : Fr WTo u (sI u (8 + 2 * n) 7 (-nI 1)) := WTo_n hn8 (Or.inl rfl) (Fr.i _ _ _ _)
          have f2 : Fr WTr w1 (sI w1 205 n (-nI 1)) := (Fr.ia w1 205 _ _).wd (by decide)
          have fm := mg_fr f1 f2
          have hA2 : P_ax (mg (sI u (8 + 2 * n) 7 (-nI 1)) (sI w1 205 n (-nI 1))) := by
            rw [mg_sR _ _ (by omega), mg_sC _ _ (by omega)]
            exact ax_set hA1 hn8 _ (k := 7) (Or.inr rfl) (fun _ => Or.inl rfl)
          obtain ⟨u2, w2, g1, g2, g3, g4, g5⟩ := ih F' (n + 1) (sI u (8 + 2 * n) 7 (-nI 1)) (sI w1 205 n (-nI 1)) (by omega) (by omega) (by omega) (hTu.r rfl) (hT1.r rfl) hA2 (hE1.fe (fm.fi 6 (by decide)) (fm.fi 210 (by decide))) (hCo.fr (f1.same (by decide))) (hC.fr hCo (f1.same (by decide))) (hR1.fr (f2.same (by decide)))
          exact ⟨u2, w2, g1, g2, f1.tt g3, fr1'.tt (f2.tt g4), g5⟩
/-! class: moves and looks -/
def lkS (o : Nat) (s : St) : St := if gI s o 10 &&& 2 = 0 then sI (sI s o 9 (gI s o 8)) o 8 (gI s o 5) else sI s o 9 (gI s o 8)
theorem look_c {s : St} {o : Nat} (ko : kd o = (0, 0)) (fu : Nat) : f_X0_look fu o s = some (lkS o s) := by
  have g10 : gI (sI s o 9 (gI s o 8)) o 10 = gI s o 10 := by rw [gI_sI, if_neg (by omega)]
  have g5 : gI (sI s o 9 (gI s o 8)) o 5 = gI s o 5 := by rw [gI_sI, if_neg (by omega)]
  unfold f_X0_look b_X0_look_25 lkS
  rw [ck_t (show (kd o).1 = 0 by rw [ko]), ck_t (show (kd o).1 = 0 by rw [ko]), bd_e, ck_t (show (kd o).1 = 0 by rw [ko]), g10, ck_t (show (kd o).1 = 0 by rw [ko]), ck_t (show (kd o).1 = 0 by rw [ko]), g5, bd_e]
  by_cases c : gI s o 10 &&& 2 = 0
  · rw [if_pos c, if_pos c]
  · rw [if_neg c, if_neg c]
theorem lkS_g (o : Nat) (s : St) (k : Nat) (h0 : ¬ gI s o 0 = nI 0) : gI (lkS o s) o k = AXL (gI s o) k := by
  unfold lkS AXL
  rw [if_neg h0]
  by_cases c : gI s o 10 &&& 2 = 0
  · rw [if_pos c, if_pos c, gI_sI]
    by_cases k8 : k = 8
    · rw [if_pos ⟨rfl, k8⟩, if_neg (by omega), if_pos k8]
    · rw [if_neg (by omega), gI_sI]
      by_cases k9 : k = 9
      · rw [if_pos ⟨rfl, k9⟩, if_pos k9]
      · rw [if_neg (by omega), if_neg k9, if_neg k8]
  · rw [if_neg c, if_neg c, gI_sI]
    by_cases k9 : k = 9
    · rw [if_pos ⟨rfl, k9⟩, if_pos k9]
    · rw [if_neg (by omega), if_neg k9]
      by_cases k8 : k = 8
      · rw [if_pos k8, k8]
      · rw [if_neg k8]
theorem lkS_f (o : Nat) (s : St) : Fr [(o, some 8), (o, some 9)] s (lkS o s) ∧ gR (lkS o s) = gR s := by
  unfold lkS
  by_cases c : gI s o 10 &&& 2 = 0
  · rw [if_pos c]; exact ⟨((Fr.i s o 9 _).tr (Fr.i _ o 8 _)).wd (by simp [within']), rfl⟩
  · rw [if_neg c]; exact ⟨(Fr.i s o 9 _).wd (by simp [within']), rfl⟩
theorem mvS_g {o : Nat} {s : St} {p x : Int} {T : Int32} (k : Nat) : gI (mvS o p x T s) o k = if k = 7 then T else if k = 5 then zI (p + x) else if k = 6 then zI x else gI s o k := by
  unfold mvS
  rw [gI_sI]
  by_cases k7 : k = 7
  · rw [if_pos ⟨rfl, k7⟩, if_pos k7]
  · rw [if_neg (by omega), if_neg k7, gI_sI]
    by_cases k5 : k = 5
    · rw [if_pos ⟨rfl, k5⟩, if_pos k5]
    · rw [if_neg (by omega), if_neg k5, gI_sI]
      by_cases k6 : k = 6
      · rw [if_pos ⟨rfl, k6⟩, if_pos k6]
      · rw [if_neg (by omega), if_neg k6]
def WM1 (o : Nat) : List PL := [(o, some 5), (o, some 6), (o, some 7), (o, some 8), (o, some 9)]
theorem mvS_f (o : Nat) (s : St) (p x : Int) (T : Int32) : Fr (WM1 o) s (mvS o p x T s) ∧ gR (mvS o p x T s) = gR s := by
  unfold mvS
  exact ⟨(((Fr.i s o 6 _).tr (Fr.i _ o 5 _)).tr (Fr.i _ o 7 _)).wd (by simp [within', WM1]), rfl⟩
/-- one axis that is there: moved and looked at -/
theorem ax1_c {u : St} {n : Nat} (hn : n < 8) (hO : axOK (gI u (8 + 2 * n))) (h0 : ¬ gI u (8 + 2 * n) 0 = nI 0) (hT : Top u) {fu : Nat} (hf : 100 ≤ fu) : ∃ s6 u', f_X0_move fu (8 + 2 * n) u = some s6 ∧ f_X0_look fu (8 + 2 * n) s6 = some u' ∧ Fr (WM1 (8 + 2 * n)) u u' ∧ Top u' ∧ Top s6 ∧ ∀ k, k < 12 → gI u' (8 + 2 * n) k = AXL (AXM (gI u (8 + 2 * n))) k := by
  obtain ⟨r5, k5⟩ := axR hn hT
  obtain ⟨sp, a, fl, e3, e4, e10, s1, s2, a1, a2, f7, e5, e6, e7, ht, hp, hv, ea, eM, r1, r2⟩ := ax_d hO h0
  have mc := move_c k5 e3 e4 e10 s1 s2 a1 a2 f7 e5 e6 e7 ht hp hv hf
  obtain ⟨s6, hs6⟩ : ∃ s6, s6 = mvS (8 + 2 * n) (axP (gI u (8 + 2 * n))) (mvV a (tpS sp fl) (axP (gI u (8 + 2 * n))) (axV (gI u (8 + 2 * n))) (axT (gI u (8 + 2 * n)))) (mvT a (tpS sp fl) (axP (gI u (8 + 2 * n))) (axV (gI u (8 + 2 * n))) (axT (gI u (8 + 2 * n)))) u := ⟨_, rfl⟩
  rw [← hs6] at mc
  obtain ⟨f1, f2⟩ := mvS_f (8 + 2 * n) u (axP (gI u (8 + 2 * n))) (mvV a (tpS sp fl) (axP (gI u (8 + 2 * n))) (axV (gI u (8 + 2 * n))) (axT (gI u (8 + 2 * n)))) (mvT a (tpS sp fl) (axP (gI u (8 + 2 * n))) (axV (gI u (8 + 2 * n))) (axT (gI u (8 + 2 * n))))
  rw [← hs6] at f1 f2
  have g6 : ∀ k, gI s6 (8 + 2 * n) k = AXM (gI u (8 + 2 * n)) k := fun k => by
    rw [hs6, mvS_g]
    unfold AXM
    rw [if_neg h0, ea, eM]
    by_cases k6 : k = 6
    · rw [if_neg (by omega), if_neg (by omega), if_pos k6, if_pos k6]
    · rw [if_neg k6, if_neg k6]
      by_cases k5' : k = 5
      · rw [if_neg (by omega), if_pos k5', if_pos k5']
      · rw [if_neg k5', if_neg k5']
  have h06 : ¬ gI s6 (8 + 2 * n) 0 = nI 0 := by rw [f1.ki _ 0 (by simp [WM1, covers])]; exact h0
  obtain ⟨q1, q2⟩ := lkS_f (8 + 2 * n) s6
  have hT6 : Top s6 := hT.r f2
  refine ⟨s6, lkS (8 + 2 * n) s6, mc, look_c k5 fu, f1.tt (q1.wd (by simp [within', WM1])), hT6.r q2, hT6, fun k hk => ?_⟩
  rw [lkS_g _ _ _ h06]
  exact AXL.c (fun j _ => g6 j) hk
def WMc : List PL := (WM1 8) ++ (WM1 10) ++ (WM1 12) ++ (WM1 14) ++ (WM1 16) ++ (WM1 18) ++ (WM1 20) ++ (WM1 22)
theorem WMc_n {n : Nat} (hn : n < 8) {a b : St} (h : Fr (WM1 (8 + 2 * n)) a b) : Fr WMc a b := by
  have : ∀ n, n < 8 → within' (WM1 (8 + 2 * n)) WMc = true := by decide
  exact h.wd (this n hn)
theorem mvl_c {fu : Nat} (hf : 100 ≤ fu) : ∀ (F n : Nat) (u : St), n ≤ 8 → 8 < F + n → Top u → (∀ m, m < 8 → axOK (gI u (8 + 2 * m))) → ∃ u', b_X7_step_47 fu F 4 (nI n) u = some u' ∧ Fr WMc u u' ∧ Top u' ∧ ∀ m, m < 8 → ∀ k, k < 12 → gI u' (8 + 2 * m) k = if n ≤ m then (if gI u (8 + 2 * m) 0 = nI 0 then gI u (8 + 2 * m) k else AXL (AXM (gI u (8 + 2 * m))) k) else gI u (8 + 2 * m) k := by
  intro F
  induction F with
  | zero => intro n u h1 h2; omega
  | succ F ih =>
    intro n u hn hF hTu hO
    have un : b_X7_step_47 fu (F + 1) 4 (nI n) u = b_X7_step_47_b fu (b_X7_step_47 fu F) 4 (nI n) u := rfl
    rw [un]
    by_cases c : n = 8
    · subst c
      refine ⟨u, ?_, Fr.rf, hTu, fun m hm k hk => by rw [if_neg (by omega)]⟩
      unfold b_X7_step_47_b
      rw [if_pos (show (8 : Int32) ≤ nI 8 from Int32.le_refl _)]
    · have hn8 : n < 8 := by omega
      obtain ⟨r5, k5⟩ := axR hn8 hTu
      by_cases z : gI u (8 + 2 * n) 0 = nI 0
      · obtain ⟨u', e1, e2, e3, e4⟩ := ih (n + 1) u (by omega) (by omega) hTu hO
        refine ⟨u', ?_, e2, e3, fun m hm k hk => ?_⟩
        · rw [← e1]
          clear ih un hO e1 e2 e3 e4
          have hT := hTu
          simp (disch := first | decide | omega) [↓bd_e, isb, ck_tt, NP, NF, NC, NB, NS, GS, kdC, tpC hT, b_X7_step_47_b, b_X7_step_83, r5, k5, z]
        · rw [e4 m hm k hk]
          by_cases q : m = n
          · subst q; rw [if_neg (by omega), if_pos (Nat.le_refl _), if_pos z]
          · by_cases q2 : n + 1 ≤ m
            · rw [if_pos q2, if_pos (show n ≤ m by omega)]
            · rw [if_neg q2, if_neg (show ¬ n ≤ m by omega)]
      · obtain ⟨s6, u1, m1, m2, m3, m4, m4', m5⟩ := ax1_c hn8 (hO n hn8) z hTu hf
        have oth : ∀ m, m < 8 → m ≠ n → gI u1 (8 + 2 * m) = gI u (8 + 2 * m) := fun m hm hne => m3.fi _ (by simp [WM1] <;> omega)
        have hO1 : ∀ m, m < 8 → axOK (gI u1 (8 + 2 * m)) := fun m hm => by
          by_cases q : m = n
          · subst q; exact ((hO m hm).mv.lk).congr (fun k hk => m5 k hk)
          · rw [oth m hm q]; exact hO m hm
        obtain ⟨u', e1, e2, e3, e4⟩ := ih (n + 1) u1 (by omega) (by omega) m4 hO1
        refine ⟨u', ?_, (WMc_n hn8 m3).tt e2, e3, fun m hm k hk => ?_⟩
        · rw [← e1]
          have r56 := (axR hn8 m4').1
          clear ih un hO hO1 e1 e2 e3 e4 m5 oth
          have hT := hTu
          have t40 := tp_4_0 m4'
          simp (disch := first | decide | omega) [↓bd_e, isb, ck_tt, NP, NF, NC, NB, NS, GS, kdC, tpC hT, b_X7_step_47_b, b_X7_step_83, r5, k5, z, ↓cvO m1, r56, t40, ↓cvO m2]
        · rw [e4 m hm k hk]
          by_cases q : m = n
          · subst q
            rw [if_neg (by omega), if_pos (Nat.le_refl _), if_neg z, m5 k hk]
          · rw [oth m hm q]
            by_cases q2 : n + 1 ≤ m
            · rw [if_pos q2, if_pos (show n ≤ m by omega)]
            · rw [if_neg q2, if_neg (show ¬ n ≤ m by omega)]
