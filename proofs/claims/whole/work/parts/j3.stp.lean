/-! PURE: the lists' part of a tick: class at u, reference at w -/
def up1 (lo : Nat → Nat) (l N : Nat) : Nat → Nat := fun x => if x = l then N else lo x
theorem up1_e (lo : Nat → Nat) (l N : Nat) : up1 lo l N l = N := if_pos rfl
theorem up1_n (lo : Nat → Nat) {l N x : Nat} (h : x ≠ l) : up1 lo l N x = lo x := if_neg h
theorem m1N {N : Nat} (hN : N ≤ 200000) : ¬ (-nI 1 : Int32) = nI N := fun z => by
  have := congrArg Int32.toInt z
  rw [nI_toInt (by omega)] at this
  have e : (-nI 1 : Int32).toInt = -1 := by decide
  omega
theorem start_n {st : St} (hT : Top st) {l : Nat} (hl : l < 4) (fu : Nat) (N : Int32) : f_X1_start fu 24 (nI l) (-nI 1) N st = some st := by
  obtain ⟨r0, -⟩ := plR hl hT
  simp (disch := first | decide | omega) [↓bd_e, isb, ck_tt, NP, NF, NC, NB, NS, GS, kdC, tpC hT, f_X1_start, b_X1_start_24, r0]
/-- class: a list's step -/
theorem stepc_w {st u : St} (hT : Top st) {l N w : Nat} (hl : l < 4) (hN : N ≤ 100000) (hw : w ≤ 200000) (h6 : gI st (43 + 18 * l) 6 = nI 1) (h7 : gI st (43 + 18 * l) 7 = nI w) (fu : Nat) : (N < w → f_X1_step fu 24 (nI l) (nI N) st = some st) ∧ (w ≤ N → f_X1_begin fu 24 (nI l) (nI N) st = some u → f_X1_step fu 24 (nI l) (nI N) st = some u) := by
  obtain ⟨r0, -⟩ := plR hl hT
  obtain ⟨k0, -⟩ := plK hl
  refine ⟨fun h => ?_, fun h e => ?_⟩
  · simp (disch := first | decide | omega) [↓bd_e, isb, ck_tt, NP, NF, NC, NB, NS, GS, kdC, tpC hT, f_X1_step, b_X1_step_62, r0, k0, h6, h7]
  · simp (disch := first | decide | omega) [↓bd_e, isb, ck_tt, NP, NF, NC, NB, NS, GS, kdC, tpC hT, f_X1_step, b_X1_step_62, r0, k0, h6, h7, ↓cvO e]
theorem stepc_0 {st : St} (hT : Top st) {l : Nat} (hl : l < 4) (N : Int32) (h6 : gI st (43 + 18 * l) 6 = nI 0) (h8 : gI st (43 + 18 * l) 8 = -nI 1) (fu : Nat) : f_X1_step fu 24 (nI l) N st = some st := by
  obtain ⟨r0, -⟩ := plR hl hT
  obtain ⟨k0, -⟩ := plK hl
  simp (disch := first | decide | omega) [↓bd_e, isb, ck_tt, NP, NF, NC, NB, NS, GS, kdC, tpC hT, f_X1_step, b_X1_step_62, r0, k0, h6, h8]
theorem stepc_f {st u : St} (hT : Top st) {l N w : Nat} (hl : l < 4) (hN : N ≤ 100000) (hw : w ≤ 200000) (h6 : gI st (43 + 18 * l) 6 = nI 0) (h8 : gI st (43 + 18 * l) 8 = nI w) (fu : Nat) {r : Int32} : (N < w → f_X1_step fu 24 (nI l) (nI N) st = some st) ∧ (w ≤ N → f_X3_following fu (43 + 18 * l) (sI st (43 + 18 * l) 8 (-nI 1)) = some (r, sI st (43 + 18 * l) 8 (-nI 1)) → f_X1_start fu 24 (nI l) r (nI N) (sI st (43 + 18 * l) 8 (-nI 1)) = some u → f_X1_step fu 24 (nI l) (nI N) st = some u) := by
  obtain ⟨r0, -⟩ := plR hl hT
  obtain ⟨k0, -⟩ := plK hl
  have n1 : ¬ nI w = -nI 1 := fun z => m1N hw z.symm
  refine ⟨fun h => ?_, fun h e1 e2 => ?_⟩
  · simp (disch := first | decide | omega) [↓bd_e, isb, ck_tt, NP, NF, NC, NB, NS, GS, kdC, tpC hT, f_X1_step, b_X1_step_62, r0, k0, h6, h8, n1]
  · simp (disch := first | decide | omega) [↓bd_e, isb, ck_tt, NP, NF, NC, NB, NS, GS, kdC, tpC hT, f_X1_step, b_X1_step_62, r0, k0, h6, h8, n1, ↓caO e1, ↓cvO e2]
/-- reference: a list's step -/
theorem stepr_b {st u : St} (hT : Top st) {l N : Nat} (hl : l < 4) (n40 : gI st 153 40 = nI N) (h7 : gI st 187 l = nI N) {fu : Nat} (e : f_X12_begins fu 153 (nI l) st = some u) (K : Nat → Int32 → St → Option St) : b_X12_oneTick_121_b fu K 153 (nI l) st = K 153 (nI (l + 1)) u := by
  simp (disch := first | decide | omega) [↓bd_e, isb, ck_tt, NP, NF, NC, NB, NS, GS, kdR, tpR hT, b_X12_oneTick_121_b, b_X12_oneTick_166, n40, h7, ↓cvO e]
theorem stepr_n {st : St} (hT : Top st) {l N : Nat} (hl : l < 4) (n40 : gI st 153 40 = nI N) (h7 : ¬ gI st 187 l = nI N) (h8 : ¬ gI st 188 l = nI N) (fu : Nat) (K : Nat → Int32 → St → Option St) : b_X12_oneTick_121_b fu K 153 (nI l) st = K 153 (nI (l + 1)) st := by
  simp (disch := first | decide | omega) [↓bd_e, isb, ck_tt, NP, NF, NC, NB, NS, GS, kdR, tpR hT, b_X12_oneTick_121_b, b_X12_oneTick_166, n40, h7, h8]
theorem stepr_g {st u : St} {r : Int32} (hT : Top st) {l N : Nat} (hl : l < 4) (n40 : gI st 153 40 = nI N) (h7 : ¬ gI st 187 l = nI N) (h8 : gI st 188 l = nI N) {fu : Nat} (e : f_X12_goes fu 153 (nI l) st = some (r, u)) (K : Nat → Int32 → St → Option St) : b_X12_oneTick_121_b fu K 153 (nI l) st = K 153 (nI (l + 1)) u := by
  simp (disch := first | decide | omega) [↓bd_e, isb, ck_tt, NP, NF, NC, NB, NS, GS, kdR, tpR hT, b_X12_oneTick_121_b, b_X12_oneTick_166, n40, h7, h8, ↓caO e]
theorem d8l : ∀ l, l < 4 → within' [(43 + 18 * l, some 8)] [(43, some 8), (61, some 8), (79, some 8), (97, some 8)] = true := by decide
theorem B2.lo1 {N : Nat} {lo : Nat → Nat} {sp : Nat} {Q C A : Nat → Nat} {DD : Nat → LD} {L : Nat → Option LK} {m : St} (h : B2 N lo sp Q C A DD L m) {l : Nat} (hp : PLg l N (N + 9999) (C l) m) : B2 N (up1 lo l N) sp Q C A DD L m := by
  obtain ⟨⟨a1, a2, a3, a4⟩, h3, h4⟩ := h
  refine ⟨⟨a1, a2, fun l' hl' => ?_, a4⟩, h3, h4⟩
  by_cases e : l' = l
  · subst e; rw [up1_e]; exact ⟨Nat.le_refl _, hp⟩
  · rw [up1_n _ e]; exact a3 l' hl'
theorem B1.s8 {N : Nat} {lo : Nat → Nat} {sp : Nat} {Q C A : Nat → Nat} {DD : Nat → LD} {L : Nat → Option LK} {l : Nat} {m : St} (h : B1 N lo sp Q C A DD L l m) (hl : l < 4) (v : Int32) : B1 N lo sp Q C A DD L l (sI m (43 + 18 * l) 8 v) := by
  obtain ⟨⟨h40, hS, hP1, hA, hE, hCo, hLC, hLR⟩, ⟨y, hv, h9, h89⟩, hPc, hPo⟩ := h
  have f0 : Fr [(43 + 18 * l, some 8)] m (sI m (43 + 18 * l) 8 v) := Fr.i _ _ _ _
  have f1 : Fr [(43, some 8), (61, some 8), (79, some 8), (97, some 8)] m (sI m (43 + 18 * l) 8 v) := f0.wd (d8l l hl)
  refine ⟨⟨by rw [f1.ki 153 40 (by decide)]; exact h40, hS.fr (f1.same (by decide)), fun l' hl' hn => ⟨(hP1 l' hl' hn).1, (hP1 l' hl' hn).2.e (fun k _ _ => f0.ki _ _ (by simp [covers] <;> omega)) (fun o _ _ => f0.ki _ _ (by simp [covers] <;> omega))⟩, hA.fr (f1.same (by decide)), hE.fe (f1.fi 6 (by decide)) (f1.fi 210 (by decide)), hCo.fr (f1.same (by decide)), hLC.fr hCo (f1.same (by decide)), hLR.fr (f1.same (by decide))⟩, ⟨y, hv, ?_, ?_⟩, fun l' hl' => (hPc l' hl').a hl' (f1.wd (by decide)), hPo.a (f1.fi 26 (by decide)) (f1.fi 195 (by decide))⟩
  · rw [gI_sI, if_neg (by omega)]; exact h9
  · rw [gI_sI_n _ _ _ (by omega)]; exact h89
/-- list l is at rest: from its own to all -/
theorem B1.all {N : Nat} {lo : Nat → Nat} {sp : Nat} {Q C A : Nat → Nat} {DD : Nat → LD} {L : Nat → Option LK} {l : Nat} {m : St} (h : B1 N lo sp Q C A DD L l m) (hlo : lo l ≤ N) (hp : PLg l (lo l) (N + 9999) (C l) m) : B2 N lo sp Q C A DD L m := by
  obtain ⟨⟨h40, hS, hP1, hr⟩, -, hPc, hPo⟩ := h
  refine ⟨⟨h40, hS, fun l' hl' => ?_, hr⟩, hPc, hPo⟩
  by_cases e : l' = l
  · subst e; exact ⟨hlo, hp⟩
  · exact hP1 l' hl' e
theorem step_2 {N : Nat} {lo : Nat → Nat} {sp : Nat} {Q C A : Nat → Nat} {DD : Nat → LD} {L : Nat → Option LK} {u w : St} {l : Nat} (h : B2 N lo sp Q C A DD L (mg u w)) (hl : l < 4) (hlo : lo l + 1 = N) (hTu : Top u) (hTw : Top w) (hN : N ≤ 100000) {fu : Nat} (hf : 400 ≤ fu) : ∃ u' w', f_X1_step fu 24 (nI l) (nI N) u = some u' ∧ (∀ K, b_X12_oneTick_121_b fu K 153 (nI l) w = K 153 (nI (l + 1)) w') ∧ PB2 N (up1 lo l N) sp Q C A DD L u w u' w' := by
  obtain ⟨S, -, -, n40⟩ := h.1.s
  obtain ⟨s1, s2, s3, s4, s5⟩ := S l hl
  have c60 := s4.1
  have hb1 : B1 N (up1 lo l N) sp Q C A DD L l (mg u w) := h.one hl (fun l' hn => up1_n _ hn)
  obtain ⟨-, pg⟩ := h.1.2.2.1 l hl
  obtain ⟨g1, g2, g3, g4⟩ := id pg
  have eC : gI (mg u w) (43 + 18 * l) = gI u (43 + 18 * l) := (mgC u w (by omega)).1
  have e6 : gI (mg u w) 186 = gI w 186 := (mgR u w (by omega)).1
  have e7 : gI (mg u w) 187 = gI w 187 := (mgR u w (by omega)).1
  have e8 : gI (mg u w) 188 = gI w 188 := (mgR u w (by omega)).1
  have stay : f_X1_step fu 24 (nI l) (nI N) u = some u → ¬ gI w 187 l = nI N → ¬ gI w 188 l = nI N → PLg l N (N + 9999) (C l) (mg u w) → ∃ u' w', f_X1_step fu 24 (nI l) (nI N) u = some u' ∧ (∀ K, b_X12_oneTick_121_b fu K 153 (nI l) w = K 153 (nI (l + 1)) w') ∧ PB2 N (up1 lo l N) sp Q C A DD L u w u' w' := fun a1 a2 a3 a4 => ⟨u, w, a1, fun K => stepr_n hTw hl n40 a2 a3 fu K, Fr.rf, Fr.rf, hTu, hTw, h.lo1 a4⟩
  rcases g3 with ⟨q6, ⟨t, t1, t2, q7, q7'⟩, ⟨i, hi, q5⟩, q8, q8'⟩ | ⟨q6, q7', q⟩
  · rw [eC] at q6 q7 q5 q8
    rw [e7] at q7'
    rw [e8] at q8'
    rw [eC, e6] at g1
    rcases Nat.lt_or_ge N t with c | c
    · refine stay ((stepc_w (u := u) hTu hl hN (by omega) q6 q7 fu).1 c) ?_ ?_ ?_
      · rw [q7']; intro z; have := (nI_eq (a := t) (b := N) (by omega) (by omega)).mp z; omega
      · rw [q8']; exact m1N (by omega)
      · refine ⟨by rw [eC, e6]; exact g1, g2, Or.inl ⟨by rw [eC]; exact q6, ⟨t, c, t2, by rw [eC]; exact q7, by rw [e7]; exact q7'⟩, ⟨i, hi, by rw [eC]; exact q5⟩, by rw [eC]; exact q8, by rw [e8]; exact q8'⟩, g4⟩
    · have tN : t = N := by omega
      subst tN
      obtain ⟨u', w', b1, b2, p⟩ := begin_2 hb1 (up1_e _ _ _) hi q5 (by rw [← g1]; exact q5) q8' hTu hTw hN hf hl 4
      exact ⟨u', w', (stepc_w hTu hl hN (by omega) q6 q7 fu).2 (Nat.le_refl _) b1, fun K => stepr_b hTw hl n40 q7' b2 K, p⟩
  · rw [eC] at q6
    rw [e7] at q7'
    have n7 : ¬ gI w 187 l = nI N := by rw [q7']; exact m1N (by omega)
    rcases q with ⟨q8, q8'⟩ | ⟨t, t1, t2, q8, q8', i, hi, q5⟩
    · rw [eC] at q8
      rw [e8] at q8'
      refine stay (stepc_0 hTu hl _ q6 q8 fu) n7 (by rw [q8']; exact m1N (by omega)) ⟨g1, g2, Or.inr ⟨by rw [eC]; exact q6, by rw [e7]; exact q7', Or.inl ⟨by rw [eC]; exact q8, by rw [e8]; exact q8'⟩⟩, g4⟩
    · rw [eC] at q8 q5
      rw [e8] at q8'
      rcases Nat.lt_or_ge N t with c | c
      · refine stay ((stepc_f (u := u) (r := 0) hTu hl hN (by omega) q6 q8 fu).1 c) n7 ?_ ⟨g1, g2, Or.inr ⟨by rw [eC]; exact q6, by rw [e7]; exact q7', Or.inr ⟨t, c, t2, by rw [eC]; exact q8, by rw [e8]; exact q8', i, hi, by rw [eC]; exact q5⟩⟩, g4⟩
        rw [q8']; intro z; have := (nI_eq (a := t) (b := N) (by omega) (by omega)).mp z; omega
      · have tN : t = N := by omega
        subst tN
        obtain ⟨u1, hu1⟩ : ∃ u1, u1 = sI u (43 + 18 * l) 8 (-nI 1) := ⟨_, rfl⟩
        have hT1 : Top u1 := hTu.r (by rw [hu1]; rfl)
        have f0 : Fr [(43 + 18 * l, some 8)] u u1 := by rw [hu1]; exact Fr.i _ _ _ _
        have fA : Fr WAc u u1 := WAc_l hl (by omega) f0
        have hb2 : B1 t (up1 lo l t) sp Q C A DD L l (mg u1 w) := by
          rw [hu1, mg_sC _ _ (by omega)]; exact hb1.s8 hl _
        have r1 : gR u1 (43 + 18 * l) 0 = Q l := by rw [hu1]; exact s1
        have qb := s2.b
        have s31 : SC (Q l) (C l) (A l) (DD l) u1 := s3.c (fun j hj => by
          have ne := (s2.ne hl hj (m := 0) (by omega)).2
          exact ⟨f0.fi _ (by simp <;> omega), f0.fl _ (by simp <;> omega)⟩)
        have h51 : gI u1 (43 + 18 * l) 5 = oI (some i) := by rw [f0.ki _ 5 (by simp [covers] <;> omega)]; exact q5
        have h86 : gI w 186 l = oI (some i) := by rw [eC, e6] at g1; rw [← g1]; exact q5
        have hq : ∀ j, some i = some j → j < C l := fun j hj => by injection hj with hj; omega
        have fc := fol_c hT1 hl s2 r1 s31 s4 h51 hq (fu := fu) (by omega)
        have gr := goes_r hTw hl s5 s4 h86 hq (fu := fu) (by omega)
        rw [hu1] at fc
        cases ef : fol (DD l) (C l) (some i) with
        | none =>
          rw [ef] at fc gr
          have gr' : f_X12_goes fu 153 (nI l) w = some (nI 0, sI w 188 l (-nI 1)) := by
            rw [gr]
            show some (nI 0, sI w 188 l (if gI w 188 l = gI w 153 40 then -nI 1 else gI w 188 l)) = _
            rw [n40, if_pos q8']
          have f2 : Fr [(188, some l)] w (sI w 188 l (-nI 1)) := Fr.i _ _ _ _
          refine ⟨u1, sI w 188 l (-nI 1), (stepc_f hTu hl hN (by omega) q6 q8 fu).2 (Nat.le_refl _) fc (by rw [← hu1]; exact start_n hT1 hl fu _), fun K => stepr_g hTw hl n40 n7 q8' gr' K, WBc_a fA, WBr_a ((f2.wd (by simp [within'] : within' [(188, some l)] [(188, none)] = true)).wd (by decide)), hT1, hTw.r rfl, ?_⟩
          have fm : Fr ([(43 + 18 * l, some 8)] ++ [(188, some l)]) (mg u w) (mg u1 (sI w 188 l (-nI 1))) := mg_fr f0 f2
          have em : mg u1 (sI w 188 l (-nI 1)) = sI (mg u1 w) 188 l (-nI 1) := mg_sR _ _ (by omega) _ _
          have fz : Fr [(188, none)] (mg u1 w) (sI (mg u1 w) 188 l (-nI 1)) := Fr.ia _ _ _ _
          rw [em]
          have hb3 : B1 t (up1 lo l t) sp Q C A DD L l (sI (mg u1 w) 188 l (-nI 1)) := by
            obtain ⟨⟨h40, hS, hP1, hA, hE, hCo, hLC, hLR⟩, ⟨y, hv, h9, h89⟩, hPc, hPo⟩ := hb2
            exact ⟨⟨by rw [fz.ki 153 40 (by decide)]; exact h40, hS.fr (fz.same (by decide)), fun l' hl' hn => ⟨(hP1 l' hl' hn).1, (hP1 l' hl' hn).2.e (fun k _ _ => by rw [gI_sI_n _ _ _ (by omega)]) (fun o _ _ => by rw [gI_sI, if_neg (by omega)])⟩, hA.fr (fz.same (by decide)), hE.fe (fz.fi 6 (by decide)) (fz.fi 210 (by decide)), hCo.fr (fz.same (by decide)), hLC.fr hCo (fz.same (by decide)), hLR.fr (fz.same (by decide))⟩, ⟨y, hv, by rw [gI_sI_n _ _ _ (by omega)]; exact h9, by rw [gI_sI_n _ _ _ (by omega)]; exact h89⟩, fun l' hl' => (hPc l' hl').a hl' (fz.wd (by decide)), hPo.a (fz.fi 26 (by decide)) (fz.fi 195 (by decide))⟩
          refine hb3.all (by rw [up1_e]; exact Nat.le_refl _) ?_
          rw [up1_e]
          have c43 : ∀ k, k ≠ 8 → gI (sI (mg u1 w) 188 l (-nI 1)) (43 + 18 * l) k = gI (mg u w) (43 + 18 * l) k := fun k hk => by
            rw [gI_sI_n _ _ _ (by omega), (mgC u1 w (o := 43 + 18 * l) (by omega)).1, f0.ki _ k (by simp [covers] <;> omega), eC]
          have c8 : gI (sI (mg u1 w) 188 l (-nI 1)) (43 + 18 * l) 8 = -nI 1 := by
            rw [gI_sI_n _ _ _ (by omega), (mgC u1 w (o := 43 + 18 * l) (by omega)).1, hu1, gI_sI, if_pos ⟨rfl, rfl⟩]
          have rr : ∀ o, 153 ≤ o → o ≠ 188 → gI (sI (mg u1 w) 188 l (-nI 1)) o = gI (mg u w) o := fun o ho hn => by
            rw [gI_sI_n _ _ _ hn, (mgR u1 w (o := o) ho).1, (mgR u w (o := o) ho).1]
          have r8 : gI (sI (mg u1 w) 188 l (-nI 1)) 188 l = -nI 1 := by rw [gI_sI, if_pos ⟨rfl, rfl⟩]
          unfold PLg
          rw [c43 5 (by omega), c43 6 (by omega), c43 7 (by omega), c43 9 (by omega), c8, rr 186 (by omega) (by omega), rr 187 (by omega) (by omega), rr 189 (by omega) (by omega), r8]
          exact ⟨g1, g2, Or.inr ⟨by rw [eC]; exact q6, by rw [e7]; exact q7', Or.inl ⟨rfl, rfl⟩⟩, g4⟩
        | some m =>
          rw [ef] at fc gr
          have m2 := fol_s ef
          obtain ⟨u', w', b1, b2, p1, p2, p3, p4, p5⟩ := start_2 hb2 (up1_e _ _ _) hT1 hTw hN hf hl m2
          have gr' : f_X12_goes fu 153 (nI l) w = some (nI 1, w') := by
            rw [gr]
            show cv (f_X12_plays fu 153 (nI l) (nI m) (nI 0) w) _ = _
            rw [b2, cv_s]
          exact ⟨u', w', (stepc_f hTu hl hN (by omega) q6 q8 fu).2 (Nat.le_refl _) fc (by rw [← hu1]; exact b1), fun K => stepr_g hTw hl n40 n7 q8' gr' K, (WBc_a fA).tt p1, p2, p3, p4, p5⟩
/-- the four lists -/
theorem lists_2 {N : Nat} {sp : Nat} {Q C A : Nat → Nat} {DD : Nat → LD} {L : Nat → Option LK} (hN1 : 1 ≤ N) (hN : N ≤ 100000) {fu : Nat} (hf : 400 ≤ fu) (k15 : Nat → Int32 → Int32 → St → Option (Int32 × St)) (x1 x2 : Int32) : ∀ (F F' l : Nat) (u w : St), l ≤ 4 → 4 < F + l → 4 < F' + l → B2 N (fun x => if x < l then N else N - 1) sp Q C A DD L (mg u w) → gI u 1 8 = nI N → Top u → Top w → ∃ u' w', b_X11_tick_32 fu k15 F 1 x1 x2 (nI l) u = (cv (f_X7_step fu 4 u') fun s7 => k15 1 x1 (x2 + 1) s7) ∧ b_X12_oneTick_121 fu F' 153 (nI l) w = b_X12_oneTick_174 fu fu 153 (nI 0) w' ∧ Fr WBc u u' ∧ Fr WBr w w' ∧ Top u' ∧ Top w' ∧ B2 N (fun _ => N) sp Q C A DD L (mg u' w') := by
  intro F
  induction F with
  | zero => intro F' l u w h1 h2; omega
  | succ F ih =>
    intro F' l u w hl hF hF' h n8 hTu hTw
    obtain ⟨F', rfl⟩ : ∃ x, F' = x + 1 := ⟨F' - 1, by omega⟩
    have un : b_X11_tick_32 fu k15 (F + 1) 1 x1 x2 (nI l) u = b_X11_tick_32_b fu k15 (b_X11_tick_32 fu k15 F) 1 x1 x2 (nI l) u := rfl
    have ur : b_X12_oneTick_121 fu (F' + 1) 153 (nI l) w = b_X12_oneTick_121_b fu (b_X12_oneTick_121 fu F') 153 (nI l) w := rfl
    rw [un, ur]
    by_cases c : l = 4
    · subst c
      refine ⟨u, w, ?_, ?_, Fr.rf, Fr.rf, hTu, hTw, ?_⟩
      · clear ih un ur h
        unfold b_X11_tick_32_b
        rw [if_pos (show (4 : Int32) ≤ nI 4 from Int32.le_refl _), tp_1_1 hTu, ck_t (show ¬ 4 = 0 by decide), ck_t (show (kd 1).1 = 11 from rfl), bd_e, ck_t (show (kd 4).1 = 7 from rfl)]
        rfl
      · clear ih un ur h
        unfold b_X12_oneTick_121_b
        rw [if_pos (show (4 : Int32) ≤ nI 4 from Int32.le_refl _)]
        rfl
      · obtain ⟨⟨a1, a2, a3, a4⟩, h3, h4⟩ := h
        refine ⟨⟨a1, a2, fun l' hl' => ?_, a4⟩, h3, h4⟩
        have := a3 l' hl'
        simp only [if_pos hl'] at this
        exact this
    · have hl4 : l < 4 := by omega
      obtain ⟨u1, w1, e1, e2, p1, p2, p3, p4, p5⟩ := step_2 h hl4 (by show (if l < l then N else N - 1) + 1 = N; rw [if_neg (by omega)]; omega) hTu hTw hN hf
      have ep : up1 (fun x => if x < l then N else N - 1) l N = fun x => if x < l + 1 then N else N - 1 := by
        funext x
        unfold up1
        by_cases e : x = l
        · rw [if_pos e, if_pos (by omega)]
        · rw [if_neg e]
          show (if x < l then N else N - 1) = _
          by_cases d : x < l
          · rw [if_pos d, if_pos (by omega)]
          · rw [if_neg d, if_neg (by omega)]
      rw [ep] at p5
      have n81 : gI u1 1 8 = nI N := by rw [p1.ki 1 8 (by decide)]; exact n8
      obtain ⟨u2, w2, g1, g2, g3, g4, g5, g6, g7⟩ := ih F' (l + 1) u1 w1 (by omega) (by omega) (by omega) p5 n81 p3 p4
      refine ⟨u2, w2, ?_, ?_, p1.tt g3, p2.tt g4, g5, g6, g7⟩
      · rw [← g1]
        clear ih un ur h e2 p5 g1 g2 g7
        have hT := hTu
        simp (disch := first | decide | omega) [↓bd_e, isb, ck_tt, NP, NF, NC, NB, NS, GS, kdC, tpC hT, b_X11_tick_32_b, n8, ↓cvO e1]
      · rw [e2]; exact g2
