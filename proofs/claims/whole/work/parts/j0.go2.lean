/-! PURE: go, play: class at u, reference at w; then both -/
theorem two_of {fC fR : St → Option (Int32 × St)} {W V : List PL} {P : St → Prop} {st : St} (hT : Top st) (hW : W.all (fun x => decide (x.1 < 153)) = true) (hV : V.all (fun x => decide (153 ≤ x.1)) = true) (H : ∀ w, Top w → mg st w = st → ∃ r u' w', fC st = some (r, u') ∧ fR w = some (r, w') ∧ Fr W st u' ∧ Fr V w w' ∧ Top u' ∧ P (mg u' w')) : Two fC fR (W ++ V) P st := by
  obtain ⟨r, u', w', e1, -, f1, -, hT1, -⟩ := H st hT (mg_self st)
  obtain ⟨r2, u2, w2, e2, e3, f2, f3, hT2, p⟩ := H u' hT1 (mg_c f1 hW)
  rw [e1] at e2
  have ee := Option.some.inj e2
  have eu : u' = u2 := congrArg Prod.snd ee
  have er : r = r2 := congrArg Prod.fst ee
  subst eu er
  rw [mg_r f3 hV] at p
  exact ⟨r, u', w2, e1, e3, f1.tr f3, p⟩
theorem start_c {st : St} (hT : Top st) {l N q c a m : Nat} {D : LD} (hl : l < 4) (hN : N ≤ 100000) (hq : SQ q) (rQ : gR st (43 + 18 * l) 0 = q) (hS : SC q c a D st) (hL : LOK c a D) (hm : m < c) (fu : Nat) : (D 3 m ≠ 0 → f_X1_start fu 24 (nI l) (nI m) (nI N) st = some (armC l m (N + D 3 m) st)) ∧ ∀ u, D 3 m = 0 → f_X1_begin fu 24 (nI l) (nI N) (armC l m N st) = some u → f_X1_start fu 24 (nI l) (nI m) (nI N) st = some u := by
  obtain ⟨r0, -⟩ := plR hl hT
  obtain ⟨k0, -⟩ := plK hl
  have qb := hq.b
  have qR := sqR hq hT
  have qK := sqK hq
  have c60 := hL.1
  have d3 := (hL.2.2.2.2.1 m hm).1.2.2.2.2.1
  have g3 : gI st (q + 4) m = nI (D 3 m) := by
    have := hS.2.1 m hm 3 (by omega)
    rw [show q + 1 + 3 = q + 4 by omega] at this
    exact this
  have g12 := hS.1
  have q0 : q ≠ 0 := by omega
  have ea := arm_c hl fu m (N + D 3 m) st
  obtain ⟨wt, hwt⟩ : ∃ wt, wt = D 3 m := ⟨_, rfl⟩
  rw [← hwt] at g3 ea d3 ⊢
  clear hS hL hwt
  refine ⟨fun h => ?_, fun u h e => ?_⟩
  · simp (disch := first | decide | omega) [↓bd_e, isb, ck_tt, NP, NF, NC, NB, NS, GS, kdC, tpC hT, f_X1_start, b_X1_start_58, r0, k0, rQ, qR, qK, q0, g12, g3, ↓cvO ea]
  · subst h
    rw [Nat.add_zero] at ea
    simp (disch := first | decide | omega) [↓bd_e, isb, ck_tt, NP, NF, NC, NB, NS, GS, kdC, tpC hT, f_X1_start, b_X1_start_58, r0, k0, rQ, qR, qK, q0, g12, g3, ↓cvO ea, ↓cvO e]
theorem B1.arm {N : Nat} {lo : Nat → Nat} {sp : Nat} {Q C A : Nat → Nat} {DD : Nat → LD} {L : Nat → Option LK} {u w : St} {l m wt : Nat} (h : B1 N lo sp Q C A DD L l (mg u w)) (hlo : lo l = N) (hl : l < 4) (hm : m < C l) (h1 : 1 ≤ wt) (h2 : wt ≤ 9999) : Fr WAc u (armC l m (N + wt) u) ∧ Fr WAr w (armR l m (N + wt) w) ∧ B2 N lo sp Q C A DD L (mg (armC l m (N + wt) u) (armR l m (N + wt) w)) := by
  obtain ⟨⟨h40, hS, hP1, hA, hE, hCo, hLC, hLR⟩, ⟨v, hv, h9, h89⟩, hPc, hPo⟩ := h
  have f1 : Fr WAc u (armC l m (N + wt) u) := by
    unfold armC
    exact (WAc_l hl (by omega) (Fr.i _ _ _ _)).tt ((WAc_l hl (by omega) (Fr.i _ _ _ _)).tt ((WAc_l hl (by omega) (Fr.i _ _ _ _)).tt (WAc_l hl (by omega) (Fr.i _ _ _ _))))
  have f2 : Fr [(186, none), (187, none), (188, none)] w (armR l m (N + wt) w) := by
    unfold armR
    exact ((((Fr.ia w 186 _ _).tr (Fr.ia _ 188 _ _)).tr (Fr.ia _ 187 _ _)).tr (Fr.ia _ 187 _ _)).wd (by decide)
  have em : mg (armC l m (N + wt) u) (armR l m (N + wt) w) = armR l m (N + wt) (armC l m (N + wt) (mg u w)) := by
    unfold armC armR
    rw [mg_sR _ _ (by omega), mg_sR _ _ (by omega), mg_sR _ _ (by omega), mg_sR _ _ (by omega), mg_sC _ _ (by omega), mg_sC _ _ (by omega), mg_sC _ _ (by omega), mg_sC _ _ (by omega)]
  have fm : Fr (WAc ++ WAr) (mg u w) (mg (armC l m (N + wt) u) (armR l m (N + wt) w)) := mg_fr f1 (f2.wd (by decide))
  have d5 : ∀ l, l < 4 → within' [(43 + 18 * l, some 5), (43 + 18 * l, some 6), (43 + 18 * l, some 7), (43 + 18 * l, some 8)] [(43, none), (61, none), (79, none), (97, none)] = true := by decide
  have f1' : Fr [(43, none), (61, none), (79, none), (97, none)] u (armC l m (N + wt) u) := by
    unfold armC
    exact ((((Fr.i u (43 + 18 * l) 5 _).tr (Fr.i _ (43 + 18 * l) 6 _)).tr (Fr.i _ (43 + 18 * l) 7 _)).tr (Fr.i _ (43 + 18 * l) 8 _)).wd (d5 l hl)
  have fm2 := mg_fr f1' f2
  refine ⟨f1, f2.wd (by decide), ⟨by rw [fm.ki 153 40 (by decide)]; exact h40, hS.fr (fm.same (by decide)), fun l2 hl2' => ?_, hA.fr (fm2.same (by decide)), hE.fe (fm2.fi 6 (by decide)) (fm2.fi 210 (by decide)), hCo.fr (fm.same (by decide)), hLC.fr hCo (fm.same (by decide)), hLR.fr (fm.same (by decide))⟩, fun l' hl' => (hPc l' hl').a hl' fm, hPo.a (fm.fi 26 (by decide)) (fm.fi 195 (by decide))⟩
  rw [em]
  by_cases e : l2 = l
  · subst e
    exact ⟨by omega, PLg.armS hl2' hm hv h9 h89 (by omega) (by omega)⟩
  · exact ⟨(hP1 l2 hl2' e).1, (hP1 l2 hl2' e).2.arm hl2' hl (fun z => absurd z e) (by have := (hP1 l2 hl2' e).1; omega) (by omega)⟩
theorem B1.beg {N : Nat} {lo : Nat → Nat} {sp : Nat} {Q C A : Nat → Nat} {DD : Nat → LD} {L : Nat → Option LK} {u w : St} {l : Nat} (h : B1 N lo sp Q C A DD L l (mg u w)) {m : Nat} (hl : l < 4) : Fr WAc u (armC l m N u) ∧ Fr WAr w (armB l m w) ∧ B1 N lo sp Q C A DD L l (mg (armC l m N u) (armB l m w)) ∧ gI (armC l m N u) (43 + 18 * l) 5 = nI m ∧ gI (armB l m w) 186 l = nI m ∧ gI (armB l m w) 188 l = -nI 1 := by
  obtain ⟨⟨h40, hS, hP1, hA, hE, hCo, hLC, hLR⟩, ⟨v, hv, h9, h89⟩, hPc, hPo⟩ := h
  have f1 : Fr WAc u (armC l m N u) := by
    unfold armC
    exact (WAc_l hl (by omega) (Fr.i _ _ _ _)).tt ((WAc_l hl (by omega) (Fr.i _ _ _ _)).tt ((WAc_l hl (by omega) (Fr.i _ _ _ _)).tt (WAc_l hl (by omega) (Fr.i _ _ _ _))))
  have f2 : Fr [(186, none), (187, none), (188, none)] w (armB l m w) := by
    unfold armB
    exact (((Fr.ia w 186 _ _).tr (Fr.ia _ 188 _ _)).tr (Fr.ia _ 187 _ _)).wd (by decide)
  have d5 : ∀ l, l < 4 → within' [(43 + 18 * l, some 5), (43 + 18 * l, some 6), (43 + 18 * l, some 7), (43 + 18 * l, some 8)] [(43, none), (61, none), (79, none), (97, none)] = true := by decide
  have f1' : Fr [(43 + 18 * l, some 5), (43 + 18 * l, some 6), (43 + 18 * l, some 7), (43 + 18 * l, some 8)] u (armC l m N u) := by
    unfold armC
    exact (((Fr.i u (43 + 18 * l) 5 _).tr (Fr.i _ (43 + 18 * l) 6 _)).tr (Fr.i _ (43 + 18 * l) 7 _)).tr (Fr.i _ (43 + 18 * l) 8 _)
  have fm : Fr (WAc ++ WAr) (mg u w) (mg (armC l m N u) (armB l m w)) := mg_fr f1 (f2.wd (by decide))
  have fm2 := mg_fr (f1'.wd (d5 l hl)) f2
  have gC : ∀ k, gI (mg (armC l m N u) (armB l m w)) (43 + 18 * l) k = gI (armC l m N u) (43 + 18 * l) k := fun k => by rw [(mgC _ _ (o := 43 + 18 * l) (by omega)).1]
  have gR' : ∀ o, 153 ≤ o → gI (mg (armC l m N u) (armB l m w)) o = gI (armB l m w) o := fun o ho => (mgR _ _ ho).1
  refine ⟨f1, f2.wd (by decide), ⟨⟨by rw [fm.ki 153 40 (by decide)]; exact h40, hS.fr (fm.same (by decide)), fun l' hl' hn => ⟨(hP1 l' hl' hn).1, ?_⟩, hA.fr (fm2.same (by decide)), hE.fe (fm2.fi 6 (by decide)) (fm2.fi 210 (by decide)), hCo.fr (fm.same (by decide)), hLC.fr hCo (fm.same (by decide)), hLR.fr (fm.same (by decide))⟩, ⟨v, hv, ?_, ?_⟩, fun l' hl' => (hPc l' hl').a hl' fm, hPo.a (fm.fi 26 (by decide)) (fm.fi 195 (by decide))⟩, ?_, ?_, ?_⟩
  · refine (hP1 l' hl' hn).2.e (fun k k1 k2 => ?_) (fun o o1 o2 => ?_)
    · rw [(mgC _ _ (o := 43 + 18 * l') (by omega)).1, (mgC _ _ (o := 43 + 18 * l') (by omega)).1, f1'.fi _ (by simp <;> omega)]
    · rw [gR' o (by omega), (mgR u w (o := o) (by omega)).1]
      unfold armB
      simp only [gI_sI]
      rw [if_neg (by omega), if_neg (by omega), if_neg (by omega)]
  · rw [gC, f1'.ki _ 9 (by simp [covers] <;> omega), ← (mgC u w (o := 43 + 18 * l) (by omega)).1]; exact h9
  · rw [gR' 189 (by omega), f2.fi 189 (by decide), ← (mgR u w (o := 189) (by omega)).1]; exact h89
  · unfold armC; simp [gI_sI]
  · unfold armB; simp [gI_sI]
  · unfold armB; simp [gI_sI]
theorem start_2 {N : Nat} {lo : Nat → Nat} {sp : Nat} {Q C A : Nat → Nat} {DD : Nat → LD} {L : Nat → Option LK} {u w : St} {l m : Nat} (h : B1 N lo sp Q C A DD L l (mg u w)) (hlo : lo l = N) (hTu : Top u) (hTw : Top w) (hN : N ≤ 100000) {fu : Nat} (hf : 400 ≤ fu) (hl : l < 4) (hm : m < C l) : ∃ u' w', f_X1_start fu 24 (nI l) (nI m) (nI N) u = some u' ∧ f_X12_plays fu 153 (nI l) (nI m) (nI 0) w = some w' ∧ PB2 N lo sp Q C A DD L u w u' w' := by
  obtain ⟨S, -, -, n40⟩ := sc2 h.1.1 h.1.2.1 h.1.2.2.2.2.2.1 h.1.2.2.2.2.2.2.1 h.1.2.2.2.2.2.2.2
  obtain ⟨s1, s2, s3, s4, s5⟩ := S l hl
  have c60 := s4.1
  have d3 := (s4.2.2.2.2.1 m hm).1.2.2.2.2.1
  have t3 := (s5.2.1 m hm).1 3 (by omega)
  obtain ⟨c1, c2⟩ := start_c hTu hl hN s2 s1 s3 s4 hm fu
  by_cases z : DD l 3 m = 0
  · obtain ⟨f1, f2, b0, b5, b86, b88⟩ := h.beg (m := m) hl
    rw [z] at t3
    have hTa : Top (armC l m N u) := hTu.r rfl
    have hTb : Top (armB l m w) := hTw.r rfl
    obtain ⟨u', w', e1, e2, p1, p2, p3, p4, p5⟩ := begin_2 b0 hlo hm b5 b86 b88 hTa hTb hN hf hl 3
    refine ⟨u', w', c2 u' z e1, ?_, (WBc_a f1).tt p1, (WBr_a f2).tt p2, p3, p4, p5⟩
    have := plays_0 hTw hl (show m < 60 by omega) t3 fu 5
    exact this.trans e2
  · obtain ⟨f1, f2, b2⟩ := h.arm hlo hl hm (wt := DD l 3 m) (by omega) d3
    refine ⟨_, _, c1 z, ?_, WBc_a f1, WBr_a f2, hTu.r rfl, hTw.r rfl, b2⟩
    have := plays_w hTw (N := N) (m := m) (wt := DD l 3 m) (p := 0) hl (by omega) hN d3 (by omega) n40 t3 (by omega) fu 5
    rw [if_neg (by omega)] at this
    exact this
theorem sI_id (st : St) (o k : Nat) : sI st o k (gI st o k) = st := by
  refine St.ext3 (fun o' => funext fun k' => ?_) (fun o' => rfl) (fun o' => rfl)
  rw [gI_sI]
  by_cases c : o' = o ∧ k' = k
  · rw [if_pos c, c.1, c.2]
  · rw [if_neg c]
theorem PLg.cue {l a b c : Nat} {m : St} (h : PLg l a b c m) : ∃ q : Option Nat, gI m (43 + 18 * l) 5 = oI q ∧ gI m 186 l = oI q ∧ ∀ i, q = some i → i < c := by
  obtain ⟨h1, h2, -⟩ := h
  rcases h2 with e | ⟨i, hi, e⟩
  · exact ⟨none, e, by rw [← h1]; exact e, fun i h => by cases h⟩
  · exact ⟨some i, e, by rw [← h1]; exact e, fun j h => by injection h with h; omega⟩
theorem PLg.n88 {l N b c : Nat} {m : St} (h : PLg l N b c m) (hb : b ≤ 200000) (hN : N ≤ 100000) : ¬ gI m 188 l = nI N := by
  obtain ⟨-, -, h3, -⟩ := h
  have nm : ¬ (-nI 1 : Int32) = nI N := fun z => by
    have := congrArg Int32.toInt z
    rw [nI_toInt (by omega)] at this
    have e : (-nI 1 : Int32).toInt = -1 := by decide
    omega
  rcases h3 with ⟨-, -, -, -, e⟩ | ⟨-, -, ⟨-, e⟩ | ⟨w, w1, w2, -, e, -⟩⟩
  · rw [e]; exact nm
  · rw [e]; exact nm
  · rw [e]; intro z; have := (nI_eq (a := w) (b := N) (by omega) (by omega)).mp z; omega
