/-! PURE: lists: the invariant -/
theorem plR {l : Nat} (hl : l < 4) {st : St} (hT : Top st) : gR st 25 l = 43 + 18 * l ∧ gR st (43 + 18 * l) 1 = 57 + 18 * l ∧ gR st (43 + 18 * l) 2 = 58 + 18 * l ∧ gR st (43 + 18 * l) 3 = 59 + 18 * l ∧ gR st (43 + 18 * l) 4 = 60 + 18 * l := by
  have : l = 0 ∨ l = 1 ∨ l = 2 ∨ l = 3 := by omega
  rcases this with rfl | rfl | rfl | rfl
  · exact ⟨tp_25_0 hT, tp_43_1 hT, tp_43_2 hT, tp_43_3 hT, tp_43_4 hT⟩
  · exact ⟨tp_25_1 hT, tp_61_1 hT, tp_61_2 hT, tp_61_3 hT, tp_61_4 hT⟩
  · exact ⟨tp_25_2 hT, tp_79_1 hT, tp_79_2 hT, tp_79_3 hT, tp_79_4 hT⟩
  · exact ⟨tp_25_3 hT, tp_97_1 hT, tp_97_2 hT, tp_97_3 hT, tp_97_4 hT⟩
theorem plK {l : Nat} (hl : l < 4) : kd (43 + 18 * l) = (3, 0) ∧ kd (57 + 18 * l) = (100, 64) ∧ kd (58 + 18 * l) = (100, 64) ∧ kd (59 + 18 * l) = (100, 64) ∧ kd (60 + 18 * l) = (100, 64) := by
  have : l = 0 ∨ l = 1 ∨ l = 2 ∨ l = 3 := by omega
  rcases this with rfl | rfl | rfl | rfl <;> exact ⟨rfl, rfl, rfl, rfl, rfl⟩
def SCR (sp : Nat) (Q C A : Nat → Nat) (DD : Nat → LD) (st : St) : Prop := gR st 24 6 = sp ∧ SQ sp ∧ ∀ l, l < 4 → gR st (43 + 18 * l) 0 = Q l ∧ SQ (Q l) ∧ Q l ≠ sp ∧ (∀ m, m < 4 → m ≠ l → Q m ≠ Q l) ∧ SC (Q l) (C l) (A l) (DD l) st ∧ LOK (C l) (A l) (DD l) ∧ RK l (C l) (A l) (DD l) st
def PL1 (l N c : Nat) (st : St) : Prop := gI st (43 + 18 * l) 5 = gI st 186 l ∧ (gI st (43 + 18 * l) 5 = -nI 1 ∨ ∃ i, i < c ∧ gI st (43 + 18 * l) 5 = nI i) ∧ ((gI st (43 + 18 * l) 6 = nI 1 ∧ (∃ w, N < w ∧ w ≤ N + 9999 ∧ gI st (43 + 18 * l) 7 = nI w ∧ gI st 187 l = nI w) ∧ (∃ i, i < c ∧ gI st (43 + 18 * l) 5 = nI i) ∧ gI st (43 + 18 * l) 8 = -nI 1 ∧ gI st 188 l = -nI 1) ∨ (gI st (43 + 18 * l) 6 = nI 0 ∧ gI st 187 l = -nI 1 ∧ ((gI st (43 + 18 * l) 8 = -nI 1 ∧ gI st 188 l = -nI 1) ∨ ∃ w, N < w ∧ w ≤ N + 9999 ∧ gI st (43 + 18 * l) 8 = nI w ∧ gI st 188 l = nI w ∧ ∃ i, i < c ∧ gI st (43 + 18 * l) 5 = nI i))) ∧ ∃ m, m ≤ 255 ∧ gI st (43 + 18 * l) 9 = nI m ∧ gI st 189 l = nI m
def PLx (l N ch tg s0 sn sp : Nat) (st : St) : Prop := tg ≤ 255 ∧ s0 ≤ 255 ∧ sn ≤ N ∧ sp ≤ 9999 ∧ gI st (57 + 18 * l) ch = nI tg ∧ gI st (58 + 18 * l) ch = nI s0 ∧ gI st (59 + 18 * l) ch = nI sn ∧ gI st (60 + 18 * l) ch = nI sp ∧ gI st 191 (65 * l + (ch + 1)) = nI tg ∧ gI st 190 (65 * l + (ch + 1)) = nI (LV tg s0 sn sp N) ∧ ((sp = 0 ∨ sn + sp ≤ N) → gI st 194 (65 * l + (ch + 1)) = nI 0) ∧ (¬ (sp = 0 ∨ sn + sp ≤ N) → gI st 194 (65 * l + (ch + 1)) = nI sp ∧ gI st 192 (65 * l + (ch + 1)) = nI s0 ∧ gI st 193 (65 * l + (ch + 1)) = nI sn)
def PLc (l N : Nat) (st : St) : Prop := gI st 194 (65 * l) = nI 0 ∧ ∀ ch, ch < 64 → ∃ tg s0 sn sp, PLx l N ch tg s0 sn sp st
def PLo (st : St) : Prop := ∀ ch, 48 ≤ ch → ch < 64 → gI st 26 ch = gI st 195 (ch + 1) ∧ (gI st 26 ch = -nI 1 ∨ ∃ l, l < 4 ∧ gI st 26 ch = nI l)
def PLN (N : Nat) (sp : Nat) (Q C A : Nat → Nat) (DD : Nat → LD) (st : St) : Prop := gI st 1 8 = nI N ∧ gI st 153 40 = nI N ∧ SCR sp Q C A DD st ∧ (∀ l, l < 4 → PL1 l N (C l) st ∧ PLc l N st) ∧ PLo st
def P_ls (k : Nat) (st : St) : Prop := ∃ N sp Q C A DD, N ≤ 500 * k ∧ PLN N sp Q C A DD st
def S_ls : List PL := [(1, some 8), (24, some 6), (26, none), (153, some 40)] ++ ((List.range 85).map fun i => (30 + i, none)) ++ ((List.range 13).map fun i => (158 + i, none)) ++ ((List.range 10).map fun i => (186 + i, none))
theorem SC.c {q c a : Nat} {D : LD} {s u : St} (h : SC q c a D s) (e : ∀ j, j ≤ 12 → gI u (q + j) = gI s (q + j) ∧ gL u (q + j) = gL s (q + j)) : SC q c a D u := by
  obtain ⟨h1, h2, ⟨h3, h4⟩, h5⟩ := h
  refine ⟨?_, fun x hx k hk => ?_, ⟨?_, fun i hi => ?_⟩, fun i hi => ?_⟩
  · show gI u (q + 0) 12 = _
    rw [(e 0 (by omega)).1]; exact h1
  · rw [show q + 1 + k = q + (1 + k) by omega, (e (1 + k) (by omega)).1, show q + (1 + k) = q + 1 + k by omega]; exact h2 x hx k hk
  · show gI u (q + 0) 13 = _
    rw [(e 0 (by omega)).1]; exact h3
  · rw [(e 9 (by omega)).1, (e 10 (by omega)).1, (e 11 (by omega)).1, (e 12 (by omega)).2]; exact h4 i hi
  · rw [(e 8 (by omega)).1]; exact h5 i hi
theorem P_ls.fr {k : Nat} {s u : St} (h : P_ls k s) (hs : Same S_ls s u) : P_ls k u := by
  obtain ⟨N, sp, Q, C, A, DD, hN, h1, h2, ⟨h3, h4, h5⟩, h6, h7⟩ := h
  have e3 : ∀ o, 30 ≤ o → o ≤ 114 → gI u o = gI s o ∧ gL u o = gL s o ∧ gR u o = gR s o := fun o o1 o2 => by
    have m : (o, none) ∈ S_ls := List.mem_append_left _ (List.mem_append_left _ (List.mem_append_right _ (List.mem_map.mpr ⟨o - 30, List.mem_range.mpr (by omega), by rw [show 30 + (o - 30) = o by omega]⟩)))
    exact ⟨hs.fi m, hs.fl m, funext fun k => (hs o k (List.any_eq_true.mpr ⟨_, m, by simp [covers]⟩)).2.2⟩
  have e5 : ∀ o, 158 ≤ o → o ≤ 170 → gI u o = gI s o := fun o o1 o2 => hs.fi (List.mem_append_left _ (List.mem_append_right _ (List.mem_map.mpr ⟨o - 158, List.mem_range.mpr (by omega), by rw [show 158 + (o - 158) = o by omega]⟩)))
  have e8 : ∀ o, 186 ≤ o → o ≤ 195 → gI u o = gI s o := fun o o1 o2 => hs.fi (List.mem_append_right _ (List.mem_map.mpr ⟨o - 186, List.mem_range.mpr (by omega), by rw [show 186 + (o - 186) = o by omega]⟩))
  have e26 : gI u 26 = gI s 26 := hs.fi (by unfold S_ls; simp)
  refine ⟨N, sp, Q, C, A, DD, hN, ?_, ?_, ⟨?_, h4, fun l hl => ?_⟩, fun l hl => ?_, fun ch c1 c2 => ?_⟩
  · rw [hs.i (o := 1) (k := 8) (by decide)]; exact h1
  · rw [hs.i (o := 153) (k := 40) (by decide)]; exact h2
  · rw [hs.r (o := 24) (k := 6) (by decide)]; exact h3
  · obtain ⟨a1, a2, a3, a4, a5, a6, a7⟩ := h5 l hl
    refine ⟨?_, a2, a3, a4, ?_, a6, ?_⟩
    · rw [(e3 (43 + 18 * l) (by omega) (by omega)).2.2]; exact a1
    · have b := a2.b
      exact a5.c (fun j hj => ⟨(e3 (Q l + j) (by omega) (by omega)).1, (e3 (Q l + j) (by omega) (by omega)).2.1⟩)
    · refine a7.o a6.1 a6.2.1 ⟨by rw [e5 158 (by omega) (by omega)], fun j hj i _ => by rw [e5 (159 + j) (by omega) (by omega)], fun i _ => by rw [e5 167 (by omega) (by omega)], fun i _ => ?_⟩
      rw [e5 168 (by omega) (by omega), e5 169 (by omega) (by omega), e5 170 (by omega) (by omega)]
      exact ⟨rfl, rfl, rfl⟩
  · obtain ⟨b1, b2, b3⟩ := h6 l hl
    refine ⟨?_, ?_, fun ch hc => ?_⟩
    · unfold PL1
      rw [(e3 (43 + 18 * l) (by omega) (by omega)).1, e8 186 (by omega) (by omega), e8 187 (by omega) (by omega), e8 188 (by omega) (by omega), e8 189 (by omega) (by omega)]
      exact b1
    · rw [e8 194 (by omega) (by omega)]; exact b2
    · obtain ⟨tg, s0, sn, sp, b4⟩ := b3 ch hc
      refine ⟨tg, s0, sn, sp, ?_⟩
      unfold PLx
      rw [(e3 (57 + 18 * l) (by omega) (by omega)).1, (e3 (58 + 18 * l) (by omega) (by omega)).1, (e3 (59 + 18 * l) (by omega) (by omega)).1, (e3 (60 + 18 * l) (by omega) (by omega)).1, e8 190 (by omega) (by omega), e8 191 (by omega) (by omega), e8 192 (by omega) (by omega), e8 193 (by omega) (by omega), e8 194 (by omega) (by omega)]
      exact b4
  · rw [e26, e8 195 (by omega) (by omega)]; exact h7 ch c1 c2
/-! the reference's call -/
def D0 : LD := fun _ _ => 0
theorem LOK_0 : LOK 0 0 D0 := ⟨by omega, by omega, rfl, rfl, fun i hi => by omega, fun i hi => by omega⟩
def WLB : List PL := [(153, some 1), (153, some 5), (153, some 6), (153, some 7), (153, some 8), (153, some 34), (153, some 35), (153, some 38), (155, none), (156, none), (157, none), (171, none), (172, none), (173, none), (174, none), (175, none), (176, none), (177, none), (178, none), (179, none), (180, none), (181, none), (182, none), (183, none), (184, none), (185, none)]
def WLR : List PL := WLB ++ Wk ++ Wf ++ [(195, none)]
set_option maxRecDepth 100000 in
theorem list_r {st : St} (hT : Top st) {b : BY} {n : Nat} (h1 : gI st 153 1 = nI n) (h2 : n ≤ 4000) (h3 : ∀ i, i < n → gI st 154 i = b i) {fu : Nat} (hf : 9000 ≤ fu) {l : Nat} (hl : l < 4) : (∀ x t', pList b n 4001 0 0 D0 0 = .inl (x, t') → ∃ u, f_X12_list fu 153 (nI l) st = some (nI x.1, u) ∧ Fr WLR st u ∧ gI u 153 1 = nI 0 ∧ gI u 153 6 = nI 0 ∧ RK l x.1 x.2.1 x.2.2 u ∧ (∀ m, m < 4 → m ≠ l → KeepO m st u) ∧ (∀ m, gI u 186 m = (if m = l then -nI 1 else gI st 186 m) ∧ gI u 187 m = (if m = l then -nI 1 else gI st 187 m) ∧ gI u 188 m = (if m = l then -nI 1 else gI st 188 m) ∧ gI u 189 m = (if m = l then nI 255 else gI st 189 m)) ∧ (∀ i, gI u 190 i = (if 65 * l ≤ i ∧ i < 65 * l + 65 then nI 0 else gI st 190 i) ∧ gI u 191 i = (if 65 * l ≤ i ∧ i < 65 * l + 65 then nI 0 else gI st 191 i) ∧ gI u 194 i = (if 65 * l ≤ i ∧ i < 65 * l + 65 then nI 0 else gI st 194 i)) ∧ ∀ i, gI u 195 i = if 49 ≤ i ∧ i < 65 ∧ gI st 195 i = nI l then -nI 1 else gI st 195 i) ∧ (∀ f p, pList b n 4001 0 0 D0 0 = .inr (f, p) → ∃ u, f_X12_list fu 153 (nI l) st = some (-10 - nI p, u) ∧ Fr WLB st u ∧ gI u 153 1 = nI 0 ∧ gI u 153 6 = nI f) := by
  obtain ⟨s1, T, e1, fr1, hT1, hX, z1, z5, z6, z7, z8⟩ := read_r hT h1 h2 h3 (fu := fu) (by omega)
  obtain ⟨s3, hs3⟩ : ∃ s3, s3 = sI (sI s1 153 34 (nI 0)) 153 35 (nI 0) := ⟨_, rfl⟩
  have fr3 : Fr [(153, some 34), (153, some 35)] s1 s3 := by rw [hs3]; exact ((Fr.i s1 153 34 _).tr (Fr.i _ 153 35 _)).wd (by decide)
  have hT3 : Top s3 := hT1.r (by rw [hs3]; rfl)
  have R1 : RS b n T 0 s1 := ⟨hX, z5, Nat.zero_le _, z6, by omega, z7, Nat.zero_le _, z8, by omega⟩
  have R3 : RS b n T 0 s3 := RfA.same R1 (fr3.same (by decide))
  have RR : RRs 0 0 D0 s3 := ⟨by rw [hs3, gI_sI]; simp, fun x hx => by omega, fun i hi => by omega, fun i hi => by omega, fun i hi => by omega⟩
  obtain ⟨OK, BAD⟩ := l37_s (b := b) (n := n) (T := T) hf (nI l) 4001 fu 0 0 0 D0 s3 (by omega) (by omega) hT3 R3 RR LOK_0
  have hd : f_X12_list fu 153 (nI l) st = b_X12_list_37 fu fu 153 (nI l) (nI (if 0 = 0 then 0 else D0 0 (0 - 1))) (nI 0) s3 := by
    rw [hs3]
    clear OK BAD R3 R1 RR hX
    simp (disch := first | decide | omega) [↓bd_e, isb, ck_tt, NP, NF, NC, NB, NS, GS, kdR, tpR hT, f_X12_list, e1]
  have i3 : gI s3 153 1 = nI 0 := by rw [fr3.ki 153 1 (by decide)]; exact z1
  have f3 : Fr WLB st s3 := (fr1.tr fr3).wd (by decide)
  rw [hd]
  refine ⟨fun x t' e => ?_, fun f p e => ?_⟩
  · obtain ⟨s4, e4, fr4, hT4, R4, g6⟩ := OK x t' e
    have LK := pList_i e LOK_0
    have f4 : Fr WLB st s4 := f3.tt (fr4.sub (by simp [Wq, WLB]))
    obtain ⟨s5, hs5⟩ : ∃ s5, s5 = sI s4 153 34 (nI x.1) := ⟨_, rfl⟩
    have fr5 : Fr [(153, some 34)] s4 s5 := by rw [hs5]; exact Fr.i _ _ _ _
    have hT5 : Top s5 := hT4.r (by rw [hs5]; rfl)
    have R5 : RRs x.1 x.2.1 x.2.2 s5 := by
      obtain ⟨q1, q2, q3, q4, q5⟩ := R4
      refine ⟨by rw [fr5.ki 153 35 (by decide)]; exact q1, fun y hy k hk => ?_, fun i hi => ?_, fun i hi => ?_, fun i hi ch hc => ?_⟩
      · rw [fr5.fi (171 + k) (by simp <;> omega)]; exact q2 y hy k hk
      · rw [fr5.fi 180 (by decide), fr5.fi 181 (by decide), fr5.fi 182 (by decide)]; exact q3 i hi
      · rw [fr5.fi 178 (by decide), fr5.fi 177 (by decide)]; exact q4 i hi
      · rw [fr5.fi 179 (by decide)]; exact q5 i hi ch hc
    obtain ⟨s6, e6, fr6, hT6, k6, ko6⟩ := keep_r hT5 (fu := fu) (by omega) hl LK (by rw [hs5, gI_sI]; simp) R5
    obtain ⟨s7, e7, fr7, hT7, v1, v2⟩ := fresh_r hT6 (fu := fu) (by omega) hl
    obtain ⟨u, e8, hT8, fr8, v3⟩ := l154 (fu := fu) hl (nI x.1) s7 fu 49 s7 hT7 (by omega) (by omega) (by omega) Fr.rf (fun i => by rw [if_neg (by omega)])
    have o5 : ∀ o, 158 ≤ o → o ≤ 170 → gI s5 o = gI st o := fun o o1 o2 => by rw [fr5.fi o (by simp <;> omega), f4.fi o (by simp [WLB] <;> omega)]
    have oW : ∀ o, 158 ≤ o → o ≤ 170 → gI u o = gI s6 o := fun o o1 o2 => by rw [fr8.fi o (by simp <;> omega), fr7.fi o (by simp [Wf] <;> omega)]
    have o8 : ∀ o, 186 ≤ o → o ≤ 195 → gI s6 o = gI st o := fun o o1 o2 => by rw [fr6.fi o (by simp [Wk] <;> omega), fr5.fi o (by simp <;> omega), f4.fi o (by simp [WLB] <;> omega)]
    refine ⟨u, ?_, ((((f4.tr fr5).tr fr6).tr fr7).tr fr8).wd (by decide), ?_, ?_, ?_, fun m hm ml => ?_, fun m => ?_, fun i => ?_, fun i => ?_⟩
    · rw [e4]
      unfold b_X12_list_120
      rw [ck_t (show (kd 153).1 = 12 from rfl), g6, if_pos (show nI 0 = 0 from rfl), ck_t (show (kd 153).1 = 12 from rfl), bd_e, ← hs5, ck_t (show (kd 153).1 = 12 from rfl), e6, cv_s, ck_t (show (kd 153).1 = 12 from rfl), e7, cv_s]
      exact e8
    · rw [fr8.ki 153 1 (by decide), fr7.ki 153 1 (by decide), fr6.ki 153 1 (by decide), fr5.ki 153 1 (by decide), fr4.ki 153 1 (by decide)]; exact i3
    · rw [fr8.ki 153 6 (by decide), fr7.ki 153 6 (by decide), fr6.ki 153 6 (by decide), fr5.ki 153 6 (by decide)]; exact g6
    · refine k6.o LK.1 LK.2.1 ⟨by rw [oW 158 (by omega) (by omega)], fun j hj i _ => by rw [oW (159 + j) (by omega) (by omega)], fun i _ => by rw [oW 167 (by omega) (by omega)], fun i _ => ?_⟩
      rw [oW 168 (by omega) (by omega), oW 169 (by omega) (by omega), oW 170 (by omega) (by omega)]
      exact ⟨rfl, rfl, rfl⟩
    · obtain ⟨a1, a2, a3, a4⟩ := ko6 m hm ml
      refine ⟨?_, fun j hj i hi => ?_, fun i hi => ?_, fun i hi => ?_⟩
      · rw [oW 158 (by omega) (by omega), a1, o5 158 (by omega) (by omega)]
      · rw [oW (159 + j) (by omega) (by omega), a2 j hj i hi, o5 (159 + j) (by omega) (by omega)]
      · rw [oW 167 (by omega) (by omega), a3 i hi, o5 167 (by omega) (by omega)]
      · rw [oW 168 (by omega) (by omega), oW 169 (by omega) (by omega), oW 170 (by omega) (by omega), ← o5 168 (by omega) (by omega), ← o5 169 (by omega) (by omega), ← o5 170 (by omega) (by omega)]
        exact a4 i hi
    · rw [fr8.fi 186 (by decide), fr8.fi 187 (by decide), fr8.fi 188 (by decide), fr8.fi 189 (by decide), ← o8 186 (by omega) (by omega), ← o8 187 (by omega) (by omega), ← o8 188 (by omega) (by omega), ← o8 189 (by omega) (by omega)]
      exact v1 m
    · rw [fr8.fi 190 (by decide), fr8.fi 191 (by decide), fr8.fi 194 (by decide), ← o8 190 (by omega) (by omega), ← o8 191 (by omega) (by omega), ← o8 194 (by omega) (by omega)]
      exact v2 i
    · rw [v3 i, fr7.fi 195 (by decide), o8 195 (by omega) (by omega)]
  · obtain ⟨s4, e4, fr4, hT4, g6⟩ := BAD f p e
    exact ⟨s4, e4, f3.tt (fr4.sub (by simp [Wq, WLB])), by rw [fr4.ki 153 1 (by decide)]; exact i3, g6⟩
