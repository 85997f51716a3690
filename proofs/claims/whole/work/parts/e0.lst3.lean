/-! PURE: lists: list, both together -/
def R85 : List PL := (List.range 85).map fun i => (30 + i, none)
theorem R85_m {o : Nat} (h1 : 30 ≤ o) (h2 : o ≤ 114) : (o, none) ∈ R85 := List.mem_map.mpr ⟨o - 30, List.mem_range.mpr (by omega), by rw [show 30 + (o - 30) = o by omega]⟩
theorem Fr.cov {W V : List PL} {a b : St} (h : Fr W a b) (hc : ∀ x, x ∈ W → x ∈ V ∨ (30 ≤ x.1 ∧ x.1 ≤ 114)) : Fr (V ++ R85) a b := fun o k hk => by
  rw [List.any_append, Bool.or_eq_false_iff] at hk
  refine h o k (List.any_eq_false.mpr fun x hx hcov => ?_)
  rcases hc x hx with q | q
  · exact List.any_eq_false.mp hk.1 x q hcov
  · have : x.1 = o := by
      simp only [covers, Bool.and_eq_true, beq_iff_eq] at hcov
      exact hcov.1
    subst this
    exact List.any_eq_false.mp hk.2 _ (R85_m q.1 q.2) (by simp [covers])
theorem PLN.tr {N sp : Nat} {Q C A : Nat → Nat} {DD : Nat → LD} {s u : St} (h : PLN N sp Q C A DD s) (e1 : gI u 1 8 = gI s 1 8) (e2 : gI u 153 40 = gI s 153 40) (e6 : gR u 24 6 = gR s 24 6) (e26 : gI u 26 = gI s 26) (e3 : ∀ o, 30 ≤ o → o ≤ 114 → (o < sp ∨ sp + 12 < o) → gI u o = gI s o ∧ gL u o = gL s o ∧ gR u o = gR s o) (e5 : ∀ o, 158 ≤ o → o ≤ 170 → gI u o = gI s o) (e8 : ∀ o, 186 ≤ o → o ≤ 195 → gI u o = gI s o) : PLN N sp Q C A DD u := by
  obtain ⟨h1, h2, ⟨h3, h4, h5⟩, h6, h7⟩ := h
  have spS : SQ sp := h4
  unfold SQ at h4
  refine ⟨by rw [e1]; exact h1, by rw [e2]; exact h2, ⟨by rw [e6]; exact h3, spS, fun l hl => ?_⟩, fun l hl => ?_, fun ch c1 c2 => ?_⟩
  · obtain ⟨a1, a2, a3, a4, a5, a6, a7⟩ := h5 l hl
    refine ⟨?_, a2, a3, a4, ?_, a6, ?_⟩
    · rw [(e3 (43 + 18 * l) (by omega) (by omega) (by omega)).2.2]; exact a1
    · have b := a2
      unfold SQ at b
      exact a5.c (fun j hj => ⟨(e3 (Q l + j) (by omega) (by omega) (by omega)).1, (e3 (Q l + j) (by omega) (by omega) (by omega)).2.1⟩)
    · refine a7.o a6.1 a6.2.1 ⟨by rw [e5 158 (by omega) (by omega)], fun j hj i _ => by rw [e5 (159 + j) (by omega) (by omega)], fun i _ => by rw [e5 167 (by omega) (by omega)], fun i _ => ?_⟩
      rw [e5 168 (by omega) (by omega), e5 169 (by omega) (by omega), e5 170 (by omega) (by omega)]
      exact ⟨rfl, rfl, rfl⟩
  · obtain ⟨b1, b2, b3⟩ := h6 l hl
    refine ⟨?_, ?_, fun ch hc => ?_⟩
    · unfold PL1
      rw [(e3 (43 + 18 * l) (by omega) (by omega) (by omega)).1, e8 186 (by omega) (by omega), e8 187 (by omega) (by omega), e8 188 (by omega) (by omega), e8 189 (by omega) (by omega)]
      exact b1
    · rw [e8 194 (by omega) (by omega)]; exact b2
    · obtain ⟨tg, s0, sn, sp', b4⟩ := b3 ch hc
      refine ⟨tg, s0, sn, sp', ?_⟩
      unfold PLx
      rw [(e3 (57 + 18 * l) (by omega) (by omega) (by omega)).1, (e3 (58 + 18 * l) (by omega) (by omega) (by omega)).1, (e3 (59 + 18 * l) (by omega) (by omega) (by omega)).1, (e3 (60 + 18 * l) (by omega) (by omega) (by omega)).1, e8 190 (by omega) (by omega), e8 191 (by omega) (by omega), e8 192 (by omega) (by omega), e8 193 (by omega) (by omega), e8 194 (by omega) (by omega)]
      exact b4
  · rw [e26, e8 195 (by omega) (by omega)]; exact h7 ch c1 c2
def V_lst : List PL := [(2, some 1), (2, some 2), (2, some 3), (2, some 4), (2, some 5), (2, some 6), (2, some 7), (2, some 8), (2, some 9), (24, some 6), (26, none)] ++ WLR
def W_lst : List PL := V_lst ++ R85
theorem P_txt.z {st w : St} (h : P_txt st) (e3 : gI w 3 = gI st 3) (e4 : gI w 154 = gI st 154) (e1 : gI w 2 1 = nI 0) (e5 : gI w 153 1 = nI 0) (e6 : gI w 2 8 = gI w 153 6) : P_txt w := by
  obtain ⟨⟨t1, -⟩, -, hB⟩ := h
  refine ⟨⟨by rw [e3, e4]; exact t1, by rw [e1, e5], 0, by omega, e1⟩, e6, fun k => ?_⟩
  rw [e3]; exact hB k
set_option maxRecDepth 100000 in
set_option maxHeartbeats 8000000 in
theorem list_2 {k : Nat} {st : St} (hT : Top st) (hX : P_txt st) (hP : P_ls k st) (fu : Nat) (hf : 9000 ≤ fu) (a : Int32) : Two (f_X11_list fu 1 a) (f_X12_list fu 153 a) W_lst (fun w => P_txt w ∧ P_ls k w) st := by
  obtain ⟨⟨t1, t2, n, t3, t4⟩, tf, hB⟩ := id hX
  obtain ⟨N, sp, Q, C, A, DD, hN, hPN⟩ := hP
  -- the list's number is none
  have no : f_X11_within fu a (nI 0) (nI 3) st = some (nI 0, st) → (a < nI 0 ∨ (¬ a < nI 0 ∧ nI 3 < a)) → Two (f_X11_list fu 1 a) (f_X12_list fu 153 a) W_lst (fun w => P_txt w ∧ P_ls k w) st := fun hw hr => by
    have fC : Fr [(2, some 1)] st (sI st 2 1 (nI 0)) := Fr.i _ _ _ _
    have fR : Fr [(153, some 1)] (sI st 2 1 (nI 0)) (sI (sI st 2 1 (nI 0)) 153 1 (nI 0)) := Fr.i _ _ _ _
    have fA : Fr [(2, some 1), (153, some 1)] st (sI (sI st 2 1 (nI 0)) 153 1 (nI 0)) := (fC.tr fR).sub (by simp)
    refine ⟨-nI 1, sI st 2 1 (nI 0), sI (sI st 2 1 (nI 0)) 153 1 (nI 0), ?_, ?_, fA.sub (by simp [W_lst, V_lst, WLR, WLB]), hX.z (fA.fi 3 (by decide)) (fA.fi 154 (by decide)) (by simp [gI_sI]) (by simp [gI_sI]) ?_, N, sp, Q, C, A, DD, hN, hPN.tr (fA.ki 1 8 (by decide)) (fA.ki 153 40 (by decide)) (fA 24 6 (by decide)).2.2 (fA.fi 26 (by decide)) (fun o o1 o2 _ => ⟨fA.fi o (by simp <;> omega), fA.fl o (by simp <;> omega), fA.fr o (by simp <;> omega)⟩) (fun o o1 o2 => fA.fi o (by simp <;> omega)) (fun o o1 o2 => fA.fi o (by simp <;> omega))⟩
    · clear hPN hX hB
      simp (disch := first | decide | omega) [↓bd_e, isb, ck_tt, NP, NF, NC, NB, NS, GS, kdC, tpC hT, f_X11_list, hw]
    · clear hPN hX hB hw
      have l4 : ∀ x : Int32, (x < nI 4) = (x ≤ nI 3) := fun x => by
        apply propext
        rw [i32_lt, i32_le, nI_toInt (by omega), nI_toInt (by omega)]
        omega
      rcases hr with q | ⟨q1, q2⟩
      · simp (disch := first | decide | omega) [↓bd_e, isb, ck_tt, NP, NF, NC, NB, NS, GS, kdR, tpR hT, f_X12_list, b_X12_list_9, q]
      · have q3 : ¬ a ≤ nI 3 := fun h => by have := i32_le.mp h; have := i32_lt.mp q2; omega
        simp (disch := first | decide | omega) [↓bd_e, isb, ck_tt, NP, NF, NC, NB, NS, GS, kdR, tpR hT, f_X12_list, b_X12_list_9, q1, l4, q3]
    · rw [fA.ki 2 8 (by decide), fA.ki 153 6 (by decide)]; exact tf
  rcases rngN a 0 3 (by omega) (by omega) with ⟨l, -, j2, rfl, -⟩ | ⟨x, y⟩ | ⟨x, y⟩
  case inr.inl => exact no (by rw [within_eq]; rw [if_neg y]; rfl) (Or.inl x)
  case inr.inr => exact no (by rw [within_eq]; rw [if_neg y]; rfl) (Or.inr x)
  have hl : l < 4 := by omega
  have hw : f_X11_within fu (nI l) (nI 0) (nI 3) st = some (nI 1, st) := by
    rw [within_eq, if_pos ⟨nI_le (by omega) (by omega), (nI_leI (by omega) (by omega)).mpr j2⟩]; rfl
  obtain ⟨h1, h2, ⟨h3, h4, h5⟩, h6, h7⟩ := id hPN
  have h4' := h4
  unfold SQ at h4'
  obtain ⟨s6, e6, fr6, hT6, co⟩ := read_c hT (b := gI st 3) t4 t3 (fun _ _ => rfl) (fun i _ => hB i) hf h4
  have K := sqK h4
  have o6 : ∀ o, 4 ≤ o → (o < sp ∨ sp + 12 < o) → gI s6 o = gI st o ∧ gL s6 o = gL st o ∧ gR s6 o = gR st o := fun o ho hs => by
    have hd : ((2, some 7) :: Ws sp).all (fun b => !(b.1 == o)) = true := by simp [Ws]; omega
    exact ⟨fr6.fi o hd, fr6.fl o hd, fr6.fr o hd⟩
  have spn : sp ≠ 0 := by omega
  have q3 : gI s6 3 = gI st 3 := fr6.fi 3 (by simp [Ws]; omega)
  have r1 : gI s6 153 1 = nI n := by rw [(o6 153 (by omega) (by omega)).1, ← t2]; exact t4
  have r154 : gI s6 154 = gI st 154 := (o6 154 (by omega) (by omega)).1
  have V6 : ∀ x, x ∈ (2, some 7) :: Ws sp → x ∈ V_lst ∨ (30 ≤ x.1 ∧ x.1 ≤ 114) := by
    intro x hx
    simp only [Ws, List.mem_cons, List.not_mem_nil, or_false] at hx
    rcases hx with rfl | rfl | rfl | rfl | rfl | rfl | rfl | rfl | rfl | rfl | rfl | rfl | rfl | rfl | rfl | rfl | rfl | rfl | rfl | rfl | rfl | rfl
    all_goals first | exact Or.inl (by decide) | exact Or.inr ⟨by show 30 ≤ _; omega, by show _ ≤ 114; omega⟩
  have f6 : Fr W_lst st s6 := fr6.cov V6
  cases hp : pList (gI st 3) n 4001 0 0 D0 0 with
  | inr e' =>
    obtain ⟨f, p⟩ := e'
    rw [hp] at co
    have hD : TD (gI st 3) n 4000 f p s6 := co
    obtain ⟨dX, d8, d1, d3, d9, dp, -⟩ := hD
    have cl := close_c hT6 fu (gI s6 sp 12)
    rw [d8, if_neg (fun e => by have := (nI_eq (a := f) (b := 0) (by omega) (by omega)).mp e; omega), d9] at cl
    have f7 : Fr [(2, some 1)] s6 (sI s6 2 1 (nI 0)) := Fr.i _ _ _ _
    have u154 : ∀ i, i < n → gI (sI s6 2 1 (nI 0)) 154 i = gI st 3 i := fun i _ => by rw [f7.fi 154 (by decide), r154, ← t1]
    obtain ⟨-, BAD⟩ := list_r (hT6.r (u := sI s6 2 1 (nI 0)) rfl) (b := gI st 3) (by rw [f7.ki 153 1 (by decide)]; exact r1) t3 u154 hf hl
    obtain ⟨w, w1, w2, w3, w4⟩ := BAD f p hp
    have fw : Fr W_lst st w := (f6.tt (f7.sub (by simp [W_lst, V_lst]))).tt (w2.sub (fun x hx => List.mem_append_left _ (List.mem_append_right _ (List.mem_append_left _ (List.mem_append_left _ (List.mem_append_left _ hx))))))
    refine ⟨-10 - nI p, sI s6 2 1 (nI 0), w, ?_, w1, fw, hX.z ?_ ?_ ?_ w3 ?_, N, sp, Q, C, A, DD, hN, hPN.tr ?_ ?_ ?_ ?_ (fun o o1 o2 hs => ?_) (fun o o1 o2 => ?_) (fun o o1 o2 => ?_)⟩
    · rw [← cl]
      have n0 : ¬ gI s6 2 8 = nI 0 := by rw [d8]; intro e; have := (nI_eq (a := f) (b := 0) (by omega) (by omega)).mp e; omega
      clear hPN hX hB co dX cl f7 u154 BAD w1 w2 w3 w4 fw V6 f6 fr6 o6 no h5 h6 h7 hp
      have cl2 : ∀ z : Option (Int32 × St), (ca z fun r8 s9 => some (r8, s9)) = z := fun z => by cases z <;> rfl
      simp (disch := first | decide | omega) [↓bd_e, isb, ck_tt, NP, NF, NC, NB, NS, GS, kdC, tpC hT, f_X11_list, b_X11_list_53, hw, h3, spn, K, e6, n0, tpC hT6, cl2]
    · rw [w2.fi 3 (by decide), f7.fi 3 (by decide)]; exact q3
    · rw [w2.fi 154 (by decide), f7.fi 154 (by decide)]; exact r154
    · rw [w2.ki 2 1 (by decide), gI_sI]; simp
    · rw [w2.ki 2 8 (by decide), w4, f7.ki 2 8 (by decide)]; exact d8
    · rw [w2.ki 1 8 (by decide), f7.ki 1 8 (by decide), fr6.ki 1 8 (by simp [Ws, covers]; omega)]
    · rw [w2.ki 153 40 (by decide), f7.ki 153 40 (by decide), (o6 153 (by omega) (by omega)).1]
    · rw [(w2 24 6 (by decide)).2.2, (f7 24 6 (by decide)).2.2, (o6 24 (by omega) (by omega)).2.2]
    · rw [w2.fi 26 (by decide), f7.fi 26 (by decide), (o6 26 (by omega) (by omega)).1]
    · obtain ⟨y1, y2, y3⟩ := o6 o (by omega) hs
      refine ⟨?_, ?_, ?_⟩
      · rw [w2.fi o (by simp [WLB] <;> omega), f7.fi o (by simp <;> omega), y1]
      · rw [w2.fl o (by simp [WLB] <;> omega), f7.fl o (by simp <;> omega), y2]
      · rw [w2.fr o (by simp [WLB] <;> omega), f7.fr o (by simp <;> omega), y3]
    · rw [w2.fi o (by simp [WLB] <;> omega), f7.fi o (by simp <;> omega), (o6 o (by omega) (by omega)).1]
    · rw [w2.fi o (by simp [WLB] <;> omega), f7.fi o (by simp <;> omega), (o6 o (by omega) (by omega)).1]
  | inl x =>
    obtain ⟨x, t'⟩ := x
    rw [hp] at co
    obtain ⟨hC, hS⟩ := co
    have hC : TC (gI st 3) n 4000 t' s6 := hC
    have d8 := hC.2.1.1
    obtain ⟨a1, a2, a3, a4, a5, a6, a7⟩ := h5 l hl
    have a2' := a2
    unfold SQ at a2'
    have LK := pList_i hp LOK_0
    obtain ⟨s7, e7, fr7, hT7, g6, g0, ⟨p5, p6, p8, p9⟩, pz, po⟩ := adopt_c hT6 (fu := fu) (by omega) hl (show gR s6 24 6 = sp by rw [(o6 24 (by omega) (by omega)).2.2]; exact h3) (show gR s6 (43 + 18 * l) 0 = Q l by rw [(o6 _ (by omega) (by omega)).2.2]; exact a1) spn (by omega)
    have q8 : gI s7 2 = gI s6 2 := fr7.fi 2 (by simp [Wad]; omega)
    have cl := close_c hT7 fu (gI s7 sp 12)
    rw [q8, d8, if_pos rfl] at cl
    have sq7 : ∀ o, 30 ≤ o → o ≤ 114 → o ≠ 43 + 18 * l → o ≠ 57 + 18 * l → o ≠ 60 + 18 * l → gI s7 o = gI s6 o ∧ gL s7 o = gL s6 o ∧ gR s7 o = gR s6 o := fun o o1 o2 z1 z2 z3 => by
      have hd : (Wad l).all (fun b => !(b.1 == o)) = true := by simp [Wad]; omega
      exact ⟨fr7.fi o hd, fr7.fl o hd, fr7.fr o hd⟩
    have S7 : SC sp x.1 x.2.1 x.2.2 s7 := SC.c hS (fun j hj => ⟨(sq7 (sp + j) (by omega) (by omega) (by omega) (by omega) (by omega)).1, (sq7 (sp + j) (by omega) (by omega) (by omega) (by omega) (by omega)).2.1⟩)
    have f8 : Fr [(2, some 1)] s7 (sI s7 2 1 (nI 0)) := Fr.i _ _ _ _
    have r7 : ∀ o, 115 ≤ o → gI s7 o = gI st o := fun o ho => by rw [fr7.fi o (by simp [Wad]; omega), (o6 o (by omega) (by omega)).1]
    have u154 : ∀ i, i < n → gI (sI s7 2 1 (nI 0)) 154 i = gI st 3 i := fun i _ => by rw [f8.fi 154 (by decide), r7 154 (by omega), ← t1]
    obtain ⟨OK, -⟩ := list_r (hT7.r (u := sI s7 2 1 (nI 0)) rfl) (b := gI st 3) (by rw [f8.ki 153 1 (by decide), r7 153 (by omega), ← t2]; exact t4) t3 u154 hf hl
    obtain ⟨w, w1, w2, w3, w4, w5, w6, w7, w8, w9⟩ := OK x t' hp
    have V7 : ∀ y, y ∈ Wad l → y ∈ V_lst ∨ (30 ≤ y.1 ∧ y.1 ≤ 114) := by
      intro y hy
      simp only [Wad, List.mem_cons, List.not_mem_nil, or_false] at hy
      rcases hy with rfl | rfl | rfl | rfl | rfl | rfl | rfl | rfl | rfl
      all_goals first | exact Or.inl (by decide) | exact Or.inr ⟨by show 30 ≤ _; omega, by show _ ≤ 114; omega⟩
    have fw : Fr W_lst st w := ((f6.tt (fr7.cov V7)).tt (f8.sub (by simp [W_lst, V_lst]))).tt (w2.sub (fun y hy => List.mem_append_left _ (List.mem_append_right _ hy)))
    -- the cells of the class, in the end
    have cW : ∀ o, 24 ≤ o → o ≤ 114 → gI w o = gI s7 o ∧ gL w o = gL s7 o ∧ gR w o = gR s7 o := fun o o1 o2 => by
      have hd : WLR.all (fun b => !(b.1 == o)) = true := by simp [WLR, WLB, Wk, Wf]; omega
      have hd2 : [((2 : Nat), some (1 : Nat))].all (fun b => !(b.1 == o)) = true := by simp; omega
      exact ⟨by rw [w2.fi o hd, f8.fi o hd2], by rw [w2.fl o hd, f8.fl o hd2], by rw [w2.fr o hd, f8.fr o hd2]⟩
    have rW : ∀ o, 158 ≤ o → gI (sI s7 2 1 (nI 0)) o = gI st o := fun o ho => by rw [f8.fi o (by simp; omega), r7 o (by omega)]
    refine ⟨nI x.1, sI s7 2 1 (nI 0), w, ?_, w1, fw, hX.z ?_ ?_ ?_ w3 ?_, N, Q l, (fun m => if m = l then sp else Q m), (fun m => if m = l then x.1 else C m), (fun m => if m = l then x.2.1 else A m), (fun m => if m = l then x.2.2 else DD m), hN, ?_, ?_, ⟨?_, a2, fun m hm => ?_⟩, fun m hm => ?_, fun ch c1 c2 => ?_⟩
    · have cl' : f_X11_closeText fu 1 (gI s7 sp 12) s7 = some (nI x.1, sI s7 2 1 (nI 0)) := by rw [cl, S7.1]
      clear hPN hX hB hC hS cl f8 u154 OK w1 w2 w3 w4 w5 w6 w7 w8 w9 fw V6 V7 f6 fr6 o6 no h5 h6 h7 hp S7 sq7 r7 rW cW fr7 LK po pz
      have cl2 : ∀ z : Option (Int32 × St), (ca z fun r8 s9 => some (r8, s9)) = z := fun z => by cases z <;> rfl
      simp (disch := first | decide | omega) [↓bd_e, isb, ck_tt, NP, NF, NC, NB, NS, GS, kdC, tpC hT, f_X11_list, b_X11_list_53, hw, h3, spn, K, e6, d8, tpC hT6, e7, cl']
    · rw [w2.fi 3 (by decide), f8.fi 3 (by decide), fr7.fi 3 (by simp [Wad]; omega)]; exact q3
    · rw [w2.fi 154 (by decide), f8.fi 154 (by decide)]; exact r7 154 (by omega)
    · rw [w2.ki 2 1 (by decide), gI_sI]; simp
    · rw [w2.ki 2 8 (by decide), w4, f8.ki 2 8 (by decide), q8]; exact d8
    · rw [w2.ki 1 8 (by decide), f8.ki 1 8 (by decide), fr7.ki 1 8 (by simp [Wad, covers]; omega), fr6.ki 1 8 (by simp [Ws, covers]; omega)]; exact h1
    · rw [w2.ki 153 40 (by decide), f8.ki 153 40 (by decide), r7 153 (by omega)]; exact h2
    · rw [(cW 24 (by omega) (by omega)).2.2]; exact g6
    · by_cases e : m = l
      · subst e
        simp only [if_true]
        refine ⟨?_, h4, fun q => a3 q.symm, fun m' hm' hne => ?_, ?_, LK, w5⟩
        · rw [(cW _ (by omega) (by omega)).2.2]; exact g0
        · rw [if_neg hne]; exact (h5 m' hm').2.2.1
        · exact S7.c (fun j hj => ⟨(cW (sp + j) (by omega) (by omega)).1, (cW (sp + j) (by omega) (by omega)).2.1⟩)
      · simp only [if_neg e]
        obtain ⟨b1, b2, b3, b4, b5, b6, b7⟩ := h5 m hm
        have b2' := b2
        unfold SQ at b2'
        have ne := b4 l hl (fun q => e q.symm)
        refine ⟨?_, b2, fun q => ne q.symm, fun m' hm' hne => ?_, ?_, b6, ?_⟩
        · rw [(cW _ (by omega) (by omega)).2.2, (sq7 _ (by omega) (by omega) (by omega) (by omega) (by omega)).2.2, (o6 _ (by omega) (by omega)).2.2]; exact b1
        · by_cases e2 : m' = l
          · rw [if_pos e2]; exact fun q => b3 q.symm
          · rw [if_neg e2]; exact b4 m' hm' hne
        · refine b5.c (fun j hj => ?_)
          obtain ⟨y1, y2, -⟩ := cW (Q m + j) (by omega) (by omega)
          obtain ⟨y3, y4, -⟩ := sq7 (Q m + j) (by omega) (by omega) (by omega) (by omega) (by omega)
          obtain ⟨y5, y6, -⟩ := o6 (Q m + j) (by omega) (by omega)
          exact ⟨by rw [y1, y3, y5], by rw [y2, y4, y6]⟩
        · refine b7.o b6.1 b6.2.1 ?_
          obtain ⟨y1, y2, y3, y4⟩ := w6 m hm e
          refine ⟨by rw [y1, rW 158 (by omega)], fun j hj i hi => by rw [y2 j hj i hi, rW (159 + j) (by omega)], fun i hi => by rw [y3 i hi, rW 167 (by omega)], fun i hi => ?_⟩
          obtain ⟨y5, y6, y7⟩ := y4 i hi
          rw [y5, y6, y7, rW 168 (by omega), rW 169 (by omega), rW 170 (by omega)]
          exact ⟨rfl, rfl, rfl⟩
    · obtain ⟨v1, v2, v3, v4⟩ := w7 m
      rw [rW 186 (by omega)] at v1
      rw [rW 187 (by omega)] at v2
      rw [rW 188 (by omega)] at v3
      rw [rW 189 (by omega)] at v4
      have v8 : ∀ i, gI w 190 i = (if 65 * l ≤ i ∧ i < 65 * l + 65 then nI 0 else gI st 190 i) ∧ gI w 191 i = (if 65 * l ≤ i ∧ i < 65 * l + 65 then nI 0 else gI st 191 i) ∧ gI w 194 i = (if 65 * l ≤ i ∧ i < 65 * l + 65 then nI 0 else gI st 194 i) := fun i => by
        have := w8 i
        rw [rW 190 (by omega), rW 191 (by omega), rW 194 (by omega)] at this
        exact this
      have w92 : gI w 192 = gI st 192 := by rw [w2.fi 192 (by decide), f8.fi 192 (by decide), r7 192 (by omega)]
      have w93 : gI w 193 = gI st 193 := by rw [w2.fi 193 (by decide), f8.fi 193 (by decide), r7 193 (by omega)]
      obtain ⟨b1, b2, b3⟩ := h6 m hm
      by_cases e : m = l
      · subst e
        rw [if_pos rfl] at v1 v2 v3 v4
        have cp := (cW (43 + 18 * m) (by omega) (by omega)).1
        refine ⟨⟨?_, Or.inl ?_, Or.inr ⟨?_, v2, Or.inl ⟨?_, v3⟩⟩, 255, by omega, ?_, v4⟩, ?_, fun ch hc => ?_⟩
        · rw [cp, p5, v1]
        · rw [cp]; exact p5
        · rw [cp]; exact p6
        · rw [cp]; exact p8
        · rw [cp]; exact p9
        · rw [(v8 _).2.2, if_pos (by omega)]
        · obtain ⟨tg, s0, sn, sp', z1, z2, z3, z4, z5, z6, z7, z8, -⟩ := b3 ch hc
          have lv : LV 0 s0 sn 0 N = 0 := LV_off (Or.inl rfl)
          refine ⟨0, s0, sn, 0, by omega, z2, z3, by omega, ?_, ?_, ?_, ?_, ?_, ?_, fun _ => ?_, fun q => absurd (Or.inl rfl) q⟩
          · rw [(cW _ (by omega) (by omega)).1]; exact (pz ch hc).1
          · rw [(cW _ (by omega) (by omega)).1, (sq7 _ (by omega) (by omega) (by omega) (by omega) (by omega)).1, (o6 _ (by omega) (by omega)).1]; exact z6
          · rw [(cW _ (by omega) (by omega)).1, (sq7 _ (by omega) (by omega) (by omega) (by omega) (by omega)).1, (o6 _ (by omega) (by omega)).1]; exact z7
          · rw [(cW _ (by omega) (by omega)).1]; exact (pz ch hc).2
          · rw [(v8 _).2.1, if_pos (by omega)]
          · rw [(v8 _).1, if_pos (by omega), lv]
          · rw [(v8 _).2.2, if_pos (by omega)]
      · rw [if_neg e] at v1 v2 v3 v4
        have cell : ∀ o, (o = 43 + 18 * m ∨ o = 57 + 18 * m ∨ o = 58 + 18 * m ∨ o = 59 + 18 * m ∨ o = 60 + 18 * m) → gI w o = gI st o := fun o ho => by
          rw [(cW o (by omega) (by omega)).1, (sq7 o (by omega) (by omega) (by omega) (by omega) (by omega)).1, (o6 o (by omega) (by omega)).1]
        refine ⟨?_, ?_, fun ch hc => ?_⟩
        · show PL1 m N (if m = l then x.1 else C m) w
          rw [if_neg e]
          unfold PL1
          rw [cell (43 + 18 * m) (by omega), v1, v2, v3, v4]
          exact b1
        · rw [(v8 _).2.2, if_neg (by omega)]; exact b2
        · obtain ⟨tg, s0, sn, sp', b4⟩ := b3 ch hc
          refine ⟨tg, s0, sn, sp', ?_⟩
          unfold PLx
          rw [cell (57 + 18 * m) (by omega), cell (58 + 18 * m) (by omega), cell (59 + 18 * m) (by omega), cell (60 + 18 * m) (by omega), (v8 _).1, (v8 _).2.1, (v8 _).2.2, if_neg (by omega), if_neg (by omega), if_neg (by omega), w92, w93]
          exact b4
    · obtain ⟨b1, b2⟩ := h7 ch c1 c2
      have i26 : gI w 26 ch = if ch < 64 ∧ gI st 26 ch = nI l then -nI 1 else gI st 26 ch := by
        rw [(cW 26 (by omega) (by omega)).1, po ch, (o6 26 (by omega) (by omega)).1]
      have i195 : gI w 195 (ch + 1) = if 49 ≤ ch + 1 ∧ ch + 1 < 65 ∧ gI st 195 (ch + 1) = nI l then -nI 1 else gI st 195 (ch + 1) := by
        rw [w9 (ch + 1), rW 195 (by omega)]
      rw [i26, i195, ← b1]
      by_cases e : gI st 26 ch = nI l
      · rw [if_pos ⟨c2, e⟩, if_pos ⟨by omega, by omega, e⟩]
        exact ⟨rfl, Or.inl rfl⟩
      · rw [if_neg (fun q => e q.2), if_neg (fun q => e q.2.2)]
        exact ⟨rfl, b2⟩
