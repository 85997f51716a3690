/-! PURE: the text of a list, in the class: acts, options, a cue -/
theorem most_c {s : St} (fu : Nat) {k : Nat} (hk : k < 6) : f_X8_mostOf fu (nI k) s = some (nI (mo k), s) := by
  have h6 : k = 0 ∨ k = 1 ∨ k = 2 ∨ k = 3 ∨ k = 4 ∨ k = 5 := by omega
  rcases h6 with rfl | rfl | rfl | rfl | rfl | rfl <;> rfl
theorem mo_le (k : Nat) : mo k ≤ 15 := by
  unfold mo
  by_cases h : k = 3
  · rw [if_pos h]; omega
  · rw [if_neg h]
    by_cases h2 : k = 1 ∨ k = 2
    · rw [if_pos h2]; omega
    · rw [if_neg h2]; omega
theorem a71_0 {s : St} (hT : Top s) (fu : Nat) {q a : Nat} (hq : SQ q) (ha : gI s q 13 = nI a) (ha3 : a < 300) (m : Int64) : b_X8_readAct_71 fu q 2 (nI 0) (q + 12) (nI a) m s = b_X8_readAct_97 fu q 2 (nI 0) (q + 10) (nI a) (nI 0) (sL s (q + 12) a m) := by
  have qb := hq.b
  have K := sqK hq
  have R := sqR hq hT
  simp (disch := first | decide | omega) [isb, ck_tt, NP, NF, NC, NB, NS, GS, kdC, tpC hT, b_X8_readAct_71, K, R, ha]
theorem a71_k {s s2 : St} (hT : Top s) (fu : Nat) {q a k v : Nat} (hq : SQ q) (ha : gI s q 13 = nI a) (ha3 : a < 300) (hk : k < 6) (k0 : k ≠ 0) (e : f_X9_number fu 2 (nI 0) (nI (mo k)) (sL s (q + 12) a (lN 0)) = some (nI v, s2)) : b_X8_readAct_71 fu q 2 (nI k) (q + 12) (nI a) (lN 0) s = b_X8_readAct_97 fu q 2 (nI k) (q + 10) (nI a) (nI v) s2 := by
  have qb := hq.b
  have K := sqK hq
  have R := sqR hq hT
  have m := most_c (s := sL s (q + 12) a (lN 0)) fu hk
  simp (disch := first | decide | omega) [isb, ck_tt, NP, NF, NC, NB, NS, GS, kdC, tpC hT, b_X8_readAct_71, K, R, ha, m, e]
set_option maxHeartbeats 8000000 in
theorem readAct_p {st : St} (hT : Top st) {b : BY} {n t : Nat} (h : TC b n 4000 t st) {fu : Nat} (hf : 4100 ≤ fu) {q a : Nat} (hq : SQ q) (ha : gI st q 13 = nI a) (ha3 : a ≤ 300) : ∃ u, f_X8_readAct fu q 2 st = some u ∧ Fr (Wa q) st u ∧ Top u ∧ CO b n (pActL b n a t) (fun x => gI u q 13 = nI (a + 1) ∧ (∀ i, gI u (q + 9) i = if i = a then nI x.1 else gI st (q + 9) i) ∧ (∀ i, gI u (q + 10) i = if i = a then nI x.2.1 else gI st (q + 10) i) ∧ (∀ i, gI u (q + 11) i = if i = a then nI x.2.2.1 else gI st (q + 11) i) ∧ (∀ i, gL u (q + 12) i = if i = a then lN x.2.2.2 else gL st (q + 12) i)) u := by
  have qb := hq.b
  have K := sqK hq
  have ka := kindAt_c hT h (fu := fu) (by omega)
  have c3 := h.2.2.1
  have n4 := h.1.2.1
  have kl := fW_le b n t 6 8
  have kw := fW_t b n t 6 8
  obtain ⟨k, hk⟩ : ∃ k, k = fW b n t 8 6 := ⟨_, rfl⟩
  unfold pActL pAct
  rw [← hk] at ka kl kw ⊢
  by_cases k6 : k = 6
  · subst k6
    rw [if_neg (by omega), if_pos (by omega)]
    rw [if_pos rfl] at ka
    obtain ⟨u, u1, u2, u3, u4⟩ := fail_c hT h.1 h.2.1.1 fu (f := 1) (p := pl b n t) (by omega) (by omega) (pl_b b n t).2
    refine ⟨u, ?_, Wa_w u2, u3, u4⟩
    clear h u2 u4 kw
    simp (disch := first | decide | omega) [isb, ck_tt, NP, NF, NC, NB, NS, GS, kdC, tpC hT, f_X8_readAct, b_X8_readAct_19, b_X8_readAct_29, K, ka, c3, u1]
  · rw [if_neg k6] at ka
    have k5 : k < 6 := by omega
    have s0 := isW_s (kw k5)
    by_cases a3 : 300 ≤ a
    · rw [if_pos ⟨k5, a3⟩]
      obtain ⟨u, u1, u2, u3, u4⟩ := fail_c hT h.1 h.2.1.1 fu (f := 2) (p := pl b n t) (by omega) (by omega) (pl_b b n t).2
      refine ⟨u, ?_, Wa_w u2, u3, u4⟩
      clear h u2 u4 kw
      simp (disch := first | decide | omega) [isb, ck_tt, NP, NF, NC, NB, NS, GS, kdC, tpC hT, f_X8_readAct, b_X8_readAct_19, b_X8_readAct_29, K, ka, c3, u1, ha]
    · rw [if_neg (fun x => a3 x.2), if_neg (by omega)]
      have a3' : a < 300 := by omega
      obtain ⟨s4, e4, nx⟩ := next_c hT h hf
      obtain ⟨fr4, hT4, hC4⟩ := nx.go n4 s0
      have g4 : gI s4 q 13 = nI a := by rw [(WT_o fr4 (o := q) (by omega)).1]; exact ha
      have R4 := sqR hq hT4
      obtain ⟨s6, hs6⟩ : ∃ s6, s6 = sI s4 (q + 9) a (nI k) := ⟨_, rfl⟩
      have hT6 : Top s6 := hT4.r (by rw [hs6]; rfl)
      have hC6 : TC b n 4000 (t + 1) s6 := by rw [hs6]; exact hC4.sI (by omega) _ _
      have fr6 : Fr (Wa q) st s6 := by rw [hs6]; exact (Wa_w fr4).tt (Wa_9 _ _ _)
      have g6 : gI s6 q 13 = nI a := by rw [hs6, gI_sI_n _ _ _ (by omega)]; exact g4
      have r9 : ∀ i, gI s6 (q + 9) i = if i = a then nI k else gI st (q + 9) i := fun i => by
        rw [hs6, gI_sI]
        by_cases e : i = a
        · rw [if_pos ⟨rfl, e⟩, if_pos e]
        · rw [if_neg (fun x => e x.2), if_neg e, (WT_o fr4 (o := q + 9) (by omega)).1]
      have r10 : gI s6 (q + 10) = gI st (q + 10) := by rw [hs6, gI_sI_n _ _ _ (by omega), (WT_o fr4 (o := q + 10) (by omega)).1]
      have r11 : gI s6 (q + 11) = gI st (q + 11) := by rw [hs6, gI_sI_n _ _ _ (by omega), (WT_o fr4 (o := q + 11) (by omega)).1]
      have r12 : gL s6 (q + 12) = gL st (q + 12) := by rw [hs6]; exact (WT_o fr4 (o := q + 12) (by omega)).2.1
      -- behind the first part: s7, the channels' mask m
      have tail : ∀ (w m t1 : Nat) (s7 s8 : St), Fr WT s6 s7 → s8 = sL s7 (q + 12) a (lN m) → ∀ s9, Fr WT s8 s9 → Top s9 → TC b n 4000 t1 s9 → f_X8_readAct fu q 2 st = b_X8_readAct_97 fu q 2 (nI k) (q + 10) (nI a) (nI w) s9 → ∃ u, f_X8_readAct fu q 2 st = some u ∧ Fr (Wa q) st u ∧ Top u ∧ CO b n (pb (pTl b n k t1) fun v t2 => .inl ((k, w, v, m), t2) : PR AC) (fun x => gI u q 13 = nI (a + 1) ∧ (∀ i, gI u (q + 9) i = if i = a then nI x.1 else gI st (q + 9) i) ∧ (∀ i, gI u (q + 10) i = if i = a then nI x.2.1 else gI st (q + 10) i) ∧ (∀ i, gI u (q + 11) i = if i = a then nI x.2.2.1 else gI st (q + 11) i) ∧ (∀ i, gL u (q + 12) i = if i = a then lN x.2.2.2 else gL st (q + 12) i)) u := fun w m t1 s7 s8 fr7 hs8 s9 fr9 hT9 hC9 e => by
        have fr8 : Fr (Wa q) s7 s8 := by rw [hs8]; exact Wa_12 _ _ _
        have g9 : gI s9 q 13 = nI a := by
          rw [(WT_o fr9 (o := q) (by omega)).1, hs8]
          show gI s7 q 13 = _
          rw [(WT_o fr7 (o := q) (by omega)).1]; exact g6
        have q9 : gI s9 (q + 9) = gI s6 (q + 9) := by rw [(WT_o fr9 (o := q + 9) (by omega)).1, hs8]; exact (WT_o fr7 (o := q + 9) (by omega)).1
        have q10 : gI s9 (q + 10) = gI s6 (q + 10) := by rw [(WT_o fr9 (o := q + 10) (by omega)).1, hs8]; exact (WT_o fr7 (o := q + 10) (by omega)).1
        have q11 : gI s9 (q + 11) = gI s6 (q + 11) := by rw [(WT_o fr9 (o := q + 11) (by omega)).1, hs8]; exact (WT_o fr7 (o := q + 11) (by omega)).1
        have q12 : ∀ i, gL s9 (q + 12) i = if i = a then lN m else gL st (q + 12) i := fun i => by
          rw [(WT_o fr9 (o := q + 12) (by omega)).2.1, hs8, gL_sL]
          by_cases e : i = a
          · rw [if_pos ⟨rfl, e⟩, if_pos e]
          · rw [if_neg (fun x => e x.2), if_neg e, (WT_o fr7 (o := q + 12) (by omega)).2.1, r12]
        obtain ⟨u, u1, u2, u3, u4⟩ := a97_p hT9 hC9 hf (w := w) hq g9 a3' k5
        refine ⟨u, by rw [e]; exact u1, fr6.tt ((Wa_w fr7).tt (fr8.tt ((Wa_w fr9).tt u2))), u3, ?_⟩
        cases hp : pTl b n k t1 with
        | inr e' => rw [hp] at u4; exact u4
        | inl y =>
          rw [hp] at u4
          obtain ⟨v1, v2, v3, v4, v5, v6⟩ := u4
          refine ⟨v1, v2, fun i => ?_, fun i => ?_, fun i => ?_, fun i => ?_⟩
          · rw [v5, q9]; exact r9 i
          · rw [v3, q10, r10]
          · rw [v4, q11, r11]
          · rw [v6]; exact q12 i
      have dead : ∀ (w : Int32) (m : Int64) (f p : Nat) (s7 s8 : St), Fr WT s6 s7 → s8 = sL s7 (q + 12) a m → ∀ s9, Fr WT s8 s9 → Top s9 → TD b n 4000 f p s9 → f_X8_readAct fu q 2 st = b_X8_readAct_97 fu q 2 (nI k) (q + 10) (nI a) w s9 → ∃ u, f_X8_readAct fu q 2 st = some u ∧ Fr (Wa q) st u ∧ Top u ∧ TD b n 4000 f p u := fun w m f p s7 s8 fr7 hs8 s9 fr9 hT9 hD9 e => by
        have fr8 : Fr (Wa q) s7 s8 := by rw [hs8]; exact Wa_12 _ _ _
        have g9 : gI s9 q 13 = nI a := by
          rw [(WT_o fr9 (o := q) (by omega)).1, hs8]
          show gI s7 q 13 = _
          rw [(WT_o fr7 (o := q) (by omega)).1]; exact g6
        obtain ⟨u, u1, u2, u3, u4⟩ := a97_d hT9 hD9 fu hq g9 a3' k5 w
        exact ⟨u, by rw [e]; exact u1, fr6.tt ((Wa_w fr7).tt (fr8.tt ((Wa_w fr9).tt u2))), u3, u4⟩
      by_cases k0 : k = 0
      · subst k0
        obtain ⟨v, s7, e7, fr7, hT7, co7⟩ := rch_l (b := b) (n := n) hf 4001 fu 0 0 (t + 1) s6 (by omega) (by omega) (by omega) hT6 hC6
        have e7' : f_X8_readChannels fu 2 s6 = some (v, s7) := e7
        have g7 : gI s7 q 13 = nI a := by rw [(WT_o fr7 (o := q) (by omega)).1]; exact g6
        have e8 : f_X8_readAct fu q 2 st = b_X8_readAct_97 fu q 2 (nI 0) (q + 10) (nI a) (nI 0) (sL s7 (q + 12) a v) := by
          rw [← a71_0 hT7 fu hq g7 a3' v]
          rw [hs6] at e7' g6
          clear h tail dead co7 e7 r9 r10 r11 r12 hC4 hC6 nx kw
          simp (disch := first | decide | omega) [isb, ck_tt, NP, NF, NC, NB, NS, GS, kdC, tpC hT, f_X8_readAct, K, R4, ka, e4, g4, ha, e7']
        have hd : pHd b n 0 (t + 1) = pb (pChs b n 4001 0 (t + 1)) fun m t1 => .inl ((0, m), t1) := rfl
        rw [hd]
        cases hp : pChs b n 4001 0 (t + 1) with
        | inr e' =>
          rw [hp] at co7
          exact dead (nI 0) v e'.1 e'.2 s7 _ fr7 rfl _ Fr.rf (hT7.r rfl) (TD.sL co7 _ _ _) e8
        | inl y =>
          obtain ⟨y, t1⟩ := y
          rw [hp] at co7
          obtain ⟨hC7, hv⟩ := co7
          have hv : v = lN y := hv
          rw [hv] at e8
          rw [pb_i, pb_i]
          exact tail 0 y t1 s7 _ fr7 rfl _ Fr.rf (hT7.r rfl) (TC.sL hC7 _ _ _) e8
      · have hd : pHd b n k (t + 1) = pb (pNum b n 0 (mo k) (t + 1)) fun x t1 => .inl ((x, 0), t1) := by unfold pHd; rw [if_neg k0]
        rw [hd]
        have ml := mo_le k
        have hC8 : TC b n 4000 (t + 1) (sL s6 (q + 12) a (lN 0)) := hC6.sL _ _ _
        obtain ⟨v, s9, e9, fr9, hT9, l1, l2, co9⟩ := number_p (hT6.r (u := sL s6 (q + 12) a (lN 0)) rfl) hC8 hf (lo := 0) (hi := mo k) (by omega) (by omega) (by omega)
        have e8 : f_X8_readAct fu q 2 st = b_X8_readAct_97 fu q 2 (nI k) (q + 10) (nI a) (nI v) s9 := by
          rw [← a71_k hT6 fu hq g6 a3' k5 k0 e9]
          clear h tail dead co9 e9 r9 r10 r11 r12 hC4 hC6 nx kw hC8
          rw [hs6]
          have l0 : (0 : Int64) = lN 0 := rfl
          simp (disch := first | decide | omega) [isb, ck_tt, NP, NF, NC, NB, NS, GS, kdC, tpC hT, f_X8_readAct, K, R4, ka, e4, g4, ha, k0, l0]
        cases hp : pNum b n 0 (mo k) (t + 1) with
        | inr e' =>
          rw [hp] at co9
          exact dead (nI v) (lN 0) e'.1 e'.2 s6 _ Fr.rf rfl _ fr9 hT9 co9 e8
        | inl y =>
          obtain ⟨y, t1⟩ := y
          rw [hp] at co9
          obtain ⟨hC9, hv⟩ := co9
          have hv : v = y := hv
          subst hv
          rw [pb_i, pb_i]
          exact tail v 0 t1 s6 _ Fr.rf rfl _ fr9 hT9 hC9 e8
/-! the body: { is taken already -/
def Wb (q : Nat) : List PL := [(2, some 2), (2, some 3), (2, some 4), (2, some 5), (2, some 6), (2, some 8), (2, some 9), (q, some 12), (q, some 13), (q + 8, none), (q + 9, none), (q + 10, none), (q + 11, none), (q + 12, none)]
theorem Wb_a {q : Nat} {a b : St} (h : Fr (Wa q) a b) : Fr (Wb q) a b := h.sub (by simp [Wa, Wb])
theorem Wb_w {q : Nat} {a b : St} (h : Fr WT a b) : Fr (Wb q) a b := h.sub (by simp [WT, Wb])
theorem Wb_8 {q : Nat} (a : St) (k : Nat) (v : Int32) : Fr (Wb q) a (sI a (q + 8) k v) := (Fr.ia a (q + 8) k v).sub (by simp [Wb])
theorem Wb_12 {q : Nat} (a : St) (v : Int32) : Fr (Wb q) a (sI a q 12 v) := (Fr.i a q 12 v).sub (by simp [Wb])
/-- the acts that are read -/
def AC1 (q a : Nat) (D : LD) (st : St) : Prop := gI st q 13 = nI a ∧ ∀ i, i < a → gI st (q + 9) i = nI (D 8 i) ∧ gI st (q + 10) i = nI (D 9 i) ∧ gI st (q + 11) i = nI (D 10 i) ∧ gL st (q + 12) i = lN (D 11 i)
theorem st1_e (D : LD) (j i v : Nat) : st1 D j i v j i = v := by unfold st1; simp
theorem st1_n (D : LD) {j i x y : Nat} (v : Nat) (h : x ≠ j ∨ y ≠ i) : st1 D j i v x y = D x y := by unfold st1; rw [if_neg (by omega)]
theorem stA_8 (D : LD) (a k w v m : Nat) (i : Nat) : stA D a k w v m 8 i = if i = a then k else D 8 i := by simp [stA, st1]
theorem stA_9 (D : LD) (a k w v m : Nat) (i : Nat) : stA D a k w v m 9 i = if i = a then w else D 9 i := by simp [stA, st1]
theorem stA_10 (D : LD) (a k w v m : Nat) (i : Nat) : stA D a k w v m 10 i = if i = a then v else D 10 i := by simp [stA, st1]
theorem stA_11 (D : LD) (a k w v m : Nat) (i : Nat) : stA D a k w v m 11 i = if i = a then m else D 11 i := by simp [stA, st1]
theorem stA_o (D : LD) (a k w v m : Nat) {j : Nat} (hj : j < 8) (i : Nat) : stA D a k w v m j i = D j i := by
  unfold stA
  rw [st1_n _ _ (by omega), st1_n _ _ (by omega), st1_n _ _ (by omega), st1_n _ _ (by omega)]
theorem AC1.w {q a : Nat} {D : LD} {s u : St} (h : AC1 q a D s) (hq : 4 ≤ q) (fr : Fr WT s u) : AC1 q a D u := by
  obtain ⟨h1, h2⟩ := h
  refine ⟨by rw [(WT_o fr hq).1]; exact h1, fun i hi => ?_⟩
  rw [(WT_o fr (o := q + 9) (by omega)).1, (WT_o fr (o := q + 10) (by omega)).1, (WT_o fr (o := q + 11) (by omega)).1, (WT_o fr (o := q + 12) (by omega)).2.1]
  exact h2 i hi
theorem rb48_d {s : St} (hT : Top s) {b : BY} {n f p : Nat} (h : TD b n 4000 f p s) (fu : Nat) {q : Nat} (hq : SQ q) : ∃ u, b_X8_readBody_48 fu q 2 s = some u ∧ Fr (Wb q) s u ∧ Top u ∧ TD b n 4000 f p u := by
  obtain ⟨u, e, fr, hTu, hD⟩ := need_d hT h fu (nI 125)
  have d8 := hD.2.1
  have d8' := hD.2.2.1
  have d8'' := hD.2.2.2.1
  refine ⟨u, ?_, Wb_w fr, hTu, hD⟩
  clear h hD
  simp (disch := first | decide | omega) [isb, ck_tt, NP, NF, NC, NB, NS, GS, kdC, tpC hT, b_X8_readBody_48, b_X8_readBody_93, e, d8]
theorem rb8_d {s : St} (hT : Top s) {b : BY} {n f p : Nat} (h : TD b n 4000 f p s) (fu F : Nat) {q i : Nat} (hq : SQ q) (hi : i ≤ 301) : ∃ u, b_X8_readBody_8 fu (F + 1) q 2 (nI i) s = some u ∧ Fr (Wb q) s u ∧ Top u ∧ TD b n 4000 f p u := by
  obtain ⟨u, e, r⟩ := rb48_d hT h fu hq
  have d8 := h.2.1
  have d8' := h.2.2.1
  have d8'' := h.2.2.2.1
  refine ⟨u, ?_, r⟩
  show b_X8_readBody_8_b fu (b_X8_readBody_8 fu F) q 2 (nI i) s = _
  clear h r
  by_cases c : i = 301
  · subst c
    simp (disch := first | decide | omega) [isb, ck_tt, NP, NF, NC, NB, NS, GS, kdC, tpC hT, b_X8_readBody_8_b, e]
  · simp (disch := first | decide | omega) [isb, ck_tt, NP, NF, NC, NB, NS, GS, kdC, tpC hT, b_X8_readBody_8_b, e, d8]
/-- what the body leaves: the acts, one cue more, where the next one's acts begin -/
def BD (q c : Nat) (s u : St) (x : Nat × LD) : Prop := AC1 q x.1 x.2 u ∧ x.1 ≤ 300 ∧ gI u q 12 = nI (c + 1) ∧ ∀ i, gI u (q + 8) i = if i = c + 1 then nI x.1 else gI s (q + 8) i
set_option maxHeartbeats 8000000 in
theorem acts_p {b : BY} {n : Nat} {fu : Nat} (hf : 4100 ≤ fu) {q c : Nat} (hq : SQ q) (hc : c < 60) : ∀ (g F i a t : Nat) (D : LD) (st : St), n < g + t → 302 < F + i → i ≤ a → Top st → TC b n 4000 t st → AC1 q a D st → a ≤ 300 → gI st q 12 = nI c → ∃ u, b_X8_readBody_8 fu F q 2 (nI i) st = some u ∧ Fr (Wb q) st u ∧ Top u ∧ CO b n (pActs b n g a D t) (BD q c st u) u := by
  have qb := hq.b
  have K := sqK hq
  intro g
  induction g with
  | zero =>
    intro F i a t D st hg hF hi hT h hA ha3 hc12
    obtain ⟨G, rfl⟩ : ∃ G, F = G + 1 := ⟨F - 1, by omega⟩
    obtain ⟨H, rfl⟩ : ∃ H, G = H + 1 := ⟨G - 1, by omega⟩
    have s0 : so b n t = 0 := by
      apply Classical.byContradiction
      intro e
      have := so_t e
      omega
    have k6 : fW b n t 8 6 = 6 := by
      apply Classical.byContradiction
      intro e
      have := fW_le b n t 6 8
      exact isW_s (fW_t b n t 6 8 (by omega)) s0
    obtain ⟨s1, e1, fr1, hT1, co1⟩ := readAct_p hT h hf hq hA.1 ha3
    have e : pActL b n a t = .inr (1, pl b n t) := by
      unfold pActL pAct
      rw [k6, if_neg (by omega), if_pos (by omega)]
    rw [e] at co1
    have hD : TD b n 4000 1 (pl b n t) s1 := co1
    obtain ⟨s2, e2, fr2, hT2, hD2⟩ := need_d hT1 hD fu (nI 59)
    obtain ⟨u, e3, fr3, hT3, hD3⟩ := rb8_d hT2 hD2 fu H hq (i := i + 1) (by omega)
    have sg := isSign_c hT h fu (c := 125) (by omega) (by omega)
    rw [s0, if_neg (by omega)] at sg
    have c8 := h.2.1.1
    refine ⟨u, ?_, (Wb_a fr1).tt ((Wb_w fr2).tt fr3), hT3, hD3⟩
    rw [← e3]
    show b_X8_readBody_8_b fu (b_X8_readBody_8 fu (H + 1)) q 2 (nI i) st = _
    clear h hA co1 hD hD2 hD3 e3 fr3
    simp (disch := first | decide | omega) [isb, ck_tt, NP, NF, NC, NB, NS, GS, kdC, tpC hT, b_X8_readBody_8_b, K, c8, sg, e1, e2]
  | succ g ih =>
    intro F i a t D st hg hF hi hT h hA ha3 hc12
    obtain ⟨G, rfl⟩ : ∃ G, F = G + 1 := ⟨F - 1, by omega⟩
    have n4 := h.1.2.1
    have c8 := h.2.1.1
    have sg := isSign_c hT h fu (c := 125) (by omega) (by omega)
    have ep : pActs b n (g + 1) a D t = if so b n t = 125 then .inl ((a, D), t + 1) else pb (pActL b n a t) fun x t1 => pb (pSg b n 59 t1) fun _ t2 => pActs b n g (a + 1) (stA D a x.1 x.2.1 x.2.2.1 x.2.2.2) t2 := rfl
    rw [ep]
    by_cases s125 : so b n t = 125
    · rw [if_pos s125] at sg ⊢
      obtain ⟨s1, e1, fr1, hT1, co1⟩ := need_p hT h hf (c := 125) (by omega) (by omega)
      have e : pSg b n 125 t = .inl ((), t + 1) := by unfold pSg; rw [if_pos s125]
      rw [e] at co1
      have hC1 : TC b n 4000 (t + 1) s1 := co1.1
      have A1 := hA.w (by omega) fr1
      have g12 : gI s1 q 12 = nI c := by rw [(WT_o fr1 (o := q) (by omega)).1]; exact hc12
      have g13 := A1.1
      have d8 := hC1.2.1.1
      have R1 := sqR hq hT1
      refine ⟨sI (sI s1 q 12 (nI (c + 1))) (q + 8) (c + 1) (nI a), ?_, (Wb_w fr1).tt ((Wb_12 _ _).tt (Wb_8 _ _ _)), (hT1.r rfl).r rfl, (hC1.sI (by omega) _ _).sI (by omega) _ _, ⟨?_, fun j hj => ?_⟩, ha3, ?_, fun j => ?_⟩
      · show b_X8_readBody_8_b fu (b_X8_readBody_8 fu G) q 2 (nI i) st = _
        clear h hA co1 hC1 ih ep A1
        simp (disch := first | decide | omega) [isb, ck_tt, NP, NF, NC, NB, NS, GS, kdC, tpC hT, b_X8_readBody_8_b, b_X8_readBody_48, b_X8_readBody_93, K, R1, c8, sg, e1, d8, g12, g13]
      · rw [gI_sI_n _ _ _ (by omega), gI_sI, if_neg (by omega)]; exact A1.1
      · rw [gI_sI_n _ _ _ (by omega), gI_sI_n _ _ _ (by omega), gI_sI_n _ _ _ (by omega), gI_sI_n _ _ _ (by omega), gI_sI_n _ _ _ (by omega), gI_sI_n _ _ _ (by omega)]
        exact A1.2 j hj
      · rw [gI_sI_n _ _ _ (by omega), gI_sI, if_pos ⟨rfl, rfl⟩]
      · rw [gI_sI, gI_sI_n _ _ _ (by omega), (WT_o fr1 (o := q + 8) (by omega)).1]
        by_cases e : j = c + 1
        · rw [if_pos ⟨rfl, e⟩, if_pos e]
        · rw [if_neg (fun x => e x.2), if_neg e]
    · rw [if_neg s125] at sg ⊢
      obtain ⟨s1, e1, fr1, hT1, co1⟩ := readAct_p hT h hf hq hA.1 ha3
      have hd : ∀ s2, f_X9_need fu 2 (nI 59) s1 = some s2 → b_X8_readBody_8 fu (G + 1) q 2 (nI i) st = b_X8_readBody_8 fu G q 2 (nI (i + 1)) s2 := fun s2 e2 => by
        show b_X8_readBody_8_b fu (b_X8_readBody_8 fu G) q 2 (nI i) st = _
        clear h hA co1 ih ep
        simp (disch := first | decide | omega) [isb, ck_tt, NP, NF, NC, NB, NS, GS, kdC, tpC hT, b_X8_readBody_8_b, K, c8, sg, e1, e2]
      have g12 : ∀ s, Fr (Wa q) st s → gI s q 12 = nI c := fun s fr => by rw [fr.ki q 12 (by simp [Wa, covers])]; exact hc12
      obtain ⟨H, rfl⟩ : ∃ H, G = H + 1 := ⟨G - 1, by omega⟩
      have dead : ∀ f p s2, TD b n 4000 f p s2 → Top s2 → Fr (Wb q) st s2 → f_X9_need fu 2 (nI 59) s1 = some s2 → ∃ u, b_X8_readBody_8 fu (H + 1 + 1) q 2 (nI i) st = some u ∧ Fr (Wb q) st u ∧ Top u ∧ TD b n 4000 f p u := fun f p s2 hD hT2 fr2 e2 => by
        obtain ⟨u, e3, fr3, hT3, hD3⟩ := rb8_d hT2 hD fu H hq (i := i + 1) (by omega)
        exact ⟨u, by rw [hd s2 e2]; exact e3, fr2.tt fr3, hT3, hD3⟩
      cases hp : pActL b n a t with
      | inr e' =>
        rw [hp] at co1
        have hD : TD b n 4000 e'.1 e'.2 s1 := co1
        obtain ⟨s2, e2, fr2, hT2, hD2⟩ := need_d hT1 hD fu (nI 59)
        exact dead _ _ s2 hD2 hT2 ((Wb_a fr1).tt (Wb_w fr2)) e2
      | inl x =>
        obtain ⟨x, t1⟩ := x
        rw [hp] at co1
        obtain ⟨hC1, v1, v2, v3, v4, v5⟩ := co1
        have hC1 : TC b n 4000 t1 s1 := hC1
        have a3 : a < 300 := by
          unfold pActL at hp
          by_cases c : fW b n t 8 6 < 6 ∧ 300 ≤ a
          · rw [if_pos c] at hp; cases hp
          · rw [if_neg c] at hp
            have := (pAct_i hp).2.2.1
            have := (pAct_i hp).2.1
            omega
        have t1t : t + 1 < t1 := by
          unfold pActL at hp
          rw [if_neg (by omega)] at hp
          exact (pAct_i hp).1
        have A1 : AC1 q (a + 1) (stA D a x.1 x.2.1 x.2.2.1 x.2.2.2) s1 := by
          refine ⟨v1, fun j hj => ?_⟩
          rw [v2, v3, v4, v5, stA_8, stA_9, stA_10, stA_11]
          by_cases e : j = a
          · rw [if_pos e, if_pos e, if_pos e, if_pos e, if_pos e, if_pos e, if_pos e, if_pos e]
            exact ⟨rfl, rfl, rfl, rfl⟩
          · rw [if_neg e, if_neg e, if_neg e, if_neg e, if_neg e, if_neg e, if_neg e, if_neg e]
            exact hA.2 j (by omega)
        obtain ⟨s2, e2, fr2, hT2, co2⟩ := need_p hT1 hC1 hf (c := 59) (by omega) (by omega)
        rw [pb_i]
        cases hp2 : pSg b n 59 t1 with
        | inr e' =>
          rw [hp2] at co2
          exact dead _ _ s2 co2 hT2 ((Wb_a fr1).tt (Wb_w fr2)) e2
        | inl y =>
          obtain ⟨y, t2⟩ := y
          rw [hp2] at co2
          have hC2 : TC b n 4000 t2 s2 := co2.1
          have := (pSg_i hp2).2
          rw [pb_i]
          obtain ⟨u, r1, r2, r3, r4⟩ := ih (H + 1) (i + 1) (a + 1) t2 _ s2 (by omega) (by omega) (by omega) hT2 hC2 (A1.w (by omega) fr2) (by omega) (by rw [(WT_o fr2 (o := q) (by omega)).1]; exact g12 s1 fr1)
          refine ⟨u, by rw [hd s2 e2]; exact r1, (Wb_a fr1).tt ((Wb_w fr2).tt r2), r3, ?_⟩
          have q8 : gI s2 (q + 8) = gI st (q + 8) := by
            rw [(WT_o fr2 (o := q + 8) (by omega)).1]
            exact fr1.fi _ (by simp [Wa])
          cases hp3 : pActs b n g (a + 1) (stA D a x.1 x.2.1 x.2.2.1 x.2.2.2) t2 with
          | inr e' => rw [hp3] at r4; exact r4
          | inl z =>
            rw [hp3] at r4
            obtain ⟨w1, w2, w3, w4, w5⟩ := r4
            exact ⟨w1, w2, w3, w4, fun j => by rw [w5, q8]⟩
