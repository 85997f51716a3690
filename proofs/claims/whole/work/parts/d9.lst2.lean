/-! PURE: lists: the class's call, both together -/
theorem close_c {st : St} (hT : Top st) (fu : Nat) (r : Int32) : f_X11_closeText fu 1 r st = some (if gI st 2 8 = nI 0 then r else -10 - gI st 2 9, sI st 2 1 (nI 0)) := by
  by_cases c : gI st 2 8 = nI 0
  · rw [if_pos c]
    simp (disch := first | decide | omega) [↓bd_e, isb, ck_tt, NP, NF, NC, NB, NS, GS, kdC, tpC hT, f_X11_closeText, b_X11_closeText_32, c]
  · rw [if_neg c]
    have m10 : (-10 : Int32) = -nI 10 := rfl
    simp (disch := first | decide | omega) [↓bd_e, isb, ck_tt, NP, NF, NC, NB, NS, GS, kdC, tpC hT, f_X11_closeText, b_X11_closeText_32, c, m10]
theorem read_c {st : St} (hT : Top st) {b : BY} {n : Nat} (h1 : gI st 2 1 = nI n) (h2 : n ≤ 4000) (h3 : ∀ i, i < n → gI st 3 i = b i) (h4 : ∀ i, i < n → b i ≤ nI 127) {fu : Nat} (hf : 9000 ≤ fu) {q : Nat} (hq : SQ q) : ∃ u, f_X8_read fu q 2 st = some u ∧ Fr ((2, some 7) :: Ws q) st u ∧ Top u ∧ CO b n (pList b n 4001 0 0 D0 0) (fun x => SC q x.1 x.2.1 x.2.2 u) u := by
  have qb := hq.b
  have K := sqK hq
  have R := sqR hq hT
  obtain ⟨s4, hs4⟩ : ∃ s4, s4 = sI (sI (sI st q 12 (nI 0)) q 13 (nI 0)) (q + 8) 0 (nI 0) := ⟨_, rfl⟩
  have fr4 : Fr (Ws q) st s4 := by
    rw [hs4]
    exact (((Fr.i st q 12 _).sub (by simp [Ws])).tt ((Fr.i _ q 13 _).sub (by simp [Ws]))).tt ((Fr.ia _ (q + 8) 0 _).sub (by simp [Ws]))
  have hT4 : Top s4 := hT.r (by rw [hs4]; rfl)
  have g2 : gI s4 2 = gI st 2 := by rw [hs4, gI_sI_n _ _ _ (by omega), gI_sI_n _ _ _ (by omega), gI_sI_n _ _ _ (by omega)]
  have g3 : gI s4 3 = gI st 3 := by rw [hs4, gI_sI_n _ _ _ (by omega), gI_sI_n _ _ _ (by omega), gI_sI_n _ _ _ (by omega)]
  obtain ⟨s5, e5, fr5, hT5, hC5⟩ := open_c hT4 (by rw [g2]; exact h1) h2 (by rw [g3]; exact h3) h4 (fu := fu) (by omega) (lim := 4000) (by omega)
  have o5 : ∀ o, 4 ≤ o → gI s5 o = gI s4 o := fun o ho => fr5.fi o (by simp [WT]; omega)
  have S5 : SC q 0 0 D0 s5 := by
    refine ⟨?_, fun x hx => by omega, ⟨?_, fun i hi => by omega⟩, fun i hi => ?_⟩
    · rw [o5 q (by omega), hs4, gI_sI_n _ _ _ (by omega), gI_sI, if_neg (by omega), gI_sI, if_pos ⟨rfl, rfl⟩]
    · rw [o5 q (by omega), hs4, gI_sI_n _ _ _ (by omega), gI_sI, if_pos ⟨rfl, rfl⟩]
    · rw [o5 (q + 8) (by omega), hs4, gI_sI, if_pos ⟨rfl, by omega⟩]; rfl
  obtain ⟨u, r1, r2, r3, r4⟩ := rd26_p (b := b) (n := n) (fu := fu) (by omega) hq 4001 fu 0 0 0 D0 s5 (by omega) (by omega) (by omega) hT5 hC5 S5 LOK_0
  refine ⟨u, ?_, ((fr4.sub (fun x hx => List.mem_cons_of_mem _ hx)).tt (fr5.sub (by simp [WT, Ws]))).tt (r2.sub (fun x hx => List.mem_cons_of_mem _ hx)), r3, r4⟩
  rw [hs4] at e5
  have r1' : b_X8_read_26 fu fu q 2 (nI 0) s5 = some u := r1
  rw [← r1']
  clear r1 r2 r3 r4 S5 hC5 o5 g2 g3 fr4 fr5 r1'
  simp (disch := first | decide | omega) [↓bd_e, isb, ck_tt, NP, NF, NC, NB, NS, GS, kdC, tpC hT, f_X8_read, K, R, e5]
theorem ad32 {fu : Nat} {l : Nat} (hl : l < 4) (s0 : St) : ∀ (F x : Nat) (s : St), Top s → x ≤ 64 → 64 < F + x → Fr [(26, none)] s0 s → (∀ i, gI s 26 i = if i < x ∧ gI s0 26 i = nI l then -nI 1 else gI s0 26 i) → ∃ u, b_X1_adopt_32 fu F 24 (nI l) (nI x) s = some u ∧ Top u ∧ Fr [(26, none)] s0 u ∧ ∀ i, gI u 26 i = if i < 64 ∧ gI s0 26 i = nI l then -nI 1 else gI s0 26 i := by
  intro F
  induction F with
  | zero => intro x s hT hx hF; omega
  | succ F ih =>
    intro x s hT hx hF fr hA
    have un : b_X1_adopt_32 fu (F + 1) 24 (nI l) (nI x) s = b_X1_adopt_32_b fu (b_X1_adopt_32 fu F) 24 (nI l) (nI x) s := rfl
    rw [un]
    by_cases c1 : x = 64
    · subst c1
      refine ⟨s, ?_, hT, fr, hA⟩
      clear ih un hA
      simp (disch := first | decide | omega) [↓bd_e, isb, ck_tt, NP, NF, NC, NB, NS, GS, kdC, tpC hT, b_X1_adopt_32_b]
    · have sx : gI s 26 x = gI s0 26 x := by rw [hA x, if_neg (by omega)]
      by_cases d : gI s 26 x = nI l
      · obtain ⟨u, q1, q2, q3, q4⟩ := ih (x + 1) (sI s 26 x (-nI 1)) (hT.r rfl) (by omega) (by omega) (fr.tt (Fr.ia _ _ _ _)) (fun i => by
          rw [gI_sI]
          by_cases e : i = x
          · subst e
            rw [if_pos ⟨rfl, rfl⟩, if_pos ⟨by omega, by rw [← sx]; exact d⟩]
          · rw [if_neg (fun q => e q.2), hA i]
            by_cases d' : i < x ∧ gI s0 26 i = nI l
            · rw [if_pos d', if_pos ⟨by omega, d'.2⟩]
            · rw [if_neg d', if_neg (fun q => d' ⟨by omega, q.2⟩)])
        refine ⟨u, ?_, q2, q3, q4⟩
        rw [← q1]
        clear ih un hA q1 q2 q3 q4
        simp (disch := first | decide | omega) [↓bd_e, isb, ck_tt, NP, NF, NC, NB, NS, GS, kdC, tpC hT, b_X1_adopt_32_b, b_X1_adopt_58, d]
      · obtain ⟨u, q1, q2, q3, q4⟩ := ih (x + 1) s hT (by omega) (by omega) fr (fun i => by
          rw [hA i]
          by_cases d' : i < x ∧ gI s0 26 i = nI l
          · rw [if_pos d', if_pos ⟨by omega, d'.2⟩]
          · rw [if_neg d', if_neg (fun q => by
              rcases Nat.lt_or_ge i x with y | y
              · exact d' ⟨y, q.2⟩
              · have : i = x := by omega
                subst this
                exact d (by rw [sx]; exact q.2))])
        refine ⟨u, ?_, q2, q3, q4⟩
        rw [← q1]
        clear ih un hA q1 q2 q3 q4
        simp (disch := first | decide | omega) [↓bd_e, isb, ck_tt, NP, NF, NC, NB, NS, GS, kdC, tpC hT, b_X1_adopt_32_b, b_X1_adopt_58, d]
def Wad (l : Nat) : List PL := [(24, some 6), (26, none), (43 + 18 * l, some 0), (43 + 18 * l, some 5), (43 + 18 * l, some 6), (43 + 18 * l, some 8), (43 + 18 * l, some 9), (57 + 18 * l, none), (60 + 18 * l, none)]
set_option maxRecDepth 100000 in
theorem adopt_c {st : St} (hT : Top st) {fu : Nat} (hf : 100 ≤ fu) {l sp ql : Nat} (hl : l < 4) (h1 : gR st 24 6 = sp) (h2 : gR st (43 + 18 * l) 0 = ql) (z1 : sp ≠ 0) (z2 : ql ≠ 0) : ∃ u, f_X1_adopt fu 24 (nI l) st = some u ∧ Fr (Wad l) st u ∧ Top u ∧ gR u 24 6 = ql ∧ gR u (43 + 18 * l) 0 = sp ∧ (gI u (43 + 18 * l) 5 = -nI 1 ∧ gI u (43 + 18 * l) 6 = nI 0 ∧ gI u (43 + 18 * l) 8 = -nI 1 ∧ gI u (43 + 18 * l) 9 = nI 255) ∧ (∀ c, c < 64 → gI u (57 + 18 * l) c = nI 0 ∧ gI u (60 + 18 * l) c = nI 0) ∧ ∀ i, gI u 26 i = if i < 64 ∧ gI st 26 i = nI l then -nI 1 else gI st 26 i := by
  have K := plK hl
  obtain ⟨s2, hs2⟩ : ∃ s2, s2 = sR (sR st (43 + 18 * l) 0 sp) 24 6 ql := ⟨_, rfl⟩
  have fr2 : Fr [(43 + 18 * l, some 0), (24, some 6)] st s2 := by rw [hs2]; exact ((Fr.r st (43 + 18 * l) 0 sp).tr (Fr.r _ 24 6 ql)).sub (by simp)
  have hT2 : Top s2 := by
    have : l = 0 ∨ l = 1 ∨ l = 2 ∨ l = 3 := by omega
    rcases this with rfl | rfl | rfl | rfl <;> exact hT.fr (fr2.same (by decide))
  have R2 := plR hl hT2
  have q0 : gR s2 (43 + 18 * l) 0 = sp := by rw [hs2, gR_sR, if_neg (by omega), gR_sR, if_pos ⟨rfl, rfl⟩]
  have q6 : gR s2 24 6 = ql := by rw [hs2, gR_sR, if_pos ⟨rfl, rfl⟩]
  obtain ⟨s3, e3, fr3, g3, v3⟩ := fill_c K.2.1 (by omega) fu (by omega) (nI 0) s2
  obtain ⟨s4, e4, fr4, g4, v4⟩ := fill_c K.2.2.2.2 (by omega) fu (by omega) (nI 0) s3
  have hT3 : Top s3 := hT2.r g3
  have hT4 : Top s4 := hT3.r g4
  obtain ⟨s5, hs5⟩ : ∃ s5, s5 = sI (sI (sI (sI s4 (43 + 18 * l) 5 (-nI 1)) (43 + 18 * l) 6 (nI 0)) (43 + 18 * l) 8 (-nI 1)) (43 + 18 * l) 9 (nI 255) := ⟨_, rfl⟩
  have hT5 : Top s5 := hT4.r (by rw [hs5]; rfl)
  have fr5 : Fr [(43 + 18 * l, some 5), (43 + 18 * l, some 6), (43 + 18 * l, some 8), (43 + 18 * l, some 9)] s4 s5 := by
    rw [hs5]
    exact ((((Fr.i s4 _ 5 _).tr (Fr.i _ _ 6 _)).tr (Fr.i _ _ 8 _)).tr (Fr.i _ _ 9 _)).sub (by simp)
  have rs : f_X3_reset fu (43 + 18 * l) s2 = some s5 := by
    have R3 := plR hl hT3
    rw [hs5]
    clear fr2 fr3 fr4 fr5 v3 v4 hs5 hs2
    have hT := hT2
    simp (disch := first | decide | omega) [↓bd_e, isb, ck_tt, NP, NF, NC, NB, NS, GS, kdC, tpC hT, f_X3_reset, K, R2, R3, e3, e4]
  obtain ⟨u, e6, hT6, fr6, v6⟩ := ad32 (fu := fu) hl s5 fu 0 s5 hT5 (by omega) (by omega) Fr.rf (fun i => by rw [if_neg (by omega)])
  have P5 : gI u (43 + 18 * l) = gI s5 (43 + 18 * l) := fr6.fi _ (by simp <;> omega)
  have s26 : gI s5 26 = gI st 26 := by
    rw [fr5.fi 26 (by simp <;> omega), fr4.fi 26 (by simp <;> omega), fr3.fi 26 (by simp <;> omega), fr2.fi 26 (by simp <;> omega)]
  refine ⟨u, ?_, ?_, hT6, ?_, ?_, ⟨?_, ?_, ?_, ?_⟩, fun c hc => ⟨?_, ?_⟩, fun i => ?_⟩
  · rw [← e6]
    rw [hs2] at rs
    have R := plR hl hT
    clear fr2 fr3 fr4 fr5 v3 v4 hs5 hs2 e6 v6 fr6 P5 s26
    simp (disch := first | decide | omega) [↓bd_e, isb, ck_tt, NP, NF, NC, NB, NS, GS, kdC, tpC hT, f_X1_adopt, K, R, h1, h2, z1, z2, rs]
  · exact (((((fr2.sub (V := Wad l) (by simp [Wad])).tt (fr3.sub (by simp [Wad]))).tt (fr4.sub (by simp [Wad]))).tt (fr5.sub (by simp [Wad]))).tt (fr6.sub (by simp [Wad])))
  · rw [(fr6 24 6 (by simp [covers])).2.2, hs5]
    show gR s4 24 6 = ql
    rw [g4, g3]; exact q6
  · rw [fr6.fr (43 + 18 * l) (by simp <;> omega), hs5]
    show gR s4 (43 + 18 * l) 0 = sp
    rw [g4, g3]; exact q0
  · rw [P5, hs5]; simp [gI_sI]
  · rw [P5, hs5]; simp [gI_sI]
  · rw [P5, hs5]; simp [gI_sI]
  · rw [P5, hs5]; simp [gI_sI]
  · rw [fr6.fi _ (by simp <;> omega), fr5.fi _ (by simp <;> omega), fr4.fi _ (by simp), v3]
    show (if c < 64 then nI 0 else gI s2 (57 + 18 * l) c) = nI 0
    rw [if_pos hc]
  · rw [fr6.fi _ (by simp <;> omega), fr5.fi _ (by simp <;> omega), v4]
    show (if c < 64 then nI 0 else gI s3 (60 + 18 * l) c) = nI 0
    rw [if_pos hc]
  · rw [v6 i, s26]
