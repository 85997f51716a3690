/-! PURE: the text of rules, in the class: a rule, the whole -/
theorem chg_p {st : St} (hT : Top st) {b : BY} {n t : Nat} (h : TC b n 4000 t st) {fu : Nat} (hf : 4100 ≤ fu) {q i : Nat} (hq : gR st 121 1 = q) (hq2 : SR2 q) (hi : i < 20) : ∃ u, f_X6_readChange fu 121 2 (nI (i * 6)) st = some u ∧ Fr (WS q) st u ∧ Top u ∧ CO b n (pChg b n t) (fun z => ∀ y, gI u q y = if y = i * 6 + 4 then nI z.1 else if y = i * 6 + 5 then nI z.2 else gI st q y) u := by
  have qz : q ≠ 0 := by rcases hq2 with e | e <;> omega
  have q4 : 4 ≤ q := by rcases hq2 with e | e <;> omega
  have qk : kd q = (100, 120) := by rcases hq2 with rfl | rfl <;> rfl
  have n4 := h.1.2.1
  have c3 := h.2.2.1
  have c5 := h.2.2.2.2.2.2
  have w0 := isSign_c hT h fu (c := 37) (by omega) (by omega)
  have w1 := isSign_c hT h fu (c := 45) (by omega) (by omega)
  have w2 := isSign_c hT h fu (c := 43) (by omega) (by omega)
  have w3 := isSign_c hT h fu (c := 64) (by omega) (by omega)
  unfold pChg
  by_cases ch : so b n t = 37 ∨ so b n t = 45 ∨ so b n t = 43 ∨ so b n t = 64
  · rw [if_pos ch]
    have v5 := c5 (by omega)
    have e36 : f_X6_readChange fu 121 2 (nI (i * 6)) st = b_X6_readChange_41 fu 121 2 (nI (i * 6)) (nI 1) st := by
      rcases ch with e | e | e | e
      · rw [e] at w0
        simp only [if_true] at w0
        clear h
        unfold f_X6_readChange b_X6_readChange_36
        rw [ck_t (show (kd 2).1 = 9 from rfl), show f_X9_isSign fu 2 37 st = some (nI 1, st) from w0, ca_s, if_neg (by decide)]
        rfl
      · rw [e] at w0 w1
        rw [if_neg (by omega)] at w0
        rw [if_pos rfl] at w1
        clear h
        unfold f_X6_readChange b_X6_readChange_36
        rw [ck_t (show (kd 2).1 = 9 from rfl), show f_X9_isSign fu 2 37 st = some (nI 0, st) from w0, ca_s, if_pos (show nI 0 = 0 from rfl), ck_t (show (kd 2).1 = 9 from rfl), show f_X9_isSign fu 2 45 st = some (nI 1, st) from w1, ca_s, if_neg (show ¬ nI 1 = 0 by decide)]
        rfl
      · rw [e] at w0 w1 w2
        rw [if_neg (by omega)] at w0 w1
        rw [if_pos rfl] at w2
        clear h
        unfold f_X6_readChange b_X6_readChange_36
        rw [ck_t (show (kd 2).1 = 9 from rfl), show f_X9_isSign fu 2 37 st = some (nI 0, st) from w0, ca_s, if_pos (show nI 0 = 0 from rfl), ck_t (show (kd 2).1 = 9 from rfl), show f_X9_isSign fu 2 45 st = some (nI 0, st) from w1, ca_s, if_pos (show nI 0 = 0 from rfl), ck_t (show (kd 2).1 = 9 from rfl), show f_X9_isSign fu 2 43 st = some (nI 1, st) from w2, ca_s, if_neg (show ¬ nI 1 = 0 by decide)]
        rfl
      · rw [e] at w0 w1 w2 w3
        rw [if_neg (by omega)] at w0 w1 w2
        rw [if_pos rfl] at w3
        clear h
        unfold f_X6_readChange b_X6_readChange_36
        rw [ck_t (show (kd 2).1 = 9 from rfl), show f_X9_isSign fu 2 37 st = some (nI 0, st) from w0, ca_s, if_pos (show nI 0 = 0 from rfl), ck_t (show (kd 2).1 = 9 from rfl), show f_X9_isSign fu 2 45 st = some (nI 0, st) from w1, ca_s, if_pos (show nI 0 = 0 from rfl), ck_t (show (kd 2).1 = 9 from rfl), show f_X9_isSign fu 2 43 st = some (nI 0, st) from w2, ca_s, if_pos (show nI 0 = 0 from rfl), ck_t (show (kd 2).1 = 9 from rfl), show f_X9_isSign fu 2 64 st = some (nI 1, st) from w3, ca_s, if_neg (show ¬ nI 1 = 0 by decide)]
        rfl
    obtain ⟨s4, e4, nx⟩ := next_c hT h hf
    obtain ⟨fr4, hT4, hC4⟩ := nx.go n4 (by omega)
    have g4 : gI s4 q = gI st q := (WT_o fr4 q4).1
    have q4' : gR s4 121 1 = q := by rw [(WT_o fr4 (o := 121) (by omega)).2.2]; exact hq
    obtain ⟨sg, hsg⟩ : ∃ sg, sg = so b n t := ⟨_, rfl⟩
    rw [← hsg] at v5 ch ⊢
    have hh : hCh sg ≤ 99999 := by
      unfold hCh
      by_cases c : sg = 37
      · rw [if_pos c]; omega
      · rw [if_neg c]; omega
    obtain ⟨s6, hs6⟩ : ∃ s6, s6 = sI s4 q (i * 6 + 4) (nI sg) := ⟨_, rfl⟩
    have hC6 : TC b n 4000 (t + 1) s6 := by rw [hs6]; exact hC4.sI q4 _ _
    have hT6 : Top s6 := hT4.r (by rw [hs6]; rfl)
    obtain ⟨v, s7, e7, fr7, hT7, l1, l2, co⟩ := number_p hT6 hC6 hf (lo := 0) (hi := hCh sg) (by omega) (by omega) (by omega)
    have g7 : gI s7 q = gI s6 q := (WT_o fr7 q4).1
    refine ⟨sI s7 q (i * 6 + 5) (nI v), ?_, WS_t (WS_w fr4) (WS_t (by rw [hs6]; exact WS_i _ _ _) (WS_t (WS_w fr7) (WS_i _ _ _))), hT7.r rfl, ?_⟩
    · rw [e36]
      have s200 : sg < 200 := by omega
      by_cases c37 : sg = 37
      · subst c37
        have e7' : f_X9_number fu 2 (nI 0) (nI 200) s6 = some (nI v, s7) := e7
        rw [hs6] at e7'
        clear h hC4 hC6 nx co w0 w1 w2 w3 e36 hsg e7
        simp (disch := first | decide | omega) [↓bd_e, isb, ck_tt, NP, NF, NC, NB, NS, GS, kdC, tpC hT, b_X6_readChange_41, b_X6_readChange_100, v5, e4, q4', qz, qk, e7']
      · have e7' : f_X9_number fu 2 (nI 0) (nI 99999) s6 = some (nI v, s7) := by
          unfold hCh at e7
          rw [if_neg c37] at e7
          exact e7
        rw [hs6] at e7'
        clear h hC4 hC6 nx co w0 w1 w2 w3 e36 hsg e7
        simp (disch := first | decide | omega) [↓bd_e, isb, ck_tt, NP, NF, NC, NB, NS, GS, kdC, tpC hT, b_X6_readChange_41, b_X6_readChange_100, v5, e4, q4', qz, qk, e7']
    · cases hp : pNum b n 0 (hCh sg) (t + 1) with
      | inr e' => rw [hp] at co; exact TD.sI co q4 _ _
      | inl y =>
        obtain ⟨y, t1⟩ := y
        rw [hp] at co
        obtain ⟨hC7, hv⟩ := co
        have hv : v = y := hv
        subst hv
        refine ⟨TC.sI hC7 q4 _ _, fun z => ?_⟩
        rw [gI_sI, g7, hs6, gI_sI, g4]
        show _ = if z = i * 6 + 4 then nI sg else if z = i * 6 + 5 then nI v else gI st q z
        by_cases e : z = i * 6 + 5
        · rw [if_pos ⟨rfl, e⟩, if_neg (by omega), if_pos e]
        · rw [if_neg (fun w => e w.2)]
          by_cases e2 : z = i * 6 + 4
          · rw [if_pos ⟨rfl, e2⟩, if_pos e2]
          · rw [if_neg (fun w => e2 w.2), if_neg e2, if_neg e]
  · rw [if_neg ch]
    rw [if_neg (by omega)] at w0 w1 w2 w3
    obtain ⟨u, u1, u2, u3, u4⟩ := fail_c hT h.1 h.2.1.1 fu (f := 1) (p := pl b n t) (by omega) (by omega) (pl_b b n t).2
    refine ⟨u, ?_, WS_w u2, u3, u4⟩
    clear h u2 u4 c5
    unfold f_X6_readChange b_X6_readChange_41
    rw [ck_t (show (kd 2).1 = 9 from rfl), show f_X9_isSign fu 2 37 st = some (nI 0, st) from w0, ca_s, if_pos (show nI 0 = 0 from rfl), ck_t (show (kd 2).1 = 9 from rfl), show f_X9_isSign fu 2 45 st = some (nI 0, st) from w1, ca_s, if_pos (show nI 0 = 0 from rfl), ck_t (show (kd 2).1 = 9 from rfl), show f_X9_isSign fu 2 43 st = some (nI 0, st) from w2, ca_s, if_pos (show nI 0 = 0 from rfl), ck_t (show (kd 2).1 = 9 from rfl), show f_X9_isSign fu 2 64 st = some (nI 0, st) from w3, ca_s, if_pos (show nI 0 = 0 from rfl), if_pos rfl, ck_t (show (kd 2).1 = 9 from rfl), ck_t (show (kd 2).1 = 9 from rfl), c3, show f_X9_fail fu 2 1 (nI (pl b n t)) st = some u from u1, cv_s]
theorem chg_d {st : St} (hT : Top st) {b : BY} {n f p : Nat} (h : TD b n 4000 f p st) (fu : Nat) (B : Int32) : ∃ u, f_X6_readChange fu 121 2 B st = some u ∧ Fr WT st u ∧ Top u ∧ TD b n 4000 f p u := by
  have w0 := isSign_d hT h fu (nI 37)
  have w1 := isSign_d hT h fu (nI 45)
  have w2 := isSign_d hT h fu (nI 43)
  have w3 := isSign_d hT h fu (nI 64)
  obtain ⟨u, u1, u2, u3, u4⟩ := fail_d hT h fu (nI 1) (gI st 2 3)
  refine ⟨u, ?_, u2, u3, u4⟩
  clear h u2 u4
  unfold f_X6_readChange b_X6_readChange_41
  rw [ck_t (show (kd 2).1 = 9 from rfl), show f_X9_isSign fu 2 37 st = some (nI 0, st) from w0, ca_s, if_pos (show nI 0 = 0 from rfl), ck_t (show (kd 2).1 = 9 from rfl), show f_X9_isSign fu 2 45 st = some (nI 0, st) from w1, ca_s, if_pos (show nI 0 = 0 from rfl), ck_t (show (kd 2).1 = 9 from rfl), show f_X9_isSign fu 2 43 st = some (nI 0, st) from w2, ca_s, if_pos (show nI 0 = 0 from rfl), ck_t (show (kd 2).1 = 9 from rfl), show f_X9_isSign fu 2 64 st = some (nI 0, st) from w3, ca_s, if_pos (show nI 0 = 0 from rfl), if_pos rfl, ck_t (show (kd 2).1 = 9 from rfl), ck_t (show (kd 2).1 = 9 from rfl), show f_X9_fail fu 2 1 (gI st 2 3) st = some u from u1, cv_s]
theorem r71 {s s1 s2 s3 : St} (fu : Nat) (B : Int32) (e1 : f_X9_need fu 2 (nI 58) s = some s1) (e2 : f_X6_readChange fu 121 2 B s1 = some s2) (e3 : f_X9_need fu 2 (nI 59) s2 = some s3) : b_X6_readRule_71 fu 121 2 B s = some s3 := by
  unfold b_X6_readRule_71
  rw [ck_t (show (kd 2).1 = 9 from rfl), show f_X9_need fu 2 58 s = some s1 from e1, cv_s, ck_t (show (kd 121).1 = 6 from rfl), e2, cv_s, ck_t (show (kd 2).1 = 9 from rfl), show f_X9_need fu 2 59 s2 = some s3 from e3, cv_s]
theorem r71_d {s : St} (hT : Top s) {b : BY} {n f p : Nat} (h : TD b n 4000 f p s) (fu : Nat) (B : Int32) : ∃ u, b_X6_readRule_71 fu 121 2 B s = some u ∧ Fr WT s u ∧ Top u ∧ TD b n 4000 f p u := by
  obtain ⟨s1, e1, fr1, hT1, h1⟩ := need_d hT h fu (nI 58)
  obtain ⟨s2, e2, fr2, hT2, h2⟩ := chg_d hT1 h1 fu B
  obtain ⟨s3, e3, fr3, hT3, h3⟩ := need_d hT2 h2 fu (nI 59)
  exact ⟨s3, r71 fu B e1 e2 e3, (fr1.tt fr2).tt fr3, hT3, h3⟩
theorem WS_q {q : Nat} {a b : St} (h : Fr (WS q) a b) (hq2 : SR2 q) {k : Nat} : gR b 121 k = gR a 121 k := by
  rw [h.fr 121 (by rcases hq2 with e | e <;> subst e <;> decide)]
set_option maxHeartbeats 4000000 in
theorem rule_p {st : St} (hT : Top st) {b : BY} {n t : Nat} (h : TC b n 4000 t st) {fu : Nat} (hf : 4100 ≤ fu) {q i c : Nat} {E : LD} (hq : gR st 121 1 = q) (hq2 : SR2 q) (hi : i < 20) : ∃ u, f_X6_readRule fu 121 2 (nI (i * 6)) st = some u ∧ Fr (WS q) st u ∧ Top u ∧ CO b n (pRule b n i c E t) (fun x => (∀ j, j ≤ 5 → gI u q (i * 6 + j) = nI (x.2 j i)) ∧ ∀ y, (y < i * 6 ∨ i * 6 + 6 ≤ y) → gI u q y = gI st q y) u := by
  have qz : q ≠ 0 := by rcases hq2 with e | e <;> omega
  have q4 : 4 ≤ q := by rcases hq2 with e | e <;> omega
  have qk : kd q = (100, 120) := by rcases hq2 with rfl | rfl <;> rfl
  have n4 := h.1.2.1
  obtain ⟨s1, hs1⟩ : ∃ s1, s1 = sI (sI (sI (sI st q (i * 6) (nI 0)) q (i * 6 + 1) (nI 15)) q (i * 6 + 2) (nI 127)) q (i * 6 + 3) (nI 255) := ⟨_, rfl⟩
  have fr1 : Fr (WS q) st s1 := by rw [hs1]; exact WS_t (WS_i _ _ _) (WS_t (WS_i _ _ _) (WS_t (WS_i _ _ _) (WS_i _ _ _)))
  have hT1 : Top s1 := hT.r (by rw [hs1]; rfl)
  have hC1 : TC b n 4000 t s1 := by rw [hs1]; exact (((h.sI q4 _ _).sI q4 _ _).sI q4 _ _).sI q4 _ _
  have E1 : ∀ j, j ≤ 3 → gI s1 q (i * 6 + j) = nI (r0E E i j i) := fun j hj => by
    have h4 : j = 0 ∨ j = 1 ∨ j = 2 ∨ j = 3 := by omega
    rw [hs1]
    rcases h4 with rfl | rfl | rfl | rfl <;> simp [gI_sI, r0E, st1]
  have O1 : ∀ y, (y < i * 6 ∨ i * 6 + 4 ≤ y) → gI s1 q y = gI st q y := fun y hy => by
    rw [hs1, gI_sI, if_neg (by omega), gI_sI, if_neg (by omega), gI_sI, if_neg (by omega), gI_sI, if_neg (by omega)]
  have fb : RFb (r0E E i) i := by
    unfold RFb
    simp [r0E, st1]
  obtain ⟨s2, e2, fr2, hT2, o2, co2⟩ := cds_p hf hq2 hi 4001 fu 0 c t (r0E E i) s1 (by omega) (by omega) (by omega) hT1 hC1 (by rw [WS_q fr1 hq2]; exact hq) E1 fb
  have hd : f_X6_readRule fu 121 2 (nI (i * 6)) st = b_X6_readRule_71 fu 121 2 (nI (i * 6)) s2 := by
    rw [← e2, hs1]
    clear h hC1 E1 O1 o2 co2 e2
    simp (disch := first | decide | omega) [↓bd_e, isb, ck_tt, NP, NF, NC, NB, NS, GS, kdC, tpC hT, f_X6_readRule, hq, qz, qk]
  have q2 : gR s2 121 1 = q := by rw [WS_q (WS_t fr1 fr2) hq2]; exact hq
  have dead : ∀ f p, TD b n 4000 f p s2 → ∃ u, f_X6_readRule fu 121 2 (nI (i * 6)) st = some u ∧ Fr (WS q) st u ∧ Top u ∧ TD b n 4000 f p u := fun f p hD => by
    obtain ⟨u, u1, u2, u3, u4⟩ := r71_d hT2 hD fu (nI (i * 6))
    exact ⟨u, by rw [hd]; exact u1, WS_t fr1 (WS_t fr2 (WS_w u2)), u3, u4⟩
  unfold pRule
  cases hp : pCds b n i 4001 c (r0E E i) t with
  | inr e' =>
    rw [hp] at co2
    exact dead _ _ co2
  | inl x =>
    obtain ⟨⟨c', D⟩, t1⟩ := x
    rw [hp] at co2
    obtain ⟨hC2, v2⟩ := co2
    have hC2 : TC b n 4000 t1 s2 := hC2
    have v2 : ∀ j, j ≤ 3 → gI s2 q (i * 6 + j) = nI (D j i) := v2
    have o2' : ∀ y, (y < i * 6 ∨ i * 6 + 4 ≤ y) → gI s2 q y = gI st q y := fun y hy => by
      have := o2 y hy
      rw [hp] at this
      rw [this.2, O1 y hy]
    rw [pb_i]
    obtain ⟨s3, e3, fr3, hT3, co3⟩ := need_p hT2 hC2 hf (c := 58) (by omega) (by omega)
    have g3 : gI s3 q = gI s2 q := (WT_o fr3 q4).1
    have q3 : gR s3 121 1 = q := by rw [(WT_o fr3 (o := 121) (by omega)).2.2]; exact q2
    cases hp3 : pSg b n 58 t1 with
    | inr e' =>
      rw [hp3] at co3
      have hD : TD b n 4000 e'.1 e'.2 s3 := co3
      obtain ⟨s4, e4, fr4, hT4, h4⟩ := chg_d hT3 hD fu (nI (i * 6))
      obtain ⟨s5, e5, fr5, hT5, h5⟩ := need_d hT4 h4 fu (nI 59)
      exact ⟨s5, by rw [hd]; exact r71 fu _ e3 e4 e5, WS_t fr1 (WS_t fr2 (WS_w ((fr3.tt fr4).tt fr5))), hT5, h5⟩
    | inl y =>
      obtain ⟨y, t2⟩ := y
      rw [hp3] at co3
      have hC3 : TC b n 4000 t2 s3 := co3.1
      rw [pb_i]
      obtain ⟨s4, e4, fr4, hT4, co4⟩ := chg_p hT3 hC3 hf q3 hq2 hi
      cases hp4 : pChg b n t2 with
      | inr e' =>
        rw [hp4] at co4
        have hD : TD b n 4000 e'.1 e'.2 s4 := co4
        obtain ⟨s5, e5, fr5, hT5, h5⟩ := need_d hT4 hD fu (nI 59)
        exact ⟨s5, by rw [hd]; exact r71 fu _ e3 e4 e5, WS_t fr1 (WS_t fr2 (WS_t (WS_w fr3) (WS_t fr4 (WS_w fr5)))), hT5, h5⟩
      | inl z =>
        obtain ⟨z, t3⟩ := z
        rw [hp4] at co4
        obtain ⟨hC4, v4⟩ := co4
        have hC4 : TC b n 4000 t3 s4 := hC4
        have v4 : ∀ y, gI s4 q y = if y = i * 6 + 4 then nI z.1 else if y = i * 6 + 5 then nI z.2 else gI s3 q y := v4
        rw [pb_i]
        obtain ⟨s5, e5, fr5, hT5, co5⟩ := need_p hT4 hC4 hf (c := 59) (by omega) (by omega)
        refine ⟨s5, by rw [hd]; exact r71 fu _ e3 e4 e5, WS_t fr1 (WS_t fr2 (WS_t (WS_w fr3) (WS_t fr4 (WS_w fr5)))), hT5, ?_⟩
        cases hp5 : pSg b n 59 t3 with
        | inr e' => rw [hp5] at co5; exact co5
        | inl w =>
          rw [hp5] at co5
          refine ⟨co5.1, fun j hj => ?_, fun y hy => ?_⟩
          · show gI s5 q (i * 6 + j) = nI (st1 (st1 (st1 D 4 i z.1) 5 i z.2) 6 (i + 1) c' j i)
            rw [(WT_o fr5 q4).1, v4, g3, st1_n _ _ (by omega)]
            by_cases e4' : j = 4
            · subst e4'
              rw [if_pos rfl, st1_n _ _ (by omega), st1_e]
            · rw [if_neg (by omega)]
              by_cases e5' : j = 5
              · subst e5'
                rw [if_pos rfl, st1_e]
              · rw [if_neg (by omega), st1_n _ _ (by omega), st1_n _ _ (by omega)]
                exact v2 j (by omega)
          · rw [(WT_o fr5 q4).1, v4, if_neg (by omega), if_neg (by omega), g3]
            exact o2' y (by omega)
/-- the rules that are read -/
def RQ (q i : Nat) (E : LD) (st : St) : Prop := ∀ r, r < i → ∀ j, j ≤ 5 → gI st q (r * 6 + j) = nI (E j r)
theorem rr79 {s : St} (hT : Top s) (fu : Nat) {o q : Nat} (ho : gR s 121 0 = o) (hq : gR s 121 1 = q) (zo : o ≠ 0) (zq : q ≠ 0) (m : Int32) : b_X6_read_79 fu 121 2 m s = some (if gI s 2 8 = nI 0 then sI (sR (sR s 121 0 q) 121 1 o) 121 2 m else s) := by
  by_cases c : gI s 2 8 = nI 0
  · rw [if_pos c]
    simp (disch := first | decide | omega) [↓bd_e, isb, ck_tt, NP, NF, NC, NB, NS, GS, kdC, tpC hT, b_X6_read_79, b_X6_read_109, c, ho, hq, zo, zq]
  · rw [if_neg c]
    simp (disch := first | decide | omega) [↓bd_e, isb, ck_tt, NP, NF, NC, NB, NS, GS, kdC, tpC hT, b_X6_read_79, b_X6_read_109, c]
theorem rr11_d {s : St} {b : BY} {n f p : Nat} (h : TD b n 4000 f p s) (fu F : Nat) {i m : Nat} (hi : i ≤ 21) : b_X6_read_11 fu (F + 1) 121 2 (nI m) (nI i) s = b_X6_read_79 fu 121 2 (nI m) s := by
  have d2 := h.2.2.2.2.2.2
  show b_X6_read_11_b fu (b_X6_read_11 fu F) 121 2 (nI m) (nI i) s = _
  clear h
  by_cases c : i = 21
  · subst c
    simp (disch := first | decide | omega) [b_X6_read_11_b, NF, NC, NB]
  · simp (disch := first | decide | omega) [b_X6_read_11_b, ck_tt, NF, NC, NB, kdC, d2]
theorem rr11_p {b : BY} {n : Nat} {fu : Nat} (hf : 4100 ≤ fu) {q : Nat} (hq2 : SR2 q) : ∀ (g F i c t : Nat) (E : LD) (st : St), n < g + t → t ≤ n → 22 < F + i → Top st → TC b n 4000 t st → gR st 121 1 = q → RQ q i E st → ROK i c E → ∃ m u, b_X6_read_11 fu F 121 2 (nI i) (nI i) st = b_X6_read_79 fu 121 2 (nI m) u ∧ Fr (WS q) st u ∧ Top u ∧ CO b n (pRules b n g i c E t) (fun x => m = x.1 ∧ RQ q x.1 x.2.2 u) u := by
  have q4 : 4 ≤ q := by rcases hq2 with e | e <;> omega
  intro g
  induction g with
  | zero => intro F i c t E st hg ht; omega
  | succ g ih =>
    intro F i c t E st hg ht hF hT h hq hR hK
    have i20 := hK.1
    obtain ⟨G, rfl⟩ : ∃ G, F = G + 1 := ⟨F - 1, by omega⟩
    have c2 := h.2.2.2.2.1
    have c3 := h.2.2.1
    have n4 := h.1.2.1
    have ca := condAt_c hT h (fu := fu) (by omega)
    have kl := fW_le b n t 4 18
    have un : b_X6_read_11 fu (G + 1) 121 2 (nI i) (nI i) st = b_X6_read_11_b fu (b_X6_read_11 fu G) 121 2 (nI i) (nI i) st := rfl
    rw [un]
    have ep : pRules b n (g + 1) i c E t = if so b n t = 0 then .inl ((i, c, E), t) else if fW b n t 18 4 < 4 ∧ 20 ≤ i then .inr (2, pl b n t) else pb (pRule b n i c E t) fun x t1 => pRules b n g (i + 1) x.1 x.2 t1 := rfl
    rw [ep]
    by_cases s0 : so b n t = 0
    · rw [if_pos s0]
      rw [s0, show kc 0 = 0 from rfl] at c2
      refine ⟨i, st, ?_, Fr.rf, hT, h, rfl, hR⟩
      clear h hR hK ih un ep ca
      simp (disch := first | decide | omega) [↓bd_e, isb, ck_tt, NP, NF, NC, NB, NS, GS, kdC, tpC hT, b_X6_read_11_b, c2]
    · rw [if_neg s0]
      have k0 : kc (so b n t) ≠ 0 ∧ kc (so b n t) < 10 := by
        unfold kc
        by_cases h1 : so b n t = 3
        · rw [if_pos h1]; omega
        · rw [if_neg h1]
          by_cases h2 : 3 < so b n t
          · rw [if_pos h2]; omega
          · rw [if_neg h2]; omega
      obtain ⟨H, rfl⟩ : ∃ H, G = H + 1 := ⟨G - 1, by omega⟩
      have dead : ∀ f p s1 m, m ≤ 21 → TD b n 4000 f p s1 → Top s1 → Fr (WS q) st s1 → b_X6_read_11_b fu (b_X6_read_11 fu (H + 1)) 121 2 (nI i) (nI i) st = b_X6_read_11 fu (H + 1) 121 2 (nI m) (nI (i + 1)) s1 → ∃ m u, b_X6_read_11_b fu (b_X6_read_11 fu (H + 1)) 121 2 (nI i) (nI i) st = b_X6_read_79 fu 121 2 (nI m) u ∧ Fr (WS q) st u ∧ Top u ∧ TD b n 4000 f p u := fun f p s1 m hm hD hT1 fr1 e => ⟨m, s1, by rw [e]; exact rr11_d hD fu H (by omega), fr1, hT1, hD⟩
      by_cases w4 : fW b n t 18 4 = 4
      · rw [if_neg (by omega)]
        rw [if_pos w4] at ca
        have er : pRule b n i c E t = .inr (1, pl b n t) := by
          unfold pRule
          have : pCds b n i 4001 c (r0E E i) t = .inr (1, pl b n t) := by
            show pb (pCd b n t) _ = _
            unfold pCd
            rw [if_pos (by omega)]; rfl
          rw [this]; rfl
        rw [er]
        obtain ⟨s1, e1, fr1, hT1, hD1⟩ := fail_c hT h.1 h.2.1.1 fu (f := 1) (p := pl b n t) (by omega) (by omega) (pl_b b n t).2
        refine dead 1 (pl b n t) s1 i (by omega) hD1 hT1 (WS_w fr1) ?_
        clear h hR hK ih un ep hD1 dead er
        simp (disch := first | decide | omega) [↓bd_e, isb, ck_tt, NP, NF, NC, NB, NS, GS, kdC, tpC hT, ↓caO ca, b_X6_read_11_b, b_X6_read_73, c2, c3, e1]
      · rw [if_neg w4] at ca
        by_cases q20 : 20 ≤ i
        · rw [if_pos ⟨by omega, q20⟩]
          obtain ⟨s1, e1, fr1, hT1, hD1⟩ := fail_c hT h.1 h.2.1.1 fu (f := 2) (p := pl b n t) (by omega) (by omega) (pl_b b n t).2
          refine dead 2 (pl b n t) s1 i (by omega) hD1 hT1 (WS_w fr1) ?_
          clear h hR hK ih un ep hD1 dead
          simp (disch := first | decide | omega) [↓bd_e, isb, ck_tt, NP, NF, NC, NB, NS, GS, kdC, tpC hT, ↓caO ca, b_X6_read_11_b, b_X6_read_73, c2, c3, e1]
        · rw [if_neg (by omega)]
          obtain ⟨s1, e1, fr1, hT1, co1⟩ := rule_p (c := c) (E := E) hT h hf hq hq2 (show i < 20 by omega)
          have hd : b_X6_read_11_b fu (b_X6_read_11 fu (H + 1)) 121 2 (nI i) (nI i) st = b_X6_read_11 fu (H + 1) 121 2 (nI (i + 1)) (nI (i + 1)) s1 := by
            clear h hR hK ih un ep dead co1
            simp (disch := first | decide | omega) [↓bd_e, isb, ck_tt, NP, NF, NC, NB, NS, GS, kdC, tpC hT, ↓caO ca, b_X6_read_11_b, b_X6_read_73, c2, e1]
          cases hp : pRule b n i c E t with
          | inr e' =>
            rw [hp] at co1
            exact dead _ _ s1 (i + 1) (by omega) co1 hT1 fr1 hd
          | inl x =>
            obtain ⟨x, t1⟩ := x
            rw [hp] at co1
            obtain ⟨hC1, v1, v2⟩ := co1
            have hC1 : TC b n 4000 t1 s1 := hC1
            have v1 : ∀ j, j ≤ 5 → gI s1 q (i * 6 + j) = nI (x.2 j i) := v1
            obtain ⟨p1, p2, p3, p4⟩ := pRule_i hp (by omega)
            rw [pb_i]
            have old : ∀ r j, r < i → j ≤ 5 → x.2 j r = E j r := fun r j hr hj => by
              obtain ⟨y, ta, h1, h2⟩ := pb_inl (show pb _ _ = _ from hp)
              obtain ⟨z0, tb, h3, h4⟩ := pb_inl h2
              obtain ⟨z, tc, h5, h6⟩ := pb_inl h4
              obtain ⟨z1, td, h7, h8⟩ := pb_inl h6
              injection h8 with h8
              injection h8 with h9 h10
              rw [← h9]
              obtain ⟨r1, -, -, -⟩ := pCds_D (lo := c) h1 (Nat.le_refl _)
              show st1 (st1 (st1 y.2 4 i z.1) 5 i z.2) 6 (i + 1) y.1 j r = E j r
              rw [st1_n _ _ (by omega), st1_n _ _ (by omega), st1_n _ _ (by omega), r1 j r (by omega)]
              unfold r0E
              rw [st1_n _ _ (by omega), st1_n _ _ (by omega), st1_n _ _ (by omega), st1_n _ _ (by omega)]
            have R1 : RQ q (i + 1) x.2 s1 := fun r hr j hj => by
              by_cases e : r = i
              · subst e; exact v1 j hj
              · rw [v2 _ (by omega), old r j (by omega) hj]; exact hR r (by omega) j hj
            obtain ⟨m, u, r1, r2, r3, r4⟩ := ih (H + 1) (i + 1) x.1 t1 x.2 s1 (by omega) p2 (by omega) hT1 hC1 (by rw [WS_q fr1 hq2]; exact hq) R1 (p4 hK)
            exact ⟨m, u, by rw [hd]; exact r1, WS_t fr1 r2, r3, r4⟩
