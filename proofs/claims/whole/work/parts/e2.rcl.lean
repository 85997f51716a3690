/-! PURE: the text of rules, in the class -/
theorem fW_4 {b : BY} {n t : Nat} (w : Nat) : fW b n t w 4 = if wB b n t w then 0 else if wB b n t (w + 1) then 1 else if wB b n t (w + 2) then 2 else if wB b n t (w + 3) then 3 else 4 := by
  unfold fW fW fW fW fW
  cases wB b n t w <;> cases wB b n t (w + 1) <;> cases wB b n t (w + 1 + 1) <;> cases wB b n t (w + 1 + 1 + 1) <;> rfl
theorem condAt_c {st : St} (hT : Top st) {b : BY} {n t : Nat} (h : TC b n 4000 t st) {fu : Nat} (hf : 100 ≤ fu) : f_X6_conditionAt fu 2 st = some (if fW b n t 18 4 = 4 then -nI 1 else nI (fW b n t 18 4), st) := by
  have w0 := isWord_p hT h hf (w := 18) (by omega)
  have w1 := isWord_p hT h hf (w := 19) (by omega)
  have w2 := isWord_p hT h hf (w := 20) (by omega)
  have w3 := isWord_p hT h hf (w := 21) (by omega)
  rw [fW_4]
  clear h
  cases e0 : wB b n t 18 <;> rw [e0] at w0
  · cases e1 : wB b n t 19 <;> rw [e1] at w1
    · cases e2 : wB b n t 20 <;> rw [e2] at w2
      · cases e3 : wB b n t 21 <;> rw [e3] at w3
        · simp only [Bool.toNat_false] at w0 w1 w2 w3
          simp (disch := first | decide | omega) [↓bd_e, isb, ck_tt, NP, NF, NC, NB, NS, GS, kdC, tpC hT, ↓caO w0, ↓caO w1, ↓caO w2, ↓caO w3, f_X6_conditionAt, b_X6_conditionAt_47]
        · simp only [Bool.toNat_false, Bool.toNat_true] at w0 w1 w2 w3
          simp (disch := first | decide | omega) [↓bd_e, isb, ck_tt, NP, NF, NC, NB, NS, GS, kdC, tpC hT, ↓caO w0, ↓caO w1, ↓caO w2, ↓caO w3, f_X6_conditionAt, b_X6_conditionAt_47]
      · simp only [Bool.toNat_false, Bool.toNat_true] at w0 w1 w2
        simp (disch := first | decide | omega) [↓bd_e, isb, ck_tt, NP, NF, NC, NB, NS, GS, kdC, tpC hT, ↓caO w0, ↓caO w1, ↓caO w2, f_X6_conditionAt]
    · simp only [Bool.toNat_false, Bool.toNat_true] at w0 w1
      simp (disch := first | decide | omega) [↓bd_e, isb, ck_tt, NP, NF, NC, NB, NS, GS, kdC, tpC hT, ↓caO w0, ↓caO w1, f_X6_conditionAt]
  · simp only [Bool.toNat_true] at w0
    simp (disch := first | decide | omega) [↓bd_e, isb, ck_tt, NP, NF, NC, NB, NS, GS, kdC, tpC hT, ↓caO w0, f_X6_conditionAt]
theorem condAt_d {st : St} (hT : Top st) {b : BY} {n f p : Nat} (h : TD b n 4000 f p st) (fu : Nat) : f_X6_conditionAt fu 2 st = some (-nI 1, st) := by
  have w0 := isWord_d hT h fu 18
  have w1 := isWord_d hT h fu 19
  have w2 := isWord_d hT h fu 20
  have w3 := isWord_d hT h fu 21
  clear h
  simp (disch := first | decide | omega) [↓bd_e, isb, ck_tt, NP, NF, NC, NB, NS, GS, kdC, tpC hT, ↓caO w0, ↓caO w1, ↓caO w2, ↓caO w3, f_X6_conditionAt, b_X6_conditionAt_47]
theorem andI {a v : Nat} (ha : a ≤ 255) (hv : v ≤ 7) : nI a &&& (nI 1 <<< (nI v &&& nI 31)) = nI (a &&& 2 ^ v) := by
  have : ∀ a, a < 256 → ∀ v, v < 8 → nI a &&& (nI 1 <<< (nI v &&& nI 31)) = nI (a &&& 2 ^ v) := by decide +kernel
  exact this a (by omega) v (by omega)
theorem maxI {st : St} (fu : Nat) {a v : Nat} (ha : a ≤ 100) (hv : v ≤ 100) : f_J9_max_7cf53 fu (nI a) (nI v) st = some (nI (if a ≤ v then v else a), st) := by
  by_cases q : a ≤ v
  · rcases Nat.lt_or_ge a v with q2 | q2
    · simp (disch := omega) [f_J9_max_7cf53, b_J9_max_7cf53_10, NF, NC, q]
    · have : a = v := by omega
      subst this
      simp (disch := omega) [f_J9_max_7cf53, b_J9_max_7cf53_10, NF, NC]
  · simp (disch := omega) [f_J9_max_7cf53, b_J9_max_7cf53_10, NF, NC, q]
def SR2 (q : Nat) : Prop := q = 122 ∨ q = 123
set_option maxHeartbeats 4000000 in
theorem rcond_p {st : St} (hT : Top st) {b : BY} {n t : Nat} (h : TC b n 4000 t st) {fu : Nat} (hf : 4100 ≤ fu) {q i : Nat} {E : LD} (hq : gR st 121 1 = q) (hq2 : SR2 q) (hi : i < 20) (hE : ∀ j, j ≤ 3 → gI st q (i * 6 + j) = nI (E j i)) (hb : RFb E i) : ∃ u, f_X6_readCondition fu 121 2 (nI (i * 6)) st = some u ∧ Fr (WS q) st u ∧ Top u ∧ CO b n (pCd b n t) (fun x => ∀ y, gI u q y = if y = i * 6 + x.1 then nI (vC E i x.1 x.2) else gI st q y) u := by
  have qz : q ≠ 0 := by rcases hq2 with e | e <;> omega
  have q4 : 4 ≤ q := by rcases hq2 with e | e <;> omega
  have qk : kd q = (100, 120) := by rcases hq2 with rfl | rfl <;> rfl
  have n4 := h.1.2.1
  have c3 := h.2.2.1
  have ca := condAt_c hT h (fu := fu) (by omega)
  have kl := fW_le b n t 4 18
  have kw := fW_t b n t 4 18
  obtain ⟨k, hk⟩ : ∃ k, k = fW b n t 18 4 := ⟨_, rfl⟩
  unfold pCd
  rw [← hk] at ca kl kw ⊢
  by_cases k4 : k = 4
  · rw [if_pos (by omega)]
    rw [if_pos k4] at ca
    obtain ⟨u, u1, u2, u3, u4⟩ := fail_c hT h.1 h.2.1.1 fu (f := 1) (p := pl b n t) (by omega) (by omega) (pl_b b n t).2
    refine ⟨u, ?_, WS_w u2, u3, u4⟩
    clear h u2 u4 kw hE hb
    simp (disch := first | decide | omega) [↓bd_e, isb, ck_tt, NP, NF, NC, NB, NS, GS, kdC, tpC hT, ↓caO ca, f_X6_readCondition, c3, u1]
  · rw [if_neg (by omega)]
    rw [if_neg k4] at ca
    have k3 : k < 4 := by omega
    obtain ⟨s3, e3, nx⟩ := next_c hT h hf
    obtain ⟨fr3, hT3, hC3⟩ := nx.go n4 (isW_s (kw k3))
    have g3 : gI s3 q = gI st q := (WT_o fr3 q4).1
    have q3 : gR s3 121 1 = q := by rw [(WT_o fr3 (o := 121) (by omega)).2.2]; exact hq
    have lh : lC k ≤ hC k ∧ hC k ≤ 10 ∧ lC k ≤ 1 := by
      have : ∀ k, k < 4 → lC k ≤ hC k ∧ hC k ≤ 10 ∧ lC k ≤ 1 := by decide
      exact this k k3
    obtain ⟨v, s4, e4, fr4, hT4, l1, l2, co⟩ := number_p hT3 hC3 hf (lo := lC k) (hi := hC k) (by omega) (by omega) lh.1
    have g4 : gI s4 q = gI st q := by rw [(WT_o fr4 q4).1, g3]
    obtain ⟨b0, b1, b2, b3⟩ := hb
    -- the write
    have main : f_X6_readCondition fu 121 2 (nI (i * 6)) st = some (sI s4 q (i * 6 + k) (nI (vC E i k v))) := by
      have h4 : k = 0 ∨ k = 1 ∨ k = 2 ∨ k = 3 := by omega
      rcases h4 with rfl | rfl | rfl | rfl
      · have r0 : gI s3 q (i * 6) = nI (E 0 i) := by rw [g3]; exact hE 0 (by omega)
        have l2' : v ≤ 10 := l2
        have mx := maxI (st := s4) fu (a := E 0 i) (v := v) (by omega) (by omega)
        have e4' : f_X9_number fu 2 (nI 1) (nI 10) s3 = some (nI v, s4) := e4
        have vv : vC E i 0 v = if E 0 i ≤ v then v else E 0 i := rfl
        rw [vv]
        clear h hC3 nx hE co kw hk e4
        simp (disch := first | decide | omega) [↓bd_e, isb, ck_tt, NP, NF, NC, NB, NS, GS, kdC, tpC hT, ↓caO ca, ↓cvO e3, f_X6_readCondition, b_X6_readCondition_95, q3, qz, qk, r0, e4', mx]
      · have r0 : gI s3 q (i * 6 + 1) = nI (E 1 i) := by rw [g3]; exact hE 1 (by omega)
        have l2' : v ≤ 3 := l2
        have an := andI (a := E 1 i) (v := v) (by omega) (by omega)
        have e4' : f_X9_number fu 2 (nI 0) (nI 3) s3 = some (nI v, s4) := e4
        have vv : vC E i 1 v = E 1 i &&& 2 ^ v := rfl
        rw [vv, ← an]
        clear h hC3 nx hE co kw hk e4 an
        simp (disch := first | decide | omega) [↓bd_e, isb, ck_tt, NP, NF, NC, NB, NS, GS, kdC, tpC hT, ↓caO ca, ↓cvO e3, f_X6_readCondition, b_X6_readCondition_73, b_X6_readCondition_95, q3, qz, qk, r0, e4']
      · have r0 : gI s3 q (i * 6 + 2) = nI (E 2 i) := by rw [g3]; exact hE 2 (by omega)
        have l2' : v ≤ 6 := l2
        have an := andI (a := E 2 i) (v := v) (by omega) (by omega)
        have e4' : f_X9_number fu 2 (nI 0) (nI 6) s3 = some (nI v, s4) := e4
        have vv : vC E i 2 v = E 2 i &&& 2 ^ v := rfl
        rw [vv, ← an]
        clear h hC3 nx hE co kw hk e4 an
        simp (disch := first | decide | omega) [↓bd_e, isb, ck_tt, NP, NF, NC, NB, NS, GS, kdC, tpC hT, ↓caO ca, ↓cvO e3, f_X6_readCondition, b_X6_readCondition_73, b_X6_readCondition_95, q3, qz, qk, r0, e4']
      · have r0 : gI s3 q (i * 6 + 3) = nI (E 3 i) := by rw [g3]; exact hE 3 (by omega)
        have l2' : v ≤ 7 := l2
        have an := andI (a := E 3 i) (v := v) (by omega) (by omega)
        have e4' : f_X9_number fu 2 (nI 0) (nI 7) s3 = some (nI v, s4) := e4
        have vv : vC E i 3 v = E 3 i &&& 2 ^ v := rfl
        rw [vv, ← an]
        clear h hC3 nx hE co kw hk e4 an
        simp (disch := first | decide | omega) [↓bd_e, isb, ck_tt, NP, NF, NC, NB, NS, GS, kdC, tpC hT, ↓caO ca, ↓cvO e3, f_X6_readCondition, b_X6_readCondition_73, b_X6_readCondition_95, q3, qz, qk, r0, e4']
    refine ⟨_, main, WS_t (WS_w (fr3.tt fr4)) (WS_i _ _ _), hT4.r rfl, ?_⟩
    cases hp : pNum b n (lC k) (hC k) (t + 1) with
    | inr e' => rw [hp] at co; exact TD.sI co (by omega) _ _
    | inl y =>
      obtain ⟨y, t1⟩ := y
      rw [hp] at co
      obtain ⟨hC4, hv⟩ := co
      have hv : v = y := hv
      subst hv
      refine ⟨TC.sI hC4 (by omega) _ _, fun z => ?_⟩
      rw [gI_sI, g4]
      by_cases e : z = i * 6 + k
      · rw [if_pos ⟨rfl, e⟩, if_pos e]
      · rw [if_neg (fun w => e w.2), if_neg e]
theorem rcond_d {st : St} (hT : Top st) {b : BY} {n f p : Nat} (h : TD b n 4000 f p st) (fu : Nat) (B : Int32) : ∃ u, f_X6_readCondition fu 121 2 B st = some u ∧ Fr WT st u ∧ Top u ∧ TD b n 4000 f p u := by
  have ca := condAt_d hT h fu
  obtain ⟨u, u1, u2, u3, u4⟩ := fail_d hT h fu (nI 1) (gI st 2 3)
  refine ⟨u, ?_, u2, u3, u4⟩
  clear h u2 u4
  simp (disch := first | decide | omega) [↓bd_e, isb, ck_tt, NP, NF, NC, NB, NS, GS, kdC, tpC hT, ↓caO ca, f_X6_readCondition, u1]
theorem cds_p {b : BY} {n : Nat} {fu : Nat} (hf : 4100 ≤ fu) {q i : Nat} (hq2 : SR2 q) (hi : i < 20) : ∀ (g F j c t : Nat) (E : LD) (st : St), n < g + t → g < F → 2 * j ≤ t → Top st → TC b n 4000 t st → gR st 121 1 = q → (∀ j, j ≤ 3 → gI st q (i * 6 + j) = nI (E j i)) → RFb E i → ∃ u, b_X6_readRule_40 fu F 121 2 (nI (i * 6)) (nI j) st = b_X6_readRule_71 fu 121 2 (nI (i * 6)) u ∧ Fr (WS q) st u ∧ Top u ∧ (∀ y, (y < i * 6 ∨ i * 6 + 4 ≤ y) → CO b n (pCds b n i g c E t) (fun _ => gI u q y = gI st q y) u) ∧ CO b n (pCds b n i g c E t) (fun x => ∀ j, j ≤ 3 → gI u q (i * 6 + j) = nI (x.2 j i)) u := by
  have q4 : 4 ≤ q := by rcases hq2 with e | e <;> omega
  intro g
  induction g with
  | zero =>
    intro F j c t E st hg hF hj hT h hq hE hb
    obtain ⟨G, rfl⟩ : ∃ G, F = G + 1 := ⟨F - 1, by omega⟩
    have tl := h.2.1.2.2.2
    have s0 := so_0 (b := b) (show n < t by omega)
    have k4 : 4 ≤ fW b n t 18 4 := by
      apply Classical.byContradiction
      intro e
      exact isW_s (fW_t b n t 4 18 (by omega)) s0
    obtain ⟨s1, e1, fr1, hT1, co1⟩ := rcond_p hT h hf hq hq2 hi hE hb
    have e : pCd b n t = .inr (1, pl b n t) := by unfold pCd; rw [if_pos k4]
    rw [e] at co1
    have hD : TD b n 4000 1 (pl b n t) s1 := co1
    have tk := takes_d hT1 hD fu (nI 44)
    refine ⟨s1, ?_, fr1, hT1, fun _ _ => hD, hD⟩
    show b_X6_readRule_40_b fu (b_X6_readRule_40 fu G) 121 2 (nI (i * 6)) (nI j) st = _
    clear h hE co1 hD
    simp (disch := first | decide | omega) [↓bd_e, isb, ck_tt, NP, NF, NC, NB, NS, GS, kdC, tpC hT, ↓cvO e1, b_X6_readRule_40_b, tk]
  | succ g ih =>
    intro F j c t E st hg hF hj hT h hq hE hb
    obtain ⟨G, rfl⟩ : ∃ G, F = G + 1 := ⟨F - 1, by omega⟩
    have tl := h.2.1.2.2.2
    have n4 := h.1.2.1
    obtain ⟨s1, e1, fr1, hT1, co1⟩ := rcond_p hT h hf hq hq2 hi hE hb
    have ep : pCds b n i (g + 1) c E t = pb (pCd b n t) fun x t1 => if so b n t1 = 44 then pCds b n i g (c + 1) (uC E i c x.1 x.2) (t1 + 1) else .inl ((c + 1, uC E i c x.1 x.2), t1) := rfl
    rw [ep]
    cases hp : pCd b n t with
    | inr e' =>
      rw [hp] at co1
      have hD : TD b n 4000 e'.1 e'.2 s1 := co1
      have tk := takes_d hT1 hD fu (nI 44)
      refine ⟨s1, ?_, fr1, hT1, fun _ _ => hD, hD⟩
      show b_X6_readRule_40_b fu (b_X6_readRule_40 fu G) 121 2 (nI (i * 6)) (nI j) st = _
      clear h hE co1 hD ih ep
      simp (disch := first | decide | omega) [↓bd_e, isb, ck_tt, NP, NF, NC, NB, NS, GS, kdC, tpC hT, ↓cvO e1, b_X6_readRule_40_b, tk]
    | inl x =>
      obtain ⟨x, t1⟩ := x
      rw [hp] at co1
      obtain ⟨hC1, rd⟩ := co1
      have hC1 : TC b n 4000 t1 s1 := hC1
      have rd : ∀ y, gI s1 q y = if y = i * 6 + x.1 then nI (vC E i x.1 x.2) else gI st q y := rd
      obtain ⟨x1, x2, x3, x4, x5, x6⟩ := pCd_i hp
      have q1 : gR s1 121 1 = q := by
        rw [fr1.fr 121 (by rcases hq2 with e | e <;> subst e <;> decide)]; exact hq
      have E1 : ∀ j, j ≤ 3 → gI s1 q (i * 6 + j) = nI (uC E i c x.1 x.2 j i) := fun j hj => by
        rw [rd]
        have : uC E i c x.1 x.2 j i = if j = x.1 then vC E i x.1 x.2 else E j i := by
          unfold uC
          rw [st1_n _ _ (by omega), st1_n _ _ (by omega)]
          by_cases e : j = x.1
          · subst e; rw [st1_e, if_pos rfl]
          · rw [st1_n _ _ (by omega), if_neg e]
        rw [this]
        by_cases e : j = x.1
        · rw [if_pos (by omega), if_pos e]
        · rw [if_neg (by omega), if_neg e]; exact hE j hj
      have B1 := RFb_s (c := c) hb x2 x4
      obtain ⟨s2, e2, fr2, hT2, hC2⟩ := takes_p hT1 hC1 hf (c := 44) (by omega) (by omega)
      have g2 : gI s2 q = gI s1 q := (WT_o fr2 q4).1
      rw [pb_i]
      by_cases c4 : so b n t1 = 44
      · rw [if_pos c4] at e2 hC2
        rw [if_pos c4]
        have := so_t (b := b) (n := n) (t := t1) (by omega)
        obtain ⟨u, r1, r2, r3, r4, r5⟩ := ih G (j + 1) (c + 1) (t1 + 1) _ s2 (by omega) (by omega) (by omega) hT2 hC2 (by rw [(WT_o fr2 (o := 121) (by omega)).2.2]; exact q1) (by rw [g2]; exact E1) B1
        refine ⟨u, ?_, WS_t fr1 (WS_t (WS_w fr2) r2), r3, fun y hy => ?_, r5⟩
        · rw [← r1]
          show b_X6_readRule_40_b fu (b_X6_readRule_40 fu G) 121 2 (nI (i * 6)) (nI j) st = _
          clear h hE hC1 hC2 ih ep r1 r2 r3 r4 r5 E1 B1 rd
          simp (disch := first | decide | omega) [↓bd_e, isb, ck_tt, NP, NF, NC, NB, NS, GS, kdC, tpC hT, ↓cvO e1, b_X6_readRule_40_b, e2]
        · have := r4 y hy
          cases hq3 : pCds b n i g (c + 1) (uC E i c x.1 x.2) (t1 + 1) with
          | inr e' => rw [hq3] at this; exact this
          | inl z =>
            rw [hq3] at this
            exact ⟨this.1, by rw [this.2, g2, rd, if_neg (by omega)]⟩
      · rw [if_neg c4] at e2 hC2
        rw [if_neg c4]
        refine ⟨s2, ?_, WS_t fr1 (WS_w fr2), hT2, fun y hy => ⟨hC2, by rw [g2, rd, if_neg (by omega)]⟩, hC2, by rw [g2]; exact E1⟩
        show b_X6_readRule_40_b fu (b_X6_readRule_40 fu G) 121 2 (nI (i * 6)) (nI j) st = _
        clear h hE hC1 hC2 ih ep E1 B1 rd
        simp (disch := first | decide | omega) [↓bd_e, isb, ck_tt, NP, NF, NC, NB, NS, GS, kdC, tpC hT, ↓cvO e1, b_X6_readRule_40_b, e2]
