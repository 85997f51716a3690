/-! PURE: the text of a list, in the class: options, heads, the whole -/
def CU (q cc : Nat) (D : LD) (st : St) : Prop := ∀ x, x < cc → ∀ k, k ≤ 6 → gI st (q + 1 + k) x = nI (D k x)
theorem CU.set {q cc : Nat} {D : LD} {s : St} (h : CU q cc D s) (j i v : Nat) (hj : j ≤ 6) : CU q cc (st1 D j i v) (sI s (q + 1 + j) i (nI v)) := fun x hx k hk => by
  rw [gI_sI]
  by_cases c : k = j ∧ x = i
  · obtain ⟨rfl, rfl⟩ := c
    rw [if_pos ⟨rfl, rfl⟩, st1_e]
  · rw [if_neg (by omega), st1_n _ _ (by omega)]
    exact h x hx k hk
theorem CU.w {q cc : Nat} {D : LD} {s u : St} (h : CU q cc D s) (hq : 4 ≤ q) (fr : Fr WT s u) : CU q cc D u := fun x hx k hk => by
  rw [(WT_o fr (o := q + 1 + k) (by omega)).1]
  exact h x hx k hk
def Wo (q : Nat) : List PL := [(2, some 2), (2, some 3), (2, some 4), (2, some 5), (2, some 6), (2, some 8), (2, some 9), (q + 1, none), (q + 2, none), (q + 3, none), (q + 4, none), (q + 5, none), (q + 6, none), (q + 7, none)]
theorem Wo_w {q : Nat} {a b : St} (h : Fr WT a b) : Fr (Wo q) a b := h.sub (by simp [WT, Wo])
theorem Wo_i {q j : Nat} (hj : j ≤ 6) (a : St) (k : Nat) (v : Int32) : Fr (Wo q) a (sI a (q + 1 + j) k v) := (Fr.ia a (q + 1 + j) k v).sub (by
  intro x hx
  simp at hx
  subst hx
  have : j = 0 ∨ j = 1 ∨ j = 2 ∨ j = 3 ∨ j = 4 ∨ j = 5 ∨ j = 6 := by omega
  rcases this with rfl | rfl | rfl | rfl | rfl | rfl | rfl <;> simp [Wo])
theorem Wo_q {q : Nat} {a b : St} (h : Fr (Wo q) a b) (hq : 4 ≤ q) (k : Nat) : gI b q k = gI a q k := h.ki q k (by simp [Wo, covers]; omega)
set_option maxHeartbeats 8000000 in
theorem opt_p {st : St} (hT : Top st) {b : BY} {n t : Nat} (h : TC b n 4000 t st) {fu : Nat} (hf : 4100 ≤ fu) {q c a o : Nat} {D : LD} (hq : SQ q) (hc : gI st q 12 = nI c) (hc6 : c < 60) (ha : gI st q 13 = nI a) (hU : CU q (c + 1) D st) (ho : o < 6) : ∃ u, f_X8_readOption fu q 2 (nI o) st = some u ∧ Fr (Wo q) st u ∧ Top u ∧ CO b n (pOpt b n c a o D t) (fun D' => CU q (c + 1) D' u) u := by
  have qb := hq.b
  have K := sqK hq
  have R := sqR hq hT
  have num : ∀ (lo j : Nat), lo ≤ 1 → 1 ≤ j → j ≤ 4 → (∀ v u1, f_X9_number fu 2 (nI lo) (nI 9999) st = some (nI v, u1) → f_X8_readOption fu q 2 (nI o) st = some (sI u1 (q + 1 + j) c (nI v))) → ∃ u, f_X8_readOption fu q 2 (nI o) st = some u ∧ Fr (Wo q) st u ∧ Top u ∧ CO b n (pb (pNum b n lo 9999 t) fun v t1 => .inl (st1 D j c v, t1)) (fun D' => CU q (c + 1) D' u) u := fun lo j hlo h1 h4 hx => by
    obtain ⟨v, u1, e1, fr1, hT1, l1, l2, co⟩ := number_p hT h hf (lo := lo) (hi := 9999) (by omega) (by omega) (by omega)
    refine ⟨_, hx v u1 e1, (Wo_w fr1).tt (Wo_i (by omega) _ _ _), hT1.r rfl, ?_⟩
    cases hp : pNum b n lo 9999 t with
    | inr e' => rw [hp] at co; exact TD.sI co (by omega) _ _
    | inl x =>
      obtain ⟨x, t1⟩ := x
      rw [hp] at co
      obtain ⟨hC, hv⟩ := co
      have hv : v = x := hv
      subst hv
      exact ⟨TC.sI hC (by omega) _ _, (hU.w (by omega) fr1).set j c v (by omega)⟩
  unfold pOpt
  have h6 : o = 0 ∨ o = 1 ∨ o = 2 ∨ o = 3 ∨ o = 4 ∨ o = 5 := by omega
  rcases h6 with rfl | rfl | rfl | rfl | rfl | rfl
  · refine num 0 1 (by omega) (by omega) (by omega) (fun v u1 e1 => ?_)
    clear h hU num
    simp (disch := first | decide | omega) [isb, ck_tt, NP, NF, NC, NB, NS, GS, kdC, tpC hT, f_X8_readOption, b_X8_readOption_154, K, R, hc, e1]
  · refine num 0 2 (by omega) (by omega) (by omega) (fun v u1 e1 => ?_)
    clear h hU num
    simp (disch := first | decide | omega) [isb, ck_tt, NP, NF, NC, NB, NS, GS, kdC, tpC hT, f_X8_readOption, b_X8_readOption_154, K, R, hc, e1]
  · refine num 0 3 (by omega) (by omega) (by omega) (fun v u1 e1 => ?_)
    clear h hU num
    simp (disch := first | decide | omega) [isb, ck_tt, NP, NF, NC, NB, NS, GS, kdC, tpC hT, f_X8_readOption, b_X8_readOption_154, K, R, hc, e1]
  · refine num 1 4 (by omega) (by omega) (by omega) (fun v u1 e1 => ?_)
    clear h hU num
    simp (disch := first | decide | omega) [isb, ck_tt, NP, NF, NC, NB, NS, GS, kdC, tpC hT, f_X8_readOption, b_X8_readOption_154, K, R, hc, e1]
  · refine ⟨sI st (q + 1 + 6) c (nI a), ?_, Wo_i (by omega) _ _ _, hT.r rfl, TC.sI h (by omega) _ _, hU.set 6 c a (by omega)⟩
    clear h hU num
    simp (disch := first | decide | omega) [isb, ck_tt, NP, NF, NC, NB, NS, GS, kdC, tpC hT, f_X8_readOption, b_X8_readOption_154, K, R, hc, ha]
  · obtain ⟨v, u1, e1, l1, fr1, hT1, co⟩ := readName_p hT h hf q
    refine ⟨sI u1 (q + 1 + 5) c (nI v), ?_, (Wo_w fr1).tt (Wo_i (by omega) _ _ _), hT1.r rfl, ?_⟩
    · clear h hU num co
      simp (disch := first | decide | omega) [isb, ck_tt, NP, NF, NC, NB, NS, GS, kdC, tpC hT, f_X8_readOption, b_X8_readOption_154, K, R, hc, e1]
    · show CO b n (pb (pName b n t) fun v t1 => .inl (st1 D 5 c v, t1)) _ _
      cases hp : pName b n t with
      | inr e' => rw [hp] at co; exact TD.sI co (by omega) _ _
      | inl x =>
        obtain ⟨x, t1⟩ := x
        rw [hp] at co
        obtain ⟨hC, hv⟩ := co
        have hv : v = x := hv
        subst hv
        exact ⟨TC.sI hC (by omega) _ _, (hU.w (by omega) fr1).set 5 c v (by omega)⟩
def pc6 (M : Nat) : Nat := M % 2 + M / 2 % 2 + M / 4 % 2 + M / 8 % 2 + M / 16 % 2 + M / 32 % 2
theorem pc6_s {M o : Nat} (hM : M < 64) (ho : o < 6) (h : M / 2 ^ o % 2 ≠ 1) : pc6 (M ||| 2 ^ o) = pc6 M + 1 ∧ (M ||| 2 ^ o) < 64 ∧ nI M ||| (nI 1 <<< (nI o &&& nI 31)) = nI (M ||| 2 ^ o) := by
  have : ∀ M, M < 64 → ∀ o, o < 6 → M / 2 ^ o % 2 ≠ 1 → pc6 (M ||| 2 ^ o) = pc6 M + 1 ∧ (M ||| 2 ^ o) < 64 ∧ nI M ||| (nI 1 <<< (nI o &&& nI 31)) = nI (M ||| 2 ^ o) := by decide +kernel
  exact this M hM o ho h
theorem pc6_6 {M o : Nat} (hM : M < 64) (ho : o < 6) (h : M / 2 ^ o % 2 ≠ 1) : pc6 M < 6 := by
  have : ∀ M, M < 64 → ∀ o, o < 6 → M / 2 ^ o % 2 ≠ 1 → pc6 M < 6 := by decide +kernel
  exact this M hM o ho h
theorem pc6_le {M : Nat} (hM : M < 64) : pc6 M ≤ 6 := by
  have : ∀ M, M < 64 → pc6 M ≤ 6 := by decide +kernel
  exact this M hM
theorem opts_d {st : St} (hT : Top st) {b : BY} {n f p : Nat} (h : TD b n 4000 f p st) (fu F : Nat) {q : Nat} (M : Int32) {i : Nat} (hi : i ≤ 7) : ∃ u2, b_X8_readOptions_4 fu (F + 1) q 2 M (nI i) st = some st ∧ f_X9_need fu 2 (nI 123) st = some u2 ∧ Fr WT st u2 ∧ Top u2 ∧ TD b n 4000 f p u2 := by
  obtain ⟨u, e, fr, hTu, hD⟩ := need_d hT h fu (nI 123)
  have d8 := h.2.1
  have d8' := h.2.2.1
  have d8'' := h.2.2.2.1
  refine ⟨u, ?_, e, fr, hTu, hD⟩
  show b_X8_readOptions_4_b fu (b_X8_readOptions_4 fu F) q 2 M (nI i) st = _
  clear h hD e
  by_cases c : i = 7
  · subst c
    simp (disch := first | decide | omega) [isb, ck_tt, NP, NF, NC, NB, NS, GS, kdC, tpC hT, b_X8_readOptions_4_b, b_X8_readOptions_72]
  · simp (disch := first | decide | omega) [isb, ck_tt, NP, NF, NC, NB, NS, GS, kdC, tpC hT, b_X8_readOptions_4_b, b_X8_readOptions_72, d8]
set_option maxHeartbeats 8000000 in
theorem opts_p {b : BY} {n : Nat} {fu : Nat} (hf : 4100 ≤ fu) {q c a : Nat} (hq : SQ q) (hc6 : c < 60) : ∀ (g F i M t : Nat) (D : LD) (st : St), g + i = 7 → g < F → M < 64 → pc6 M = i → Top st → TC b n 4000 t st → gI st q 12 = nI c → gI st q 13 = nI a → CU q (c + 1) D st → ∃ u1 u2, b_X8_readOptions_4 fu F q 2 (nI M) (nI i) st = some u1 ∧ f_X9_need fu 2 (nI 123) u1 = some u2 ∧ Fr (Wo q) st u2 ∧ Top u2 ∧ CO b n (pOpts b n c a g M D t) (fun D' => CU q (c + 1) D' u2) u2 := by
  have qb := hq.b
  have K := sqK hq
  intro g
  induction g with
  | zero =>
    intro F i M t D st hg hF hM hi hT h hc ha hU
    have := pc6_le hM
    omega
  | succ g ih =>
    intro F i M t D st hg hF hM hi hT h hc ha hU
    obtain ⟨G, rfl⟩ : ∃ G, F = G + 1 := ⟨F - 1, by omega⟩
    have n4 := h.1.2.1
    have c8 := h.2.1.1
    have c3 := h.2.2.1
    have oa := optionAt_c hT h (fu := fu) (by omega)
    have ol := fW_le b n t 6 2
    have ow := fW_t b n t 6 2
    have ep : pOpts b n c a (g + 1) M D t = if fW b n t 2 6 < 6 then (if M / 2 ^ fW b n t 2 6 % 2 = 1 then .inr (3, pl b n t) else pb (pOpt b n c a (fW b n t 2 6) D (t + 1)) fun D1 t1 => pOpts b n c a g (M ||| 2 ^ fW b n t 2 6) D1 t1) else pb (pSg b n 123 t) fun _ t1 => .inl (D, t1) := rfl
    rw [ep]
    obtain ⟨o, ho⟩ : ∃ o, o = fW b n t 2 6 := ⟨_, rfl⟩
    rw [← ho] at oa ol ow ⊢
    by_cases o6 : o = 6
    · rw [if_neg (by omega)]
      rw [if_pos o6] at oa
      obtain ⟨u2, e2, fr2, hT2, co2⟩ := need_p hT h hf (c := 123) (by omega) (by omega)
      refine ⟨st, u2, ?_, e2, Wo_w fr2, hT2, ?_⟩
      · show b_X8_readOptions_4_b fu (b_X8_readOptions_4 fu G) q 2 (nI M) (nI i) st = _
        clear h hU ih co2 e2 ow ep
        simp (disch := first | decide | omega) [isb, ck_tt, NP, NF, NC, NB, NS, GS, kdC, tpC hT, b_X8_readOptions_4_b, c8, oa]
      · cases hp : pSg b n 123 t with
        | inr e' => rw [hp] at co2; exact co2
        | inl x => rw [hp] at co2; exact ⟨co2.1, hU.w (by omega) fr2⟩
    · rw [if_neg o6] at oa
      have o5 : o < 6 := by omega
      rw [if_pos o5]
      have s0 := isW_s (ow o5)
      have bn := bitN (M := M) (x := o) (by omega)
      by_cases sb : M / 2 ^ o % 2 = 1
      · rw [if_pos sb]
        rw [sb] at bn
        obtain ⟨s1, e1, fr1, hT1, hD1⟩ := fail_c hT h.1 h.2.1.1 fu (f := 3) (p := pl b n t) (by omega) (by omega) (pl_b b n t).2
        obtain ⟨u2, e2, fr2, hT2, hD2⟩ := need_d hT1 hD1 fu (nI 123)
        refine ⟨s1, u2, ?_, e2, Wo_w (fr1.tt fr2), hT2, hD2⟩
        show b_X8_readOptions_4_b fu (b_X8_readOptions_4 fu G) q 2 (nI M) (nI i) st = _
        clear h hU ih hD1 hD2 e2 ow ep
        simp (disch := first | decide | omega) [isb, ck_tt, NP, NF, NC, NB, NS, GS, kdC, tpC hT, b_X8_readOptions_4_b, c8, c3, oa, bn, e1]
      · rw [if_neg sb]
        have bn0 : M / 2 ^ o % 2 = 0 := by omega
        rw [bn0] at bn
        obtain ⟨p1, p2, p3⟩ := pc6_s hM o5 sb
        have p6 := pc6_6 hM o5 sb
        obtain ⟨s1, e1, nx⟩ := next_c hT h hf
        obtain ⟨fr1, hT1, hC1⟩ := nx.go n4 s0
        have hc1 : gI s1 q 12 = nI c := by rw [(WT_o fr1 (o := q) (by omega)).1]; exact hc
        have ha1 : gI s1 q 13 = nI a := by rw [(WT_o fr1 (o := q) (by omega)).1]; exact ha
        obtain ⟨s2, e2, fr2, hT2, co2⟩ := opt_p hT1 hC1 hf hq hc1 hc6 ha1 (hU.w (by omega) fr1) o5
        have hd : b_X8_readOptions_4 fu (G + 1) q 2 (nI M) (nI i) st = b_X8_readOptions_4 fu G q 2 (nI (M ||| 2 ^ o)) (nI (i + 1)) s2 := by
          show b_X8_readOptions_4_b fu (b_X8_readOptions_4 fu G) q 2 (nI M) (nI i) st = _
          rw [← p3]
          clear h hU ih co2 nx hC1 ow ep p1 p2 p3
          simp (disch := first | decide | omega) [isb, ck_tt, NP, NF, NC, NB, NS, GS, kdC, tpC hT, b_X8_readOptions_4_b, K, c8, oa, bn, e1, e2]
        cases hp : pOpt b n c a o D (t + 1) with
        | inr e' =>
          rw [hp] at co2
          obtain ⟨H, rfl⟩ : ∃ H, G = H + 1 := ⟨G - 1, by omega⟩
          obtain ⟨u2, x1, x2, x3, x4, x5⟩ := opts_d hT2 co2 fu H (q := q) (nI (M ||| 2 ^ o)) (i := i + 1) (by omega)
          exact ⟨s2, u2, by rw [hd]; exact x1, x2, (Wo_w fr1).tt (fr2.tt (Wo_w x3)), x4, x5⟩
        | inl x =>
          obtain ⟨D1, t1⟩ := x
          rw [hp] at co2
          obtain ⟨hC2, hU2⟩ := co2
          rw [pb_i]
          obtain ⟨u1, u2, x1, x2, x3, x4, x5⟩ := ih G (i + 1) (M ||| 2 ^ o) t1 D1 s2 (by omega) (by omega) p2 (by omega) hT2 hC2 (by rw [Wo_q fr2 (by omega)]; exact hc1) (by rw [Wo_q fr2 (by omega)]; exact ha1) hU2
          exact ⟨u1, u2, by rw [hd]; exact x1, x2, (Wo_w fr1).tt (fr2.tt x3), x4, x5⟩
set_option maxHeartbeats 8000000 in
/-- the head's writes -/
theorem b106 {s : St} (hT : Top s) (fu : Nat) {q c : Nat} (hq : SQ q) (hc : gI s q 12 = nI c) (hc6 : c < 60) (v : Int32) : ∃ u, b_X8_readHead_106 fu q v s = some u ∧ Fr (Wo q) s u ∧ Top u ∧ gI u 2 = gI s 2 ∧ gI u 3 = gI s 3 ∧ ∀ D nm, v = nI nm → CU q c D s → CU q (c + 1) (hd0 D c nm) u := by
  have qb := hq.b
  have K := sqK hq
  have R := sqR hq hT
  obtain ⟨z, hz⟩ : ∃ z, z = if c = 0 then nI 0 else gI s (q + 7) (c - 1) := ⟨_, rfl⟩
  refine ⟨sI (sI (sI (sI (sI (sI (sI s (q + 1 + 0) c v) (q + 1 + 1) c (nI 0)) (q + 1 + 2) c (nI 0)) (q + 1 + 3) c (nI 0)) (q + 1 + 4) c (nI 0)) (q + 1 + 5) c (nI 0)) (q + 1 + 6) c z, ?_, ?_, ?_, ?_, ?_, ?_⟩
  · by_cases c0 : c = 0
    · subst c0
      rw [if_pos rfl] at hz
      subst hz
      simp (disch := first | decide | omega) [isb, ck_tt, NP, NF, NC, NB, NS, GS, kdC, tpC hT, b_X8_readHead_106, b_X8_readHead_196, K, R, hc]
    · rw [if_neg c0] at hz
      have hz' := hz.symm
      simp (disch := first | decide | omega) [isb, ck_tt, NP, NF, NC, NB, NS, GS, kdC, tpC hT, b_X8_readHead_106, b_X8_readHead_196, K, R, hc, hz']
  · exact (Wo_i (by omega) _ _ _).tt ((Wo_i (by omega) _ _ _).tt ((Wo_i (by omega) _ _ _).tt ((Wo_i (by omega) _ _ _).tt ((Wo_i (by omega) _ _ _).tt ((Wo_i (by omega) _ _ _).tt (Wo_i (by omega) _ _ _))))))
  · exact hT.r rfl
  · rw [gI_sI_n _ _ _ (by omega), gI_sI_n _ _ _ (by omega), gI_sI_n _ _ _ (by omega), gI_sI_n _ _ _ (by omega), gI_sI_n _ _ _ (by omega), gI_sI_n _ _ _ (by omega), gI_sI_n _ _ _ (by omega)]
  · rw [gI_sI_n _ _ _ (by omega), gI_sI_n _ _ _ (by omega), gI_sI_n _ _ _ (by omega), gI_sI_n _ _ _ (by omega), gI_sI_n _ _ _ (by omega), gI_sI_n _ _ _ (by omega), gI_sI_n _ _ _ (by omega)]
  · intro D nm hv hU x hx k hk
    have zD : z = nI (if c = 0 then 0 else D 6 (c - 1)) := by
      rw [hz]
      by_cases c0 : c = 0
      · rw [if_pos c0, if_pos c0]
      · rw [if_neg c0, if_neg c0]; exact hU (c - 1) (by omega) 6 (by omega)
    rw [zD, hv]
    unfold hd0
    have one : ∀ (D' : LD) (s' : St) (j v' : Nat), (gI s' (q + 1 + k) x = nI (D' k x) ∨ (k = j ∧ x = c)) → gI (sI s' (q + 1 + j) c (nI v')) (q + 1 + k) x = nI (st1 D' j c v' k x) := fun D' s' j v' h => by
      rw [gI_sI]
      by_cases e : k = j ∧ x = c
      · obtain ⟨rfl, rfl⟩ := e
        rw [if_pos ⟨rfl, rfl⟩, st1_e]
      · rw [if_neg (by omega), st1_n _ _ (by omega)]
        rcases h with h | h
        · exact h
        · exact absurd h e
    by_cases xc : x = c
    · have h7 : k = 0 ∨ k = 1 ∨ k = 2 ∨ k = 3 ∨ k = 4 ∨ k = 5 ∨ k = 6 := by omega
      rcases h7 with e | e | e | e | e | e | e
      · exact one _ _ _ _ (Or.inl (one _ _ _ _ (Or.inl (one _ _ _ _ (Or.inl (one _ _ _ _ (Or.inl (one _ _ _ _ (Or.inl (one _ _ _ _ (Or.inl (one _ _ _ _ (Or.inr ⟨e, xc⟩)))))))))))))
      · exact one _ _ _ _ (Or.inl (one _ _ _ _ (Or.inl (one _ _ _ _ (Or.inl (one _ _ _ _ (Or.inl (one _ _ _ _ (Or.inl (one _ _ _ _ (Or.inr ⟨e, xc⟩)))))))))))
      · exact one _ _ _ _ (Or.inl (one _ _ _ _ (Or.inl (one _ _ _ _ (Or.inl (one _ _ _ _ (Or.inl (one _ _ _ _ (Or.inr ⟨e, xc⟩)))))))))
      · exact one _ _ _ _ (Or.inl (one _ _ _ _ (Or.inl (one _ _ _ _ (Or.inl (one _ _ _ _ (Or.inr ⟨e, xc⟩)))))))
      · exact one _ _ _ _ (Or.inl (one _ _ _ _ (Or.inl (one _ _ _ _ (Or.inr ⟨e, xc⟩)))))
      · exact one _ _ _ _ (Or.inl (one _ _ _ _ (Or.inr ⟨e, xc⟩)))
      · exact one _ _ _ _ (Or.inr ⟨e, xc⟩)
    · exact one _ _ _ _ (Or.inl (one _ _ _ _ (Or.inl (one _ _ _ _ (Or.inl (one _ _ _ _ (Or.inl (one _ _ _ _ (Or.inl (one _ _ _ _ (Or.inl (one _ _ _ _ (Or.inl (hU x (by omega) k hk))))))))))))))
set_option maxHeartbeats 8000000 in
theorem head_p {st : St} (hT : Top st) {b : BY} {n t : Nat} (h : TC b n 4000 t st) {fu : Nat} (hf : 4100 ≤ fu) {q c : Nat} {D : LD} (hq : SQ q) (hc : gI st q 12 = nI c) (hc6 : c ≤ 60) (hU : CU q c D st) (hN : ∀ x, x < c → D 0 x ≤ 99999) : ∃ u, f_X8_readHead fu q 2 st = some u ∧ Fr (Wo q) st u ∧ Top u ∧ CO b n (pHead b n c D t) (fun nm => CU q (c + 1) (hd0 D c nm) u) u := by
  have qb := hq.b
  have K := sqK hq
  have n4 := h.1.2.1
  have c3 := h.2.2.1
  have c8 := h.2.1.1
  have w1 := isWord_p hT h (fu := fu) (by omega) (w := 1) (by omega)
  unfold pHead
  cases hw : wB b n t 1
  · rw [hw] at w1
    simp only [Bool.toNat_false] at w1
    obtain ⟨s1, e1, fr1, hT1, hD1⟩ := fail_c hT h.1 h.2.1.1 fu (f := 1) (p := pl b n t) (by omega) (by omega) (pl_b b n t).2
    have d8 := hD1.2.1
    refine ⟨s1, ?_, Wo_w fr1, hT1, hD1⟩
    have b39 : b_X8_readHead_39 fu q 2 s1 = some s1 := by
      unfold b_X8_readHead_39 b_X8_readHead_55
      rw [ck_t (show (kd 2).1 = 9 from rfl), d8, if_neg (show ¬ nI 1 = 0 by decide)]
    clear h hU hD1 hN
    simp (disch := first | decide | omega) [isb, ck_tt, NP, NF, NC, NB, NS, GS, kdC, tpC hT, f_X8_readHead, K, w1, c3, e1, b39]
  · rw [hw] at w1
    simp only [Bool.toNat_true] at w1
    rw [if_pos rfl]
    by_cases c60 : 60 ≤ c
    · rw [if_pos c60]
      obtain ⟨s1, e1, fr1, hT1, hD1⟩ := fail_c hT h.1 h.2.1.1 fu (f := 2) (p := pl b n t) (by omega) (by omega) (pl_b b n t).2
      have d8 := hD1.2.1
      refine ⟨s1, ?_, Wo_w fr1, hT1, hD1⟩
      have b39 : b_X8_readHead_39 fu q 2 s1 = some s1 := by
        unfold b_X8_readHead_39 b_X8_readHead_55
        rw [ck_t (show (kd 2).1 = 9 from rfl), d8, if_neg (show ¬ nI 2 = 0 by decide)]
      clear h hU hD1 hN
      simp (disch := first | decide | omega) [isb, ck_tt, NP, NF, NC, NB, NS, GS, kdC, tpC hT, f_X8_readHead, K, w1, c3, e1, b39, hc]
    · rw [if_neg c60]
      have c6 : c < 60 := by omega
      obtain ⟨s1, e1, nx⟩ := next_c hT h hf
      obtain ⟨fr1, hT1, hC1⟩ := nx.go n4 (isW_s (wB_t.mp hw))
      have p1 := hC1.2.2.1
      obtain ⟨v, s2, e2, l2, fr2, hT2, co2⟩ := readName_p hT1 hC1 hf q
      have hc2 : gI s2 q 12 = nI c := by rw [(WT_o (fr1.tt fr2) (o := q) (by omega)).1]; exact hc
      have hU2 : CU q c D s2 := hU.w (by omega) (fr1.tt fr2)
      have R2 := sqR hq hT2
      cases hp : pName b n (t + 1) with
      | inr e' =>
        rw [hp] at co2
        have hD : TD b n 4000 e'.1 e'.2 s2 := co2
        have d8 := hD.2.1
        have d8' := hD.2.2.1
        have d8'' := hD.2.2.2.1
        obtain ⟨u, x1, x2, x3, x4, x5, -⟩ := b106 hT2 fu hq hc2 c6 (nI v)
        refine ⟨u, ?_, (Wo_w (fr1.tt fr2)).tt x2, x3, hD.f2 x4 x5⟩
        clear h hU hU2 hD co2 x2 x4 x5 nx hC1 hN
        simp (disch := first | decide | omega) [isb, ck_tt, NP, NF, NC, NB, NS, GS, kdC, tpC hT, f_X8_readHead, b_X8_readHead_39, K, R2, w1, c8, hc, e1, p1, e2, d8, x1]
      | inl x =>
        obtain ⟨x, t1⟩ := x
        rw [hp] at co2
        obtain ⟨hC2, hv⟩ := co2
        have hv : v = x := hv
        subst hv
        have hC2 : TC b n 4000 t1 s2 := hC2
        have d8 := hC2.2.1.1
        rw [pb_i]
        by_cases ord : 0 < c ∧ v ≤ D 0 (c - 1)
        · rw [if_pos ord]
          obtain ⟨s3, e3, fr3, hT3, hD3⟩ := fail_c hT2 hC2.1 d8 fu (f := 3) (p := pl b n (t + 1)) (by omega) (by omega) (pl_b b n (t + 1)).2
          have hc3 : gI s3 q 12 = nI c := by rw [(WT_o fr3 (o := q) (by omega)).1]; exact hc2
          obtain ⟨u, x1, x2, x3, x4, x5, -⟩ := b106 hT3 fu hq hc3 c6 (nI v)
          refine ⟨u, ?_, (Wo_w ((fr1.tt fr2).tt fr3)).tt x2, x3, hD3.f2 x4 x5⟩
          have g0 : gI s2 (q + 1) (c - 1) = nI (D 0 (c - 1)) := hU2 (c - 1) (by omega) 0 (by omega)
          have nb := hN (c - 1) (by omega)
          obtain ⟨y, hy⟩ : ∃ y, y = D 0 (c - 1) := ⟨_, rfl⟩
          rw [← hy] at g0 nb ord
          clear h hU hU2 hC2 x2 x4 x5 nx hC1 hD3 hN hy
          simp (disch := first | decide | omega) [isb, ck_tt, NP, NF, NC, NB, NS, GS, kdC, tpC hT, f_X8_readHead, b_X8_readHead_39, K, R2, w1, c8, hc, e1, p1, e2, d8, hc2, g0, e3, x1]
        · rw [if_neg ord]
          obtain ⟨u, x1, x2, x3, x4, x5, x6⟩ := b106 hT2 fu hq hc2 c6 (nI v)
          refine ⟨u, ?_, (Wo_w (fr1.tt fr2)).tt x2, x3, hC2.f2 x4 x5, x6 D v rfl hU2⟩
          by_cases c0 : c = 0
          · subst c0
            clear h hU hU2 hC2 x2 x4 x5 x6 nx hC1 hN
            simp (disch := first | decide | omega) [isb, ck_tt, NP, NF, NC, NB, NS, GS, kdC, tpC hT, f_X8_readHead, b_X8_readHead_39, K, R2, w1, c8, hc, e1, p1, e2, d8, hc2, x1]
          · have g0 : gI s2 (q + 1) (c - 1) = nI (D 0 (c - 1)) := hU2 (c - 1) (by omega) 0 (by omega)
            have nb := hN (c - 1) (by omega)
            have lt : D 0 (c - 1) < v := by omega
            obtain ⟨y, hy⟩ : ∃ y, y = D 0 (c - 1) := ⟨_, rfl⟩
            rw [← hy] at g0 nb lt
            clear h hU hU2 hC2 x2 x4 x5 x6 nx hC1 hN hy ord
            simp (disch := first | decide | omega) [isb, ck_tt, NP, NF, NC, NB, NS, GS, kdC, tpC hT, f_X8_readHead, b_X8_readHead_39, K, R2, w1, c8, hc, e1, p1, e2, d8, hc2, g0, x1]
