/-! PURE: the text of a list, in the class: an act -/
theorem Fr.la (st : St) (o k : Nat) (v : Int64) : Fr [(o, none)] st (sL st o k v) := (Fr.l st o k v).wd (by simp [within'])
def Wa (q : Nat) : List PL := [(2, some 2), (2, some 3), (2, some 4), (2, some 5), (2, some 6), (2, some 8), (2, some 9), (q, some 13), (q + 9, none), (q + 10, none), (q + 11, none), (q + 12, none)]
theorem Wa_w {q : Nat} {a b : St} (h : Fr WT a b) : Fr (Wa q) a b := h.sub (by simp [WT, Wa])
theorem Wa_9 {q : Nat} (a : St) (k : Nat) (v : Int32) : Fr (Wa q) a (sI a (q + 9) k v) := (Fr.ia a (q + 9) k v).sub (by simp [Wa])
theorem Wa_10 {q : Nat} (a : St) (k : Nat) (v : Int32) : Fr (Wa q) a (sI a (q + 10) k v) := (Fr.ia a (q + 10) k v).sub (by simp [Wa])
theorem Wa_11 {q : Nat} (a : St) (k : Nat) (v : Int32) : Fr (Wa q) a (sI a (q + 11) k v) := (Fr.ia a (q + 11) k v).sub (by simp [Wa])
theorem Wa_12 {q : Nat} (a : St) (k : Nat) (v : Int64) : Fr (Wa q) a (sL a (q + 12) k v) := (Fr.la a (q + 12) k v).sub (by simp [Wa])
theorem Wa_13 {q : Nat} (a : St) (v : Int32) : Fr (Wa q) a (sI a q 13 v) := (Fr.i a q 13 v).sub (by simp [Wa])
theorem WT_o {a b : St} (h : Fr WT a b) {o : Nat} (ho : 4 ≤ o) : gI b o = gI a o ∧ gL b o = gL a o ∧ gR b o = gR a o := by
  have hd : WT.all (fun b => !(b.1 == o)) = true := by simp [WT]; omega
  exact ⟨h.fi o hd, h.fl o hd, h.fr o hd⟩
theorem TC.sI {b : BY} {n lim t : Nat} {st : St} (h : TC b n lim t st) {o : Nat} (ho : 4 ≤ o) (k : Nat) (v : Int32) : TC b n lim t (sI st o k v) := h.f2 (gI_sI_n _ _ _ (by omega)) (gI_sI_n _ _ _ (by omega))
theorem TC.sL {b : BY} {n lim t : Nat} {st : St} (h : TC b n lim t st) (o k : Nat) (v : Int64) : TC b n lim t (sL st o k v) := h.f2 rfl rfl
theorem TD.sI {b : BY} {n lim f p : Nat} {st : St} (h : TD b n lim f p st) {o : Nat} (ho : 4 ≤ o) (k : Nat) (v : Int32) : TD b n lim f p (sI st o k v) := h.f2 (gI_sI_n _ _ _ (by omega)) (gI_sI_n _ _ _ (by omega))
theorem TD.sL {b : BY} {n lim f p : Nat} {st : St} (h : TD b n lim f p st) (o k : Nat) (v : Int64) : TD b n lim f p (sL st o k v) := h.f2 rfl rfl
theorem nI_k {k j : Nat} (hk : k < 6) (hj : j < 6) : (nI k = nI j) = (k = j) := by
  apply propext
  exact nI_eq (by omega) (by omega)
set_option maxHeartbeats 8000000 in
/-- the end of an act -/
theorem a97_p {s : St} (hT : Top s) {b : BY} {n t : Nat} (h : TC b n 4000 t s) {fu : Nat} (hf : 4100 ≤ fu) {q a k w : Nat} (hq : SQ q) (ha : gI s q 13 = nI a) (ha3 : a < 300) (hk : k < 6) : ∃ u, b_X8_readAct_97 fu q 2 (nI k) (q + 10) (nI a) (nI w) s = some u ∧ Fr (Wa q) s u ∧ Top u ∧ CO b n (pTl b n k t) (fun v => gI u q 13 = nI (a + 1) ∧ (∀ i, gI u (q + 10) i = if i = a then nI w else gI s (q + 10) i) ∧ (∀ i, gI u (q + 11) i = if i = a then nI v else gI s (q + 11) i) ∧ gI u (q + 9) = gI s (q + 9) ∧ gL u (q + 12) = gL s (q + 12)) u := by
  have qb := hq.b
  have K := sqK hq
  obtain ⟨s0, hs0⟩ : ∃ s0, s0 = sI s (q + 10) a (nI w) := ⟨_, rfl⟩
  have hT0 : Top s0 := hT.r (by rw [hs0]; rfl)
  have h0 : TC b n 4000 t s0 := by rw [hs0]; exact h.sI (by omega) _ _
  have fr0 : Fr (Wa q) s s0 := by rw [hs0]; exact Wa_10 _ _ _
  have a0 : gI s0 q 13 = nI a := by rw [hs0, gI_sI_n _ _ _ (by omega)]; exact ha
  -- the last two writes
  have fin : ∀ (s1 : St) (v : Nat), Fr WT s0 s1 → Top s1 → Fr (Wa q) s (sI (sI s1 (q + 11) a (nI v)) q 13 (nI (a + 1))) ∧ Top (sI (sI s1 (q + 11) a (nI v)) q 13 (nI (a + 1))) ∧ (gI (sI (sI s1 (q + 11) a (nI v)) q 13 (nI (a + 1))) q 13 = nI (a + 1) ∧ (∀ i, gI (sI (sI s1 (q + 11) a (nI v)) q 13 (nI (a + 1))) (q + 10) i = if i = a then nI w else gI s (q + 10) i) ∧ (∀ i, gI (sI (sI s1 (q + 11) a (nI v)) q 13 (nI (a + 1))) (q + 11) i = if i = a then nI v else gI s (q + 11) i) ∧ gI (sI (sI s1 (q + 11) a (nI v)) q 13 (nI (a + 1))) (q + 9) = gI s (q + 9) ∧ gL (sI (sI s1 (q + 11) a (nI v)) q 13 (nI (a + 1))) (q + 12) = gL s (q + 12)) := fun s1 v fr1 hT1 => by
    refine ⟨(fr0.tt ((Wa_w fr1).tt (Wa_11 s1 a _))).tt (Wa_13 _ _), (hT1.r rfl).r rfl, ?_, fun i => ?_, fun i => ?_, ?_, ?_⟩
    · rw [gI_sI, if_pos ⟨rfl, rfl⟩]
    · rw [gI_sI_n _ _ _ (by omega), gI_sI_n _ _ _ (by omega), (WT_o fr1 (o := q + 10) (by omega)).1, hs0, gI_sI]
      by_cases e : i = a
      · rw [if_pos ⟨rfl, e⟩, if_pos e]
      · rw [if_neg (fun x => e x.2), if_neg e]
    · rw [gI_sI_n _ _ _ (by omega), gI_sI]
      by_cases e : i = a
      · rw [if_pos ⟨rfl, e⟩, if_pos e]
      · rw [if_neg (fun x => e x.2), if_neg e, (WT_o fr1 (o := q + 11) (by omega)).1, hs0, gI_sI_n _ _ _ (by omega)]
    · rw [gI_sI_n _ _ _ (by omega), gI_sI_n _ _ _ (by omega), (WT_o fr1 (o := q + 9) (by omega)).1, hs0, gI_sI_n _ _ _ (by omega)]
    · show gL s1 (q + 12) = _
      rw [(WT_o fr1 (o := q + 12) (by omega)).2.1, hs0]
      rfl
  have a13 : ∀ s1, Fr WT s0 s1 → gI s1 q 13 = nI a := fun s1 fr1 => by rw [(WT_o fr1 (o := q) (by omega)).1]; exact a0
  unfold pTl
  by_cases k05 : k = 0 ∨ k = 5
  · rw [if_pos k05]
    obtain ⟨s1, e1, fr1, hT1, co1⟩ := needWord_p hT0 h0 hf (w := 15) (by omega)
    have g1 := a13 s1 fr1
    have R1 := sqR hq hT1
    cases hp1 : pWd b n 15 t with
    | inr e' =>
      rw [hp1] at co1
      have hD : TD b n 4000 e'.1 e'.2 s1 := co1
      obtain ⟨s2, e2, fr2, hT2, hD2⟩ := number_d hT1 hD fu (nI 0) (nI 255)
      have g2 := a13 s2 (fr1.tt fr2)
      obtain ⟨f1, f2, -⟩ := fin s2 0 (fr1.tt fr2) hT2
      refine ⟨_, ?_, f1, f2, (hD2.sI (by omega) _ _).sI (by omega) _ _⟩
      clear fin a13 f1 f2 h h0 hD hD2 co1
      rw [hs0] at e1
      rcases k05 with rfl | rfl
      · simp (disch := first | decide | omega) [isb, ck_tt, NP, NF, NC, NB, NS, GS, kdC, tpC hT, b_X8_readAct_97, b_X8_readAct_214, K, R1, e1, e2, g1, g2]
      · simp (disch := first | decide | omega) [isb, ck_tt, NP, NF, NC, NB, NS, GS, kdC, tpC hT, b_X8_readAct_97, b_X8_readAct_214, K, R1, e1, e2, g1, g2]
    | inl x =>
      obtain ⟨x, t1⟩ := x
      rw [hp1] at co1
      have hC : TC b n 4000 t1 s1 := co1.1
      obtain ⟨v, s2, e2, fr2, hT2, l1, l2, co2⟩ := number_p hT1 hC hf (lo := 0) (hi := 255) (by omega) (by omega) (by omega)
      have g2 := a13 s2 (fr1.tt fr2)
      obtain ⟨f1, f2, f3⟩ := fin s2 v (fr1.tt fr2) hT2
      refine ⟨_, ?_, f1, f2, ?_⟩
      · clear fin a13 f1 f2 f3 h h0 hC co1 co2
        rw [hs0] at e1
        rcases k05 with rfl | rfl
        · simp (disch := first | decide | omega) [isb, ck_tt, NP, NF, NC, NB, NS, GS, kdC, tpC hT, b_X8_readAct_97, b_X8_readAct_214, K, R1, e1, e2, g1, g2]
        · simp (disch := first | decide | omega) [isb, ck_tt, NP, NF, NC, NB, NS, GS, kdC, tpC hT, b_X8_readAct_97, b_X8_readAct_214, K, R1, e1, e2, g1, g2]
      · rw [pb_i]
        cases hp2 : pNum b n 0 255 t1 with
        | inr e' => rw [hp2] at co2; exact (TD.sI (TD.sI co2 (by omega) _ _) (by omega) _ _)
        | inl y =>
          rw [hp2] at co2
          obtain ⟨hC2, hv⟩ := co2
          have hv : v = y.1 := hv
          rw [hv] at f3 ⊢
          exact ⟨(TC.sI (TC.sI hC2 (by omega) _ _) (by omega) _ _), f3⟩
  · rw [if_neg k05]
    by_cases k1 : k = 1
    · subst k1
      rw [if_pos rfl]
      obtain ⟨s1, e1, fr1, hT1, co1⟩ := needWord_p hT0 h0 hf (w := 14) (by omega)
      have g1 := a13 s1 fr1
      have R1 := sqR hq hT1
      cases hp1 : pWd b n 14 t with
      | inr e' =>
        rw [hp1] at co1
        have hD : TD b n 4000 e'.1 e'.2 s1 := co1
        obtain ⟨s2, e2, fr2, hT2, hD2⟩ := number_d hT1 hD fu (nI 0) (nI 99999)
        have g2 := a13 s2 (fr1.tt fr2)
        obtain ⟨f1, f2, -⟩ := fin s2 0 (fr1.tt fr2) hT2
        refine ⟨_, ?_, f1, f2, (hD2.sI (by omega) _ _).sI (by omega) _ _⟩
        clear fin a13 f1 f2 h h0 hD hD2 co1
        rw [hs0] at e1
        simp (disch := first | decide | omega) [isb, ck_tt, NP, NF, NC, NB, NS, GS, kdC, tpC hT, b_X8_readAct_97, b_X8_readAct_214, K, R1, e1, e2, g1, g2]
      | inl x =>
        obtain ⟨x, t1⟩ := x
        rw [hp1] at co1
        have hC : TC b n 4000 t1 s1 := co1.1
        obtain ⟨v, s2, e2, fr2, hT2, l1, l2, co2⟩ := number_p hT1 hC hf (lo := 0) (hi := 99999) (by omega) (by omega) (by omega)
        have g2 := a13 s2 (fr1.tt fr2)
        obtain ⟨f1, f2, f3⟩ := fin s2 v (fr1.tt fr2) hT2
        refine ⟨_, ?_, f1, f2, ?_⟩
        · clear fin a13 f1 f2 f3 h h0 hC co1 co2
          rw [hs0] at e1
          simp (disch := first | decide | omega) [isb, ck_tt, NP, NF, NC, NB, NS, GS, kdC, tpC hT, b_X8_readAct_97, b_X8_readAct_214, K, R1, e1, e2, g1, g2]
        · rw [pb_i]
          cases hp2 : pNum b n 0 99999 t1 with
          | inr e' => rw [hp2] at co2; exact (TD.sI (TD.sI co2 (by omega) _ _) (by omega) _ _)
          | inl y =>
            rw [hp2] at co2
            obtain ⟨hC2, hv⟩ := co2
            have hv : v = y.1 := hv
            rw [hv] at f3 ⊢
            exact ⟨(TC.sI (TC.sI hC2 (by omega) _ _) (by omega) _ _), f3⟩
    · rw [if_neg k1]
      have R0 := sqR hq hT0
      by_cases k4 : k = 4
      · subst k4
        rw [if_pos rfl]
        obtain ⟨v, s2, e2, l1, fr2, hT2, co2⟩ := readName_p hT0 h0 hf q
        have g2 := a13 s2 fr2
        obtain ⟨f1, f2, f3⟩ := fin s2 v fr2 hT2
        refine ⟨_, ?_, f1, f2, ?_⟩
        · clear fin a13 f1 f2 f3 h h0 co2
          have R := sqR hq hT
          rw [hs0] at e2
          clear R0
          simp (disch := first | decide | omega) [isb, ck_tt, NP, NF, NC, NB, NS, GS, kdC, tpC hT, b_X8_readAct_97, b_X8_readAct_214, K, R, e2, ha, g2]
        · cases hp2 : pName b n t with
          | inr e' => rw [hp2] at co2; exact (TD.sI (TD.sI co2 (by omega) _ _) (by omega) _ _)
          | inl y =>
            rw [hp2] at co2
            obtain ⟨hC2, hv⟩ := co2
            have hv : v = y.1 := hv
            rw [hv] at f3 ⊢
            exact ⟨(TC.sI (TC.sI hC2 (by omega) _ _) (by omega) _ _), f3⟩
      · rw [if_neg k4]
        obtain ⟨f1, f2, f3⟩ := fin s0 0 Fr.rf hT0
        refine ⟨_, ?_, f1, f2, TC.sI (TC.sI h0 (by omega) _ _) (by omega) _ _, f3⟩
        clear fin a13 f1 f2 f3 h h0
        have k23 : k = 2 ∨ k = 3 := by omega
        have R := sqR hq hT
        clear R0 a0 fr0 hT0
        rw [hs0]
        rcases k23 with rfl | rfl
        · simp (disch := first | decide | omega) [isb, ck_tt, NP, NF, NC, NB, NS, GS, kdC, tpC hT, b_X8_readAct_97, b_X8_readAct_214, K, R, ha]
        · simp (disch := first | decide | omega) [isb, ck_tt, NP, NF, NC, NB, NS, GS, kdC, tpC hT, b_X8_readAct_97, b_X8_readAct_214, K, R, ha]
set_option maxHeartbeats 8000000 in
theorem a97_d {s : St} (hT : Top s) {b : BY} {n f p : Nat} (h : TD b n 4000 f p s) (fu : Nat) {q a k : Nat} (hq : SQ q) (ha : gI s q 13 = nI a) (ha3 : a < 300) (hk : k < 6) (w : Int32) : ∃ u, b_X8_readAct_97 fu q 2 (nI k) (q + 10) (nI a) w s = some u ∧ Fr (Wa q) s u ∧ Top u ∧ TD b n 4000 f p u := by
  have qb := hq.b
  have K := sqK hq
  obtain ⟨s0, hs0⟩ : ∃ s0, s0 = sI s (q + 10) a w := ⟨_, rfl⟩
  have hT0 : Top s0 := hT.r (by rw [hs0]; rfl)
  have h0 : TD b n 4000 f p s0 := by rw [hs0]; exact h.sI (by omega) _ _
  have fr0 : Fr (Wa q) s s0 := by rw [hs0]; exact Wa_10 _ _ _
  have a0 : gI s0 q 13 = nI a := by rw [hs0, gI_sI_n _ _ _ (by omega)]; exact ha
  have fin : ∀ (s1 : St) (v : Int32), Fr WT s0 s1 → Top s1 → TD b n 4000 f p s1 → Fr (Wa q) s (sI (sI s1 (q + 11) a v) q 13 (nI (a + 1))) ∧ Top (sI (sI s1 (q + 11) a v) q 13 (nI (a + 1))) ∧ TD b n 4000 f p (sI (sI s1 (q + 11) a v) q 13 (nI (a + 1))) := fun s1 v fr1 hT1 hD => ⟨(fr0.tt ((Wa_w fr1).tt (Wa_11 s1 a _))).tt (Wa_13 _ _), (hT1.r rfl).r rfl, (hD.sI (by omega) _ _).sI (by omega) _ _⟩
  have a13 : ∀ s1, Fr WT s0 s1 → gI s1 q 13 = nI a := fun s1 fr1 => by rw [(WT_o fr1 (o := q) (by omega)).1]; exact a0
  by_cases k05 : k = 0 ∨ k = 5
  · obtain ⟨s1, e1, fr1, hT1, hD1⟩ := needWord_d hT0 h0 fu 15
    obtain ⟨s2, e2, fr2, hT2, hD2⟩ := number_d hT1 hD1 fu (nI 0) (nI 255)
    have g1 := a13 s1 fr1
    have g2 := a13 s2 (fr1.tt fr2)
    have R1 := sqR hq hT1
    refine ⟨_, ?_, fin s2 (nI 0) (fr1.tt fr2) hT2 hD2⟩
    clear fin a13 h h0 hD1 hD2
    rw [hs0] at e1
    rcases k05 with rfl | rfl
    · simp (disch := first | decide | omega) [isb, ck_tt, NP, NF, NC, NB, NS, GS, kdC, tpC hT, b_X8_readAct_97, b_X8_readAct_214, K, R1, e1, e2, g1, g2]
    · simp (disch := first | decide | omega) [isb, ck_tt, NP, NF, NC, NB, NS, GS, kdC, tpC hT, b_X8_readAct_97, b_X8_readAct_214, K, R1, e1, e2, g1, g2]
  · by_cases k1 : k = 1
    · subst k1
      obtain ⟨s1, e1, fr1, hT1, hD1⟩ := needWord_d hT0 h0 fu 14
      obtain ⟨s2, e2, fr2, hT2, hD2⟩ := number_d hT1 hD1 fu (nI 0) (nI 99999)
      have g1 := a13 s1 fr1
      have g2 := a13 s2 (fr1.tt fr2)
      have R1 := sqR hq hT1
      refine ⟨_, ?_, fin s2 (nI 0) (fr1.tt fr2) hT2 hD2⟩
      clear fin a13 h h0 hD1 hD2
      rw [hs0] at e1
      simp (disch := first | decide | omega) [isb, ck_tt, NP, NF, NC, NB, NS, GS, kdC, tpC hT, b_X8_readAct_97, b_X8_readAct_214, K, R1, e1, e2, g1, g2]
    · by_cases k4 : k = 4
      · subst k4
        obtain ⟨s2, e2, fr2, hT2, hD2⟩ := readName_d hT0 h0 fu q
        have g2 := a13 s2 fr2
        have R0 := sqR hq hT
        refine ⟨_, ?_, fin s2 (nI 100) fr2 hT2 hD2⟩
        clear fin a13 h h0 hD2
        rw [hs0] at e2
        simp (disch := first | decide | omega) [isb, ck_tt, NP, NF, NC, NB, NS, GS, kdC, tpC hT, b_X8_readAct_97, b_X8_readAct_214, K, R0, e2, ha, g2]
      · refine ⟨_, ?_, fin s0 (nI 0) Fr.rf hT0 h0⟩
        clear fin a13 h h0
        have k23 : k = 2 ∨ k = 3 := by omega
        have R := sqR hq hT
        rw [hs0]
        rcases k23 with rfl | rfl
        · simp (disch := first | decide | omega) [isb, ck_tt, NP, NF, NC, NB, NS, GS, kdC, tpC hT, b_X8_readAct_97, b_X8_readAct_214, K, R, ha]
        · simp (disch := first | decide | omega) [isb, ck_tt, NP, NF, NC, NB, NS, GS, kdC, tpC hT, b_X8_readAct_97, b_X8_readAct_214, K, R, ha]
