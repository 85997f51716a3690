/-! PURE: holds that end: as sets. T: till when -/
def PN (sz : Nat → Nat) (T : Nat → Int32) (N h : Nat) : Bool := decide (0 < sz h) && !decide (nI N < T h)
def SFd (sz hr hf : Nat → Nat) (P : Nat → Bool) (k : Nat) : Bool := (List.range 60).any fun h => P h && decide (30 * hr h + hf h ≤ k) && decide (k < 30 * hr h + hf h + sz h)
theorem SFd_t {sz hr hf : Nat → Nat} {P : Nat → Bool} {k : Nat} : SFd sz hr hf P k = true ↔ ∃ h, h < 60 ∧ P h = true ∧ 30 * hr h + hf h ≤ k ∧ k < 30 * hr h + hf h + sz h := by
  unfold SFd
  rw [List.any_eq_true]
  constructor
  · rintro ⟨h, h1, h2⟩
    simp only [Bool.and_eq_true, decide_eq_true_eq] at h2
    exact ⟨h, List.mem_range.mp h1, h2.1.1, h2.1.2, h2.2⟩
  · rintro ⟨h, h1, h2, h3, h4⟩
    refine ⟨h, List.mem_range.mpr h1, ?_⟩
    simp only [Bool.and_eq_true, decide_eq_true_eq]
    exact ⟨⟨h2, h3⟩, h4⟩
theorem SFd_c {sz hr hf : Nat → Nat} {P P' : Nat → Bool} (e : ∀ h, h < 60 → P' h = P h) (k : Nat) : SFd sz hr hf P' k = SFd sz hr hf P k := by
  cases q : SFd sz hr hf P k with
  | true =>
    obtain ⟨h, h1, h2, h3⟩ := SFd_t.mp q
    exact SFd_t.mpr ⟨h, h1, by rw [e h h1]; exact h2, h3⟩
  | false =>
    cases q' : SFd sz hr hf P' k with
    | false => rfl
    | true =>
      obtain ⟨h, h1, h2, h3⟩ := SFd_t.mp q'
      rw [e h h1] at h2
      rw [SFd_t.mpr ⟨h, h1, h2, h3⟩] at q
      exact absurd q (by decide)
/-- one more -/
theorem SFd_s {sz hr hf : Nat → Nat} {P P' : Nat → Bool} {j : Nat} (hj : j < 60) (e : ∀ h, h < 60 → P' h = if h = j then true else P h) (k : Nat) : SFd sz hr hf P' k = if 30 * hr j + hf j ≤ k ∧ k < 30 * hr j + hf j + sz j then true else SFd sz hr hf P k := by
  by_cases c : 30 * hr j + hf j ≤ k ∧ k < 30 * hr j + hf j + sz j
  · rw [if_pos c]
    exact SFd_t.mpr ⟨j, hj, by rw [e j hj, if_pos rfl], c⟩
  · rw [if_neg c]
    cases q : SFd sz hr hf P k with
    | true =>
      obtain ⟨h, h1, h2, h3⟩ := SFd_t.mp q
      refine SFd_t.mpr ⟨h, h1, ?_, h3⟩
      rw [e h h1]
      by_cases z : h = j
      · rw [if_pos z]
      · rw [if_neg z]; exact h2
    | false =>
      cases q' : SFd sz hr hf P' k with
      | false => rfl
      | true =>
        obtain ⟨h, h1, h2, h3⟩ := SFd_t.mp q'
        rw [e h h1] at h2
        by_cases z : h = j
        · subst z; exact absurd h3 c
        · rw [if_neg z] at h2
          rw [SFd_t.mpr ⟨h, h1, h2, h3⟩] at q
          exact absurd q (by decide)
/-! reference -/
def RDs (st : St) (sz hr hf : Nat → Nat) (P : Nat → Bool) (w : St) : Prop := (∀ h, h < 60 → gI w 219 h = if P h then nI 0 else gI st 219 h) ∧ (∀ k, gI w 217 k = if SFd sz hr hf P k then nI 0 else gI st 217 k) ∧ gI w 220 = gI st 220 ∧ gI w 221 = gI st 221 ∧ gI w 222 = gI st 222 ∧ gI w 223 = gI st 223
theorem RDs.c {st : St} {sz hr hf : Nat → Nat} {P P' : Nat → Bool} {w : St} (h : RDs st sz hr hf P w) (e : ∀ h, h < 60 → P' h = P h) : RDs st sz hr hf P' w := by
  obtain ⟨h1, h2, h3⟩ := h
  exact ⟨fun j hj => by rw [e j hj]; exact h1 j hj, fun k => by rw [SFd_c e]; exact h2 k, h3⟩
theorem RDs.e {st : St} {sz hr hf : Nat → Nat} {P : Nat → Bool} {w w' : St} (h : RDs st sz hr hf P w) (e : ∀ o, o = 217 ∨ (219 ≤ o ∧ o ≤ 223) → gI w' o = gI w o) : RDs st sz hr hf P w' := by
  obtain ⟨h1, h2, h3, h4, h5, h6⟩ := h
  unfold RDs
  rw [e 217 (by omega), e 219 (by omega), e 220 (by omega), e 221 (by omega), e 222 (by omega), e 223 (by omega)]
  exact ⟨h1, h2, h3, h4, h5, h6⟩
theorem hold_l {st : St} {own sz hr hf : Nat → Nat} (hB : BH st own sz hr hf) {N : Nat} {O : Nat → Bool} {fu : Nat} (hfu : 100 ≤ fu) : ∀ (F j : Nat) (w : St), j ≤ 60 → 60 < F + j → Top w → gI w 153 40 = nI N → RDs st sz hr hf (fun h => O h || (decide (h < j) && PN sz (gI st 223) N h)) w → ∃ w', b_X12_oneTick_320 fu F 153 (nI j) w = some w' ∧ Fr [(217, none), (219, none)] w w' ∧ Top w' ∧ RDs st sz hr hf (fun h => O h || PN sz (gI st 223) N h) w' := by
  intro F
  induction F with
  | zero => intro j w h1 h2; omega
  | succ F ih =>
    intro j w hj hF hT n40 hD
    have un : b_X12_oneTick_320 fu (F + 1) 153 (nI j) w = b_X12_oneTick_320_b fu (b_X12_oneTick_320 fu F) 153 (nI j) w := rfl
    rw [un]
    by_cases c : j = 60
    · subst c
      refine ⟨w, ?_, Fr.rf, hT, hD.c (fun h hh => by simp [hh])⟩
      unfold b_X12_oneTick_320_b
      rw [if_pos (show (60 : Int32) ≤ nI 60 from Int32.le_refl _)]
    · have hj6 : j < 60 := by omega
      obtain ⟨d1, d2, d3, d4, d5, d6⟩ := id hD
      have g := d1 j hj6
      obtain ⟨⟨b1, b2, b3⟩, b4⟩ := hB j hj6
      have skip : (b_X12_oneTick_320_b fu (b_X12_oneTick_320 fu F) 153 (nI j) w = b_X12_oneTick_320 fu F 153 (nI (j + 1)) w) → (O j || PN sz (gI st 223) N j) = O j → ∃ w', b_X12_oneTick_320_b fu (b_X12_oneTick_320 fu F) 153 (nI j) w = some w' ∧ Fr [(217, none), (219, none)] w w' ∧ Top w' ∧ RDs st sz hr hf (fun h => O h || PN sz (gI st 223) N h) w' := fun e ep => by
        rw [e]
        refine ih (j + 1) w (by omega) (by omega) hT n40 (hD.c (fun h hh => ?_))
        by_cases z : h = j
        · subst z
          simp only [Nat.lt_irrefl, decide_false, Bool.false_and, Bool.or_false, Nat.lt_succ_self, decide_true, Bool.true_and]
          exact ep
        · have : decide (h < j + 1) = decide (h < j) := by
            by_cases y : h < j
            · rw [decide_eq_true y, decide_eq_true (by omega)]
            · rw [decide_eq_false y, decide_eq_false (by omega)]
          simp only [this]
      simp only [Nat.lt_irrefl, decide_false, Bool.false_and, Bool.or_false] at g
      cases oj : O j with
      | true =>
        rw [oj, if_pos rfl] at g
        refine skip ?_ (by rw [oj]; rfl)
        clear ih un hD d1 d2 hB b4 skip
        simp (disch := first | decide | omega) [↓bd_e, isb, ck_tt, NP, NF, NC, NB, NS, GS, kdR, tpR hT, b_X12_oneTick_320_b, b_X12_oneTick_353, g]
      | false =>
        rw [oj, if_neg (by decide), b3] at g
        by_cases z : sz j = 0
        · rw [if_pos z] at g
          refine skip ?_ (by unfold PN; rw [decide_eq_false (show ¬ 0 < sz j by omega)]; simp)
          clear ih un hD d1 d2 hB b4 skip
          simp (disch := first | decide | omega) [↓bd_e, isb, ck_tt, NP, NF, NC, NB, NS, GS, kdR, tpR hT, b_X12_oneTick_320_b, b_X12_oneTick_353, g]
        · rw [if_neg z] at g
          obtain ⟨⟨c1, c2, c3, c4, c5, c6⟩, -⟩ := b4 (by omega)
          by_cases t : nI N < gI st 223 j
          · refine skip ?_ (by unfold PN; rw [decide_eq_true t]; simp)
            have t' : nI N < gI w 223 j := by rw [d6]; exact t
            clear ih un hD d1 d2 hB b4 skip
            simp (disch := first | decide | omega) [↓bd_e, isb, ck_tt, NP, NF, NC, NB, NS, GS, kdR, tpR hT, b_X12_oneTick_320_b, b_X12_oneTick_353, g, n40, t']
          · have t' : ¬ nI N < gI w 223 j := by rw [d6]; exact t
            have fr := frees_r hT hfu hj6 c1 (f := hf j) (m := sz j) c2 (by rw [d3]; exact c4) (by rw [d4]; exact c5) (by rw [d5]; exact c6)
            obtain ⟨w1, hw1⟩ : ∃ w1, w1 = seg 217 (30 * hr j + hf j) (sz j) (nI 0) (sI w 219 j (nI 0)) := ⟨_, rfl⟩
            rw [← hw1] at fr
            have f1 : Fr [(217, none), (219, none)] w w1 := by rw [hw1]; exact ((Fr.ia w 219 _ _).tr (Fr.sg _ 217 _ _ _)).wd (by decide)
            have hT1 : Top w1 := hT.r (by rw [hw1]; rfl)
            have pj : PN sz (gI st 223) N j = true := by unfold PN; rw [decide_eq_false t, decide_eq_true (show 0 < sz j by omega)]; rfl
            have eS : ∀ h, h < 60 → (O h || (decide (h < j + 1) && PN sz (gI st 223) N h)) = if h = j then true else (O h || (decide (h < j) && PN sz (gI st 223) N h)) := fun h hh => by
              by_cases z : h = j
              · subst z
                rw [if_pos rfl, pj]; simp
              · rw [if_neg z]
                have : decide (h < j + 1) = decide (h < j) := by
                  by_cases y : h < j
                  · rw [decide_eq_true y, decide_eq_true (by omega)]
                  · rw [decide_eq_false y, decide_eq_false (by omega)]
                rw [this]
            have hD1 : RDs st sz hr hf (fun h => O h || (decide (h < j + 1) && PN sz (gI st 223) N h)) w1 := by
              refine ⟨fun h hh => ?_, fun k => ?_, ?_, ?_, ?_, ?_⟩
              · rw [hw1, gI_seg, if_neg (by omega), gI_sI]
                show _ = if (O h || (decide (h < j + 1) && PN sz (gI st 223) N h)) then _ else _
                rw [eS h hh]
                by_cases z : h = j
                · rw [if_pos ⟨rfl, z⟩, if_pos z, if_pos rfl]
                · rw [if_neg (by omega), if_neg z]; exact d1 h hh
              · rw [SFd_s hj6 eS, hw1, gI_seg]
                by_cases y : 30 * hr j + hf j ≤ k ∧ k < 30 * hr j + hf j + sz j
                · rw [if_pos ⟨rfl, y⟩, if_pos y, if_pos rfl]
                · rw [if_neg (fun q => y q.2), if_neg y, gI_sI_n _ _ _ (by decide)]; exact d2 k
              · rw [f1.fi 220 (by decide)]; exact d3
              · rw [f1.fi 221 (by decide)]; exact d4
              · rw [f1.fi 222 (by decide)]; exact d5
              · rw [f1.fi 223 (by decide)]; exact d6
            obtain ⟨w', e1, e2, e3, e4⟩ := ih (j + 1) w1 (by omega) (by omega) hT1 (by rw [f1.ki 153 40 (by decide)]; exact n40) hD1
            refine ⟨w', ?_, f1.tt e2, e3, e4⟩
            rw [← e1]
            clear ih un hD d1 d2 hB b4 skip e1 e2 e3 e4 hD1 eS
            simp (disch := first | decide | omega) [↓bd_e, isb, ck_tt, NP, NF, NC, NB, NS, GS, kdR, tpR hT, b_X12_oneTick_320_b, b_X12_oneTick_353, g, n40, t', ↓cvO fr]
/-! class -/
theorem drop_j {st : St} (hT : Top st) {fu : Nat} (hf : 100 ≤ fu) {j m s : Nat} (hj : j < 60) (hm : m ≤ 10) (hs : s + m ≤ 1200) (b1 : gI st 126 j = nI m) (c3 : gI st 125 j = nI s) : f_X2_drop fu 124 (nI j) st = some (sI (sI (seg 119 s m (nI 0) st) 126 j (nI 0)) 124 11 (gI st 124 11 - nI 1)) := by
  have hm := mark_c hT (fu := fu) (by omega) (sp := s) (n := m) (nI 0) (by omega) (by omega)
  simp (disch := first | decide | omega) [isb, ck_tt, NP, NF, NC, NB, NS, GS, kdC, tpC hT, f_X2_drop, b1, c3, hm]
def CDs (st : St) (sz hr hf : Nat → Nat) (P : Nat → Bool) (w : St) : Prop := (∀ h, h < 60 → gI w 126 h = if P h then nI 0 else gI st 126 h) ∧ (∀ k, gI w 119 k = if SFd sz hr hf P k then nI 0 else gI st 119 k) ∧ gI w 124 11 = nI (sm 60 fun h => if P h = true ∨ sz h = 0 then 0 else 1) ∧ gI w 125 = gI st 125 ∧ gI w 129 = gI st 129
theorem CDs.c {st : St} {sz hr hf : Nat → Nat} {P P' : Nat → Bool} {w : St} (h : CDs st sz hr hf P w) (e : ∀ h, h < 60 → P' h = P h) : CDs st sz hr hf P' w := by
  obtain ⟨h1, h2, h3, h4⟩ := h
  refine ⟨fun j hj => by rw [e j hj]; exact h1 j hj, fun k => by rw [SFd_c e]; exact h2 k, ?_, h4⟩
  rw [h3]
  congr 1
  exact sm_c (fun i hi => by rw [e i hi])
theorem exp_l {st : St} {own sz hr hf : Nat → Nat} (hB : BH st own sz hr hf) {N : Nat} {fu : Nat} (hfu : 100 ≤ fu) : ∀ (F j : Nat) (w : St), j ≤ 60 → 60 < F + j → Top w → CDs st sz hr hf (fun h => decide (h < j) && PN sz (gI st 129) N h) w → ∃ w', b_X2_expire_2 fu F 124 (nI N) (nI j) w = some w' ∧ Fr [(119, none), (126, none), (124, some 11)] w w' ∧ Top w' ∧ CDs st sz hr hf (PN sz (gI st 129) N) w' := by
  intro F
  induction F with
  | zero => intro j w h1 h2; omega
  | succ F ih =>
    intro j w hj hF hT hD
    have un : b_X2_expire_2 fu (F + 1) 124 (nI N) (nI j) w = b_X2_expire_2_b fu (b_X2_expire_2 fu F) 124 (nI N) (nI j) w := rfl
    rw [un]
    by_cases c : j = 60
    · subst c
      refine ⟨w, ?_, Fr.rf, hT, hD.c (fun h hh => by simp [hh])⟩
      unfold b_X2_expire_2_b b_X2_expire_45
      rw [if_pos (show (60 : Int32) ≤ nI 60 from Int32.le_refl _)]
    · have hj6 : j < 60 := by omega
      obtain ⟨d1, d2, d3, d4, d5⟩ := id hD
      have g := d1 j hj6
      obtain ⟨⟨b1, b2, b3⟩, b4⟩ := hB j hj6
      obtain ⟨M, hM⟩ : ∃ M, M = sm 60 fun h => if (decide (h < j) && PN sz (gI st 129) N h) = true ∨ sz h = 0 then 0 else 1 := ⟨_, rfl⟩
      have Mb : M ≤ 60 := by
        rw [hM]
        have := sm_b (f := fun h => if (decide (h < j) && PN sz (gI st 129) N h) = true ∨ sz h = 0 then 0 else 1) (b := 1) (n := 60) (fun i _ => by show (if _ then 0 else 1) ≤ 1; split <;> omega)
        omega
      have d3' : gI w 124 11 = nI M := by rw [d3, hM]
      by_cases m0 : M = 0
      · -- none is left
        refine ⟨w, ?_, Fr.rf, hT, hD.c (fun h hh => ?_)⟩
        · rw [m0] at d3'
          clear ih un hD d1 d2 hB b4 d3 hM
          simp (disch := first | decide | omega) [↓bd_e, isb, ck_tt, NP, NF, NC, NB, NS, GS, kdC, tpC hT, b_X2_expire_2_b, b_X2_expire_45, d3']
        · have q := sm_g (f := fun h => if (decide (h < j) && PN sz (gI st 129) N h) = true ∨ sz h = 0 then 0 else 1) (i := h) (n := 60) hh
          rw [← hM, m0] at q
          by_cases p : (decide (h < j) && PN sz (gI st 129) N h) = true ∨ sz h = 0
          · rcases p with p | p
            · rw [p]
              simp only [Bool.and_eq_true] at p
              exact p.2
            · have : PN sz (gI st 129) N h = false := by unfold PN; rw [decide_eq_false (show ¬ 0 < sz h by omega)]; rfl
              rw [this, Bool.and_false]
          · have q : (if (decide (h < j) && PN sz (gI st 129) N h) = true ∨ sz h = 0 then 0 else 1) ≤ 0 := q
            rw [if_neg p] at q; omega
      · have skip : (b_X2_expire_2_b fu (b_X2_expire_2 fu F) 124 (nI N) (nI j) w = b_X2_expire_2 fu F 124 (nI N) (nI (j + 1)) w) → PN sz (gI st 129) N j = false → ∃ w', b_X2_expire_2_b fu (b_X2_expire_2 fu F) 124 (nI N) (nI j) w = some w' ∧ Fr [(119, none), (126, none), (124, some 11)] w w' ∧ Top w' ∧ CDs st sz hr hf (PN sz (gI st 129) N) w' := fun e ep => by
          rw [e]
          refine ih (j + 1) w (by omega) (by omega) hT (hD.c (fun h hh => ?_))
          by_cases z : h = j
          · subst z; rw [ep, Bool.and_false, Bool.and_false]
          · have : decide (h < j + 1) = decide (h < j) := by
              by_cases y : h < j
              · rw [decide_eq_true y, decide_eq_true (by omega)]
              · rw [decide_eq_false y, decide_eq_false (by omega)]
            rw [this]
        simp only [Nat.lt_irrefl, decide_false, Bool.false_and, if_false, Bool.false_eq_true] at g
        rw [b1] at g
        by_cases z : sz j = 0
        · rw [z] at g
          refine skip ?_ (by unfold PN; rw [decide_eq_false (show ¬ 0 < sz j by omega)]; rfl)
          clear ih un hD d1 d2 hB b4 skip d3 hM
          simp (disch := first | decide | omega) [↓bd_e, isb, ck_tt, NP, NF, NC, NB, NS, GS, kdC, tpC hT, b_X2_expire_2_b, b_X2_expire_39, d3', g]
        · obtain ⟨⟨c1, c2, c3, c4, c5, c6⟩, -⟩ := b4 (by omega)
          by_cases t : nI N < gI st 129 j
          · refine skip ?_ (by unfold PN; rw [decide_eq_true t]; simp)
            have t' : nI N < gI w 129 j := by rw [d5]; exact t
            clear ih un hD d1 d2 hB b4 skip d3 hM
            simp (disch := first | decide | omega) [↓bd_e, isb, ck_tt, NP, NF, NC, NB, NS, GS, kdC, tpC hT, b_X2_expire_2_b, b_X2_expire_39, d3', g, t']
          · have t' : ¬ nI N < gI w 129 j := by rw [d5]; exact t
            have fr := drop_j hT hfu hj6 (m := sz j) (s := 30 * hr j + hf j) b2 (by omega) g (by rw [d4]; exact c3)
            rw [d3'] at fr
            obtain ⟨w1, hw1⟩ : ∃ w1, w1 = sI (sI (seg 119 (30 * hr j + hf j) (sz j) (nI 0) w) 126 j (nI 0)) 124 11 (nI M - nI 1) := ⟨_, rfl⟩
            rw [← hw1] at fr
            have f1 : Fr [(119, none), (126, none), (124, some 11)] w w1 := by rw [hw1]; exact (((Fr.sg w 119 _ _ _).tr (Fr.ia _ 126 _ _)).tr (Fr.i _ 124 11 _)).wd (by decide)
            have hT1 : Top w1 := hT.r (by rw [hw1]; rfl)
            have pj : PN sz (gI st 129) N j = true := by unfold PN; rw [decide_eq_false t, decide_eq_true (show 0 < sz j by omega)]; rfl
            have eS : ∀ h, h < 60 → (decide (h < j + 1) && PN sz (gI st 129) N h) = if h = j then true else (decide (h < j) && PN sz (gI st 129) N h) := fun h hh => by
              by_cases z : h = j
              · subst z
                rw [if_pos rfl, pj]; simp
              · rw [if_neg z]
                have : decide (h < j + 1) = decide (h < j) := by
                  by_cases y : h < j
                  · rw [decide_eq_true y, decide_eq_true (by omega)]
                  · rw [decide_eq_false y, decide_eq_false (by omega)]
                rw [this]
            have hD1 : CDs st sz hr hf (fun h => decide (h < j + 1) && PN sz (gI st 129) N h) w1 := by
              refine ⟨fun h hh => ?_, fun k => ?_, ?_, ?_, ?_⟩
              · show _ = if (decide (h < j + 1) && PN sz (gI st 129) N h) then _ else _
                rw [hw1, gI_sI_n _ _ _ (by decide), gI_sI, eS h hh]
                by_cases z : h = j
                · rw [if_pos ⟨rfl, z⟩, if_pos z, if_pos rfl]
                · rw [if_neg (by omega), if_neg z, gI_seg, if_neg (by omega)]; exact d1 h hh
              · rw [SFd_s hj6 eS, hw1, gI_sI_n _ _ _ (by decide), gI_sI_n _ _ _ (by decide), gI_seg]
                by_cases y : 30 * hr j + hf j ≤ k ∧ k < 30 * hr j + hf j + sz j
                · rw [if_pos ⟨rfl, y⟩, if_pos y, if_pos rfl]
                · rw [if_neg (fun q => y q.2), if_neg y]; exact d2 k
              · rw [hw1, gI_sI, if_pos ⟨rfl, rfl⟩, pk_sub (show 1 ≤ M by omega)]
                have hs := sm_u (f := fun h => if (decide (h < j) && PN sz (gI st 129) N h) = true ∨ sz h = 0 then 0 else 1) (g := fun h => if (decide (h < j + 1) && PN sz (gI st 129) N h) = true ∨ sz h = 0 then 0 else 1) (i := j) (n := 60) hj6 (fun i hi hne => by
                  show (if _ then 0 else 1) = (if _ then 0 else 1)
                  rw [eS i hi, if_neg hne])
                simp only [eS j hj6, if_true, true_or, Nat.lt_irrefl, decide_false, Bool.false_and, Bool.false_eq_true, false_or] at hs
                rw [if_neg z, ← hM] at hs
                congr 1
                show M - 1 = sm 60 fun h => if (decide (h < j + 1) && PN sz (gI st 129) N h) = true ∨ sz h = 0 then 0 else 1
                omega
              · rw [f1.fi 125 (by decide)]; exact d4
              · rw [f1.fi 129 (by decide)]; exact d5
            obtain ⟨w', e1, e2, e3, e4⟩ := ih (j + 1) w1 (by omega) (by omega) hT1 hD1
            refine ⟨w', ?_, f1.tt e2, e3, e4⟩
            rw [← e1]
            clear ih un hD d1 d2 hB b4 skip e1 e2 e3 e4 hD1 eS d3 hM
            simp (disch := first | decide | omega) [↓bd_e, isb, ck_tt, NP, NF, NC, NB, NS, GS, kdC, tpC hT, b_X2_expire_2_b, b_X2_expire_39, d3', g, t', ↓cvO fr]
