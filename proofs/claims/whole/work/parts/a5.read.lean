/-! PURE: the reference reads the whole text -/
theorem isBl_f {x : Int32} (h : isBl x = false) : ¬ x = nI 32 ∧ ¬ x = nI 9 ∧ ¬ x = nI 13 ∧ ¬ x = nI 10 := by
  unfold isBl at h
  rw [Bool.or_eq_false_iff, Bool.or_eq_false_iff, Bool.or_eq_false_iff] at h
  exact ⟨of_decide_eq_false h.1, of_decide_eq_false h.2.1, of_decide_eq_false h.2.2.1, of_decide_eq_false h.2.2.2⟩
theorem isBl_t {x : Int32} (h : isBl x = true) : x = nI 32 ∨ x = nI 9 ∨ x = nI 13 ∨ x = nI 10 := by
  unfold isBl at h
  rw [Bool.or_eq_true, Bool.or_eq_true, Bool.or_eq_true] at h
  rcases h with h | h | h | h
  · exact Or.inl (of_decide_eq_true h)
  · exact Or.inr (Or.inl (of_decide_eq_true h))
  · exact Or.inr (Or.inr (Or.inl (of_decide_eq_true h)))
  · exact Or.inr (Or.inr (Or.inr (of_decide_eq_true h)))
theorem rd_tok {st : St} (hT : Top st) {b : BY} {n : Nat} (h2 : n ≤ 4000) (h3 : ∀ i, i < n → gI st 154 i = b i) {fu : Nat} (hf : 4100 ≤ fu) (K : K4) {p t : Nat} (ht : t ≤ 4000) (hp : p < n) (hb : isBl (b p) = false) : ∃ V, b_X12_read_14_b fu K 153 (nI n) (nI t) (nI p) st = K 153 (nI n) (nI (t + 1)) (nI (tE b n p)) (sI (sL (sI st 157 t (nI p)) 156 t V) 155 t (nI (tS b n p))) ∧ (tS b n p = 1 → V = lN (wv b p (tE b n p - p))) ∧ (tS b n p = 2 → V = lN (nv b p (tE b n p - p))) := by
  obtain ⟨n1, n2, n3, n4⟩ := isBl_f hb
  have g := h3 p hp
  have tb := tE_b (b := b) hp
  obtain ⟨s0, hs0⟩ : ∃ s0, s0 = sI st 157 t (nI p) := ⟨_, rfl⟩
  have hT0 : Top s0 := hT.r (by rw [hs0]; rfl)
  have a3 : ∀ i, i < n → gI s0 154 i = b i := fun i hi => by rw [hs0, gI_sI_n _ _ _ (by decide)]; exact h3 i hi
  obtain ⟨s, hs⟩ : ∃ s, s = sL s0 156 t 0 := ⟨_, rfl⟩
  have lr := let_r (st := s) fu (b p)
  have dr := dig_r (st := s) fu (b p)
  have sr := sign_r (st := s) fu (b p)
  have hs' : sL (sI st 157 t (nI p)) 156 t (lN 0) = s := by rw [hs, hs0]; rfl
  rw [← hs0]
  cases hl : isLe (b p)
  · rw [hl] at lr
    simp only [Bool.toNat_false] at lr
    cases hd : isDi (b p)
    · rw [hd] at dr
      simp only [Bool.toNat_false] at dr
      have eE : tE b n p = p + 1 := by unfold tE; rw [hl, hd]; rfl
      have eS : tS b n p = sgC (b p) := by unfold tS; rw [hl, hd]; rfl
      rw [eE, eS]
      have hT : Top s := hT0.r (by rw [hs]; rfl)
      rcases sgC_v (b p) with e | ⟨e1, e2⟩
      · rw [e] at sr ⊢
        simp only [if_true] at sr
        refine ⟨0, ?_, fun h => absurd h (by decide), fun h => absurd h (by decide)⟩
        rw [← hs]
        have hTs := hT
        have hT := (show Top st by assumption)
        clear h3 a3
        simp (disch := first | decide | omega) [isb, ck_tt, NP, NF, NC, NB, NS, GS, kdR, tpR hT, b_X12_read_14_b, g, n1, n2, n3, n4, LF, hs', lr, dr, sr, tpR hTs]
        simp (disch := first | decide | omega) [isb, ck_tt, NP, NF, NC, NB, NS, GS, kdR, tpR hT, b_X12_read_310, b_X12_read_314, b_X12_read_317]
      · have sb := sgL_b _ e1
        rw [if_neg (by omega)] at sr
        refine ⟨0, ?_, fun h => by omega, fun h => by omega⟩
        rw [← hs, ← e2]
        have hTs := hT
        have hT := (show Top st by assumption)
        clear h3 a3
        simp (disch := first | decide | omega) [isb, ck_tt, NP, NF, NC, NB, NS, GS, kdR, tpR hT, b_X12_read_14_b, g, n1, n2, n3, n4, LF, hs', lr, dr, sr, tpR hTs]
        simp (disch := first | decide | omega) [isb, ck_tt, NP, NF, NC, NB, NS, GS, kdR, tpR hT, b_X12_read_310, b_X12_read_314, b_X12_read_317]
    · rw [hd] at dr
      simp only [Bool.toNat_true] at dr
      have eE : tE b n p = run (fun i => isDi (b i)) (n - p) p := by unfold tE; rw [hl, hd]; rfl
      have dl := rd_dig hT0 h2 a3 fu K (p := p) ht fu p (Nat.le_refl _) (by omega) (by omega)
      rw [Nat.sub_self, ← eE] at dl
      have dl' : b_X12_read_165 fu K fu 153 (nI n) (nI t) (nI p) s = b_X12_read_247 fu K 153 (nI n) (nI t) (nI (tE b n p)) (sL s0 156 t (lN (nv b p (tE b n p - p)))) := by rw [hs]; exact dl
      have st1 : b_X12_read_14_b fu K 153 (nI n) (nI t) (nI p) st = b_X12_read_165 fu K fu 153 (nI n) (nI t) (nI p) s := by
        clear h3 a3 dl dl' sr
        simp (disch := first | decide | omega) [isb, ck_tt, NP, NF, NC, NB, NS, GS, kdR, tpR hT, b_X12_read_14_b, g, n1, n2, n3, n4, LF, hs', lr, dr]
      rw [st1, dl']
      have nb := nv_le b p (tE b n p - p)
      obtain ⟨v, hv⟩ : ∃ v, v = nv b p (tE b n p - p) := ⟨_, rfl⟩
      obtain ⟨w, hw⟩ : ∃ w, w = sL s0 156 t (lN v) := ⟨_, rfl⟩
      have gw : gL w 156 t = lN v := by rw [hw, gL_sL]; simp
      have hTw : Top w := hT0.r (by rw [hw]; rfl)
      have gb : ∀ i, i < n → gI w 154 i = b i := fun i hi => by rw [hw]; exact a3 i hi
      rw [← hv] at nb ⊢
      rw [← hw]
      have fin : ∀ k : Nat, b_X12_read_287 fu K 153 (nI n) (nI t) (nI (tE b n p)) 155 (nI t) (nI k) w = K 153 (nI n) (nI (t + 1)) (nI (tE b n p)) (sI w 155 t (nI k)) := fun k => by
        have hT := hTw
        clear h3 a3 dl dl' st1 gb sr lr dr
        simp (disch := first | decide | omega) [isb, ck_tt, NP, NF, NC, NB, NS, GS, kdR, tpR hT, b_X12_read_287, b_X12_read_314, b_X12_read_317]
      have f3 := fin 3
      have f2 := fin 2
      by_cases hbad : 99999 < v ∨ (tE b n p < n ∧ isLe (b (tE b n p)) = true)
      · have eS : tS b n p = 3 := by
          unfold tS
          rw [hl, hd]
          simp only [Bool.false_eq_true, if_false, if_true]
          rw [← hv, if_pos hbad]
        rw [eS]
        refine ⟨lN v, ?_, fun h => absurd h (by decide), fun h => absurd h (by decide)⟩
        rw [← hw, ← f3]
        have hT := hTw
        by_cases q : 99999 < v
        · clear h3 a3 dl dl' st1 gb sr lr dr fin f2 f3
          simp (disch := first | decide | omega) [isb, ck_tt, NP, NF, NC, NB, NS, GS, kdR, tpR hT, b_X12_read_247, b_X12_read_282, gw, LF, LC]
        · obtain ⟨q1, q2⟩ : tE b n p < n ∧ isLe (b (tE b n p)) = true := by
            rcases hbad with h | h
            · exact absurd h q
            · exact h
          have gl := let_r (st := w) fu (b (tE b n p))
          rw [q2] at gl
          simp only [Bool.toNat_true] at gl
          have g2 := gb _ q1
          clear h3 a3 dl dl' st1 gb sr lr dr fin f2 f3
          simp (disch := first | decide | omega) [isb, ck_tt, NP, NF, NC, NB, NS, GS, kdR, tpR hT, b_X12_read_247, b_X12_read_282, gw, LF, LC, g2, gl, q]
      · have eS : tS b n p = 2 := by
          unfold tS
          rw [hl, hd]
          simp only [Bool.false_eq_true, if_false, if_true]
          rw [← hv, if_neg hbad]
        rw [eS]
        refine ⟨lN v, ?_, fun h => absurd h (by decide), fun _ => rfl⟩
        rw [← hw, ← f2]
        have hT := hTw
        have q : ¬ 99999 < v := fun h => hbad (Or.inl h)
        rcases Nat.lt_or_ge (tE b n p) n with q1 | q1
        · have q2 : isLe (b (tE b n p)) = false := by
            cases hx : isLe (b (tE b n p))
            · rfl
            · exact absurd (Or.inr ⟨q1, hx⟩) hbad
          have gl := let_r (st := w) fu (b (tE b n p))
          rw [q2] at gl
          simp only [Bool.toNat_false] at gl
          have g2 := gb _ q1
          clear h3 a3 dl dl' st1 gb sr lr dr fin f2 f3
          simp (disch := first | decide | omega) [isb, ck_tt, NP, NF, NC, NB, NS, GS, kdR, tpR hT, b_X12_read_247, b_X12_read_286, gw, LF, LC, g2, gl, q]
        · clear h3 a3 dl dl' st1 gb sr lr dr fin f2 f3
          simp (disch := first | decide | omega) [isb, ck_tt, NP, NF, NC, NB, NS, GS, kdR, tpR hT, b_X12_read_247, b_X12_read_286, gw, LF, LC, q]
  · rw [hl] at lr
    simp only [Bool.toNat_true] at lr
    have eE : tE b n p = run (fun i => isLe (b i)) (n - p) p := by unfold tE; rw [hl]; rfl
    have ll := rd_let hT0 h2 a3 fu K (p := p) ht fu p (Nat.le_refl _) (by omega) (by omega)
    rw [Nat.sub_self, ← eE] at ll
    have ll' : b_X12_read_86 fu K fu 153 (nI n) (nI t) (nI p) (nI p) s = b_X12_read_134 fu K 153 (nI n) (nI t) (nI (tE b n p)) (nI p) (sL s0 156 t (wL b p (tE b n p - p))) := by rw [hs]; exact ll
    have st1 : b_X12_read_14_b fu K 153 (nI n) (nI t) (nI p) st = b_X12_read_86 fu K fu 153 (nI n) (nI t) (nI p) (nI p) s := by
      clear h3 a3 ll ll' sr dr
      simp (disch := first | decide | omega) [isb, ck_tt, NP, NF, NC, NB, NS, GS, kdR, tpR hT, b_X12_read_14_b, g, n1, n2, n3, n4, LF, hs', lr]
    rw [st1, ll']
    have al : ∀ i, i < tE b n p - p → isLe (b (p + i)) = true := fun i hi => by
      have := run_all (fun i => isLe (b i)) (n - p) p (p + i) (by omega) (by rw [← eE]; omega)
      exact this
    obtain ⟨w, hw⟩ : ∃ w, w = sL s0 156 t (wL b p (tE b n p - p)) := ⟨_, rfl⟩
    have hTw : Top w := hT0.r (by rw [hw]; rfl)
    by_cases h12 : tE b n p - p ≤ 12
    · have eS : tS b n p = 1 := by unfold tS; rw [hl]; simp only [if_true]; rw [if_pos h12]
      rw [eS]
      refine ⟨wL b p (tE b n p - p), ?_, fun _ => (wL_v _ h12 al).1, fun h => absurd h (by decide)⟩
      rw [← hw]
      have hT := hTw
      clear h3 a3 ll ll' sr dr lr st1 al
      simp (disch := first | decide | omega) [isb, ck_tt, NP, NF, NC, NB, NS, GS, kdR, tpR hT, b_X12_read_134, b_X12_read_153, b_X12_read_314, b_X12_read_317]
    · have eS : tS b n p = 3 := by unfold tS; rw [hl]; simp only [if_true]; rw [if_neg h12]
      rw [eS]
      refine ⟨wL b p (tE b n p - p), ?_, fun h => absurd h (by decide), fun h => absurd h (by decide)⟩
      rw [← hw]
      have hT := hTw
      clear h3 a3 ll ll' sr dr lr st1 al
      simp (disch := first | decide | omega) [isb, ck_tt, NP, NF, NC, NB, NS, GS, kdR, tpR hT, b_X12_read_134, b_X12_read_153, b_X12_read_314, b_X12_read_317]
/-- what stands behind the reading of t tokens -/
def RDt (b : BY) (n t : Nat) (u : St) : Prop := ∀ j, j < t → pl b n j < n ∧ gI u 155 j = nI (so b n j) ∧ gI u 157 j = nI (pl b n j) ∧ (so b n j = 1 → gL u 156 j = lN (wv b (pl b n j) (af b n (j + 1) - pl b n j))) ∧ (so b n j = 2 → gL u 156 j = lN (nv b (pl b n j) (af b n (j + 1) - pl b n j)))
/-- the whole text lies in tokens 0 .. T - 1 -/
def RTx (b : BY) (n T : Nat) (u : St) : Prop := RDt b n T u ∧ pl b n T = n ∧ gI u 155 T = nI 0 ∧ gI u 157 T = nI n ∧ T ≤ n ∧ n ≤ 4000
def WR : List PL := [(153, some 5), (153, some 6), (153, some 7), (153, some 8), (155, none), (156, none), (157, none)]
set_option maxRecDepth 100000 in
theorem rd_l {b : BY} {n : Nat} (h2 : n ≤ 4000) {fu : Nat} (hf : 4100 ≤ fu) : ∀ (F t k : Nat) (st : St), Top st → (∀ i, i < n → gI st 154 i = b i) → RDt b n t st → t ≤ af b n t → af b n t ≤ k → k ≤ pl b n t → n - k < F → ∃ u T, b_X12_read_14 fu F 153 (nI n) (nI t) (nI k) st = some u ∧ Fr WR st u ∧ RTx b n T u ∧ gI u 153 5 = nI 0 ∧ gI u 153 6 = nI 0 ∧ gI u 153 7 = nI 0 ∧ gI u 153 8 = nI 0 := by
  intro F
  induction F with
  | zero => intro t k st _ _ _ _ _ _ h; omega
  | succ F ih =>
    intro t k st hT h3 hR ht hk1 hk2 hF
    have pb := pl_b b n t
    have un : b_X12_read_14 fu (F + 1) 153 (nI n) (nI t) (nI k) st = b_X12_read_14_b fu (b_X12_read_14 fu F) 153 (nI n) (nI t) (nI k) st := rfl
    rw [un]
    rcases Nat.lt_or_ge k n with hn | hn
    · rcases Nat.lt_or_ge k (pl b n t) with hp | hp
      · have bl := run_all (fun i => isBl (b i)) (n - af b n t) (af b n t) k hk1 hp
        have bl' : isBl (b k) = true := bl
        obtain ⟨u, T, r⟩ := ih t (k + 1) st hT h3 hR ht (by omega) (by omega) (by omega)
        refine ⟨u, T, ?_, r.2⟩
        rw [← r.1]
        have g := h3 k hn
        clear ih h3 hR r
        rcases isBl_t bl' with e | e | e | e <;> rw [e] at g <;> simp (disch := first | decide | omega) [isb, ck_tt, NP, NF, NC, NB, NS, GS, kdR, tpR hT, b_X12_read_14_b, b_X12_read_55, b_X12_read_317, g]
      · have e : k = pl b n t := by omega
        subst e
        have nb : isBl (b (pl b n t)) = false := run_end (fun i => isBl (b i)) (n - af b n t) (af b n t) (by show pl b n t < _; omega)
        obtain ⟨V, v1, v2, v3⟩ := rd_tok hT h2 h3 hf (b_X12_read_14 fu F) (p := pl b n t) (t := t) (by omega) hn nb
        have lt := pl_lt b n t hn
        have ea : af b n (t + 1) = tE b n (pl b n t) := by rw [af_s, if_pos hn]
        have es : so b n t = tS b n (pl b n t) := by unfold so; rw [if_pos hn]
        rw [v1]
        obtain ⟨w, hw⟩ : ∃ w, w = sI (sL (sI st 157 t (nI (pl b n t))) 156 t V) 155 t (nI (tS b n (pl b n t))) := ⟨_, rfl⟩
        rw [← hw, ← ea]
        have fw : Fr [(155, none), (156, none), (157, none)] st w := by
          rw [hw]
          exact (((Fr.ia st 157 _ _).tr (Fr.wd (Fr.l _ 156 t _) (V := [(156, none)]) (by simp [within']))).tr (Fr.ia _ 155 _ _)).wd (by decide)
        have w155 : ∀ j, gI w 155 j = if j = t then nI (tS b n (pl b n t)) else gI st 155 j := fun j => by rw [hw, gI_sI, gI_sL, gI_sI]; simp
        have w157 : ∀ j, gI w 157 j = if j = t then nI (pl b n t) else gI st 157 j := fun j => by rw [hw, gI_sI, gI_sL, gI_sI]; simp
        have w156 : ∀ j, gL w 156 j = if j = t then V else gL st 156 j := fun j => by rw [hw, gL_sI, gL_sL, gL_sI]; simp
        have hTw : Top w := hT.r (by rw [hw]; rfl)
        have hRw : RDt b n (t + 1) w := fun j hj => by
          rw [w155, w157, w156]
          by_cases e : j = t
          · subst e
            rw [if_pos rfl, if_pos rfl, if_pos rfl, es, ea]
            exact ⟨hn, rfl, rfl, v2, v3⟩
          · rw [if_neg e, if_neg e, if_neg e]
            exact hR j (by omega)
        obtain ⟨u, T, r1, r2, r3⟩ := ih (t + 1) (af b n (t + 1)) w hTw (fun i hi => by rw [fw.fi 154 (by decide)]; exact h3 i hi) hRw (by omega) (Nat.le_refl _) (pl_b b n (t + 1)).1 (by omega)
        exact ⟨u, T, r1, (fw.tr r2).wd (by decide), r3⟩
    · have e : k = n := by omega
      subst e
      have ep : pl b k t = k := by omega
      refine ⟨sI (sI (sI (sI (sI (sI st 155 t (nI 0)) 157 t (nI k)) 153 5 (nI 0)) 153 6 (nI 0)) 153 7 (nI 0)) 153 8 (nI 0), t, ?_, ((((((Fr.ia st 155 _ _).tr (Fr.ia _ 157 _ _)).tr (Fr.i _ 153 5 _)).tr (Fr.i _ 153 6 _)).tr (Fr.i _ 153 7 _)).tr (Fr.i _ 153 8 _)).wd (by decide), ⟨fun j hj => ?_, ep, ?_, ?_, by omega, h2⟩, ?_, ?_, ?_, ?_⟩
      · clear ih h3 hR
        simp (disch := first | decide | omega) [isb, ck_tt, NP, NF, NC, NB, NS, GS, kdR, tpR hT, b_X12_read_14_b]
      · have := hR j hj
        have nt : ¬ j = t := by omega
        simp only [gI_sI, gL_sI, nt, and_false, if_false]
        simpa using this
      · simp [gI_sI]
      · simp [gI_sI]
      · simp [gI_sI]
      · simp [gI_sI]
      · simp [gI_sI]
      · simp [gI_sI]
set_option maxRecDepth 100000 in
theorem read_r {st : St} (hT : Top st) {b : BY} {n : Nat} (h1 : gI st 153 1 = nI n) (h2 : n ≤ 4000) (h3 : ∀ i, i < n → gI st 154 i = b i) {fu : Nat} (hf : 4100 ≤ fu) : ∃ u T, f_X12_read fu 153 st = some u ∧ Fr ((153, some 1) :: WR) st u ∧ Top u ∧ RTx b n T u ∧ gI u 153 1 = nI 0 ∧ gI u 153 5 = nI 0 ∧ gI u 153 6 = nI 0 ∧ gI u 153 7 = nI 0 ∧ gI u 153 8 = nI 0 := by
  have f1 : Fr [(153, some 1)] st (sI st 153 1 (nI 0)) := Fr.i st 153 1 _
  obtain ⟨u, T, r1, r2, r3, r4, r5, r6, r7⟩ := rd_l (b := b) h2 hf fu 0 0 (sI st 153 1 (nI 0)) (hT.r rfl) (fun i hi => by rw [f1.fi 154 (by decide)]; exact h3 i hi) (fun j hj => by omega) (Nat.le_refl _) (Nat.le_refl _) (Nat.zero_le _) (by omega)
  have fr : Fr ((153, some 1) :: WR) st u := (f1.tr r2).wd (by decide)
  refine ⟨u, T, ?_, fr, hT.fr (fr.same (by decide)), r3, ?_, r4, r5, r6, r7⟩
  · rw [← r1]
    clear r1 r2 r3 r4 r5 r6 r7 fr h3
    simp (disch := first | decide | omega) [isb, ck_tt, NP, NF, NC, NB, NS, GS, kdR, tpR hT, f_X12_read, h1]
  · rw [r2.ki 153 1 (by decide), gI_sI]; simp
