/-! PURE: what the reference asks of a token. t: where it looks, f p: the fault that stands, s: whether it has stopped -/
def RfA (b : BY) (n T t f p s : Nat) (st : St) : Prop := RTx b n T st ∧ gI st 153 5 = nI t ∧ t ≤ T ∧ gI st 153 6 = nI f ∧ f ≤ 3 ∧ gI st 153 7 = nI p ∧ p ≤ n ∧ gI st 153 8 = nI s ∧ s ≤ 1
def W5 : List PL := [(153, some 5), (153, some 6), (153, some 7), (153, some 8)]
def OK5 (b : BY) (n T t f p s : Nat) (st u : St) : Prop := Fr W5 st u ∧ Top u ∧ RfA b n T t f p s u
set_option maxRecDepth 100000 in
theorem topW5 {st u : St} (hT : Top st) (fr : Fr W5 st u) : Top u := hT.fr (fr.same (by decide))
theorem RTx.fr {b : BY} {n T : Nat} {st u : St} (h : RTx b n T st) (fr : Fr W5 st u) : RTx b n T u := by
  obtain ⟨h1, h2, h3, h4, h5⟩ := h
  have e5 := fr.fi 155 (by decide)
  have e7 := fr.fi 157 (by decide)
  have e6 : ∀ k, gL u 156 k = gL st 156 k := fun k => fr.kl 156 k (by simp [W5, covers])
  refine ⟨fun j hj => ?_, h2, ?_, ?_, h5⟩
  · rw [e5, e7, e6]; exact h1 j hj
  · rw [e5]; exact h3
  · rw [e7]; exact h4
theorem RTx.sot {b : BY} {n T t : Nat} {st : St} (h : RTx b n T st) (ht : t ≤ T) : gI st 155 t = nI (so b n t) ∧ gI st 157 t = nI (pl b n t) ∧ (so b n t = 0 ↔ t = T) := by
  obtain ⟨h1, h2, h3, h4, -⟩ := h
  have eT : so b n T = 0 := by unfold so; rw [if_neg (by omega)]
  rcases Nat.lt_or_ge t T with q | q
  · obtain ⟨a1, a2, a3, -⟩ := h1 t q
    refine ⟨a2, a3, fun h => ?_, fun h => by omega⟩
    exfalso
    unfold so at h
    rw [if_pos a1] at h
    unfold tS at h
    by_cases l : isLe (b (pl b n t)) = true
    · rw [if_pos l] at h
      by_cases l2 : tE b n (pl b n t) - pl b n t ≤ 12
      · rw [if_pos l2] at h; omega
      · rw [if_neg l2] at h; omega
    · rw [if_neg l] at h
      by_cases d : isDi (b (pl b n t)) = true
      · rw [if_pos d] at h
        by_cases l2 : 99999 < nv b (pl b n t) (tE b n (pl b n t) - pl b n t) ∨ (tE b n (pl b n t) < n ∧ isLe (b (tE b n (pl b n t))) = true)
        · rw [if_pos l2] at h; omega
        · rw [if_neg l2] at h; omega
      · rw [if_neg d] at h
        rcases sgC_v (b (pl b n t)) with e | ⟨e1, -⟩
        · omega
        · have := (sgL_b _ e1).1; omega
  · have : t = T := by omega
    subst this
    rw [h2, eT]
    exact ⟨h3, h4, by simp⟩
theorem tell_r {st : St} (hT : Top st) {b : BY} {n T t f p s : Nat} (h : RfA b n T t f p s st) (fu : Nat) {k q : Nat} (k1 : 1 ≤ k) (k3 : k ≤ 3) (hq : q ≤ n) : ((f = 0 ∨ q < p ∨ (q = p ∧ k < f)) → ∃ u, f_X12_tell fu 153 (nI k) (nI q) st = some u ∧ OK5 b n T t k q s st u) ∧ (¬ (f = 0 ∨ q < p ∨ (q = p ∧ k < f)) → f_X12_tell fu 153 (nI k) (nI q) st = some st) := by
  obtain ⟨hX, a5, a5', a6, a6', a7, a7', a8, a8'⟩ := h
  have hn := hX.2.2.2.2.2
  have fr : Fr W5 st (sI (sI st 153 6 (nI k)) 153 7 (nI q)) := ((Fr.i st 153 6 _).tr (Fr.i _ 153 7 _)).wd (by decide)
  refine ⟨fun c => ⟨sI (sI st 153 6 (nI k)) 153 7 (nI q), ?_, fr, topW5 hT fr, hX.fr fr, ?_, a5', ?_, k3, ?_, hq, ?_, a8'⟩, fun c => ?_⟩
  · clear hX fr
    by_cases c1 : f = 0
    · subst c1
      simp (disch := first | decide | omega) [isb, ck_tt, NP, NF, NC, NB, NS, GS, kdR, tpR hT, f_X12_tell, b_X12_tell_31, b_X12_tell_41, a6]
    · by_cases c2 : q < p
      · simp (disch := first | decide | omega) [isb, ck_tt, NP, NF, NC, NB, NS, GS, kdR, tpR hT, f_X12_tell, b_X12_tell_31, b_X12_tell_41, a6, a7]
      · obtain ⟨c3, c4⟩ : q = p ∧ k < f := by omega
        subst c3
        simp (disch := first | decide | omega) [isb, ck_tt, NP, NF, NC, NB, NS, GS, kdR, tpR hT, f_X12_tell, b_X12_tell_31, b_X12_tell_41, a6, a7]
  · rw [gI_sI, gI_sI]; simp; exact a5
  · rw [gI_sI, gI_sI]; simp
  · rw [gI_sI]; simp
  · rw [gI_sI, gI_sI]; simp; exact a8
  · clear hX fr
    have c1 : f ≠ 0 := fun e => c (Or.inl e)
    have c2 : ¬ q < p := fun e => c (Or.inr (Or.inl e))
    by_cases c3 : q = p
    · subst c3
      have c4 : f ≤ k := by omega
      simp (disch := first | decide | omega) [isb, ck_tt, NP, NF, NC, NB, NS, GS, kdR, tpR hT, f_X12_tell, b_X12_tell_31, b_X12_tell_41, a6, a7]
    · simp (disch := first | decide | omega) [isb, ck_tt, NP, NF, NC, NB, NS, GS, kdR, tpR hT, f_X12_tell, b_X12_tell_31, b_X12_tell_41, a6, a7]
/-- wrong, with no fault before -/
theorem wrong_s {st : St} (hT : Top st) {b : BY} {n T t f p s : Nat} (h : RfA b n T t f p s st) (fu : Nat) : (s = 1 → f_X12_wrong fu 153 st = some st) ∧ (s = 0 → (f = 0 ∨ pl b n t < p ∨ (pl b n t = p ∧ 1 < f)) → ∃ u, f_X12_wrong fu 153 st = some u ∧ OK5 b n T t 1 (pl b n t) 1 st u) ∧ (s = 0 → ¬ (f = 0 ∨ pl b n t < p ∨ (pl b n t = p ∧ 1 < f)) → ∃ u, f_X12_wrong fu 153 st = some u ∧ OK5 b n T t f p 1 st u) := by
  have h0 := h
  obtain ⟨hX, a5, a5', a6, a6', a7, a7', a8, a8'⟩ := h
  obtain ⟨-, e2, -⟩ := hX.sot a5'
  have hn := hX.2.2.2.2.2
  have hTn := hX.2.2.2.2.1
  obtain ⟨t1, t2⟩ := tell_r hT h0 fu (k := 1) (q := pl b n t) (by omega) (by omega) (pl_b b n t).2
  refine ⟨fun c => ?_, fun c c2 => ?_, fun c c2 => ?_⟩
  · subst c
    clear hX h0 t1 t2
    simp (disch := first | decide | omega) [isb, ck_tt, NP, NF, NC, NB, NS, GS, kdR, tpR hT, f_X12_wrong, b_X12_wrong_26, a8]
  · subst c
    obtain ⟨u, u1, u2, u3, u4⟩ := t1 c2
    obtain ⟨uX, v5, v5', v6, v6', v7, v7', v8, v8'⟩ := u4
    have f8 : Fr W5 u (sI u 153 8 (nI 1)) := (Fr.i u 153 8 _).wd (by decide)
    have fr : Fr W5 st (sI u 153 8 (nI 1)) := (u2.tr f8).wd (by decide)
    refine ⟨sI u 153 8 (nI 1), ?_, fr, topW5 hT fr, uX.fr f8, ?_, v5', ?_, v6', ?_, v7', ?_, Nat.le_refl _⟩
    · clear hX h0 t1 t2 uX fr f8 u2
      simp (disch := first | decide | omega) [isb, ck_tt, NP, NF, NC, NB, NS, GS, kdR, tpR hT, f_X12_wrong, b_X12_wrong_26, a8, a5, e2, u1]
    · rw [gI_sI]; simp; exact v5
    · rw [gI_sI]; simp; exact v6
    · rw [gI_sI]; simp; exact v7
    · rw [gI_sI]; simp
  · subst c
    have u1 := t2 c2
    have f8 : Fr W5 st (sI st 153 8 (nI 1)) := (Fr.i st 153 8 _).wd (by decide)
    refine ⟨sI st 153 8 (nI 1), ?_, f8, topW5 hT f8, hX.fr f8, ?_, a5', ?_, a6', ?_, a7', ?_, Nat.le_refl _⟩
    · clear hX h0 t1 t2 f8
      simp (disch := first | decide | omega) [isb, ck_tt, NP, NF, NC, NB, NS, GS, kdR, tpR hT, f_X12_wrong, b_X12_wrong_26, a8, a5, e2, u1]
    · rw [gI_sI]; simp; exact a5
    · rw [gI_sI]; simp; exact a6
    · rw [gI_sI]; simp; exact a7
    · rw [gI_sI]; simp
/-- a step over the token -/
theorem RfA.step {b : BY} {n T t f p s : Nat} {st : St} (h : RfA b n T t f p s st) (hT : Top st) (ht : t + 1 ≤ T) : OK5 b n T (t + 1) f p s st (sI st 153 5 (nI (t + 1))) := by
  obtain ⟨hX, a5, a5', a6, a6', a7, a7', a8, a8'⟩ := h
  have fr : Fr W5 st (sI st 153 5 (nI (t + 1))) := (Fr.i st 153 5 _).wd (by decide)
  refine ⟨fr, topW5 hT fr, hX.fr fr, ?_, ht, ?_, a6', ?_, a7', ?_, a8'⟩
  · rw [gI_sI]; simp
  · rw [gI_sI]; simp; exact a6
  · rw [gI_sI]; simp; exact a7
  · rw [gI_sI]; simp; exact a8
theorem RfA.stay {b : BY} {n T t f p s : Nat} {st : St} (h : RfA b n T t f p s st) (hT : Top st) : OK5 b n T t f p s st (sI st 153 5 (nI t)) := by
  obtain ⟨hX, a5, a5', a6, a6', a7, a7', a8, a8'⟩ := h
  have fr : Fr W5 st (sI st 153 5 (nI t)) := (Fr.i st 153 5 _).wd (by decide)
  refine ⟨fr, topW5 hT fr, hX.fr fr, ?_, a5', ?_, a6', ?_, a7', ?_, a8'⟩
  · rw [gI_sI]; simp
  · rw [gI_sI]; simp; exact a6
  · rw [gI_sI]; simp; exact a7
  · rw [gI_sI]; simp; exact a8
theorem takeS_r {st : St} (hT : Top st) {b : BY} {n T t f p s : Nat} (h : RfA b n T t f p s st) (fu : Nat) {c : Nat} (hc : 3 < c) (hc2 : c < 200) : ((s = 0 ∧ so b n t = c) → ∃ u, f_X12_takeSign fu 153 (nI c) st = some (nI 1, u) ∧ OK5 b n T (t + 1) f p s st u) ∧ (¬ (s = 0 ∧ so b n t = c) → ∃ u, f_X12_takeSign fu 153 (nI c) st = some (nI 0, u) ∧ OK5 b n T t f p s st u) := by
  have h0 := h
  obtain ⟨hX, a5, a5', a6, a6', a7, a7', a8, a8'⟩ := h
  obtain ⟨e1, -, e3⟩ := hX.sot a5'
  have hn := hX.2.2.2.2.2
  have hTn := hX.2.2.2.2.1
  have sb := so_b b n t
  refine ⟨fun ⟨c1, c2⟩ => ⟨_, ?_, h0.step hT ?_⟩, fun c1 => ⟨_, ?_, h0.stay hT⟩⟩
  · subst c1
    rw [c2] at e1
    clear hX h0 e3
    simp (disch := first | decide | omega) [isb, ck_tt, NP, NF, NC, NB, NS, GS, kdR, tpR hT, f_X12_takeSign, b_X12_takeSign_25, b_X12_takeSign_40, a8, a5, e1]
  · have : t ≠ T := fun e => by have := e3.mpr e; omega
    omega
  · clear hX h0 e3
    by_cases c2 : s = 0
    · subst c2
      have c3 : so b n t ≠ c := fun e => c1 ⟨rfl, e⟩
      simp (disch := first | decide | omega) [isb, ck_tt, NP, NF, NC, NB, NS, GS, kdR, tpR hT, f_X12_takeSign, b_X12_takeSign_24, b_X12_takeSign_25, b_X12_takeSign_40, a8, a5, e1]
    · have c3 : s = 1 := by omega
      subst c3
      simp (disch := first | decide | omega) [isb, ck_tt, NP, NF, NC, NB, NS, GS, kdR, tpR hT, f_X12_takeSign, b_X12_takeSign_24, b_X12_takeSign_25, b_X12_takeSign_40, a8, a5]
