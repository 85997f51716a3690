/-! PURE: shares: the text, in the class -/
theorem TX.f2 {b : BY} {n lim : Nat} {st u : St} (h : TX b n lim st) (e2 : gI u 2 = gI st 2) (e3 : gI u 3 = gI st 3) : TX b n lim u := by
  unfold TX at h ⊢
  rw [e2, e3]; exact h
theorem TC.f2 {b : BY} {n lim t : Nat} {st u : St} (h : TC b n lim t st) (e2 : gI u 2 = gI st 2) (e3 : gI u 3 = gI st 3) : TC b n lim t u := by
  unfold TC TX at h ⊢
  rw [e2, e3]; exact h
theorem TD.f2 {b : BY} {n lim f p : Nat} {st u : St} (h : TD b n lim f p st) (e2 : gI u 2 = gI st 2) (e3 : gI u 3 = gI st 3) : TD b n lim f p u := by
  unfold TD TX at h ⊢
  rw [e2, e3]; exact h
theorem so_t {b : BY} {n t : Nat} (h : so b n t ≠ 0) : t < n := by
  have q : pl b n t < n := by
    apply Classical.byContradiction
    intro hn
    exact h (by rw [so, if_neg hn])
  have := t_le b n t q
  omega
/-- with room for every token -/
theorem NX.go {b : BY} {n t : Nat} {st u : St} (h : NX b n 4000 t st u) (hn : n ≤ 4000) (hs : so b n t ≠ 0) : Fr WT st u ∧ Top u ∧ TC b n 4000 (t + 1) u := ⟨h.1, h.2.1, h.2.2.1 (by have := so_t hs; omega)⟩
theorem WTt {a b c : St} (h1 : Fr WT a b) (h2 : Fr WT b c) : Fr WT a c := (h1.tr h2).wd (by decide)
def TmOK (b : BY) (n t t' k v : Nat) : Prop := so b n t = 2 ∧ v = nvt b n t ∧ ((so b n (t + 1) ≠ 37 ∧ k = 4 ∧ t' = t + 1) ∨ (so b n (t + 1) = 37 ∧ v ≤ 100 ∧ isW b n (t + 2) 22 ∧ ((isW b n (t + 3) 23 ∧ k = 3 ∧ t' = t + 4) ∨ (¬ isW b n (t + 3) 23 ∧ so b n (t + 3) = 2 ∧ k = nvt b n (t + 3) ∧ k ≤ 2 ∧ t' = t + 4))))
def TmBad (b : BY) (n t f p : Nat) : Prop := (so b n t ≠ 2 ∧ f = 1 ∧ p = pl b n t) ∨ (so b n t = 2 ∧ so b n (t + 1) = 37 ∧ ((100 < nvt b n t ∧ f = 2 ∧ p = pl b n t) ∨ (nvt b n t ≤ 100 ∧ ¬ isW b n (t + 2) 22 ∧ f = 1 ∧ p = pl b n (t + 2)) ∨ (nvt b n t ≤ 100 ∧ isW b n (t + 2) 22 ∧ ¬ isW b n (t + 3) 23 ∧ ((so b n (t + 3) ≠ 2 ∧ f = 1 ∧ p = pl b n (t + 3)) ∨ (so b n (t + 3) = 2 ∧ 2 < nvt b n (t + 3) ∧ f = 2 ∧ p = pl b n (t + 3))))))
/-- the places that a reading of shares may change, in the class -/
def WS (q : Nat) : List PL := [(2, some 2), (2, some 3), (2, some 4), (2, some 5), (2, some 6), (2, some 8), (2, some 9), (q, none)]
theorem WS_t {q : Nat} {a b c : St} (h1 : Fr (WS q) a b) (h2 : Fr (WS q) b c) : Fr (WS q) a c := (h1.tr h2).wd (by simp [within', WS])
theorem WS_w {q : Nat} {a b : St} (h : Fr WT a b) : Fr (WS q) a b := h.wd (by simp [within', WS, WT])
theorem WS_i {q : Nat} (a : St) (k : Nat) (v : Int32) : Fr (WS q) a (sI a q k v) := (Fr.ia a q k v).wd (by simp [within', WS])
theorem rt80 {s : St} (hT : Top s) (fu : Nat) {q B k v : Nat} (hq : gR s 134 1 = q) (hz : q ≠ 0) (hk : kd q = (100, 15)) (hB : B + k < 15) : b_X5_readTerm_80 fu 134 (nI B) (nI v) (nI k) s = some (sI s q (B + k) (gI s q (B + k) + nI v)) := by
  simp (disch := first | decide | omega) [isb, ck_tt, NP, NF, NC, NB, NS, GS, kdC, tpC hT, b_X5_readTerm_80, hq, hz, hk]
theorem readTerm_c {st : St} (hT : Top st) {b : BY} {n t : Nat} (h : TC b n 4000 t st) {fu : Nat} (hf : 4100 ≤ fu) {q B : Nat} (hq : gR st 134 1 = q) (hq2 : q = 135 ∨ q = 136) (hB : B ≤ 10) :
    ∃ u, f_X5_readTerm fu 134 2 (nI B) st = some u ∧ Top u ∧ Fr (WS q) st u ∧ ((∃ t' k v, TmOK b n t t' k v ∧ k ≤ 4 ∧ v ≤ 99999 ∧ (k ≠ 4 → v ≤ 100) ∧ (∀ j, gI u q j = if j = B + k then gI st q j + nI v else gI st q j) ∧ TC b n 4000 t' u) ∨ (∃ f p, TmBad b n t f p ∧ TD b n 4000 f p u)) := by
  have hn := h.1.2.1
  have hz : q ≠ 0 := by omega
  have hk : kd q = (100, 15) := by rcases hq2 with rfl | rfl <;> rfl
  have n2 : q ≠ 2 := by omega
  have n3 : q ≠ 3 := by omega
  have c3 := h.2.2.1
  have gq : ∀ s, Fr WT st s → gR s 134 1 = q ∧ gI s q = gI st q := fun s fr => ⟨by rw [(fr 134 1 (by decide)).2.2]; exact hq, by rcases hq2 with rfl | rfl <;> exact fr.fi _ (by decide)⟩
  -- the end of a term that is told: u = sI s q (B + k) ..
  have fin : ∀ (s : St) (t' k v : Nat), Fr WT st s → Top s → TC b n 4000 t' s → B + k < 15 → ∃ u, some (sI s q (B + k) (gI s q (B + k) + nI v)) = some u ∧ Top u ∧ Fr (WS q) st u ∧ (∀ j, gI u q j = if j = B + k then gI st q j + nI v else gI st q j) ∧ TC b n 4000 t' u := fun s t' k v fr hTs hC _ => by
    refine ⟨_, rfl, hTs.r rfl, WS_t (WS_w fr) (WS_i s _ _), fun j => ?_, hC.f2 (gI_sI_n _ _ _ (Ne.symm n2)) (gI_sI_n _ _ _ (Ne.symm n3))⟩
    rw [gI_sI, (gq s fr).2]
    by_cases e : j = B + k
    · rw [if_pos ⟨rfl, e⟩, if_pos e, e]
    · rw [if_neg (fun x => e x.2), if_neg e]
  have bad : ∀ (s : St) (f p k v : Nat), Fr WT st s → Top s → TD b n 4000 f p s → B + k < 15 → ∃ u, some (sI s q (B + k) (gI s q (B + k) + nI v)) = some u ∧ Top u ∧ Fr (WS q) st u ∧ TD b n 4000 f p u := fun s f p k v fr hTs hD _ => ⟨_, rfl, hTs.r rfl, WS_t (WS_w fr) (WS_i s _ _), hD.f2 (gI_sI_n _ _ _ (Ne.symm n2)) (gI_sI_n _ _ _ (Ne.symm n3))⟩
  obtain ⟨N1, N2, N3⟩ := number_c hT h hf (lo := 0) (hi := 99999) (by omega) (by omega)
  by_cases s2 : so b n t = 2
  · have v9 := nvt_99 s2
    obtain ⟨s, u1, u2⟩ := N1 s2 (Nat.zero_le _) v9
    obtain ⟨fr, hTs, hC⟩ := u2.go hn (by omega)
    obtain ⟨v, hv⟩ : ∃ v, v = nvt b n t := ⟨_, rfl⟩
    have u1' : f_X9_number fu 2 (nI 0) (nI 99999) st = some (nI v, s) := by rw [hv]; exact u1
    have sg := isSign_c hTs hC fu (c := 37) (by omega) (by omega)
    rw [← hv] at v9
    by_cases s37 : so b n (t + 1) = 37
    · rw [if_pos s37] at sg
      by_cases v100 : v ≤ 100
      · obtain ⟨s1, x1, x2⟩ := next_c hTs hC hf
        obtain ⟨fr1, hT1, hC1⟩ := x2.go hn (by omega)
        have fr1' := WTt fr fr1
        obtain ⟨W1, W2⟩ := needWord_c hT1 hC1 hf (w := 22) (by omega)
        by_cases w22 : isW b n (t + 2) 22
        · obtain ⟨s3, y1, y2⟩ := W1 w22
          obtain ⟨fr3, hT3, hC3⟩ := y2.go hn (by rw [w22.1]; decide)
          have fr3' := WTt fr1' fr3
          obtain ⟨V1, V2⟩ := takesWord_c hT3 hC3 hf (w := 23) (by omega)
          by_cases w23 : isW b n (t + 3) 23
          · obtain ⟨s4, z1, z2⟩ := V1 w23
            obtain ⟨fr4, hT4, hC4⟩ := z2.go hn (by rw [w23.1]; decide)
            have fr4' := WTt fr3' fr4
            have e80 := rt80 hT4 fu (B := B) (k := 3) (v := v) (gq s4 fr4').1 hz hk (by omega)
            obtain ⟨u, r1, r2, r3, r4, r5⟩ := fin s4 (t + 4) 3 v fr4' hT4 hC4 (by omega)
            refine ⟨u, ?_, r2, r3, Or.inl ⟨t + 4, 3, v, ⟨s2, hv, Or.inr ⟨s37, v100, w22, Or.inl ⟨w23, rfl, rfl⟩⟩⟩, by omega, v9, fun _ => v100, r4, r5⟩⟩
            rw [← r1, ← e80]
            clear fin bad N1 N2 N3 W1 W2 V1 V2 gq h hC hC1 hC3 hC4 r1 r2 r3 r4 r5 u2 x2 y2 z2 e80
            simp (disch := first | decide | omega) [isb, ck_tt, NP, NF, NC, NB, NS, GS, kdC, tpC hT, f_X5_readTerm, c3, u1', sg, x1, y1, z1]
          · have z1 := V2 w23
            obtain ⟨M1, M2, M3⟩ := number_c hT3 hC3 hf (lo := 0) (hi := 2) (by omega) (by omega)
            by_cases s32 : so b n (t + 3) = 2
            · by_cases k2 : nvt b n (t + 3) ≤ 2
              · obtain ⟨s4, m1, m2⟩ := M1 s32 (Nat.zero_le _) k2
                obtain ⟨fr4, hT4, hC4⟩ := m2.go hn (fun e => by have e2 : so b n (t + 3) = 0 := e; omega)
                have fr4' := WTt fr3' fr4
                obtain ⟨k, hkk⟩ : ∃ k, k = nvt b n (t + 3) := ⟨_, rfl⟩
                have m1' : f_X9_number fu 2 (nI 0) (nI 2) s3 = some (nI k, s4) := by rw [hkk]; exact m1
                rw [← hkk] at k2
                have e80 := rt80 hT4 fu (B := B) (k := k) (v := v) (gq s4 fr4').1 hz hk (by omega)
                obtain ⟨u, r1, r2, r3, r4, r5⟩ := fin s4 (t + 4) k v fr4' hT4 hC4 (by omega)
                refine ⟨u, ?_, r2, r3, Or.inl ⟨t + 4, k, v, ⟨s2, hv, Or.inr ⟨s37, v100, w22, Or.inr ⟨w23, s32, hkk, k2, rfl⟩⟩⟩, by omega, v9, fun _ => v100, r4, r5⟩⟩
                rw [← r1, ← e80]
                clear fin bad N1 N2 N3 W1 W2 V1 V2 M1 M2 M3 gq h hC hC1 hC3 hC4 r1 r2 r3 r4 r5 u2 x2 y2 m2 e80
                simp (disch := first | decide | omega) [isb, ck_tt, NP, NF, NC, NB, NS, GS, kdC, tpC hT, f_X5_readTerm, c3, u1', sg, x1, y1, z1, m1']
              · obtain ⟨s4, m1, fr4, hT4, hD4⟩ := M2 s32 (fun x => k2 x.2)
                have fr4' := WTt fr3' fr4
                have e80 := rt80 hT4 fu (B := B) (k := 0) (v := v) (gq s4 fr4').1 hz hk (by omega)
                obtain ⟨u, r1, r2, r3, r4⟩ := bad s4 2 _ 0 v fr4' hT4 hD4 (by omega)
                refine ⟨u, ?_, r2, r3, Or.inr ⟨2, _, Or.inr ⟨s2, s37, Or.inr (Or.inr ⟨by rw [← hv]; exact v100, w22, w23, Or.inr ⟨s32, by omega, rfl, rfl⟩⟩)⟩, r4⟩⟩
                rw [← r1, ← e80]
                clear fin bad N1 N2 N3 W1 W2 V1 V2 M1 M2 M3 gq h hC hC1 hC3 hD4 r1 r2 r3 r4 u2 x2 y2 e80
                simp (disch := first | decide | omega) [isb, ck_tt, NP, NF, NC, NB, NS, GS, kdC, tpC hT, f_X5_readTerm, c3, u1', sg, x1, y1, z1, m1]
            · obtain ⟨s4, m1, fr4, hT4, hD4⟩ := M3 s32
              have fr4' := WTt fr3' fr4
              have e80 := rt80 hT4 fu (B := B) (k := 0) (v := v) (gq s4 fr4').1 hz hk (by omega)
              obtain ⟨u, r1, r2, r3, r4⟩ := bad s4 1 _ 0 v fr4' hT4 hD4 (by omega)
              refine ⟨u, ?_, r2, r3, Or.inr ⟨1, _, Or.inr ⟨s2, s37, Or.inr (Or.inr ⟨by rw [← hv]; exact v100, w22, w23, Or.inl ⟨s32, rfl, rfl⟩⟩)⟩, r4⟩⟩
              rw [← r1, ← e80]
              clear fin bad N1 N2 N3 W1 W2 V1 V2 M1 M2 M3 gq h hC hC1 hC3 hD4 r1 r2 r3 r4 u2 x2 y2 e80
              simp (disch := first | decide | omega) [isb, ck_tt, NP, NF, NC, NB, NS, GS, kdC, tpC hT, f_X5_readTerm, c3, u1', sg, x1, y1, z1, m1]
        · obtain ⟨s3, y1, fr3, hT3, hD3⟩ := W2 w22
          have fr3' := WTt fr1' fr3
          have z1 := takesWord_d hT3 hD3 fu 23
          obtain ⟨s4, m1, fr4, hT4, hD4⟩ := number_d hT3 hD3 fu 0 2
          have m1' : f_X9_number fu 2 (nI 0) (nI 2) s3 = some (nI 0, s4) := m1
          have fr4' := WTt fr3' fr4
          have e80 := rt80 hT4 fu (B := B) (k := 0) (v := v) (gq s4 fr4').1 hz hk (by omega)
          obtain ⟨u, r1, r2, r3, r4⟩ := bad s4 1 _ 0 v fr4' hT4 hD4 (by omega)
          refine ⟨u, ?_, r2, r3, Or.inr ⟨1, _, Or.inr ⟨s2, s37, Or.inr (Or.inl ⟨by rw [← hv]; exact v100, w22, rfl, rfl⟩)⟩, r4⟩⟩
          rw [← r1, ← e80]
          clear fin bad N1 N2 N3 W1 W2 gq h hC hC1 hD3 hD4 r1 r2 r3 r4 u2 x2 e80
          simp (disch := first | decide | omega) [isb, ck_tt, NP, NF, NC, NB, NS, GS, kdC, tpC hT, f_X5_readTerm, c3, u1', sg, x1, y1, z1, m1']
      · obtain ⟨u, r1, r2, r3, r4⟩ := fail_c hTs hC.1 hC.2.1.1 fu (f := 2) (p := pl b n t) (by omega) (by omega) (pl_b b n t).2
        refine ⟨u, ?_, r3, WS_w (WTt fr r2), Or.inr ⟨2, _, Or.inr ⟨s2, s37, Or.inl ⟨by rw [← hv]; omega, rfl, rfl⟩⟩, r4⟩⟩
        clear fin bad N1 N2 N3 gq h hC r2 r3 r4 u2
        simp (disch := first | decide | omega) [isb, ck_tt, NP, NF, NC, NB, NS, GS, kdC, tpC hT, f_X5_readTerm, c3, u1', sg, r1]
    · rw [if_neg s37] at sg
      have q1 := (gq s fr).1
      obtain ⟨u, r1, r2, r3, r4, r5⟩ := fin s (t + 1) 4 v fr hTs hC (by omega)
      refine ⟨u, ?_, r2, r3, Or.inl ⟨t + 1, 4, v, ⟨s2, hv, Or.inl ⟨s37, rfl, rfl⟩⟩, by omega, v9, fun x => absurd rfl x, r4, r5⟩⟩
      rw [← r1]
      clear fin bad N1 N2 N3 gq h hC r1 r2 r3 r4 r5 u2
      simp (disch := first | decide | omega) [isb, ck_tt, NP, NF, NC, NB, NS, GS, kdC, tpC hT, f_X5_readTerm, c3, u1', sg, q1, hz, hk]
  · obtain ⟨s, u1, fr, hTs, hD⟩ := N3 s2
    have sg := isSign_d hTs hD fu (nI 37)
    have q1 := (gq s fr).1
    obtain ⟨u, r1, r2, r3, r4⟩ := bad s 1 _ 4 0 fr hTs hD (by omega)
    refine ⟨u, ?_, r2, r3, Or.inr ⟨1, _, Or.inl ⟨s2, rfl, rfl⟩, r4⟩⟩
    rw [← r1]
    clear fin bad N1 N2 N3 gq h hD r1 r2 r3 r4
    simp (disch := first | decide | omega) [isb, ck_tt, NP, NF, NC, NB, NS, GS, kdC, tpC hT, f_X5_readTerm, c3, u1, sg, q1, hz, hk]
theorem readTerm_d {st : St} (hT : Top st) {b : BY} {n f p : Nat} (h : TD b n 4000 f p st) {fu : Nat} {q B : Nat} (hq : gR st 134 1 = q) (hq2 : q = 135 ∨ q = 136) (hB : B ≤ 10) : ∃ u, f_X5_readTerm fu 134 2 (nI B) st = some u ∧ Top u ∧ Fr (WS q) st u ∧ TD b n 4000 f p u := by
  have hz : q ≠ 0 := by omega
  have hk : kd q = (100, 15) := by rcases hq2 with rfl | rfl <;> rfl
  have n2 : q ≠ 2 := by omega
  have n3 : q ≠ 3 := by omega
  obtain ⟨s, u1, fr, hTs, hD⟩ := number_d hT h fu (nI 0) (nI 99999)
  have sg := isSign_d hTs hD fu (nI 37)
  have q1 : gR s 134 1 = q := by rw [(fr 134 1 (by decide)).2.2]; exact hq
  refine ⟨sI s q (B + 4) (gI s q (B + 4) + nI 0), ?_, hTs.r rfl, WS_t (WS_w fr) (WS_i s _ _), hD.f2 (gI_sI_n _ _ _ (Ne.symm n2)) (gI_sI_n _ _ _ (Ne.symm n3))⟩
  clear h hD
  simp (disch := first | decide | omega) [isb, ck_tt, NP, NF, NC, NB, NS, GS, kdC, tpC hT, f_X5_readTerm, u1, sg, q1, hz, hk]
def ad (A : Nat → Nat) (j v : Nat) : Nat → Nat := fun x => if x = j then A x + v else A x
/-- at most j terms more, for the party whose block begins at B -/
def TsOK (b : BY) (n B : Nat) : Nat → Nat → Nat → (Nat → Nat) → (Nat → Nat) → Prop
  | 0, _, _, _, _ => False
  | j + 1, t, t', A, A' => ∃ t1 k v, TmOK b n t t1 k v ∧ k ≤ 4 ∧ v ≤ 99999 ∧ (k ≠ 4 → v ≤ 100) ∧ ((so b n t1 ≠ 43 ∧ t' = t1 ∧ A' = ad A (B + k) v) ∨ (so b n t1 = 43 ∧ TsOK b n B j (t1 + 1) t' (ad A (B + k) v) A'))
def TsBad (b : BY) (n : Nat) : Nat → Nat → Nat → Nat → Prop
  | 0, t, f, p => (so b n t = 2 ∧ f = 2 ∧ p = pl b n t) ∨ (so b n t ≠ 2 ∧ f = 1 ∧ p = pl b n t)
  | j + 1, t, f, p => TmBad b n t f p ∨ ∃ t1 k v, TmOK b n t t1 k v ∧ so b n t1 = 43 ∧ TsBad b n j (t1 + 1) f p
/-- what the spare block holds -/
def SqA (q : Nat) (A : Nat → Nat) (st : St) : Prop := ∀ j, j < 15 → gI st q j = nI (A j)
theorem readTerms_d {st : St} (hT : Top st) {b : BY} {n f p : Nat} (h : TD b n 4000 f p st) {fu : Nat} {q B : Nat} (hq : gR st 134 1 = q) (hq2 : q = 135 ∨ q = 136) (hB : B ≤ 10) (F : Nat) {i : Nat} (hi : i ≤ 4) : ∃ u, b_X5_readTerms_2 fu (F + 1) 134 2 (nI B) (nI i) st = some u ∧ Top u ∧ Fr (WS q) st u ∧ TD b n 4000 f p u := by
  obtain ⟨u, u1, u2, u3, u4⟩ := readTerm_d hT h (fu := fu) hq hq2 hB
  have tk := takes_d u2 u4 fu (nI 43)
  have c2 := h.2.2.2.2.2.2
  refine ⟨u, ?_, u2, u3, u4⟩
  show b_X5_readTerms_2_b fu (b_X5_readTerms_2 fu F) 134 2 (nI B) (nI i) st = _
  clear h u3 u4
  by_cases e : i = 4
  · subst e
    simp (disch := first | decide | omega) [isb, ck_tt, NP, NF, NC, NB, NS, GS, kdC, tpC hT, b_X5_readTerms_2_b, b_X5_readTerms_29, b_X5_readTerms_53, c2, u1, tk]
  · simp (disch := first | decide | omega) [isb, ck_tt, NP, NF, NC, NB, NS, GS, kdC, tpC hT, b_X5_readTerms_2_b, b_X5_readTerms_29, b_X5_readTerms_53, u1, tk]
theorem readTerms_l {b : BY} {n : Nat} {fu : Nat} (hf : 4100 ≤ fu) {q B : Nat} (hq2 : q = 135 ∨ q = 136) (hB : B ≤ 10) : ∀ (j F i t : Nat) (A : Nat → Nat) (st : St), i + j = 4 → j < F → Top st → TC b n 4000 t st → gR st 134 1 = q → SqA q A st → (∀ x, x < 15 → A x < 1000000 - 100000 * j) → ∃ u, b_X5_readTerms_2 fu F 134 2 (nI B) (nI i) st = some u ∧ Top u ∧ Fr (WS q) st u ∧ ((∃ t' A', TsOK b n B j t t' A A' ∧ SqA q A' u ∧ TC b n 4000 t' u) ∨ (∃ f p, TsBad b n j t f p ∧ TD b n 4000 f p u)) := by
  intro j
  induction j with
  | zero =>
    intro F i t A st hij hF hT h hq hA hb
    obtain ⟨G, rfl⟩ : ∃ G, F = G + 1 := ⟨F - 1, by omega⟩
    have i4 : i = 4 := by omega
    subst i4
    show ∃ u, b_X5_readTerms_2_b fu (b_X5_readTerms_2 fu G) 134 2 (nI B) (nI 4) st = some u ∧ _
    have c3 := h.2.2.1
    have c2 := h.2.2.2.2.1
    by_cases s2 : so b n t = 2
    · obtain ⟨s, r1, r2, r3, r4⟩ := fail_c hT h.1 h.2.1.1 fu (f := 2) (p := pl b n t) (by omega) (by omega) (pl_b b n t).2
      obtain ⟨u, u1, u2, u3, u4⟩ := readTerm_d r3 r4 (fu := fu) (q := q) (B := B) (by rw [(r2 134 1 (by decide)).2.2]; exact hq) hq2 hB
      have tk := takes_d u2 u4 fu (nI 43)
      refine ⟨u, ?_, u2, WS_t (WS_w r2) u3, Or.inr ⟨2, pl b n t, Or.inl ⟨s2, rfl, rfl⟩, u4⟩⟩
      rw [s2, show kc 2 = 2 from rfl] at c2
      clear h hA r2 r3 r4 u3 u4 hb
      simp (disch := first | decide | omega) [isb, ck_tt, NP, NF, NC, NB, NS, GS, kdC, tpC hT, b_X5_readTerms_2_b, b_X5_readTerms_29, b_X5_readTerms_53, c2, c3, r1, u1, tk]
    · obtain ⟨u, u1, u2, u3, u4⟩ := readTerm_c hT h hf hq hq2 hB
      rcases u4 with ⟨t', k, v, ⟨e, -⟩, -⟩ | ⟨f, p, hb2, u4⟩
      · exact absurd e s2
      · have tk := takes_d u2 u4 fu (nI 43)
        have hb3 : f = 1 ∧ p = pl b n t := by
          rcases hb2 with ⟨-, x, y⟩ | ⟨x, -⟩
          · exact ⟨x, y⟩
          · exact absurd x s2
        refine ⟨u, ?_, u2, u3, Or.inr ⟨f, p, Or.inr ⟨s2, hb3.1, hb3.2⟩, u4⟩⟩
        have k2 : kc (so b n t) ≠ 2 ∧ kc (so b n t) < 10 := by
          unfold kc
          by_cases h1 : so b n t = 3
          · rw [if_pos h1]; omega
          · rw [if_neg h1]
            by_cases h2 : 3 < so b n t
            · rw [if_pos h2]; omega
            · rw [if_neg h2]; omega
        clear h hA u3 u4 hb2 hb
        simp (disch := first | decide | omega) [isb, ck_tt, NP, NF, NC, NB, NS, GS, kdC, tpC hT, b_X5_readTerms_2_b, b_X5_readTerms_29, b_X5_readTerms_53, c2, u1, tk]
  | succ j ih =>
    intro F i t A st hij hF hT h hq hA hb
    obtain ⟨G, rfl⟩ : ∃ G, F = G + 1 := ⟨F - 1, by omega⟩
    show ∃ u, b_X5_readTerms_2_b fu (b_X5_readTerms_2 fu G) 134 2 (nI B) (nI i) st = some u ∧ _
    obtain ⟨s, u1, u2, u3, u4⟩ := readTerm_c hT h hf hq hq2 hB
    rcases u4 with ⟨t1, k, v, ok, k4, v9, v1, rd, hC⟩ | ⟨f, p, hb2, hD⟩
    · have hA1 : SqA q (ad A (B + k) v) s := fun x hx => by
        rw [rd, hA x hx]
        unfold ad
        by_cases e : x = B + k
        · rw [if_pos e, if_pos e, nI_add]
        · rw [if_neg e, if_neg e]
      have hb1 : ∀ x, x < 15 → ad A (B + k) v x < 1000000 - 100000 * j := fun x hx => by
        have := hb x hx
        unfold ad
        by_cases e : x = B + k
        · rw [if_pos e]; omega
        · rw [if_neg e]; omega
      obtain ⟨T1, T2⟩ := takes_c u2 hC hf (c := 43) (by omega) (by omega)
      by_cases s43 : so b n t1 = 43
      · obtain ⟨s', w1, w2⟩ := T1 s43
        obtain ⟨fr', hT', hC'⟩ := w2.go h.1.2.1 (by omega)
        have q' : gR s' 134 1 = q := by
          rw [(fr' 134 1 (by decide)).2.2, (u3 134 1 (by rcases hq2 with rfl | rfl <;> decide)).2.2]; exact hq
        have hA' : SqA q (ad A (B + k) v) s' := fun x hx => by
          rw [show gI s' q = gI s q by rcases hq2 with rfl | rfl <;> exact fr'.fi _ (by decide)]
          exact hA1 x hx
        obtain ⟨u, r1, r2, r3, r4⟩ := ih G (i + 1) (t1 + 1) (ad A (B + k) v) s' (by omega) (by omega) hT' hC' q' hA' hb1
        refine ⟨u, ?_, r2, WS_t u3 (WS_t (WS_w fr') r3), ?_⟩
        · rw [← r1]
          clear ih h hA r1 r2 r3 r4 u3 rd hC hC' hA1 hA' hb hb1 T1 T2 w2
          simp (disch := first | decide | omega) [isb, ck_tt, NP, NF, NC, NB, NS, GS, kdC, tpC hT, b_X5_readTerms_2_b, b_X5_readTerms_29, b_X5_readTerms_53, u1, w1]
        · rcases r4 with ⟨t', A', ok', rest⟩ | ⟨f, p, bd', rest⟩
          · exact Or.inl ⟨t', A', ⟨t1, k, v, ok, k4, v9, v1, Or.inr ⟨s43, ok'⟩⟩, rest⟩
          · exact Or.inr ⟨f, p, Or.inr ⟨t1, k, v, ok, s43, bd'⟩, rest⟩
      · have w1 := T2 s43
        refine ⟨s, ?_, u2, u3, Or.inl ⟨t1, ad A (B + k) v, ⟨t1, k, v, ok, k4, v9, v1, Or.inl ⟨s43, rfl, rfl⟩⟩, hA1, hC⟩⟩
        clear ih h hA u3 rd hC hA1 hb hb1 T1 T2
        simp (disch := first | decide | omega) [isb, ck_tt, NP, NF, NC, NB, NS, GS, kdC, tpC hT, b_X5_readTerms_2_b, b_X5_readTerms_29, b_X5_readTerms_53, u1, w1]
    · have tk := takes_d u2 hD fu (nI 43)
      refine ⟨s, ?_, u2, u3, Or.inr ⟨f, p, Or.inl hb2, hD⟩⟩
      clear ih h hA u3 hD hb2 hb
      simp (disch := first | decide | omega) [isb, ck_tt, NP, NF, NC, NB, NS, GS, kdC, tpC hT, b_X5_readTerms_2_b, b_X5_readTerms_29, b_X5_readTerms_53, u1, tk]
