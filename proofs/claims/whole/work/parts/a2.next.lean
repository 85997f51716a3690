/-! PURE: the class's tape: the next token -/
theorem char_n {j : Nat} (h : j ≤ 127) : ((nI j).toUInt32 % 65536).toInt32 = nI j := by
  have : ∀ j, j < 128 → ((nI j).toUInt32 % 65536).toInt32 = nI j := by decide +kernel
  exact this j (by omega)
theorem scan_c {st : St} (hT : Top st) {b : BY} {n : Nat} (h1 : gI st 2 1 = nI n) (h2 : n ≤ 4000) (h3 : ∀ i, i < n → gI st 3 i = b i) (h4 : ∀ i, i < n → b i ≤ nI 127) {fu : Nat} (hf : 4100 ≤ fu) {a p : Nat} (ha : a ≤ n) (hp : p = run (fun i => isBl (b i)) (n - a) a) : ∃ u, b_X9_next_36 fu fu 2 (nI a) st = some u ∧ Fr [(2, some 2), (2, some 3), (2, some 4), (2, some 5)] st u ∧ gI u 2 3 = nI p ∧ gI u 2 4 = nI (if p < n then tE b n p else n) ∧ gI u 2 2 = nI (kc (if p < n then tS b n p else 0)) ∧ ((if p < n then tS b n p else 0) = 2 → gI u 2 5 = nI (nv b p (tE b n p - p))) ∧ (3 < (if p < n then tS b n p else 0) → gI u 2 5 = nI (if p < n then tS b n p else 0)) := by
  have bl := blk_l hT h1 h2 h3 fu fu a ha (by omega)
  rw [← hp] at bl
  rw [bl]
  have pb : p ≤ n := by
    have := run_b (fun i => isBl (b i)) (n - a) a
    omega
  clear bl
  rcases Nat.lt_or_ge p n with hn | hn
  · simp only [if_pos hn]
    have g := h3 p hn
    have g4 := h4 p hn
    obtain ⟨s3, hs3⟩ : ∃ s3, s3 = sI st 2 3 (nI p) := ⟨_, rfl⟩
    have hT3 : Top s3 := hT.r (by rw [hs3]; rfl)
    have f3 : Fr [(2, some 3)] st s3 := by rw [hs3]; exact Fr.i st 2 3 _
    have a1 : gI s3 2 1 = nI n := by rw [f3.ki 2 1 (by decide)]; exact h1
    have a2 : gI s3 2 3 = nI p := by rw [hs3, gI_sI]; simp
    have a3 : ∀ i, i < n → gI s3 3 i = b i := fun i hi => by rw [f3.fi 3 (by decide)]; exact h3 i hi
    have tb := tE_b (b := b) hn
    cases hl : isLe (b p)
    · cases hd : isDi (b p)
      · -- neither: a sign, or no token
        have eE : tE b n p = p + 1 := by unfold tE; rw [hl, hd]; rfl
        have eS : tS b n p = sgC (b p) := by unfold tS; rw [hl, hd]; rfl
        rw [eE, eS]
        have st1 : b_X9_next_62 fu 2 (nI p) st = b_X9_next_134 fu 2 (nI p) (b p) s3 := by
          clear h3 h4 a3 tb
          rcases isLe_f hl with x | ⟨x, y⟩
          · rcases isDi_f hd with z | ⟨z, w⟩
            · simp (disch := first | decide | omega) [isb, ck_tt, NP, NF, NC, NB, NS, GS, kdC, tpC hT, b_X9_next_62, b_X9_next_115, h1, g, x, z, hs3]
            · simp (disch := first | decide | omega) [isb, ck_tt, NP, NF, NC, NB, NS, GS, kdC, tpC hT, b_X9_next_62, b_X9_next_115, h1, g, x, z, w, hs3]
          · rcases isDi_f hd with z | ⟨z, w⟩
            · simp (disch := first | decide | omega) [isb, ck_tt, NP, NF, NC, NB, NS, GS, kdC, tpC hT, b_X9_next_62, b_X9_next_115, h1, g, x, y, z, hs3]
            · simp (disch := first | decide | omega) [isb, ck_tt, NP, NF, NC, NB, NS, GS, kdC, tpC hT, b_X9_next_62, b_X9_next_115, h1, g, x, y, z, w, hs3]
        rw [st1]
        have fin : ∀ k : Nat, ∃ u, b_X9_next_154 fu 2 (nI p) (b p) 2 (nI k) s3 = some u ∧ Fr [(2, some 2), (2, some 3), (2, some 4), (2, some 5)] st u ∧ gI u 2 3 = nI p ∧ gI u 2 4 = nI (p + 1) ∧ gI u 2 2 = nI k ∧ gI u 2 5 = b p := fun k => by
          refine ⟨sI (sI (sI s3 2 2 (nI k)) 2 5 (b p)) 2 4 (nI (p + 1)), ?_, (((f3.tr (Fr.i s3 2 2 _)).tr (Fr.i _ 2 5 _)).tr (Fr.i _ 2 4 _)).wd (by decide), ?_, ?_, ?_, ?_⟩
          · clear h3 h4 a3
            have hT := hT3
            simp (disch := first | decide | omega) [isb, ck_tt, NP, NF, NC, NB, NS, GS, kdC, tpC hT, b_X9_next_154, b_X9_next_169]
          · simp [gI_sI, a2]
          · simp [gI_sI]
          · simp [gI_sI]
          · simp [gI_sI]
        rcases rngN (b p) 1 127 (by omega) (by omega) with ⟨j, j1, j2, j3, -⟩ | ⟨x, -⟩ | ⟨⟨-, x⟩, -⟩
        · obtain ⟨i1, i2⟩ := idx_c (st := s3) (fu := fu) (by omega) j1 j2
          have pos : (nI j ≤ nI 0) = False := le_fI (by omega)
          have ch := char_n j2
          rcases sgC_v (b p) with e | ⟨e1, e2⟩
          · obtain ⟨u, u1, u2, u3, u4, u5, u6⟩ := fin 4
            refine ⟨u, ?_, u2, u3, u4, by rw [e]; exact u5, by rw [e]; intro h; exact absurd h (by decide), by rw [e]; intro h; exact absurd h (by decide)⟩
            rw [j3] at e u1 ⊢
            have i3 := i2 e
            rw [← u1]
            clear h3 h4 a3 fin st1 i1 i2
            simp (disch := first | decide | omega) [NF, NC, NB, b_X9_next_134, b_X9_next_153, ck_tt, NP, pos, ch, i3]
          · have sb := sgL_b _ e1
            obtain ⟨u, u1, u2, u3, u4, u5, u6⟩ := fin 3
            have k3 : kc (sgC (b p)) = 3 := by unfold kc; rw [if_neg (by omega), if_pos (by omega)]
            refine ⟨u, ?_, u2, u3, u4, by rw [k3]; exact u5, fun h => by omega, fun _ => by rw [u6]; exact e2⟩
            rw [j3] at e1 e2 u1 sb ⊢
            obtain ⟨i, i3, i4⟩ := i1 (by omega)
            rw [← u1]
            clear h3 h4 a3 fin st1 i1 i2
            simp (disch := first | decide | omega) [NF, NC, NB, b_X9_next_134, b_X9_next_153, ck_tt, NP, pos, ch, i3]
        · have neg : (b p ≤ nI 0) = True := eq_true (by
            rw [i32_le]
            have := i32_lt.mp x
            have e1 : (nI 1).toInt = 1 := by decide
            have e0 : (nI 0).toInt = 0 := by decide
            omega)
          have e : sgC (b p) = 3 := by
            rcases sgC_v (b p) with e | ⟨e1, e2⟩
            · exact e
            · exfalso
              have sb := sgL_b _ e1
              have := i32_lt.mp x
              rw [e2, nI_toInt (by omega), nI_toInt (by omega)] at this
              omega
          obtain ⟨u, u1, u2, u3, u4, u5, u6⟩ := fin 4
          refine ⟨u, ?_, u2, u3, u4, by rw [e]; exact u5, by rw [e]; intro h; exact absurd h (by decide), by rw [e]; intro h; exact absurd h (by decide)⟩
          rw [← u1]
          clear h3 h4 a3 fin st1
          simp (disch := first | decide | omega) [NF, NC, NB, b_X9_next_134, b_X9_next_153, neg]
        · exfalso
          have q1 := i32_lt.mp x
          have q2 := i32_le.mp g4
          omega
      · -- a number
        have eE : tE b n p = run (fun i => isDi (b i)) (n - p) p := by unfold tE; rw [hl, hd]; rfl
        have nl := num_l hT3 a1 h2 a3 fu (p := p) fu p (Nat.le_refl _) (by omega) (by omega)
        rw [Nat.sub_self, ← eE] at nl
        have st1 : b_X9_next_62 fu 2 (nI p) st = b_X9_scanNumber_63 fu 2 (nI (tE b n p)) (nI (nv b p (tE b n p - p))) s3 ∨ True := Or.inr trivial
        obtain ⟨z, w⟩ := isDi_t hd
        have fin : ∀ (k : Nat), ∃ u, b_X9_scanNumber_115 fu 2 (nI (tE b n p)) (nI (nv b p (tE b n p - p))) 2 (nI k) s3 = some u ∧ Fr [(2, some 2), (2, some 3), (2, some 4), (2, some 5)] st u ∧ gI u 2 3 = nI p ∧ gI u 2 4 = nI (tE b n p) ∧ gI u 2 2 = nI k ∧ gI u 2 5 = nI (nv b p (tE b n p - p)) := fun k => by
          refine ⟨sI (sI (sI s3 2 2 (nI k)) 2 5 (nI (nv b p (tE b n p - p)))) 2 4 (nI (tE b n p)), ?_, (((f3.tr (Fr.i s3 2 2 _)).tr (Fr.i _ 2 5 _)).tr (Fr.i _ 2 4 _)).wd (by decide), ?_, ?_, ?_, ?_⟩
          · clear h3 h4 a3 nl
            have hT := hT3
            simp (disch := first | decide | omega) [isb, ck_tt, NP, NF, NC, NB, NS, GS, kdC, tpC hT, b_X9_scanNumber_115]
          · simp [gI_sI, a2]
          · simp [gI_sI]
          · simp [gI_sI]
          · simp [gI_sI]
        have nb := nv_le b p (tE b n p - p)
        -- what follows the digits
        have lt : (b_X9_scanNumber_63 fu 2 (nI (tE b n p)) (nI (nv b p (tE b n p - p))) s3 = b_X9_scanNumber_98 fu 2 (nI (tE b n p)) (nI (nv b p (tE b n p - p))) (nI 1) s3 ∧ tE b n p < n ∧ isLe (b (tE b n p)) = true) ∨ (b_X9_scanNumber_63 fu 2 (nI (tE b n p)) (nI (nv b p (tE b n p - p))) s3 = b_X9_scanNumber_98 fu 2 (nI (tE b n p)) (nI (nv b p (tE b n p - p))) (nI 0) s3 ∧ ¬ (tE b n p < n ∧ isLe (b (tE b n p)) = true)) := by
          clear fin nl st1
          have hT := hT3
          rcases Nat.lt_or_ge (tE b n p) n with q | q
          · have g2 := a3 _ q
            clear h3 h4 a3
            cases hx : isLe (b (tE b n p))
            · right
              refine ⟨?_, fun h => by simpa using h.2⟩
              rcases isLe_f hx with x | ⟨x, y⟩
              · simp (disch := first | decide | omega) [isb, ck_tt, NP, NF, NC, NB, NS, GS, kdC, tpC hT, b_X9_scanNumber_63, b_X9_scanNumber_97, a1, g2, x]
              · simp (disch := first | decide | omega) [isb, ck_tt, NP, NF, NC, NB, NS, GS, kdC, tpC hT, b_X9_scanNumber_63, b_X9_scanNumber_97, a1, g2, x, y]
            · left
              obtain ⟨x, y⟩ := isLe_t hx
              refine ⟨?_, q, rfl⟩
              simp (disch := first | decide | omega) [isb, ck_tt, NP, NF, NC, NB, NS, GS, kdC, tpC hT, b_X9_scanNumber_63, b_X9_scanNumber_97, a1, g2, x, y]
          · right
            refine ⟨?_, fun h => by omega⟩
            clear h3 h4 a3
            simp (disch := first | decide | omega) [isb, ck_tt, NP, NF, NC, NB, NS, GS, kdC, tpC hT, b_X9_scanNumber_63, b_X9_scanNumber_97, a1]
        have ent : ∀ u, b_X9_scanNumber_63 fu 2 (nI (tE b n p)) (nI (nv b p (tE b n p - p))) s3 = some u → b_X9_next_62 fu 2 (nI p) st = some u := fun u hu => by
          rw [← nl] at hu
          have nl' : f_X9_scanNumber fu 2 s3 = some u := by
            have hT := hT3
            clear h3 h4 a3 fin lt nl st1
            unfold f_X9_scanNumber
            simp (disch := first | decide | omega) [isb, ck_tt, NP, NF, NC, NB, NS, GS, kdC, tpC hT, a2]
            exact hu
          clear h3 h4 a3 fin lt nl hu
          have z0 : (b p < nI 97) = True := by
            obtain ⟨j, j1, j2, j3⟩ := isDi_n hd
            rw [j3]
            exact lt_tI (by omega)
          rw [hs3] at nl'
          simp (disch := first | decide | omega) [isb, ck_tt, NP, NF, NC, NB, NS, GS, kdC, tpC hT, b_X9_next_62, b_X9_next_115, b_X9_next_169, h1, g, z0, z, w, nl']
        by_cases hbad : 99999 < nv b p (tE b n p - p) ∨ (tE b n p < n ∧ isLe (b (tE b n p)) = true)
        · have eS : tS b n p = 3 := by unfold tS; rw [hl, hd]; simp only [Bool.false_eq_true, if_false, if_true]; rw [if_pos hbad]
          rw [eS]
          obtain ⟨u, u1, u2, u3, u4, u5, u6⟩ := fin 4
          refine ⟨u, ent u ?_, u2, u3, u4, u5, fun h => absurd h (by decide), fun h => absurd h (by decide)⟩
          rw [← u1]
          clear h3 h4 a3 fin nl ent
          rcases lt with ⟨l1, l2⟩ | ⟨l1, l2⟩
          · rw [l1]
            by_cases q : 99999 < nv b p (tE b n p - p)
            · simp (disch := first | decide | omega) [NF, NC, NB, b_X9_scanNumber_98, b_X9_scanNumber_110]
            · simp (disch := first | decide | omega) [NF, NC, NB, b_X9_scanNumber_98, b_X9_scanNumber_110]
          · rw [l1]
            have q : 99999 < nv b p (tE b n p - p) := by
              rcases hbad with q | q
              · exact q
              · exact absurd q l2
            simp (disch := first | decide | omega) [NF, NC, NB, b_X9_scanNumber_98, b_X9_scanNumber_110]
        · have eS : tS b n p = 2 := by unfold tS; rw [hl, hd]; simp only [Bool.false_eq_true, if_false, if_true]; rw [if_neg hbad]
          rw [eS]
          obtain ⟨u, u1, u2, u3, u4, u5, u6⟩ := fin 2
          refine ⟨u, ent u ?_, u2, u3, u4, u5, fun _ => u6, fun h => absurd h (by decide)⟩
          rw [← u1]
          clear h3 h4 a3 fin nl ent
          rcases lt with ⟨l1, l2⟩ | ⟨l1, l2⟩
          · exact absurd (Or.inr l2) hbad
          · rw [l1]
            have q : ¬ 99999 < nv b p (tE b n p - p) := fun q => hbad (Or.inl q)
            simp (disch := first | decide | omega) [NF, NC, NB, b_X9_scanNumber_98, b_X9_scanNumber_110]
    · -- a word
      have eE : tE b n p = run (fun i => isLe (b i)) (n - p) p := by unfold tE; rw [hl]; rfl
      have wl := wrd_l hT3 a1 h2 a3 fu fu p (by omega) (by omega)
      rw [← eE] at wl
      obtain ⟨x, y⟩ := isLe_t hl
      have fin : ∀ (k : Nat), ∃ u, b_X9_scanWord_58 fu 2 (nI (tE b n p)) 2 (nI k) s3 = some u ∧ Fr [(2, some 2), (2, some 3), (2, some 4), (2, some 5)] st u ∧ gI u 2 3 = nI p ∧ gI u 2 4 = nI (tE b n p) ∧ gI u 2 2 = nI k := fun k => by
        refine ⟨sI (sI s3 2 2 (nI k)) 2 4 (nI (tE b n p)), ?_, ((f3.tr (Fr.i s3 2 2 _)).tr (Fr.i _ 2 4 _)).wd (by decide), ?_, ?_, ?_⟩
        · clear h3 h4 a3 wl
          have hT := hT3
          simp (disch := first | decide | omega) [isb, ck_tt, NP, NF, NC, NB, NS, GS, kdC, tpC hT, b_X9_scanWord_58]
        · simp [gI_sI, a2]
        · simp [gI_sI]
        · simp [gI_sI]
      have ent : ∀ u, b_X9_scanWord_41 fu 2 (nI (tE b n p)) s3 = some u → b_X9_next_62 fu 2 (nI p) st = some u := fun u hu => by
        rw [← wl] at hu
        have wl' : f_X9_scanWord fu 2 s3 = some u := by
          have hT := hT3
          clear h3 h4 a3 fin wl
          unfold f_X9_scanWord
          simp (disch := first | decide | omega) [isb, ck_tt, NP, NF, NC, NB, NS, GS, kdC, tpC hT, a2]
          exact hu
        clear h3 h4 a3 fin wl hu
        rw [hs3] at wl'
        simp (disch := first | decide | omega) [isb, ck_tt, NP, NF, NC, NB, NS, GS, kdC, tpC hT, b_X9_next_62, b_X9_next_169, h1, g, x, y, wl']
      by_cases h12 : tE b n p - p ≤ 12
      · have eS : tS b n p = 1 := by unfold tS; rw [hl]; simp only [if_true]; rw [if_pos h12]
        rw [eS]
        obtain ⟨u, u1, u2, u3, u4, u5⟩ := fin 1
        refine ⟨u, ent u ?_, u2, u3, u4, u5, fun h => absurd h (by decide), fun h => absurd h (by decide)⟩
        rw [← u1]
        clear h3 h4 a3 fin wl ent
        have hT := hT3
        simp (disch := first | decide | omega) [isb, ck_tt, NP, NF, NC, NB, NS, GS, kdC, tpC hT, b_X9_scanWord_41, a2]
      · have eS : tS b n p = 3 := by unfold tS; rw [hl]; simp only [if_true]; rw [if_neg h12]
        rw [eS]
        obtain ⟨u, u1, u2, u3, u4, u5⟩ := fin 4
        refine ⟨u, ent u ?_, u2, u3, u4, u5, fun h => absurd h (by decide), fun h => absurd h (by decide)⟩
        rw [← u1]
        clear h3 h4 a3 fin wl ent
        have hT := hT3
        simp (disch := first | decide | omega) [isb, ck_tt, NP, NF, NC, NB, NS, GS, kdC, tpC hT, b_X9_scanWord_41, a2]
  · have e : p = n := by omega
    subst e
    simp only [Nat.lt_irrefl, if_false]
    refine ⟨sI (sI (sI st 2 3 (nI p)) 2 2 (nI 0)) 2 4 (nI p), ?_, (((Fr.i st 2 3 _).tr (Fr.i _ 2 2 _)).tr (Fr.i _ 2 4 _)).wd (by decide), ?_, ?_, ?_, fun h => absurd h (by decide), fun h => absurd h (by decide)⟩
    · clear h3 h4
      simp (disch := first | decide | omega) [isb, ck_tt, NP, NF, NC, NB, NS, GS, kdC, tpC hT, b_X9_next_62, h1]
    · simp [gI_sI]
    · simp [gI_sI]
    · simp [gI_sI, kc]
