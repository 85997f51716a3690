/-! PURE: lock, both -/
theorem lock_no {st : St} (hT : Top st) (hX : P_txt st) (hP : P_lk st) (fu : Nat) {a : Int32} (hc : f_X11_within fu a 0 7 st = some (nI 0, st)) (hr : ¬ (0 ≤ a ∧ a ≤ 7)) : Two (f_X11_lock fu 1 a) (f_X12_lock fu 153 a) W_lk (fun w => P_txt w ∧ P_lk w) st := by
  have e1 : f_X11_lock fu 1 a st = some (-nI 1, sI st 2 1 (nI 0)) := by
    clear hX hP
    simp (disch := first | decide | omega) [↓bd_e, isb, ck_tt, NP, NF, NC, NB, NS, GS, kdC, tpC hT, f_X11_lock, ↓caO hc]
  have hT1 : Top (sI st 2 1 (nI 0)) := hT.r rfl
  have e2 : f_X12_lock fu 153 a (sI st 2 1 (nI 0)) = some (-nI 1, sI (sI st 2 1 (nI 0)) 153 1 (nI 0)) := by
    unfold f_X12_lock b_X12_lock_10
    by_cases c : a < 0
    · rw [if_pos c, ck_t (show (kd 153).1 = 12 from rfl), bd_e]; rfl
    · have c7 : ¬ a ≤ 7 := fun z => hr ⟨by rw [Int32.lt_iff_toInt_lt] at c; rw [Int32.le_iff_toInt_le]; omega, z⟩
      rw [if_neg c, if_neg c7, ck_t (show (kd 153).1 = 12 from rfl), bd_e]; rfl
  have fw : Fr [(2, some 1), (153, some 1)] st (sI (sI st 2 1 (nI 0)) 153 1 (nI 0)) := ((Fr.i st 2 1 _).tr (Fr.i _ 153 1 _)).wd (by decide)
  refine ⟨_, _, _, e1, e2, fw.wd (by decide), hX.z (fw.fi 3 (by decide)) (fw.fi 154 (by decide)) ?_ ?_ ?_, hP.fr (fw.same (by decide))⟩
  · rw [gI_sI_n _ _ _ (by decide), gI_sI]; simp
  · rw [gI_sI]; simp
  · rw [fw.ki 2 8 (by decide), fw.ki 153 6 (by decide)]; exact hX.2.1
theorem FV2 {m : Nat} {s s3 : St} (f3 : Fr [(8 + 2 * m, some 12), (8 + 2 * m, some 13), (4, some 3)] s s3) (hm : m < 8) : gI s3 2 8 = gI s 2 8 := f3.ki 2 8 (by simp [covers] <;> omega)
set_option maxRecDepth 100000 in
theorem lock_2 {st : St} (hT : Top st) (hX : P_txt st) (hP : P_lk st) (fu : Nat) (hf : 9000 ≤ fu) (a : Int32) : Two (f_X11_lock fu 1 a) (f_X12_lock fu 153 a) W_lk (fun w => P_txt w ∧ P_lk w) st := by
  rcases rngN a 0 7 (by omega) (by omega) with ⟨m, -, hm, rfl, -⟩ | ⟨-, na⟩ | ⟨-, na⟩
  · have hm : m < 8 := by omega
    obtain ⟨⟨t1, t2, n, t3, t4⟩, tf, hB⟩ := id hX
    obtain ⟨⟨c1, c2, c3⟩, L, hC, hR⟩ := id hP
    obtain ⟨q, hq⟩ : ∃ q, q = gR st 4 3 := ⟨_, rfl⟩
    obtain ⟨o, ho⟩ : ∃ o, o = gR st (8 + 2 * m) 12 := ⟨_, rfl⟩
    rw [← hq] at c1
    have co := c2 m hm
    rw [← ho, ← hq] at co
    have e1 : f_X11_within fu (nI m) 0 7 st = some (nI 1, st) := win_y fu st (x := m) (lo := 0) (hi := 7) (by omega) (by omega) (by omega)
    obtain ⟨s, es, frs, hTs, cl⟩ := rl_c hT (b := gI st 3) (n := n) t4 t3 (fun _ _ => rfl) (fun i _ => hB i) (fu := fu) (by omega) c1.k co.1.k hm hq.symm ho.symm
    have FS : Fr V_lk st s := V_q c1 frs
    have s3e : gI s 3 = gI st 3 := FS.fi 3 (by decide)
    have call : ∀ s3 (r : Int32), f_X7_readLock fu 4 2 (nI m) st = some s3 → Top s3 → f_X11_closeText fu 1 (nI 0) s3 = some (r, sI s3 2 1 (nI 0)) → f_X11_lock fu 1 (nI m) st = some (r, sI s3 2 1 (nI 0)) := fun s3 r e hT3 ec => by
      clear hC hR cl frs FS hB
      simp (disch := first | decide | omega) [↓bd_e, isb, ck_tt, NP, NF, NC, NB, NS, GS, kdC, tpC hT, f_X11_lock, ↓caO e1, e, ec]
    cases hp : pLock (gI st 3) n with
    | inr e' =>
      obtain ⟨f, p⟩ := e'
      rw [hp] at cl
      have hD : TD (gI st 3) n 60 f p s := cl
      obtain ⟨dX, d8, d1, d3, d9, dp, -⟩ := hD
      have f0 : ¬ gI s 2 8 = nI 0 := by rw [d8]; intro e; have := (nI_eq (a := f) (b := 0) (by omega) (by omega)).mp e; omega
      rw [if_neg f0] at es
      have cc := close_c hTs fu (nI 0)
      rw [if_neg f0, d9] at cc
      have fC : Fr [(2, some 1)] s (sI s 2 1 (nI 0)) := Fr.i _ _ _ _
      obtain ⟨-, BAD⟩ := lock_r (hTs.r (u := sI s 2 1 (nI 0)) rfl) (b := gI st 3) (n := n) (by rw [fC.ki 153 1 (by decide), FS.ki 153 1 (by decide), ← t2]; exact t4) t3 (fun i _ => by rw [fC.fi 154 (by decide), FS.fi 154 (by decide), ← t1]) (fu := fu) (by omega) hm
      obtain ⟨w, w1, w2, w3, w4⟩ := BAD f p hp
      have fw : Fr W_lk st w := ((FS.tr fC).tr w2).wd (by decide)
      refine ⟨-10 - nI p, sI s 2 1 (nI 0), w, call s _ es hTs cc, w1, fw, hX.z ?_ ?_ ?_ w3 ?_, ?_⟩
      · rw [w2.fi 3 (by decide), fC.fi 3 (by decide)]; exact s3e
      · rw [w2.fi 154 (by decide), fC.fi 154 (by decide), FS.fi 154 (by decide)]
      · rw [w2.ki 2 1 (by decide), gI_sI]; simp
      · rw [w2.ki 2 8 (by decide), w4, fC.ki 2 8 (by decide)]; exact d8
      · -- scratch alone has changed
        have fr3 : Fr (((2, some 7) :: WK q) ++ [(2, some 1)] ++ WkB) st w := (frs.tr fC).tr w2
        have q4 := c1.k.h
        have qq := id c1
        obtain ⟨iq, -, hiq⟩ := qq
        have gR8 : ∀ k, k < 8 → gR w (8 + 2 * k) = gR st (8 + 2 * k) := fun k hk => fr3.fr (8 + 2 * k) (by simp [WK, WkB] <;> omega)
        have gI8 : ∀ k, k < 8 → gI w (8 + 2 * k) = gI st (8 + 2 * k) := fun k hk => fr3.fi (8 + 2 * k) (by simp [WK, WkB] <;> omega)
        have g4 : gR w 4 3 = gR st 4 3 := (fr3 4 3 (by simp [WK, WkB, covers] <;> omega)).2.2
        have gO : ∀ x, QC x → x ≠ q → gI w x = gI st x := fun x hx hn => by
          obtain ⟨i, hi, rfl⟩ := hx
          exact fr3.fi _ (by simp [WK, WkB] <;> omega)
        refine ⟨⟨by rw [g4, ← hq]; exact c1, fun k hk => by rw [gR8 k hk, g4]; exact c2 k hk, fun i k hi hk => by rw [gR8 i hi, gR8 k hk]; exact c3 i k hi hk⟩, L, fun k hk => ?_, hR.fr (((FS.tr fC).tr w2).same (by decide))⟩
        have ck : ∀ c, CK k c st → CK k c w := fun c ⟨a1, a2, Q, a3, a4, a5, a6⟩ => by
          refine ⟨a1, by rw [gI8 k hk]; exact a2, Q, by rw [gR8 k hk]; exact a3, a4, a5, fun i hi => ?_⟩
          rw [gO Q (by rw [← a3]; exact (c2 k hk).1) (by rw [← a3, hq]; exact (c2 k hk).2)]
          exact a6 i hi
        have := hC k hk
        cases e : L k with
        | none => rw [e] at this; exact ck _ this
        | some x => rw [e] at this; exact ⟨ck _ this.1, this.2⟩
    | inl x =>
      obtain ⟨x, t⟩ := x
      rw [hp] at cl
      obtain ⟨hTC, hG⟩ := cl
      have hTC : TC (gI st 3) n 60 t s := hTC
      have hG : CG q x.1 s := hG
      have d8 := hTC.2.1.1
      rw [if_pos d8] at es
      obtain ⟨s3, hs3⟩ : ∃ s3, s3 = sR (sI (sR s (8 + 2 * m) 12 q) (8 + 2 * m) 13 (gI s 4 4)) 4 3 o := ⟨_, rfl⟩
      rw [← hs3] at es
      have f3 : Fr [(8 + 2 * m, some 12), (8 + 2 * m, some 13), (4, some 3)] s s3 := by rw [hs3]; exact ((Fr.r s (8 + 2 * m) 12 q).tr (Fr.i _ (8 + 2 * m) 13 _)).tr (Fr.r _ 4 3 o)
      have FV : Fr V_lk s s3 := V_m hm f3
      have hT3 : Top s3 := hTs.fr (FV.same (by decide))
      have cc := close_c hT3 fu (nI 0)
      rw [FV2 f3 hm, if_pos d8] at cc
      have fC : Fr [(2, some 1)] s3 (sI s3 2 1 (nI 0)) := Fr.i _ _ _ _
      obtain ⟨OK, -⟩ := lock_r (hT3.r (u := sI s3 2 1 (nI 0)) rfl) (b := gI st 3) (n := n) (by rw [fC.ki 153 1 (by decide), FV.ki 153 1 (by decide), FS.ki 153 1 (by decide), ← t2]; exact t4) t3 (fun i _ => by rw [fC.fi 154 (by decide), FV.fi 154 (by decide), FS.fi 154 (by decide), ← t1]) (fu := fu) (by omega) hm
      obtain ⟨w, w1, w2, w3, w4, w5, w6, w7⟩ := OK x t hp
      have fw : Fr W_lk st w := (((FS.tt FV).tr fC).tr w2).wd (by decide)
      obtain ⟨gd1, gd2, gd3, gd4⟩ := pLock_t hp
      obtain ⟨iq, hiq, eq7⟩ := id c1
      obtain ⟨io, hio, eo7⟩ := id co.1
      refine ⟨nI 0, sI s3 2 1 (nI 0), w, call s3 _ es hT3 cc, w1, fw, hX.z ?_ ?_ ?_ w3 ?_, ?_⟩
      · rw [w2.fi 3 (by decide), fC.fi 3 (by decide), FV.fi 3 (by decide)]; exact s3e
      · rw [w2.fi 154 (by decide), fC.fi 154 (by decide), FV.fi 154 (by decide), FS.fi 154 (by decide)]
      · rw [w2.ki 2 1 (by decide), gI_sI]; simp
      · rw [w2.ki 2 8 (by decide), w4, fC.ki 2 8 (by decide), FV2 f3 hm]; exact d8
      · have gw : ∀ y, y < 100 → y ≠ 2 → gR w y = gR s3 y ∧ gI w y = gI s3 y := fun y hy h2 => by
          rw [w2.fr y (by simp [WkO, WkB] <;> omega), w2.fi y (by simp [WkO, WkB] <;> omega), fC.fr y (by simp <;> omega), fC.fi y (by simp <;> omega)]
          exact ⟨rfl, rfl⟩
        have g4 : gR w 4 3 = o := by rw [(gw 4 (by omega) (by omega)).1, hs3]; simp [gR_sR, gR_sI]
        have g8m : gR w (8 + 2 * m) 12 = q := by rw [(gw (8 + 2 * m) (by omega) (by omega)).1, hs3]; simp [gR_sR, gR_sI] <;> omega
        have g8l : gI w (8 + 2 * m) 13 = nI x.1.length := by
          rw [(gw (8 + 2 * m) (by omega) (by omega)).2, hs3, ← hG.2.1]
          simp [gI_sR, gI_sI]
        have gR8 : ∀ k, k < 8 → k ≠ m → gR w (8 + 2 * k) 12 = gR st (8 + 2 * k) 12 := fun k hk hn => by
          rw [(gw (8 + 2 * k) (by omega) (by omega)).1, f3.fr (8 + 2 * k) (by simp <;> omega), frs.fr (8 + 2 * k) (by simp [WK] <;> omega)]
        have gI8 : ∀ k, k < 8 → k ≠ m → gI w (8 + 2 * k) 13 = gI st (8 + 2 * k) 13 := fun k hk hn => by
          rw [(gw (8 + 2 * k) (by omega) (by omega)).2, f3.fi (8 + 2 * k) (by simp <;> omega), frs.fi (8 + 2 * k) (by simp [WK] <;> omega)]
        have gO : ∀ y, QC y → y ≠ q → gI w y = gI st y := fun y hy hn => by
          obtain ⟨i, hi, rfl⟩ := hy
          rw [(gw (7 + 2 * i) (by omega) (by omega)).2, f3.fi (7 + 2 * i) (by simp <;> omega), frs.fi (7 + 2 * i) (by simp [WK] <;> omega)]
        have gQ : gI w q = gI s q := by
          rw [(gw q (by omega) (by omega)).2, f3.fi q (by simp <;> omega)]
        refine ⟨⟨by rw [g4]; exact co.1, fun k hk => ?_, fun i k hi hk hn => ?_⟩, fun k => if k = m then some x else L k, fun k hk => ?_, fun k hk => ?_⟩
        · rw [g4]
          by_cases e : k = m
          · subst e; rw [g8m]; exact ⟨c1, fun z => co.2 z.symm⟩
          · rw [gR8 k hk e]
            exact ⟨(c2 k hk).1, by rw [ho]; exact c3 k m hk hm e⟩
        · by_cases ei : i = m
          · subst ei
            rw [g8m, gR8 k hk (fun z => hn z.symm), hq]
            exact fun z => (c2 k hk).2 z.symm
          · rw [gR8 i hi ei]
            by_cases ek : k = m
            · subst ek
              rw [g8m, hq]; exact (c2 i hi).2
            · rw [gR8 k hk ek]; exact c3 i k hi hk hn
        · by_cases e : k = m
          · subst e
            simp only [if_true]
            refine ⟨⟨by omega, g8l, q, g8m, c1.k.1, c1.k.2, fun i hi => ?_⟩, gd4⟩
            rw [gQ]; exact hG.2.2 i hi
          · simp only [if_neg e]
            have ck : ∀ c, CK k c st → CK k c w := fun c ⟨a1, a2, Q, a3, a4, a5, a6⟩ => by
              refine ⟨a1, by rw [gI8 k hk e]; exact a2, Q, by rw [gR8 k hk e]; exact a3, a4, a5, fun i hi => ?_⟩
              rw [gO Q (by rw [← a3]; exact (c2 k hk).1) (by rw [← a3, hq]; exact (c2 k hk).2)]
              exact a6 i hi
            have := hC k hk
            cases e : L k with
            | none => rw [e] at this; exact ck _ this
            | some x => rw [e] at this; exact ⟨ck _ this.1, this.2⟩
        · have b211 : ∀ y, y ≠ m → gI w 211 y = gI st 211 y := fun y hy => by
            rw [w5, if_neg hy, fC.fi 211 (by decide), FV.fi 211 (by decide), FS.fi 211 (by decide)]
          have b212 : ∀ y, (y < 61 * m ∨ 61 * m + 61 ≤ y) → gI w 212 y = gI st 212 y ∧ gL w 213 y = gL st 213 y := fun y hy => by
            rw [(w7 y hy).1, (w7 y hy).2, fC.fi 212 (by decide), FV.fi 212 (by decide), FS.fi 212 (by decide), fC.fl 213 (by decide), FV.fl 213 (by decide), FS.fl 213 (by decide)]
            exact ⟨rfl, rfl⟩
          by_cases e : k = m
          · subst e
            simp only [if_true]
            exact ⟨gI st 3, n, t, hp, by rw [w5, if_pos rfl], w6⟩
          · simp only [if_neg e]
            have := hR k hk
            cases eL : L k with
            | none => rw [eL] at this; show gI w 211 k = nI 0; rw [b211 k e]; exact this
            | some x =>
              rw [eL] at this
              obtain ⟨b', n', t', q1, q2, q3⟩ := this
              exact ⟨b', n', t', q1, by rw [b211 k e]; exact q2, q3.eq (fun i hi => b212 _ (by omega)) (pLock_t q1).2.1⟩
  · exact lock_no hT hX hP fu (win_n fu st na) na
  · exact lock_no hT hX hP fu (win_n fu st na) na
theorem axisAt_2 {st : St} (hT : Top st) (hP : P_lk st) (hE : P_ev st) (hA : P_ax st) (fu : Nat) (hf : 100 ≤ fu) (a b : Int32) : Two (f_X11_axisAt fu 1 a b) (f_X12_axisAt fu 153 a b) WLk (fun _ => True) st := axAt_2 hT hA (hP.LKA hT hE hA hf) a b
