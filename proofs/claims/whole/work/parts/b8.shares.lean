/-! PURE: shares: the call -/
theorem sh6 {fu : Nat} : ∀ (F i : Nat) (st : St), Top st → i ≤ 3 → 3 - i < F → (∀ k, k < i → gL st 246 k = lN 0 ∧ gL st 248 k = lN 0 ∧ gI st 249 k = nI 0) → ∃ u, b_X12_shares_6 fu F 153 (nI i) st = b_X12_shares_40 fu fu 153 (nI 0) u ∧ Top u ∧ Fr [(246, none), (248, none), (249, none)] st u ∧ ∀ k, k < 3 → gL u 246 k = lN 0 ∧ gL u 248 k = lN 0 ∧ gI u 249 k = nI 0 := by
  intro F
  induction F with
  | zero => intro i st _ h1 h2; omega
  | succ F ih =>
    intro i st hT hi hF hz
    show ∃ u, b_X12_shares_6_b fu (b_X12_shares_6 fu F) 153 (nI i) st = _ ∧ _
    rcases Nat.lt_or_ge i 3 with q | q
    · have fr : Fr [(246, none), (248, none), (249, none)] st (sI (sL (sL st 246 i (lN 0)) 248 i (lN 0)) 249 i (nI 0)) := (((Fr.l st 246 i _).tr (Fr.l _ 248 i _)).tr (Fr.i _ 249 i _)).wd (by simp [within'])
      have hTu : Top (sI (sL (sL st 246 i (lN 0)) 248 i (lN 0)) 249 i (nI 0)) := hT.r rfl
      obtain ⟨u, u1, u2, u3, u4⟩ := ih (i + 1) _ hTu (by omega) (by omega) (fun k hk => by
        rw [gI_sI, gL_sI, gL_sL, gL_sL, gL_sL, gL_sL]
        by_cases e : k = i
        · subst e; simp
        · simp only [e, and_false, if_false, gI_sL]
          exact hz k (by omega))
      refine ⟨u, ?_, u2, (fr.tr u3).wd (by decide), u4⟩
      rw [← u1]
      clear ih hz u1 u4 fr
      simp (disch := first | decide | omega) [isb, ck_tt, NP, NF, NC, NB, NS, GS, kdR, tpR hT, b_X12_shares_6_b, LF]
    · have e : i = 3 := by omega
      subst e
      refine ⟨st, ?_, hT, Fr.rf, hz⟩
      clear ih hz
      simp (disch := first | decide | omega) [isb, ck_tt, NP, NF, NC, NB, NS, GS, kdR, tpR hT, b_X12_shares_6_b]
theorem sh40 {fu : Nat} : ∀ (F i : Nat) (st : St), Top st → i ≤ 9 → 9 - i < F → (∀ k, k < i → gL st 247 k = lN 0) → ∃ u, b_X12_shares_40 fu F 153 (nI i) st = b_X12_shares_61 fu fu 153 (nI 0) u ∧ Top u ∧ Fr [(247, none)] st u ∧ ∀ k, k < 9 → gL u 247 k = lN 0 := by
  intro F
  induction F with
  | zero => intro i st _ h1 h2; omega
  | succ F ih =>
    intro i st hT hi hF hz
    show ∃ u, b_X12_shares_40_b fu (b_X12_shares_40 fu F) 153 (nI i) st = _ ∧ _
    rcases Nat.lt_or_ge i 9 with q | q
    · have fr : Fr [(247, none)] st (sL st 247 i (lN 0)) := (Fr.l st 247 i _).wd (by simp [within'])
      obtain ⟨u, u1, u2, u3, u4⟩ := ih (i + 1) (sL st 247 i (lN 0)) (hT.r rfl) (by omega) (by omega) (fun k hk => by
        rw [gL_sL]
        by_cases e : k = i
        · subst e; simp
        · simp only [e, and_false, if_false]
          exact hz k (by omega))
      refine ⟨u, ?_, u2, (fr.tr u3).wd (by decide), u4⟩
      rw [← u1]
      clear ih hz u1 u4 fr
      simp (disch := first | decide | omega) [isb, ck_tt, NP, NF, NC, NB, NS, GS, kdR, tpR hT, b_X12_shares_40_b, LF]
    · have e : i = 9 := by omega
      subst e
      refine ⟨st, ?_, hT, Fr.rf, hz⟩
      clear ih hz
      simp (disch := first | decide | omega) [isb, ck_tt, NP, NF, NC, NB, NS, GS, kdR, tpR hT, b_X12_shares_40_b]
theorem sh293 {fu : Nat} (m : Int32) : ∀ (F i : Nat) (st : St), Top st → i ≤ 9 → 9 - i < F → (∀ k, k < i → gL st 244 k = gL st 247 k) → ∃ u, b_X12_shares_293 fu F 153 m (nI i) st = some (m, u) ∧ Top u ∧ Fr [(244, none)] st u ∧ ∀ k, k < 9 → gL u 244 k = gL st 247 k := by
  intro F
  induction F with
  | zero => intro i st _ h1 h2; omega
  | succ F ih =>
    intro i st hT hi hF hz
    show ∃ u, b_X12_shares_293_b fu (b_X12_shares_293 fu F) 153 m (nI i) st = _ ∧ _
    rcases Nat.lt_or_ge i 9 with q | q
    · have fr : Fr [(244, none)] st (sL st 244 i (gL st 247 i)) := (Fr.l st 244 i _).wd (by simp [within'])
      have e7 : ∀ k, gL (sL st 244 i (gL st 247 i)) 247 k = gL st 247 k := fun k => by rw [gL_sL, if_neg (by simp)]
      obtain ⟨u, u1, u2, u3, u4⟩ := ih (i + 1) (sL st 244 i (gL st 247 i)) (hT.r rfl) (by omega) (by omega) (fun k hk => by
        rw [e7, gL_sL]
        by_cases e : k = i
        · subst e; simp
        · simp only [e, and_false, if_false]
          exact hz k (by omega))
      refine ⟨u, ?_, u2, (fr.tr u3).wd (by decide), fun k hk => by rw [u4 k hk, e7]⟩
      rw [← u1]
      clear ih hz u1 u4 fr e7
      simp (disch := first | decide | omega) [isb, ck_tt, NP, NF, NC, NB, NS, GS, kdR, tpR hT, b_X12_shares_293_b]
    · have e : i = 9 := by omega
      subst e
      refine ⟨st, ?_, hT, Fr.rf, hz⟩
      clear ih hz
      simp (disch := first | decide | omega) [isb, ck_tt, NP, NF, NC, NB, NS, GS, kdR, tpR hT, b_X12_shares_293_b]
theorem sh256 {fu : Nat} (m : Int32) : ∀ (F i : Nat) (st : St), Top st → i ≤ 3 → 3 - i < F → (∀ k, k < i → gL st 243 k = gL st 246 k ∧ gL st 245 k = gL st 248 k) → ∃ u, b_X12_shares_256 fu F 153 m (nI i) st = b_X12_shares_293 fu fu 153 m (nI 0) u ∧ Top u ∧ Fr [(243, none), (245, none)] st u ∧ ∀ k, k < 3 → gL u 243 k = gL st 246 k ∧ gL u 245 k = gL st 248 k := by
  intro F
  induction F with
  | zero => intro i st _ h1 h2; omega
  | succ F ih =>
    intro i st hT hi hF hz
    show ∃ u, b_X12_shares_256_b fu (b_X12_shares_256 fu F) 153 m (nI i) st = _ ∧ _
    rcases Nat.lt_or_ge i 3 with q | q
    · have fr : Fr [(243, none), (245, none)] st (sL (sL st 243 i (gL st 246 i)) 245 i (gL st 248 i)) := ((Fr.l st 243 i _).tr (Fr.l _ 245 i _)).wd (by simp [within'])
      have e8 : gL (sL st 243 i (gL st 246 i)) 248 i = gL st 248 i := by rw [gL_sL, if_neg (by simp)]
      have eA : ∀ k, gL (sL (sL st 243 i (gL st 246 i)) 245 i (gL st 248 i)) 246 k = gL st 246 k := fun k => by rw [gL_sL, if_neg (by simp), gL_sL, if_neg (by simp)]
      have eB : ∀ k, gL (sL (sL st 243 i (gL st 246 i)) 245 i (gL st 248 i)) 248 k = gL st 248 k := fun k => by rw [gL_sL, if_neg (by simp), gL_sL, if_neg (by simp)]
      obtain ⟨u, u1, u2, u3, u4⟩ := ih (i + 1) (sL (sL st 243 i (gL st 246 i)) 245 i (gL st 248 i)) (hT.r rfl) (by omega) (by omega) (fun k hk => by
        rw [eA, eB, gL_sL, gL_sL, gL_sL, gL_sL]
        by_cases e : k = i
        · subst e; simp
        · simp only [e, and_false, if_false]
          exact hz k (by omega))
      refine ⟨u, ?_, u2, (fr.tr u3).wd (by decide), fun k hk => by rw [(u4 k hk).1, (u4 k hk).2, eA, eB]; exact ⟨rfl, rfl⟩⟩
      rw [← u1]
      clear ih hz u1 u4 fr eA eB
      simp (disch := first | decide | omega) [isb, ck_tt, NP, NF, NC, NB, NS, GS, kdR, tpR hT, b_X12_shares_256_b, e8]
    · have e : i = 3 := by omega
      subst e
      refine ⟨st, ?_, hT, Fr.rf, hz⟩
      clear ih hz
      simp (disch := first | decide | omega) [isb, ck_tt, NP, NF, NC, NB, NS, GS, kdR, tpR hT, b_X12_shares_256_b]
def P_byte (st : St) : Prop := ∀ k, gI st 3 k ≤ nI 127
def WXs : List PL := [(153, some 1), (153, some 5), (153, some 6), (153, some 7), (153, some 8), (155, none), (156, none), (157, none), (243, none), (244, none), (245, none), (246, none), (247, none), (248, none), (249, none)]
set_option maxRecDepth 100000 in
theorem shares_r {st : St} (hT : Top st) {b : BY} {n : Nat} (h1 : gI st 153 1 = nI n) (h2 : n ≤ 4000) (h3 : ∀ i, i < n → gI st 154 i = b i) {fu : Nat} (hf : 9000 ≤ fu) : (∀ S' A', EnOK b n 4 (fun _ => false) 0 (fun _ => 0) S' A' → ∃ u, f_X12_shares fu 153 st = some (nI (nS S'), u) ∧ Fr WXs st u ∧ gI u 153 1 = nI 0 ∧ gI u 153 6 = nI 0 ∧ ∀ p, p < 3 → gL u 243 p = lN (A' (5 * p + 3)) ∧ gL u 245 p = lN (A' (5 * p + 4)) ∧ ∀ q, q < 3 → gL u 244 (3 * p + q) = lN (A' (5 * p + q))) ∧ (∀ f p, EnBad b n 4 (fun _ => false) 0 (fun _ => 0) f p → ∃ u, f_X12_shares fu 153 st = some (-10 - nI p, u) ∧ Fr WXs st u ∧ gI u 153 1 = nI 0 ∧ gI u 153 6 = nI f ∧ gL u 243 = gL st 243 ∧ gL u 244 = gL st 244 ∧ gL u 245 = gL st 245) := by
  obtain ⟨s1, T, e1, fr1, hT1, hX, z1, z5, z6, z7, z8⟩ := read_r hT h1 h2 h3 (fu := fu) (by omega)
  obtain ⟨s2, e2, hT2, fr2, c2⟩ := sh6 (fu := fu) fu 0 s1 hT1 (by omega) (by omega) (fun k hk => by omega)
  obtain ⟨s3, e3, hT3, fr3, c3⟩ := sh40 (fu := fu) fu 0 s2 hT2 (by omega) (by omega) (fun k hk => by omega)
  have fr23 : Fr [(246, none), (247, none), (248, none), (249, none)] s1 s3 := (fr2.tr fr3).wd (by decide)
  have R1 : RS b n T 0 s1 := ⟨hX, z5, Nat.zero_le _, z6, by omega, z7, Nat.zero_le _, z8, by omega⟩
  have R3 : RS b n T 0 s3 := RfA.same R1 (fr23.same (by decide))
  have A3 : SrA (fun _ => 0) s3 := fun p hp => by
    refine ⟨?_, ?_, fun k hk => c3 _ (by omega)⟩
    · rw [fr3.kl 246 p (by simp [covers])]; exact (c2 p hp).1
    · rw [fr3.kl 248 p (by simp [covers])]; exact (c2 p hp).2.1
  have N3 : SrN (fun _ => false) s3 := fun p hp => by
    rw [fr3.ki 249 p (by simp [covers])]; exact (c2 p hp).2.2
  have Tn := hX.2.2.2.2.1
  obtain ⟨OK, BAD⟩ := s61_s (b := b) (n := n) (T := T) (fu := fu) (by omega) 4 fu 0 0 (fun _ => false) (fun _ => 0) s3 (by omega) rfl hT3 R3 A3 N3 (by omega)
  have hd : f_X12_shares fu 153 st = b_X12_shares_61 fu fu 153 (nI 0) s3 := by
    rw [← e3, ← e2]
    clear OK BAD R3 R1 A3 N3 hX e2 e3 c2 c3
    simp (disch := first | decide | omega) [isb, ck_tt, NP, NF, NC, NB, NS, GS, kdR, tpR hT, f_X12_shares, e1]
  rw [hd]
  have f3 : Fr WXs st s3 := (fr1.tr fr23).wd (by decide)
  have i3 : gI s3 153 1 = nI 0 := by rw [fr23.ki 153 1 (by decide)]; exact z1
  refine ⟨fun S' A' ok => ?_, fun f p bad => ?_⟩
  · obtain ⟨s4, t', e4, fr4, hT4, R4, A4⟩ := OK S' A' ok
    have g6 := R4.2.2.2.1
    obtain ⟨s5, e5, hT5, fr5, c5⟩ := sh256 (fu := fu) (nI (nS S')) fu 0 s4 hT4 (by omega) (by omega) (fun k hk => by omega)
    obtain ⟨s6, e6, hT6, fr6, c6⟩ := sh293 (fu := fu) (nI (nS S')) fu 0 s5 hT5 (by omega) (by omega) (fun k hk => by omega)
    refine ⟨s6, ?_, (((f3.tr fr4).tr fr5).tr fr6).wd (by decide), ?_, ?_, fun p hp => ?_⟩
    · rw [e4, ← e6, ← e5]
      have hT := hT4
      clear OK BAD R3 R1 A3 N3 hX e2 e3 c2 c3 R4 A4 e5 e6 c5 c6
      simp (disch := first | decide | omega) [isb, ck_tt, NP, NF, NC, NB, NS, GS, kdR, tpR hT, b_X12_shares_239, g6]
    · rw [fr6.ki 153 1 (by decide), fr5.ki 153 1 (by decide), fr4.ki 153 1 (by decide)]; exact i3
    · rw [fr6.ki 153 6 (by decide), fr5.ki 153 6 (by decide)]; exact g6
    · obtain ⟨a1, a2, a3⟩ := A4 p hp
      refine ⟨?_, ?_, fun q hq => ?_⟩
      · rw [fr6.kl 243 p (by simp [covers]), (c5 p hp).1]; exact a1
      · rw [fr6.kl 245 p (by simp [covers]), (c5 p hp).2]; exact a2
      · rw [c6 _ (by omega), fr5.kl 247 _ (by simp [covers])]; exact a3 q hq
  · obtain ⟨s4, e4, fr4, hT4, g6⟩ := BAD f p bad
    have f4 : Fr [(153, some 1), (153, some 5), (153, some 6), (153, some 7), (153, some 8), (155, none), (156, none), (157, none), (246, none), (247, none), (248, none), (249, none)] st s4 := ((fr1.tr fr23).tr fr4).wd (by decide)
    refine ⟨s4, e4, f4.wd (by decide), ?_, g6, ?_, ?_, ?_⟩
    · rw [fr4.ki 153 1 (by decide)]; exact i3
    · funext k; exact f4.kl 243 k (by simp [covers])
    · funext k; exact f4.kl 244 k (by simp [covers])
    · funext k; exact f4.kl 245 k (by simp [covers])
def W_shs : List PL := WA ++ WXs
abbrev P_txt (st : St) : Prop := P_tape st ∧ P_fault st ∧ P_byte st
set_option maxRecDepth 100000 in
theorem shares_2 {st : St} (hT : Top st) (hX : P_txt st) (hS : P_sh st) (fu : Nat) (hf : 9000 ≤ fu) : Two (f_X11_shares fu 1) (f_X12_shares fu 153) W_shs (fun w => P_txt w ∧ P_sh w) st := by
  obtain ⟨⟨t1, t2, n, t3, t4⟩, -, hB⟩ := hX
  obtain ⟨o, q, A, s1, s2, s3, s4, s5⟩ := hS
  obtain ⟨r, u, c1, hTu, fru, c2, c3⟩ := shares_c hT (b := gI st 3) t4 t3 (fun _ _ => rfl) (fun i _ => hB i) (fu := fu) (by omega) s3 s1 s2
  have u154 : ∀ i, i < n → gI u 154 i = gI st 3 i := fun i _ => by rw [fru.fi 154 (by decide), ← t1]
  have u1 : gI u 153 1 = nI n := by rw [fru.ki 153 1 (by decide), ← t2]; exact t4
  obtain ⟨OK, BAD⟩ := shares_r hTu (b := gI st 3) u1 t3 u154 hf
  have q3 : q = 135 ∨ q = 136 := by omega
  have o3 : o = 135 ∨ o = 136 := by omega
  have txt : ∀ w, Fr WXs u w → gI w 153 1 = nI 0 → gI w 153 6 = gI u 2 8 → P_txt w := fun w fr w1 w6 => by
    have e3 : gI w 3 = gI st 3 := by rw [fr.fi 3 (by decide), fru.fi 3 (by decide)]
    have e4 : gI w 154 = gI st 154 := by rw [fr.fi 154 (by decide), fru.fi 154 (by decide)]
    have e2 : gI w 2 = gI u 2 := fr.fi 2 (by decide)
    refine ⟨⟨by rw [e3, e4]; exact t1, by rw [e2, c2, w1], 0, by omega, by rw [e2]; exact c2⟩, ?_, ?_⟩
    · show gI w 2 8 = gI w 153 6
      rw [e2, w6]
    · intro k
      rw [e3]; exact hB k
  rcases c3 with ⟨S', A', x1, x2, x3, x4, x5, x6, x7⟩ | ⟨f, p, x1, x2, x3, x4, x5, x6⟩
  · obtain ⟨w, w1, w2, w3, w4, w5⟩ := OK S' A' x1
    rw [x6] at c1
    refine ⟨_, u, w, c1, w1, fru.tr w2, txt w w2 w3 (by rw [w4, x7]), q, o, A', ?_, ?_, by omega, fun k hk => ?_, w5⟩
    · rw [(w2 134 0 (by decide)).2.2]; exact x4
    · rw [(w2 134 1 (by decide)).2.2]; exact x5
    · rw [show gI w q = gI u q by rcases q3 with rfl | rfl <;> exact w2.fi _ (by decide), x3 k hk]
      exact ⟨rfl, (x2 k hk).2⟩
  · obtain ⟨w, w1, w2, w3, w4, w5, w6, w7⟩ := BAD f p x1
    rw [x2] at c1
    refine ⟨_, u, w, c1, w1, fru.tr w2, txt w w2 w3 (by rw [w4, x3]), o, q, A, ?_, ?_, s3, fun k hk => ?_, fun p hp => ?_⟩
    · rw [(w2 134 0 (by decide)).2.2]; exact x5
    · rw [(w2 134 1 (by decide)).2.2]; exact x6
    · rw [show gI w o = gI u o by rcases o3 with rfl | rfl <;> exact w2.fi _ (by decide), x4]
      exact s4 k hk
    · rw [w5, w6, w7, show gL u 243 = gL st 243 from funext fun k => fru.kl 243 k (by simp [WA, covers]), show gL u 244 = gL st 244 from funext fun k => fru.kl 244 k (by simp [WA, covers]), show gL u 245 = gL st 245 from funext fun k => fru.kl 245 k (by simp [WA, covers])]
      exact s5 p hp
