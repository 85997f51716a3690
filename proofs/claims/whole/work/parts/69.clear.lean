/-! PURE: Arrays.fill; clearWays -/
def TwoV (fC fR : St → Option St) (W : List PL) (Q : St → Prop) (st : St) : Prop := ∃ u w, fC st = some u ∧ fR u = some w ∧ Fr W st w ∧ Q w
theorem fill_l {o N : Nat} (hk : kd o = (100, N)) (hN : N < 2147483648) (fu : Nat) (v : Int32) : ∀ (F i : Nat) (st : St), i ≤ N → N - i < F → ∃ u, b_J7_fill_53178_5 fu F o v (nI i) (nI N) st = some u ∧ Fr [(o, none)] st u ∧ gR u = gR st ∧ gI u o = fun k => if i ≤ k ∧ k < N then v else gI st o k := by
  intro F
  induction F with
  | zero => intro i st h1 h2; omega
  | succ F ih =>
    intro i st h1 h2
    rcases Nat.lt_or_ge i N with hi | hi
    · have e1 : ¬ nI N ≤ nI i := fun q => by have := (nI_leI (a := N) (b := i) (by omega) (by omega)).mp q; omega
      have ei : i < 2147483648 := by omega
      obtain ⟨u, a1, a2, a3, a4⟩ := ih (i + 1) (sI st o i v) (by omega) (by omega)
      refine ⟨u, ?_, ((Fr.ia st o i v).tr a2).wd (by simp [within']), a3, ?_⟩
      · show b_J7_fill_53178_5_b fu (b_J7_fill_53178_5 fu F) o v (nI i) (nI N) st = _
        simp [b_J7_fill_53178_5_b, e1, ck, bd, hk, ix_nI ei, nI_pos' (show i < 2 ^ 31 by omega), hi, nI_1, a1]
      · rw [a4, gI_sI_o]
        funext k
        by_cases hk1 : i + 1 ≤ k ∧ k < N
        · rw [if_pos hk1, if_pos ⟨by omega, hk1.2⟩]
        · rw [if_neg hk1]
          unfold upd
          by_cases hk2 : k = i
          · rw [if_pos hk2, if_pos ⟨by omega, by omega⟩]
          · rw [if_neg hk2, if_neg (by omega)]
    · have : i = N := by omega
      subst this
      refine ⟨st, ?_, Fr.rf, rfl, ?_⟩
      · show b_J7_fill_53178_5_b fu (b_J7_fill_53178_5 fu F) o v (nI i) (nI i) st = _
        simp [b_J7_fill_53178_5_b, Int32.le_refl]
      · funext k
        rw [if_neg (by omega)]
theorem fill_c {o N : Nat} (hk : kd o = (100, N)) (hN : N < 2147483648) (fu : Nat) (hf : N < fu) (v : Int32) (st : St) : ∃ u, f_J7_fill_53178 fu o v st = some u ∧ Fr [(o, none)] st u ∧ gR u = gR st ∧ gI u o = fun k => if k < N then v else gI st o k := by
  obtain ⟨u, a1, a2, a3, a4⟩ := fill_l hk hN fu v fu 0 st (Nat.zero_le _) (by omega)
  refine ⟨u, ?_, a2, a3, ?_⟩
  · unfold f_J7_fill_53178
    simp only [ck, bd, hk]
    simp only [if_true]
    exact a1
  · rw [a4]; funext k; simp
theorem clr_r {st : St} (hT : Top st) (fu : Nat) : ∀ (F i : Nat) (st : St), Top st → i ≤ 11 → 11 - i < F → ∃ u, b_X12_clearWays_7 fu F 153 (nI i) st = some u ∧ Fr [(254, none)] st u ∧ gR u = gR st ∧ gI u 254 = fun k => if i ≤ k ∧ k < 11 then 0 else gI st 254 k := by
  intro F
  induction F with
  | zero => intro i st _ h1 h2; omega
  | succ F ih =>
    intro i st hT h1 h2
    rcases Nat.lt_or_ge i 11 with hi | hi
    · have e1 : ¬ (11 : Int32) ≤ nI i := fun q => by have := (nI_leI (a := 11) (b := i) (by omega) (by omega)).mp q; omega
      have ei : i < 2147483648 := by omega
      obtain ⟨u, a1, a2, a3, a4⟩ := ih (i + 1) (sI st 254 i 0) (hT.r rfl) (by omega) (by omega)
      refine ⟨u, ?_, ((Fr.ia st 254 i 0).tr a2).wd (by simp [within']), a3, ?_⟩
      · show b_X12_clearWays_7_b fu (b_X12_clearWays_7 fu F) 153 (nI i) st = _
        simp [b_X12_clearWays_7_b, e1, ck, bd, tp_153_118 hT, kd_153, kd_254, ix_nI ei, nI_pos' (show i < 2 ^ 31 by omega), hi, nI_1, a1]
      · rw [a4, gI_sI_o]
        funext k
        by_cases hk1 : i + 1 ≤ k ∧ k < 11
        · rw [if_pos hk1, if_pos ⟨by omega, hk1.2⟩]
        · rw [if_neg hk1]
          unfold upd
          by_cases hk2 : k = i
          · rw [if_pos hk2, if_pos ⟨by omega, by omega⟩]
          · rw [if_neg hk2, if_neg (by omega)]
    · have : i = 11 := by omega
      subst this
      refine ⟨st, ?_, Fr.rf, rfl, ?_⟩
      · show b_X12_clearWays_7_b fu (b_X12_clearWays_7 fu F) 153 (nI 11) st = _
        have e11 : (11 : Int32) ≤ nI 11 := by decide
        simp [b_X12_clearWays_7_b, e11]
      · funext k
        rw [if_neg (by omega)]
theorem clearWays_2 {st : St} (hT : Top st) (hP : P_ways st) (fu : Nat) (hf : 20 ≤ fu) : TwoV (f_X11_clearWays fu 1) (f_X12_clearWays fu 153) S_ways P_ways st := by
  obtain ⟨n, hn, h1, h2, h3, h4, h5, h6, h7, h8, h9, h10, h11⟩ := hP
  obtain ⟨u1, a1, a2, a3, a4⟩ := fill_c kd_144 (by decide) fu (by omega) 0 (sI st 139 13 0)
  obtain ⟨u2, b1, b2, b3, b4⟩ := fill_c kd_151 (by decide) fu (by omega) 0 u1
  have t1 : Top u1 := hT.r a3
  have t2 : Top u2 := t1.r b3
  have hc : f_X11_clearWays fu 1 st = some u2 := by
    unfold f_X11_clearWays f_X10_clear
    simp [ck, bd, tp_1_7 hT, kd_1, kd_139, gR_sI, tp_139_4 hT, a1, cv, tp_139_11 t1, b1]
  obtain ⟨w, c1, c2, c3, c4⟩ := clr_r t2 fu fu 0 (sI u2 153 113 0) (t2.r rfl) (by omega) (by omega)
  have hr : f_X12_clearWays fu 153 u2 = some w := by
    unfold f_X12_clearWays
    simp only [ck, bd, kd_153, if_true]
    exact c1
  have f1 : Fr [(139, some 13), (144, none), (151, none)] st u2 := (((Fr.i st 139 13 0).tr a2).tr b2).wd (by decide)
  have f2 : Fr [(153, some 113), (254, none)] u2 w := ((Fr.i u2 153 113 0).tr c2).wd (by decide)
  refine ⟨u2, w, hc, hr, (f1.tr f2).wd (by decide), 0, Nat.zero_le _, ?_⟩
  have s1 : Same [(139, some 13), (140, none), (141, none), (142, none), (143, none), (144, none), (151, none), (152, none), (250, none), (251, none), (252, none), (253, none)] u2 w := f2.same (by decide)
  have s2 : Same [(140, none), (141, none), (142, none), (143, none), (152, none), (250, none), (251, none), (252, none), (253, none), (254, none)] st u2 := f1.same (by decide)
  have sa : Same [(139, some 13)] (sI st 139 13 0) u1 := a2.same (by decide)
  have sb : Same [(139, some 13), (144, none)] u1 u2 := b2.same (by decide)
  have sc : Same [(153, some 113)] (sI u2 153 113 0) w := c2.same (by decide)
  have w13 : gI w 139 13 = 0 := by rw [s1.i (by decide), sb.i (by decide), sa.i (by decide)]; simp [gI_sI]
  have w113 : gI w 153 113 = 0 := by rw [sc.i (by decide)]; simp [gI_sI]
  have w144 : gI w 144 = fun _ => 0 := by
    rw [s1.fi (by decide), sb.fi (by decide), a4]
    funext k
    by_cases hk : k < 12
    · rw [if_pos hk]
    · rw [if_neg hk, gI_sI_n _ _ _ (by decide)]; exact h9 k (by omega)
  have w254 : gI w 254 = fun _ => 0 := by
    rw [c4]
    funext k
    by_cases hk : 0 ≤ k ∧ k < 11
    · rw [if_pos hk]
    · rw [if_neg hk, gI_sI_n _ _ _ (by decide), s2.fi (by decide), ← h7]; exact h9 k (by omega)
  have w151 : ∀ k, k < 12 → gI w 151 k = 0 := fun k hk => by rw [s1.fi (by decide), b4]; exact if_pos hk
  refine ⟨w13, w113, ?_, ?_, ?_, ?_, by rw [w144, w254], ?_, ?_, fun w hw => by omega, fun v hv => ?_⟩
  · rw [s1.fi (by decide), s2.fi (by decide), s1.fi (o := 250) (by decide), s2.fi (o := 250) (by decide)]; exact h3
  · rw [s1.fi (by decide), s2.fi (by decide), s1.fi (o := 251) (by decide), s2.fi (o := 251) (by decide)]; exact h4
  · rw [s1.fi (by decide), s2.fi (by decide), s1.fi (o := 252) (by decide), s2.fi (o := 252) (by decide)]; exact h5
  · rw [s1.fi (by decide), s2.fi (by decide), s1.fi (o := 253) (by decide), s2.fi (o := 253) (by decide)]; exact h6
  · intro k; rw [w144]; exact ⟨0, by omega, rfl⟩
  · intro k _; rw [w144]
  · refine ⟨by rw [w151 v hv]; rfl, fun j x hj => ?_⟩
    simp [inc] at hj
