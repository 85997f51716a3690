/-! PURE: axes: stop, axis, faults. Field k of axis n's object (8 + 2 n) is place n of the reference's array 198 + k -/
/-- how far one goes on whose speed w shrinks by a -/
def brk (a : Nat) : Nat → Nat → Nat
  | 0, _ => 0
  | F + 1, w => if a < w then (w - a) + brk a F (w - a) else 0
/-- where an axis at p with speed v comes to rest -/
def rest (a : Nat) (p v : Int) : Int := if 0 ≤ v then p + (brk a v.natAbs v.natAbs : Nat) else p - (brk a v.natAbs v.natAbs : Nat)
def axOK (f : Nat → Int32) : Prop := (f 0 = 0 ∧ f 7 = -1) ∨ (f 0 = 1 ∧ ∃ lo hi sp ac fl : Nat, f 1 = nI lo ∧ f 2 = nI hi ∧ f 3 = nI sp ∧ f 4 = nI ac ∧ f 10 = nI fl ∧ lo < hi ∧ hi ≤ 99999 ∧ 1 ≤ sp ∧ sp ≤ 999 ∧ 1 ≤ ac ∧ ac ≤ 999 ∧ fl ≤ 7 ∧ (f 7 = -1 ∨ ∃ t : Nat, lo ≤ t ∧ t ≤ hi ∧ f 7 = nI t) ∧ 0 ≤ (f 5).toInt ∧ (f 5).toInt ≤ 99999 ∧ -999 ≤ (f 6).toInt ∧ (f 6).toInt ≤ 999 ∧ 0 ≤ rest ac (f 5).toInt (f 6).toInt ∧ rest ac (f 5).toInt (f 6).toInt ≤ 99999)
def S_ax : List PL := ((List.range 8).flatMap fun n => (List.range 12).map fun k => (8 + 2 * n, some k)) ++ [(4, some 2), (153, some 67), (198, none), (199, none), (200, none), (201, none), (202, none), (203, none), (204, none), (205, none), (206, none), (207, none), (208, none), (209, none)]
def P_ax (st : St) : Prop := (∀ n k, n < 8 → k < 12 → gI st (8 + 2 * n) k = gI st (198 + k) n) ∧ (∀ n, n < 8 → axOK (gI st (8 + 2 * n))) ∧ gI st 4 2 = gI st 153 67 ∧ (gI st 4 2 = 0 ∨ gI st 4 2 = 1) ∧ (gI st 4 2 = 1 → ∀ n, n < 8 → gI st (8 + 2 * n) 7 = -1)
theorem axOK.congr {f g : Nat → Int32} (h : axOK f) (e : ∀ k, k < 12 → g k = f k) : axOK g := by
  unfold axOK at h ⊢
  rw [e 0 (by omega), e 1 (by omega), e 2 (by omega), e 3 (by omega), e 4 (by omega), e 5 (by omega), e 6 (by omega), e 7 (by omega), e 10 (by omega)]
  exact h
theorem S_ax_o {n k : Nat} (hn : n < 8) (hk : k < 12) : S_ax.any (covers · (8 + 2 * n) k) = true := by
  rw [List.any_eq_true]
  refine ⟨(8 + 2 * n, some k), ?_, by simp [covers]⟩
  unfold S_ax
  rw [List.mem_append]
  left
  rw [List.mem_flatMap]
  exact ⟨n, List.mem_range.mpr hn, List.mem_map.mpr ⟨k, List.mem_range.mpr hk, rfl⟩⟩
theorem S_ax_r {k : Nat} (hk : k < 12) (n : Nat) : S_ax.any (covers · (198 + k) n) = true := by
  rw [List.any_eq_true]
  refine ⟨(198 + k, none), ?_, by simp [covers]⟩
  unfold S_ax
  rw [List.mem_append]
  right
  have : k = 0 ∨ k = 1 ∨ k = 2 ∨ k = 3 ∨ k = 4 ∨ k = 5 ∨ k = 6 ∨ k = 7 ∨ k = 8 ∨ k = 9 ∨ k = 10 ∨ k = 11 := by omega
  rcases this with rfl | rfl | rfl | rfl | rfl | rfl | rfl | rfl | rfl | rfl | rfl | rfl <;> decide
theorem P_ax.fr {st u : St} (h : P_ax st) (hs : Same S_ax st u) : P_ax u := by
  obtain ⟨h1, h2, h3, h4, h5⟩ := h
  have a : gI u 4 2 = gI st 4 2 := hs.i (by decide)
  have b : gI u 153 67 = gI st 153 67 := hs.i (by decide)
  refine ⟨fun n k hn hk => ?_, fun n hn => ?_, by rw [a, b]; exact h3, by rw [a]; exact h4, fun e n hn => ?_⟩
  · rw [hs.i (S_ax_o hn hk), hs.i (S_ax_r hk n)]; exact h1 n k hn hk
  · exact (h2 n hn).congr (fun k hk => hs.i (S_ax_o hn hk))
  · rw [hs.i (S_ax_o hn (by omega))]; rw [a] at e; exact h5 e n hn
theorem tp_5 {st : St} (h : Top st) {n : Nat} (hn : n < 8) : gR st 5 n = 8 + 2 * n := by
  have : n = 0 ∨ n = 1 ∨ n = 2 ∨ n = 3 ∨ n = 4 ∨ n = 5 ∨ n = 6 ∨ n = 7 := by omega
  rcases this with rfl | rfl | rfl | rfl | rfl | rfl | rfl | rfl
  · exact tp_5_0 h
  · exact tp_5_1 h
  · exact tp_5_2 h
  · exact tp_5_3 h
  · exact tp_5_4 h
  · exact tp_5_5 h
  · exact tp_5_6 h
  · exact tp_5_7 h
theorem kd_ax {n : Nat} (hn : n < 8) : kd (8 + 2 * n) = (0, 0) := by
  have : n = 0 ∨ n = 1 ∨ n = 2 ∨ n = 3 ∨ n = 4 ∨ n = 5 ∨ n = 6 ∨ n = 7 := by omega
  rcases this with rfl | rfl | rfl | rfl | rfl | rfl | rfl | rfl <;> rfl
theorem halt_l (fu : Nat) : ∀ (F i : Nat) (st : St), Top st → i ≤ 8 → 8 - i < F → ∃ u, b_X7_halt_7 fu F 4 1 (nI i) st = some u ∧ gR u = gR st ∧ gL u = gL st ∧ ∀ o k, gI u o k = if (8 + 2 * i ≤ o ∧ o ≤ 22 ∧ o % 2 = 0) ∧ k = 7 then -1 else gI st o k := by
  intro F
  induction F with
  | zero => intro i st _ h1 h2; omega
  | succ F ih =>
    intro i st hT h1 h2
    rcases Nat.lt_or_ge i 8 with hi | hi
    · have e1 : ¬ (8 : Int32) ≤ nI i := fun q => by have := (nI_leI (a := 8) (b := i) (by omega) (by omega)).mp q; omega
      have ei : i < 2147483648 := by omega
      obtain ⟨u, a1, a2, a3, a4⟩ := ih (i + 1) (sI st (8 + 2 * i) 7 (-1)) (hT.r rfl) (by omega) (by omega)
      refine ⟨u, ?_, a2, a3, fun o k => ?_⟩
      · show b_X7_halt_7_b fu (b_X7_halt_7 fu F) 4 1 (nI i) st = _
        simp [b_X7_halt_7_b, e1, ck, bd, tp_4_0 hT, tp_5 hT hi, kd_4, kd_5, kd_ax hi, ix_nI ei, nI_pos' (show i < 2 ^ 31 by omega), hi, nI_1, a1]
      · rw [a4, gI_sI]
        by_cases hk : k = 7
        · subst hk
          by_cases h3 : 8 + 2 * (i + 1) ≤ o ∧ o ≤ 22 ∧ o % 2 = 0
          · rw [if_pos ⟨h3, rfl⟩, if_pos ⟨by omega, rfl⟩]
          · rw [if_neg (fun q => h3 q.1)]
            by_cases h4 : o = 8 + 2 * i
            · rw [if_pos ⟨h4, rfl⟩, if_pos ⟨by omega, rfl⟩]
            · rw [if_neg (fun q => h4 q.1), if_neg (by omega)]
        · rw [if_neg (fun q => hk q.2), if_neg (fun q => hk q.2), if_neg (fun q => hk q.2)]
    · have : i = 8 := by omega
      subst this
      refine ⟨st, ?_, rfl, rfl, fun o k => ?_⟩
      · show b_X7_halt_7_b fu (b_X7_halt_7 fu F) 4 1 (nI 8) st = _
        have e8 : (8 : Int32) ≤ nI 8 := by decide
        simp [b_X7_halt_7_b, e8, b_X7_halt_33]
      · rw [if_neg (by omega)]
theorem stop_l (fu : Nat) : ∀ (F i : Nat) (st : St), Top st → i ≤ 8 → 8 - i < F → ∃ u, b_X12_stop_7 fu F 153 1 (nI i) st = some u ∧ gR u = gR st ∧ gL u = gL st ∧ ∀ o k, gI u o k = if o = 205 ∧ i ≤ k ∧ k < 8 then -1 else gI st o k := by
  intro F
  induction F with
  | zero => intro i st _ h1 h2; omega
  | succ F ih =>
    intro i st hT h1 h2
    rcases Nat.lt_or_ge i 8 with hi | hi
    · have e1 : ¬ (8 : Int32) ≤ nI i := fun q => by have := (nI_leI (a := 8) (b := i) (by omega) (by omega)).mp q; omega
      have ei : i < 2147483648 := by omega
      obtain ⟨u, a1, a2, a3, a4⟩ := ih (i + 1) (sI st 205 i (-1)) (hT.r rfl) (by omega) (by omega)
      refine ⟨u, ?_, a2, a3, fun o k => ?_⟩
      · show b_X12_stop_7_b fu (b_X12_stop_7 fu F) 153 1 (nI i) st = _
        simp [b_X12_stop_7_b, e1, ck, bd, tp_153_61 hT, kd_153, kd_205, ix_nI ei, nI_pos' (show i < 2 ^ 31 by omega), hi, nI_1, a1]
      · rw [a4, gI_sI]
        by_cases ho : o = 205
        · subst ho
          by_cases h3 : i + 1 ≤ k ∧ k < 8
          · rw [if_pos ⟨rfl, h3⟩, if_pos ⟨rfl, by omega, h3.2⟩]
          · rw [if_neg (fun q => h3 q.2)]
            by_cases h4 : k = i
            · rw [if_pos ⟨rfl, h4⟩, if_pos ⟨rfl, by omega, by omega⟩]
            · rw [if_neg (fun q => h4 q.2), if_neg (by omega)]
        · rw [if_neg (fun q => ho q.1), if_neg (fun q => ho q.1), if_neg (fun q => ho q.1)]
    · have : i = 8 := by omega
      subst this
      refine ⟨st, ?_, rfl, rfl, fun o k => ?_⟩
      · show b_X12_stop_7_b fu (b_X12_stop_7 fu F) 153 1 (nI 8) st = _
        have e8 : (8 : Int32) ≤ nI 8 := by decide
        simp [b_X12_stop_7_b, e8, b_X12_stop_30]
      · rw [if_neg (by omega)]
theorem ax_i {n : Nat} (hn : n < 8) : (8 + 2 * n ≤ 22 ∧ (8 + 2 * n) % 2 = 0) ∧ 8 ≤ 8 + 2 * n := by omega
theorem stop_2 {st : St} (hT : Top st) (hP : P_ax st) (fu : Nat) (hf : 20 ≤ fu) (v : Int32) (hv : v = 0 ∨ v = 1) : TwoV (f_X11_stop fu 1 v) (f_X12_stop fu 153 v) S_ax P_ax st := by
  obtain ⟨h1, h2, h3, h4, h5⟩ := hP
  rcases hv with rfl | rfl
  · have hc : f_X11_stop fu 1 0 st = some (sI st 4 2 0) := by
      obtain ⟨F, rfl⟩ : ∃ F, fu = F + 1 := ⟨fu - 1, by omega⟩
      unfold f_X11_stop f_X7_halt
      simp [ck, bd, tp_1_1 hT, kd_1, kd_4, cv, b_X7_halt_7, b_X7_halt_7_b, b_X7_halt_33, isb]
    have hr : f_X12_stop fu 153 0 (sI st 4 2 0) = some (sI (sI st 4 2 0) 153 67 0) := by
      obtain ⟨F, rfl⟩ : ∃ F, fu = F + 1 := ⟨fu - 1, by omega⟩
      unfold f_X12_stop
      simp [ck, bd, kd_153, b_X12_stop_7, b_X12_stop_7_b, b_X12_stop_30, isb]
    have e : ∀ o k, ¬ (o = 4 ∧ k = 2) → ¬ (o = 153 ∧ k = 67) → gI (sI (sI st 4 2 0) 153 67 0) o k = gI st o k := fun o k a b => by rw [gI_sI, if_neg b, gI_sI, if_neg a]
    have x1 : gI (sI (sI st 4 2 0) 153 67 0) 4 2 = 0 := by simp [gI_sI]
    refine ⟨_, _, hc, hr, ((Fr.i st 4 2 0).tr (Fr.i _ 153 67 0)).wd (by decide), fun n k hn hk => ?_, fun n hn => ?_, by simp [gI_sI], Or.inl x1, fun q => by rw [x1] at q; exact absurd q (by decide)⟩
    · rw [e _ _ (by omega) (by omega), e _ _ (by omega) (by omega)]; exact h1 n k hn hk
    · exact (h2 n hn).congr (fun k _ => e _ _ (by omega) (by omega))
  · obtain ⟨u, a1, a2, a3, a4⟩ := halt_l fu fu 0 (sI st 4 2 1) (hT.r rfl) (by omega) (by omega)
    have hTu : Top u := hT.r a2
    obtain ⟨w, b1, b2, b3, b4⟩ := stop_l fu fu 0 (sI u 153 67 1) (hTu.r rfl) (by omega) (by omega)
    have hc : f_X11_stop fu 1 1 st = some u := by
      unfold f_X11_stop f_X7_halt
      simp only [ck, bd, tp_1_1 hT, kd_1, kd_4, isb]
      simp
      have := a1
      rw [show nI 0 = 0 from rfl] at this
      rw [this]; rfl
    have hr : f_X12_stop fu 153 1 u = some w := by
      unfold f_X12_stop
      simp only [ck, bd, kd_153, isb]
      simp
      exact b1
    have rd : ∀ o k, gI w o k = if o = 205 ∧ k < 8 then -1 else if o = 153 ∧ k = 67 then 1 else if (8 ≤ o ∧ o ≤ 22 ∧ o % 2 = 0) ∧ k = 7 then -1 else if o = 4 ∧ k = 2 then 1 else gI st o k := fun o k => by
      rw [b4, gI_sI, a4, gI_sI]
      simp
    have fr : Fr S_ax st w := fun o k hk => by
      refine ⟨?_, by rw [b3]; show gL u o k = _; rw [a3]; rfl, by rw [b2]; show gR u o k = _; rw [a2]; rfl⟩
      rw [rd, if_neg, if_neg, if_neg, if_neg]
      · rintro ⟨rfl, rfl⟩; exact absurd hk (by decide)
      · rintro ⟨⟨p1, p2, p3⟩, rfl⟩
        obtain ⟨n, hn, rfl⟩ : ∃ n, n < 8 ∧ o = 8 + 2 * n := ⟨(o - 8) / 2, by omega, by omega⟩
        rw [S_ax_o hn (by omega)] at hk
        cases hk
      · rintro ⟨rfl, rfl⟩; exact absurd hk (by decide)
      · rintro ⟨rfl, hk2⟩
        have := S_ax_r (k := 7) (by omega) k
        rw [this] at hk
        cases hk
    have r7 : ∀ n, n < 8 → gI w (8 + 2 * n) 7 = -1 := fun n hn => by
      rw [rd, if_neg (by omega), if_neg (by omega), if_pos (by omega)]
    have ro : ∀ n k, n < 8 → k ≠ 7 → gI w (8 + 2 * n) k = gI st (8 + 2 * n) k := fun n k hn hk => by
      rw [rd, if_neg (by omega), if_neg (by omega), if_neg (by omega), if_neg (by omega)]
    refine ⟨u, w, hc, hr, fr, fun n k hn hk => ?_, fun n hn => ?_, ?_, ?_, fun _ n hn => r7 n hn⟩
    · by_cases hk7 : k = 7
      · subst hk7
        rw [r7 n hn, rd, if_pos ⟨rfl, hn⟩]
      · rw [ro n k hn hk7, rd, if_neg (by omega), if_neg (by omega), if_neg (by omega), if_neg (by omega)]
        exact h1 n k hn hk
    · have := h2 n hn
      unfold axOK at this ⊢
      rw [r7 n hn, ro n 0 hn (by omega), ro n 1 hn (by omega), ro n 2 hn (by omega), ro n 3 hn (by omega), ro n 4 hn (by omega), ro n 5 hn (by omega), ro n 6 hn (by omega), ro n 10 hn (by omega)]
      rcases this with ⟨p, -⟩ | ⟨p, lo, hi, sp, ac, fl, q1, q2, q3, q4, q5, q6, q7, q8, q9, q10, q11, q12, -, q14⟩
      · exact Or.inl ⟨p, rfl⟩
      · exact Or.inr ⟨p, lo, hi, sp, ac, fl, q1, q2, q3, q4, q5, q6, q7, q8, q9, q10, q11, q12, Or.inl rfl, q14⟩
    · have x1 : gI w 4 2 = 1 := by rw [rd]; simp
      have x2 : gI w 153 67 = 1 := by rw [rd]; simp
      rw [x1, x2]
    · right
      rw [rd]; simp
