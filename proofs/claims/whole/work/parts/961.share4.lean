/-! PURE: share: the reference, the call -/
theorem share_r0 {u : St} (hT : Top u) (fu : Nat) {w : Nat} (hw : w ≤ 3) : f_X12_share fu 153 (nI 0) (nI w) u = if dt (100 - gL u 244 0) (-(gL u 244 1)) (-(gL u 244 2)) (-(gL u 244 3)) (100 - gL u 244 4) (-(gL u 244 5)) (-(gL u 244 6)) (-(gL u 244 7)) (100 - gL u 244 8) = 0 then some (0, u) else if w = 3 then some (1, u) else b_X12_share_300 fu (nI w) (dt (100 - gL u 244 0) (-(gL u 244 1)) (-(gL u 244 2)) (-(gL u 244 3)) (100 - gL u 244 4) (-(gL u 244 5)) (-(gL u 244 6)) (-(gL u 244 7)) (100 - gL u 244 8)) (dt (gL u 243 0 * gL u 153 93 + 100 * gL u 245 0) (-(gL u 244 1)) (-(gL u 244 2)) (gL u 243 1 * gL u 153 93 + 100 * gL u 245 1) (100 - gL u 244 4) (-(gL u 244 5)) (gL u 243 2 * gL u 153 93 + 100 * gL u 245 2) (-(gL u 244 7)) (100 - gL u 244 8)) u := by
  by_cases h : dt (100 - gL u 244 0) (-(gL u 244 1)) (-(gL u 244 2)) (-(gL u 244 3)) (100 - gL u 244 4) (-(gL u 244 5)) (-(gL u 244 6)) (-(gL u 244 7)) (100 - gL u 244 8) = 0
  · have h2 : lg_cmp (dt (100 - gL u 244 0) (-(gL u 244 1)) (-(gL u 244 2)) (-(gL u 244 3)) (100 - gL u 244 4) (-(gL u 244 5)) (-(gL u 244 6)) (-(gL u 244 7)) (100 - gL u 244 8)) 0 = 0 := (lg_cmp_eq _ _).mpr h
    simp (disch := first | decide | omega) [f_X12_share, ck_tt, NP, NF, NC, NB, NS, kdR, tpR hT, three_c, h, lg_cmp_rf]
  · have h2 : ¬ lg_cmp (dt (100 - gL u 244 0) (-(gL u 244 1)) (-(gL u 244 2)) (-(gL u 244 3)) (100 - gL u 244 4) (-(gL u 244 5)) (-(gL u 244 6)) (-(gL u 244 7)) (100 - gL u 244 8)) 0 = 0 := fun q => h ((lg_cmp_eq _ _).mp q)
    have h2' : ¬ lg_cmp (dt (100 - gL u 244 0) (-(gL u 244 1)) (-(gL u 244 2)) (-(gL u 244 3)) (100 - gL u 244 4) (-(gL u 244 5)) (-(gL u 244 6)) (-(gL u 244 7)) (100 - gL u 244 8)) 0 = nI 0 := h2
    by_cases h3 : w = 3
    · subst h3
      simp (disch := first | decide | omega) [f_X12_share, ck_tt, NP, NF, NC, NB, NS, kdR, tpR hT, three_c, h, h2']
    · simp (disch := first | decide | omega) [f_X12_share, ck_tt, NP, NF, NC, NB, NS, kdR, tpR hT, three_c, h, h2', h3]
theorem share_r1 {u : St} (hT : Top u) (fu : Nat) {w : Nat} (hw : w ≤ 3) : f_X12_share fu 153 (nI 1) (nI w) u = if dt (100 - gL u 244 0) (-(gL u 244 1)) (-(gL u 244 2)) (-(gL u 244 3)) (100 - gL u 244 4) (-(gL u 244 5)) (-(gL u 244 6)) (-(gL u 244 7)) (100 - gL u 244 8) = 0 then some (0, u) else if w = 3 then some (1, u) else b_X12_share_300 fu (nI w) (dt (100 - gL u 244 0) (-(gL u 244 1)) (-(gL u 244 2)) (-(gL u 244 3)) (100 - gL u 244 4) (-(gL u 244 5)) (-(gL u 244 6)) (-(gL u 244 7)) (100 - gL u 244 8)) (dt (100 - gL u 244 0) (gL u 243 0 * gL u 153 93 + 100 * gL u 245 0) (-(gL u 244 2)) (-(gL u 244 3)) (gL u 243 1 * gL u 153 93 + 100 * gL u 245 1) (-(gL u 244 5)) (-(gL u 244 6)) (gL u 243 2 * gL u 153 93 + 100 * gL u 245 2) (100 - gL u 244 8)) u := by
  by_cases h : dt (100 - gL u 244 0) (-(gL u 244 1)) (-(gL u 244 2)) (-(gL u 244 3)) (100 - gL u 244 4) (-(gL u 244 5)) (-(gL u 244 6)) (-(gL u 244 7)) (100 - gL u 244 8) = 0
  · have h2 : lg_cmp (dt (100 - gL u 244 0) (-(gL u 244 1)) (-(gL u 244 2)) (-(gL u 244 3)) (100 - gL u 244 4) (-(gL u 244 5)) (-(gL u 244 6)) (-(gL u 244 7)) (100 - gL u 244 8)) 0 = 0 := (lg_cmp_eq _ _).mpr h
    simp (disch := first | decide | omega) [f_X12_share, ck_tt, NP, NF, NC, NB, NS, kdR, tpR hT, three_c, h, lg_cmp_rf]
  · have h2 : ¬ lg_cmp (dt (100 - gL u 244 0) (-(gL u 244 1)) (-(gL u 244 2)) (-(gL u 244 3)) (100 - gL u 244 4) (-(gL u 244 5)) (-(gL u 244 6)) (-(gL u 244 7)) (100 - gL u 244 8)) 0 = 0 := fun q => h ((lg_cmp_eq _ _).mp q)
    have h2' : ¬ lg_cmp (dt (100 - gL u 244 0) (-(gL u 244 1)) (-(gL u 244 2)) (-(gL u 244 3)) (100 - gL u 244 4) (-(gL u 244 5)) (-(gL u 244 6)) (-(gL u 244 7)) (100 - gL u 244 8)) 0 = nI 0 := h2
    by_cases h3 : w = 3
    · subst h3
      simp (disch := first | decide | omega) [f_X12_share, ck_tt, NP, NF, NC, NB, NS, kdR, tpR hT, three_c, h, h2']
    · simp (disch := first | decide | omega) [f_X12_share, ck_tt, NP, NF, NC, NB, NS, kdR, tpR hT, three_c, h, h2', h3]
theorem share_r2 {u : St} (hT : Top u) (fu : Nat) {w : Nat} (hw : w ≤ 3) : f_X12_share fu 153 (nI 2) (nI w) u = if dt (100 - gL u 244 0) (-(gL u 244 1)) (-(gL u 244 2)) (-(gL u 244 3)) (100 - gL u 244 4) (-(gL u 244 5)) (-(gL u 244 6)) (-(gL u 244 7)) (100 - gL u 244 8) = 0 then some (0, u) else if w = 3 then some (1, u) else b_X12_share_300 fu (nI w) (dt (100 - gL u 244 0) (-(gL u 244 1)) (-(gL u 244 2)) (-(gL u 244 3)) (100 - gL u 244 4) (-(gL u 244 5)) (-(gL u 244 6)) (-(gL u 244 7)) (100 - gL u 244 8)) (dt (100 - gL u 244 0) (-(gL u 244 1)) (gL u 243 0 * gL u 153 93 + 100 * gL u 245 0) (-(gL u 244 3)) (100 - gL u 244 4) (gL u 243 1 * gL u 153 93 + 100 * gL u 245 1) (-(gL u 244 6)) (-(gL u 244 7)) (gL u 243 2 * gL u 153 93 + 100 * gL u 245 2)) u := by
  by_cases h : dt (100 - gL u 244 0) (-(gL u 244 1)) (-(gL u 244 2)) (-(gL u 244 3)) (100 - gL u 244 4) (-(gL u 244 5)) (-(gL u 244 6)) (-(gL u 244 7)) (100 - gL u 244 8) = 0
  · have h2 : lg_cmp (dt (100 - gL u 244 0) (-(gL u 244 1)) (-(gL u 244 2)) (-(gL u 244 3)) (100 - gL u 244 4) (-(gL u 244 5)) (-(gL u 244 6)) (-(gL u 244 7)) (100 - gL u 244 8)) 0 = 0 := (lg_cmp_eq _ _).mpr h
    simp (disch := first | decide | omega) [f_X12_share, ck_tt, NP, NF, NC, NB, NS, kdR, tpR hT, three_c, h, lg_cmp_rf]
  · have h2 : ¬ lg_cmp (dt (100 - gL u 244 0) (-(gL u 244 1)) (-(gL u 244 2)) (-(gL u 244 3)) (100 - gL u 244 4) (-(gL u 244 5)) (-(gL u 244 6)) (-(gL u 244 7)) (100 - gL u 244 8)) 0 = 0 := fun q => h ((lg_cmp_eq _ _).mp q)
    have h2' : ¬ lg_cmp (dt (100 - gL u 244 0) (-(gL u 244 1)) (-(gL u 244 2)) (-(gL u 244 3)) (100 - gL u 244 4) (-(gL u 244 5)) (-(gL u 244 6)) (-(gL u 244 7)) (100 - gL u 244 8)) 0 = nI 0 := h2
    by_cases h3 : w = 3
    · subst h3
      simp (disch := first | decide | omega) [f_X12_share, ck_tt, NP, NF, NC, NB, NS, kdR, tpR hT, three_c, h, h2']
    · simp (disch := first | decide | omega) [f_X12_share, ck_tt, NP, NF, NC, NB, NS, kdR, tpR hT, three_c, h, h2', h3]
theorem share_2 {st : St} (hT : Top st) (hP : P_hb st) (hS : P_sh st) (fu : Nat) (hf : 300 ≤ fu) (a b : Int32) : TwoL (f_X11_share fu 1 a b) (f_X12_share fu 153 a b) [(137, none), (138, none)] (fun _ => True) st := by
  obtain ⟨-, own, sz, hr, hf', n, tr, tf, tm, tp, mk, -, -, ⟨⟨n1, -, -⟩, b3, -⟩, -, -, k3, k4, -, -⟩ := hP
  have no : f_X11_share fu 1 a b st = some (-1, st) → f_X12_share fu 153 a b st = some (-1, st) → TwoL (f_X11_share fu 1 a b) (f_X12_share fu 153 a b) [(137, none), (138, none)] (fun _ => True) st := fun q1 q2 => ⟨-1, st, st, q1, q2, Fr.rf, trivial⟩
  obtain ⟨T, hTT⟩ : ∃ T, T = sm n (fun t => if mk t = 2 then 0 else tp t) := ⟨_, rfl⟩
  have sb := sm_b (f := fun t => if mk t = 2 then 0 else tp t) (b := 1000000) (n := n) (fun t ht => by
      by_cases hm : mk t = 2
      · simp [hm]
      · simp only [if_neg hm]; exact (b3 t ht).1.2.2.2.1)
  rw [← hTT] at k3 k4 sb
  have hTb : T ≤ 300000000 := by omega
  clear sb b3 hTT
  rcases rngN a 0 2 (by omega) (by omega) with ⟨p, -, p2, rfl, p3⟩ | ⟨g, g2⟩ | ⟨⟨g, g3⟩, g2⟩
  rotate_left
  · refine no ?_ ?_
    · unfold f_X11_share
      rw [within_eq, ca_s, if_neg (show ¬ ((0 : Int32) ≤ a ∧ a ≤ 2) from g2), if_pos rfl]
      rfl
    · unfold f_X12_share
      rw [if_pos (show a < 0 from g)]
      rfl
  · refine no ?_ ?_
    · unfold f_X11_share
      rw [within_eq, ca_s, if_neg (show ¬ ((0 : Int32) ≤ a ∧ a ≤ 2) from g2), if_pos rfl]
      rfl
    · unfold f_X12_share
      rw [if_neg (show ¬ a < 0 from g), if_pos (show 2 < a from g3)]
      rfl
  have p4 : ¬ nI p < 0 := fun q => by have := (nI_ltI (a := p) (b := 0) (by omega) (by omega)).mp q; omega
  have p5 : ¬ 2 < nI p := fun q => by have := (nI_ltI (a := 2) (b := p) (by omega) (by omega)).mp q; omega
  rcases rngN b 0 3 (by omega) (by omega) with ⟨w, -, w2, rfl, w3⟩ | ⟨g, g2⟩ | ⟨⟨g, g3⟩, g2⟩
  rotate_left
  · refine no ?_ ?_
    · unfold f_X11_share
      rw [within_eq, ca_s, if_pos (show (0 : Int32) ≤ nI p ∧ nI p ≤ 2 from p3), if_neg (by decide), within_eq, ca_s, if_neg (show ¬ ((0 : Int32) ≤ b ∧ b ≤ 3) from g2), if_pos rfl]
      rfl
    · unfold f_X12_share
      rw [if_neg p4, if_neg p5, if_pos (show b < 0 from g)]
      rfl
  · refine no ?_ ?_
    · unfold f_X11_share
      rw [within_eq, ca_s, if_pos (show (0 : Int32) ≤ nI p ∧ nI p ≤ 2 from p3), if_neg (by decide), within_eq, ca_s, if_neg (show ¬ ((0 : Int32) ≤ b ∧ b ≤ 3) from g2), if_pos rfl]
      rfl
    · unfold f_X12_share
      rw [if_neg p4, if_neg p5, if_neg (show ¬ b < 0 from g), if_neg (fun q => by
        have := i32_lt.mp g3
        have := i32_le.mp (show b ≤ nI 3 from q)
        omega)]
      rfl
  clear no p3 p4 p5 w3
  obtain ⟨o, q, A, s1, s2, s3, s4, s5⟩ := hS
  have hk : kd o = (100, 15) := by rcases s3 with ⟨rfl, -⟩ | ⟨rfl, -⟩ <;> rfl
  have hoz : o ≠ 0 := by omega
  obtain ⟨F, rfl⟩ : ∃ F, fu = F + 10 := ⟨fu - 10, by omega⟩
  have hundred : (100 : Int64) = zL 100 := rfl
  have cv1 : ∀ k, k < 15 → (gI st o k).toInt64 = zL (A k) := fun k hk => by
    obtain ⟨x1, x2, -⟩ := s4 k hk
    rw [x1, nI_z (by omega), zI_l (by omega)]
  have cT : (gI st 124 14).toInt64 = zL T := by rw [k3, nI_z (by omega), zI_l (by omega)]
  have m0 : (A 3 : Int) * T ≤ 400 * 300000000 ∧ 0 ≤ (A 3 : Int) * T := by
    have x := (s4 3 (by omega)).2.2 (by omega)
    have y : A 3 * T ≤ 400 * 300000000 := Nat.mul_le_mul x hTb
    have z : ((A 3 * T : Nat) : Int) = (A 3 : Int) * T := Int.natCast_mul _ _
    omega
  have m1 : (A 8 : Int) * T ≤ 400 * 300000000 ∧ 0 ≤ (A 8 : Int) * T := by
    have x := (s4 8 (by omega)).2.2 (by omega)
    have y : A 8 * T ≤ 400 * 300000000 := Nat.mul_le_mul x hTb
    have z : ((A 8 * T : Nat) : Int) = (A 8 : Int) * T := Int.natCast_mul _ _
    omega
  have m2 : (A 13 : Int) * T ≤ 400 * 300000000 ∧ 0 ≤ (A 13 : Int) * T := by
    have x := (s4 13 (by omega)).2.2 (by omega)
    have y : A 13 * T ≤ 400 * 300000000 := Nat.mul_le_mul x hTb
    have z : ((A 13 * T : Nat) : Int) = (A 13 : Int) * T := Int.natCast_mul _ _
    omega
  obtain ⟨a0, ha0, hb0⟩ : ∃ x : Int, x = 100 - (A 0 : Int) ∧ (-400 ≤ x ∧ x ≤ 400) := ⟨_, rfl, by have := (s4 0 (by omega)).2.2 (by omega); omega⟩
  obtain ⟨a1, ha1, hb1⟩ : ∃ x : Int, x = -(A 1 : Int) ∧ (-400 ≤ x ∧ x ≤ 400) := ⟨_, rfl, by have := (s4 1 (by omega)).2.2 (by omega); omega⟩
  obtain ⟨a2, ha2, hb2⟩ : ∃ x : Int, x = -(A 2 : Int) ∧ (-400 ≤ x ∧ x ≤ 400) := ⟨_, rfl, by have := (s4 2 (by omega)).2.2 (by omega); omega⟩
  obtain ⟨a3, ha3, hb3⟩ : ∃ x : Int, x = -(A 5 : Int) ∧ (-400 ≤ x ∧ x ≤ 400) := ⟨_, rfl, by have := (s4 5 (by omega)).2.2 (by omega); omega⟩
  obtain ⟨a4, ha4, hb4⟩ : ∃ x : Int, x = 100 - (A 6 : Int) ∧ (-400 ≤ x ∧ x ≤ 400) := ⟨_, rfl, by have := (s4 6 (by omega)).2.2 (by omega); omega⟩
  obtain ⟨a5, ha5, hb5⟩ : ∃ x : Int, x = -(A 7 : Int) ∧ (-400 ≤ x ∧ x ≤ 400) := ⟨_, rfl, by have := (s4 7 (by omega)).2.2 (by omega); omega⟩
  obtain ⟨a6, ha6, hb6⟩ : ∃ x : Int, x = -(A 10 : Int) ∧ (-400 ≤ x ∧ x ≤ 400) := ⟨_, rfl, by have := (s4 10 (by omega)).2.2 (by omega); omega⟩
  obtain ⟨a7, ha7, hb7⟩ : ∃ x : Int, x = -(A 11 : Int) ∧ (-400 ≤ x ∧ x ≤ 400) := ⟨_, rfl, by have := (s4 11 (by omega)).2.2 (by omega); omega⟩
  obtain ⟨a8, ha8, hb8⟩ : ∃ x : Int, x = 100 - (A 12 : Int) ∧ (-400 ≤ x ∧ x ≤ 400) := ⟨_, rfl, by have := (s4 12 (by omega)).2.2 (by omega); omega⟩
  obtain ⟨b0, hc0, hd0⟩ : ∃ x : Int, x = (A 3 : Int) * T + 100 * (A 4 : Int) ∧ (-130000000000 ≤ x ∧ x ≤ 130000000000) := ⟨_, rfl, by have := (s4 4 (by omega)).2.1; omega⟩
  obtain ⟨b1, hc1, hd1⟩ : ∃ x : Int, x = (A 8 : Int) * T + 100 * (A 9 : Int) ∧ (-130000000000 ≤ x ∧ x ≤ 130000000000) := ⟨_, rfl, by have := (s4 9 (by omega)).2.1; omega⟩
  obtain ⟨b2, hc2, hd2⟩ : ∃ x : Int, x = (A 13 : Int) * T + 100 * (A 14 : Int) ∧ (-130000000000 ≤ x ∧ x ≤ 130000000000) := ⟨_, rfl, by have := (s4 14 (by omega)).2.1; omega⟩
  have hR : rw9 o (gI st 124 14) st = r9 (zL a0) (zL a1) (zL a2) (zL a3) (zL a4) (zL a5) (zL a6) (zL a7) (zL a8) (zL b0) (zL b1) (zL b2) st := by
    unfold rw9
    rw [hundred, cT, cv1 0 (by omega), cv1 1 (by omega), cv1 2 (by omega), cv1 3 (by omega), cv1 4 (by omega), cv1 5 (by omega), cv1 6 (by omega), cv1 7 (by omega), cv1 8 (by omega), cv1 9 (by omega), cv1 10 (by omega), cv1 11 (by omega), cv1 12 (by omega), cv1 13 (by omega), cv1 14 (by omega)]
    simp only [zL_sub, zL_neg, zL_mul, zL_add]
    rw [ha0, ha1, ha2, ha3, ha4, ha5, ha6, ha7, ha8, hc0, hc1, hc2]
  have cl := share_c (F := F) hT s1 hk hoz p2 w2 hR
  have dB := dtI_b hb0 hb1 hb2 hb3 hb4 hb5 hb6 hb7 hb8
  rw [dt_z] at cl
  obtain ⟨D, hD⟩ : ∃ D, D = dtI a0 a1 a2 a3 a4 a5 a6 a7 a8 := ⟨_, rfl⟩
  rw [← hD] at cl dB
  have dB2 : -1073741824 < D ∧ D < 1073741824 := by omega
  have zD : zL D = 0 ↔ D = 0 := by
    rw [show (0 : Int64) = zL 0 from rfl, ← Int64.toInt_inj, zL_t (by omega), zL_t (by omega)]
  have frR := r9_F (zL a0) (zL a1) (zL a2) (zL a3) (zL a4) (zL a5) (zL a6) (zL a7) (zL a8) (zL b0) (zL b1) (zL b2) st
  have rdr : ∀ u, Fr [(137, none), (138, none)] st u → (∀ k, k < 3 → gL u 243 k = zL (A (5 * k + 3)) ∧ gL u 245 k = zL (A (5 * k + 4))) ∧ (∀ i k, i < 3 → k < 3 → gL u 244 (3 * i + k) = zL (A (5 * i + k))) ∧ gL u 153 93 = zL T := fun u fr => by
    refine ⟨fun k hk => ⟨?_, ?_⟩, fun i k hi hk => ?_, ?_⟩
    · rw [fr.kl 243 k (by simp [covers]), (s5 k hk).1, lN_z]
      have := (s4 (5 * k + 3) (by omega)).2.1
      omega
    · rw [fr.kl 245 k (by simp [covers]), (s5 k hk).2.1, lN_z]
      have := (s4 (5 * k + 4) (by omega)).2.1
      omega
    · rw [fr.kl 244 (3 * i + k) (by simp [covers]), (s5 i hi).2.2 k hk, lN_z]
      have := (s4 (5 * i + k) (by omega)).2.1
      omega
    · rw [fr.kl 153 93 (by simp [covers]), k4, lN_z (by omega)]
  have vals : ∀ u, Fr [(137, none), (138, none)] st u → 100 - gL u 244 0 = zL a0 ∧ -(gL u 244 1) = zL a1 ∧ -(gL u 244 2) = zL a2 ∧ -(gL u 244 3) = zL a3 ∧ 100 - gL u 244 4 = zL a4 ∧ -(gL u 244 5) = zL a5 ∧ -(gL u 244 6) = zL a6 ∧ -(gL u 244 7) = zL a7 ∧ 100 - gL u 244 8 = zL a8 ∧ gL u 243 0 * gL u 153 93 + 100 * gL u 245 0 = zL b0 ∧ gL u 243 1 * gL u 153 93 + 100 * gL u 245 1 = zL b1 ∧ gL u 243 2 * gL u 153 93 + 100 * gL u 245 2 = zL b2 := fun u fr => by
    obtain ⟨e1, e2, e3⟩ := rdr u fr
    have g0 := fun i k hi hk => e2 i k hi hk
    have f00 : gL u 244 0 = zL (A 0) := e2 0 0 (by omega) (by omega)
    have f01 : gL u 244 1 = zL (A 1) := e2 0 1 (by omega) (by omega)
    have f02 : gL u 244 2 = zL (A 2) := e2 0 2 (by omega) (by omega)
    have f10 : gL u 244 3 = zL (A 5) := e2 1 0 (by omega) (by omega)
    have f11 : gL u 244 4 = zL (A 6) := e2 1 1 (by omega) (by omega)
    have f12 : gL u 244 5 = zL (A 7) := e2 1 2 (by omega) (by omega)
    have f20 : gL u 244 6 = zL (A 10) := e2 2 0 (by omega) (by omega)
    have f21 : gL u 244 7 = zL (A 11) := e2 2 1 (by omega) (by omega)
    have f22 : gL u 244 8 = zL (A 12) := e2 2 2 (by omega) (by omega)
    have t0 : gL u 243 0 = zL (A 3) := (e1 0 (by omega)).1
    have s0' : gL u 245 0 = zL (A 4) := (e1 0 (by omega)).2
    have t1 : gL u 243 1 = zL (A 8) := (e1 1 (by omega)).1
    have s1' : gL u 245 1 = zL (A 9) := (e1 1 (by omega)).2
    have t2 : gL u 243 2 = zL (A 13) := (e1 2 (by omega)).1
    have s2' : gL u 245 2 = zL (A 14) := (e1 2 (by omega)).2
    rw [e3, hundred, f00, f01, f02, f10, f11, f12, f20, f21, f22, t0, s0', t1, s1', t2, s2']
    simp only [zL_sub, zL_neg, zL_mul, zL_add]
    rw [ha0, ha1, ha2, ha3, ha4, ha5, ha6, ha7, ha8, hc0, hc1, hc2]
    exact ⟨rfl, rfl, rfl, rfl, rfl, rfl, rfl, rfl, rfl, rfl, rfl, rfl⟩
  clear rdr s5 s4 cv1 cT hR m0 m1 m2 k3 k4 ha0 ha1 ha2 ha3 ha4 ha5 ha6 ha7 ha8 hc0 hc1 hc2
  have p3 : p = 0 ∨ p = 1 ∨ p = 2 := by omega
  rcases p3 with rfl | rfl | rfl
  · have rr : ∀ u, Fr [(137, none), (138, none)] st u → Top u → f_X12_share (F + 10) 153 (nI 0) (nI w) u = if zL D = 0 then some (0, u) else if w = 3 then some (1, u) else b_X12_share_300 (F + 10) (nI w) (zL D) (zL (dtI b0 a1 a2 b1 a4 a5 b2 a7 a8)) u := fun u fr hTu => by
      obtain ⟨v0, v1, v2, v3, v4, v5, v6, v7, v8, v9, v10, v11⟩ := vals u fr
      have x := share_r0 hTu (F + 10) w2
      rw [v0, v1, v2, v3, v4, v5, v6, v7, v8, v9, v10, v11, dt_z, dt_z, ← hD] at x
      exact x
    by_cases hz : zL D = 0
    · rw [if_pos hz] at cl
      have x := rr _ frR (hT.r (r9_R _ _ _ _ _ _ _ _ _ _ _ _ st))
      rw [if_pos hz] at x
      exact ⟨_, _, _, cl, x, frR, trivial⟩
    · rw [if_neg hz] at cl
      by_cases h3 : w = 3
      · rw [if_pos h3] at cl
        have x := rr _ frR (hT.r (r9_R _ _ _ _ _ _ _ _ _ _ _ _ st))
        rw [if_neg hz, if_pos h3] at x
        exact ⟨_, _, _, cl, x, frR, trivial⟩
      · rw [if_neg h3, tl_p0 hT, dt_z] at cl
        have pB := dtI_b hd0 hb1 hb2 hd1 hb4 hb5 hd2 hb7 hb8
        have frS := (((frR.tr (Fr.l _ 137 0 (zL b0))).tr (Fr.l _ 137 3 (zL b1))).tr (Fr.l _ 137 6 (zL b2))).wd (V := [(137, none), (138, none)]) (by decide)
        have x := rr _ frS (hT.r rfl)
        rw [if_neg hz, if_neg h3] at x
        obtain ⟨v, y1, y2⟩ := tell_300 (fu := F + 10) (by omega) (nI w) (w := D) (p := dtI b0 a1 a2 b1 a4 a5 b2 a7 a8) ⟨fun e => hz (zD.mpr e), dB2⟩ (by omega) (st := sL (sL (sL (r9 (zL a0) (zL a1) (zL a2) (zL a3) (zL a4) (zL a5) (zL a6) (zL a7) (zL a8) (zL b0) (zL b1) (zL b2) st) 137 0 (zL b0)) 137 3 (zL b1)) 137 6 (zL b2)) (u := sL (sL (sL (r9 (zL a0) (zL a1) (zL a2) (zL a3) (zL a4) (zL a5) (zL a6) (zL a7) (zL a8) (zL b0) (zL b1) (zL b2) st) 137 0 (zL b0)) 137 3 (zL b1)) 137 6 (zL b2))
        rw [y1] at cl
        rw [y2] at x
        exact ⟨_, _, _, cl, x, frS, trivial⟩
  · have rr : ∀ u, Fr [(137, none), (138, none)] st u → Top u → f_X12_share (F + 10) 153 (nI 1) (nI w) u = if zL D = 0 then some (0, u) else if w = 3 then some (1, u) else b_X12_share_300 (F + 10) (nI w) (zL D) (zL (dtI a0 b0 a2 a3 b1 a5 a6 b2 a8)) u := fun u fr hTu => by
      obtain ⟨v0, v1, v2, v3, v4, v5, v6, v7, v8, v9, v10, v11⟩ := vals u fr
      have x := share_r1 hTu (F + 10) w2
      rw [v0, v1, v2, v3, v4, v5, v6, v7, v8, v9, v10, v11, dt_z, dt_z, ← hD] at x
      exact x
    by_cases hz : zL D = 0
    · rw [if_pos hz] at cl
      have x := rr _ frR (hT.r (r9_R _ _ _ _ _ _ _ _ _ _ _ _ st))
      rw [if_pos hz] at x
      exact ⟨_, _, _, cl, x, frR, trivial⟩
    · rw [if_neg hz] at cl
      by_cases h3 : w = 3
      · rw [if_pos h3] at cl
        have x := rr _ frR (hT.r (r9_R _ _ _ _ _ _ _ _ _ _ _ _ st))
        rw [if_neg hz, if_pos h3] at x
        exact ⟨_, _, _, cl, x, frR, trivial⟩
      · rw [if_neg h3, tl_p1 hT, dt_z] at cl
        have pB := dtI_b hb0 hd0 hb2 hb3 hd1 hb5 hb6 hd2 hb8
        have frS := (((frR.tr (Fr.l _ 137 1 (zL b0))).tr (Fr.l _ 137 4 (zL b1))).tr (Fr.l _ 137 7 (zL b2))).wd (V := [(137, none), (138, none)]) (by decide)
        have x := rr _ frS (hT.r rfl)
        rw [if_neg hz, if_neg h3] at x
        obtain ⟨v, y1, y2⟩ := tell_300 (fu := F + 10) (by omega) (nI w) (w := D) (p := dtI a0 b0 a2 a3 b1 a5 a6 b2 a8) ⟨fun e => hz (zD.mpr e), dB2⟩ (by omega) (st := sL (sL (sL (r9 (zL a0) (zL a1) (zL a2) (zL a3) (zL a4) (zL a5) (zL a6) (zL a7) (zL a8) (zL b0) (zL b1) (zL b2) st) 137 1 (zL b0)) 137 4 (zL b1)) 137 7 (zL b2)) (u := sL (sL (sL (r9 (zL a0) (zL a1) (zL a2) (zL a3) (zL a4) (zL a5) (zL a6) (zL a7) (zL a8) (zL b0) (zL b1) (zL b2) st) 137 1 (zL b0)) 137 4 (zL b1)) 137 7 (zL b2))
        rw [y1] at cl
        rw [y2] at x
        exact ⟨_, _, _, cl, x, frS, trivial⟩
  · have rr : ∀ u, Fr [(137, none), (138, none)] st u → Top u → f_X12_share (F + 10) 153 (nI 2) (nI w) u = if zL D = 0 then some (0, u) else if w = 3 then some (1, u) else b_X12_share_300 (F + 10) (nI w) (zL D) (zL (dtI a0 a1 b0 a3 a4 b1 a6 a7 b2)) u := fun u fr hTu => by
      obtain ⟨v0, v1, v2, v3, v4, v5, v6, v7, v8, v9, v10, v11⟩ := vals u fr
      have x := share_r2 hTu (F + 10) w2
      rw [v0, v1, v2, v3, v4, v5, v6, v7, v8, v9, v10, v11, dt_z, dt_z, ← hD] at x
      exact x
    by_cases hz : zL D = 0
    · rw [if_pos hz] at cl
      have x := rr _ frR (hT.r (r9_R _ _ _ _ _ _ _ _ _ _ _ _ st))
      rw [if_pos hz] at x
      exact ⟨_, _, _, cl, x, frR, trivial⟩
    · rw [if_neg hz] at cl
      by_cases h3 : w = 3
      · rw [if_pos h3] at cl
        have x := rr _ frR (hT.r (r9_R _ _ _ _ _ _ _ _ _ _ _ _ st))
        rw [if_neg hz, if_pos h3] at x
        exact ⟨_, _, _, cl, x, frR, trivial⟩
      · rw [if_neg h3, tl_p2 hT, dt_z] at cl
        have pB := dtI_b hb0 hb1 hd0 hb3 hb4 hd1 hb6 hb7 hd2
        have frS := (((frR.tr (Fr.l _ 137 2 (zL b0))).tr (Fr.l _ 137 5 (zL b1))).tr (Fr.l _ 137 8 (zL b2))).wd (V := [(137, none), (138, none)]) (by decide)
        have x := rr _ frS (hT.r rfl)
        rw [if_neg hz, if_neg h3] at x
        obtain ⟨v, y1, y2⟩ := tell_300 (fu := F + 10) (by omega) (nI w) (w := D) (p := dtI a0 a1 b0 a3 a4 b1 a6 a7 b2) ⟨fun e => hz (zD.mpr e), dB2⟩ (by omega) (st := sL (sL (sL (r9 (zL a0) (zL a1) (zL a2) (zL a3) (zL a4) (zL a5) (zL a6) (zL a7) (zL a8) (zL b0) (zL b1) (zL b2) st) 137 2 (zL b0)) 137 5 (zL b1)) 137 8 (zL b2)) (u := sL (sL (sL (r9 (zL a0) (zL a1) (zL a2) (zL a3) (zL a4) (zL a5) (zL a6) (zL a7) (zL a8) (zL b0) (zL b1) (zL b2) st) 137 2 (zL b0)) 137 5 (zL b1)) 137 8 (zL b2))
        rw [y1] at cl
        rw [y2] at x
        exact ⟨_, _, _, cl, x, frS, trivial⟩
