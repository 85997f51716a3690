/-! PURE: the text of a list, in the reference: an act, in step -/
set_option maxHeartbeats 16000000 in
theorem act_p {st : St} (hT : Top st) {b : BY} {n T t : Nat} (h : RS b n T t st) {fu : Nat} (hf : 9000 ≤ fu) {k a : Nat} (hk : k < 60) (ha : a ≤ 300) (h35 : gI st 153 35 = nI a) : ∃ u, f_X12_act fu 153 (nI k) st = some u ∧ Fr Wx st u ∧ Top u ∧ (∃ a', a' ≤ 300 ∧ gI u 153 35 = nI a') ∧ RO b n T (T - t - 1) (pActL b n a t) (APost k a st u) u := by
  obtain ⟨g5, g4, g6, g7, g8, g9, g10, g11, g12⟩ := h.rd
  have fk := fW_6 (b := b) (n := n) (t := t) 8
  have z34 : ∀ s, Fr W5 st s → ∀ v : Nat, ∀ c, 1 ≤ c → c ≤ 64 → gI s 184 c = (if (0 : Nat).testBit (c - 1) then nI 1 else gI st 184 c) ∧ gI s 183 c = (if (0 : Nat).testBit (c - 1) then nI v else gI st 183 c) := fun s fr v c _ _ => by
    rw [Nat.zero_testBit, fr.fi 184 (by decide), fr.fi 183 (by decide)]
    exact ⟨rfl, rfl⟩
  obtain ⟨a0, e0, fr0, hT0, d0⟩ := takeW_p hT h (fu := fu) (by omega) (w := 8) (by omega) (by omega)
  cases w0 : wB b n t 8
  · rw [w0] at e0 d0 fk
    simp only [Bool.toNat_false, Bool.false_eq_true, if_false] at e0 d0 fk
    obtain ⟨a1, e1, fr1, hT1, d1⟩ := takeW_p hT0 d0 (fu := fu) (by omega) (w := 9) (by omega) (by omega)
    have fr1' := fr0.tt fr1
    cases w1 : wB b n t 9
    · rw [w1] at e1 d1 fk
      simp only [Bool.toNat_false, Bool.false_eq_true, if_false] at e1 d1 fk
      obtain ⟨a2, e2, fr2, hT2, d2⟩ := takeW_p hT1 d1 (fu := fu) (by omega) (w := 10) (by omega) (by omega)
      have fr2' := fr1'.tt fr2
      cases w2 : wB b n t 10
      · rw [w2] at e2 d2 fk
        simp only [Bool.toNat_false, Bool.false_eq_true, if_false] at e2 d2 fk
        obtain ⟨a3, e3, fr3, hT3, d3⟩ := takeW_p hT2 d2 (fu := fu) (by omega) (w := 11) (by omega) (by omega)
        have fr3' := fr2'.tt fr3
        cases w3 : wB b n t 11
        · rw [w3] at e3 d3 fk
          simp only [Bool.toNat_false, Bool.false_eq_true, if_false] at e3 d3 fk
          obtain ⟨a4, e4, fr4, hT4, d4⟩ := takeW_p hT3 d3 (fu := fu) (by omega) (w := 12) (by omega) (by omega)
          have fr4' := fr3'.tt fr4
          cases w4 : wB b n t 12
          · rw [w4] at e4 d4 fk
            simp only [Bool.toNat_false, Bool.false_eq_true, if_false] at e4 d4 fk
            obtain ⟨a5, e5, fr5, hT5, d5⟩ := takeW_p hT4 d4 (fu := fu) (by omega) (w := 13) (by omega) (by omega)
            have fr5' := fr4'.tt fr5
            cases w5 : wB b n t 13
            · -- no act
              rw [w5] at e5 d5 fk
              simp only [Bool.toNat_false, Bool.false_eq_true, if_false] at e5 d5 fk
              obtain ⟨u, q1, q2, q3, q4⟩ := wrong_q hT5 d5 fu
              refine ⟨u, ?_, Wx_5 (fr5'.tt q2), q3, ⟨a, ha, by rw [(W5_k (fr5'.tt q2)).1]; exact h35⟩, ?_⟩
              · clear h d0 d1 d2 d3 d4 d5 q4 z34 fk
                simp (disch := first | decide | omega) [isb, ck_tt, NP, NF, NC, NB, NS, GS, kdR, tpR hT, f_X12_act, g5, g7, e0, e1, e2, e3, e4, e5, q1]
              · unfold pActL pAct
                rw [fk, if_neg (by omega), if_pos (by omega)]
                exact q4.mono (by omega)
            · -- master
              rw [w5] at e5 d5 fk
              simp only [Bool.toNat_true, if_true] at e5 d5 fk
              obtain ⟨x, b1, b2, v, b3, q1, q2, q3, q4, q5, q6⟩ := nwn_p hT5 d5 (fu := fu) (by omega) (h1 := 3) (h2 := 255) (w := 15) (by omega) (by omega) (by omega) (by omega)
              have frq := fr5'.tt q4
              have K := W5_k frq
              have hpa : pAct b n t = pb (pb (pNum b n 0 3 (t + 1)) fun x' t2 => pb (pb (pWd b n 15 t2) fun _ t3 => pNum b n 0 255 t3) fun v' t4 => .inl ((x', v'), t4) : PR (Nat × Nat)) fun z t4 => .inl ((5, z.1, z.2, 0), t4) := by
                unfold pAct
                rw [fk, if_neg (by omega)]
                show pb (pb (pNum b n 0 3 (t + 1)) fun x t1 => .inl ((x, 0), t1)) (fun y t1 => pb (pb (pWd b n 15 t1) fun _ t2 => pNum b n 0 255 t2) fun v t2 => .inl ((5, y.1, v, y.2), t2)) = _
                cases pNum b n 0 3 (t + 1) with
                | inr e' => rfl
                | inl y =>
                  obtain ⟨y, ty⟩ := y
                  simp only [pb_i]
                  cases pb (pWd b n 15 ty) fun _ t2 => pNum b n 0 255 t2 <;> rfl
              obtain ⟨u, r1, r2, r3, r4, r5⟩ := e201_p (st := st) (s := b3) q5 (b := b) (n := n) (T := T) (t := t) fu hk ha (by rw [K.1]; exact h35) (Wx_5 frq) ⟨K.2.1, K.2.2.1, K.2.2.2.1, K.2.2.2.2.1⟩ (by omega) (nI 5) (nI x) (nI v) (by
                rw [hpa]
                cases hp : (pb (pNum b n 0 3 (t + 1)) fun x' t2 => pb (pb (pWd b n 15 t2) fun _ t3 => pNum b n 0 255 t3) fun v' t4 => .inl ((x', v'), t4) : PR (Nat × Nat)) with
                | inr e' => rw [hp] at q6; exact DM.mono q6 (by omega)
                | inl y =>
                  rw [hp] at q6
                  obtain ⟨q6, hx, hv⟩ := q6
                  subst hx hv
                  exact ⟨q6, ⟨rfl, rfl, rfl⟩, z34 b3 frq _⟩)
              refine ⟨u, ?_, r2, r3, r4, r5⟩
              rw [← r1]
              clear h d0 d1 d2 d3 d4 d5 q6 z34 fk hpa r1 r2 r3 r4 r5
              simp (disch := first | decide | omega) [isb, ck_tt, NP, NF, NC, NB, NS, GS, kdR, tpR hT, f_X12_act, g5, g7, e0, e1, e2, e3, e4, e5, q1, q2, q3]
          · -- go
            rw [w4] at e4 d4 fk
            simp only [Bool.toNat_true, if_true] at e4 d4 fk
            obtain ⟨x, b1, q1, q2, q3, q4, co1⟩ := num_p hT4 d4 fu (lo := 0) (hi := 3) (by omega) (by omega)
            have hpa : pAct b n t = pb (pNum b n 0 3 (t + 1)) fun x t1 => pb (pName b n t1) fun v t2 => .inl ((4, x, v, 0), t2) := by
              unfold pAct
              rw [fk, if_neg (by omega)]
              show pb (pb (pNum b n 0 3 (t + 1)) fun x t1 => .inl ((x, 0), t1)) (fun y t1 => pb (pName b n t1) fun v t2 => .inl ((4, y.1, v, y.2), t2)) = _
              cases pNum b n 0 3 (t + 1) with
              | inr e' => rfl
              | inl y => rfl
            -- the state behind the name
            have fin : ∀ v b2, f_X12_name fu 153 b1 = some (nI v, b2) → Fr W6 b1 b2 → Top b2 → RO b n T (T - t - 1) (pAct b n t) (fun y => (nI 4 = nI (rk y.1) ∧ nI x = nI y.2.1 ∧ nI v = nI (vk y)) ∧ y.2.2.2 = 0) b2 → ∃ u, f_X12_act fu 153 (nI k) st = some u ∧ Fr Wx st u ∧ Top u ∧ (∃ a', a' ≤ 300 ∧ gI u 153 35 = nI a') ∧ RO b n T (T - t - 1) (pActL b n a t) (APost k a st u) u := fun v b2 p1 p3 p4 ro => by
              have frq := fr4'.tt q3
              have K := W5_k frq
              obtain ⟨u, r1, r2, r3, r4, r5⟩ := e201_p (st := st) (s := b2) p4 (b := b) (n := n) (T := T) (t := t) fu hk ha (by rw [p3.ki 153 35 (by decide), K.1]; exact h35) ((Wx_5 frq).tt (Wx_6 p3)) ⟨by rw [p3.fi 177 (by decide)]; exact K.2.1, by rw [p3.fi 180 (by decide)]; exact K.2.2.1, by rw [p3.fi 181 (by decide)]; exact K.2.2.2.1, by rw [p3.fi 182 (by decide)]; exact K.2.2.2.2.1⟩ (by omega) (nI 4) (nI x) (nI v) (by
                cases hp : pAct b n t with
                | inr e' => rw [hp] at ro; exact ro
                | inl y =>
                  rw [hp] at ro
                  obtain ⟨ro, hx, hm⟩ := ro
                  refine ⟨ro, hx, fun c c1 c2 => ?_⟩
                  rw [hm, p3.fi 184 (by decide), p3.fi 183 (by decide)]
                  exact z34 b1 frq _ c c1 c2)
              refine ⟨u, ?_, r2, r3, r4, r5⟩
              rw [← r1]
              clear h d0 d1 d2 d3 d4 co1 z34 fk hpa r1 r2 r3 r4 r5 ro
              simp (disch := first | decide | omega) [isb, ck_tt, NP, NF, NC, NB, NS, GS, kdR, tpR hT, f_X12_act, g5, g7, e0, e1, e2, e3, e4, q1, p1]
            cases hp : pNum b n 0 3 (t + 1) with
            | inr e' =>
              rw [hp] at co1
              obtain ⟨v, b2, p1, p2, p3, p4, p5⟩ := name_D q4 co1 fu
              exact fin v b2 p1 p3 p4 (by rw [hpa, hp]; exact p5.mono (by omega))
            | inl y =>
              obtain ⟨y, t1⟩ := y
              rw [hp] at co1
              obtain ⟨d5, hx⟩ := co1
              have hx : x = y := hx
              subst hx
              have d5 : RS b n T t1 b1 := d5
              have := (pNum_i hp).2.2.2.2
              obtain ⟨v, b2, p1, p2, p3, p4, co2, -⟩ := name_p q4 d5 fu
              refine fin v b2 p1 p3 p4 ?_
              rw [hpa, hp, pb_i]
              cases hp2 : pName b n t1 with
              | inr e' => rw [hp2] at co2; exact DM.mono co2 (by omega)
              | inl z =>
                rw [hp2] at co2
                obtain ⟨d6, hv, -⟩ := co2
                subst hv
                exact ⟨d6, ⟨rfl, rfl, rfl⟩, rfl⟩
        · -- fire
          rw [w3] at e3 d3 fk
          simp only [Bool.toNat_true, if_true] at e3 d3 fk
          obtain ⟨x, b1, q1, q2, q3, q4, co1⟩ := num_p hT3 d3 fu (lo := 0) (hi := 15) (by omega) (by omega)
          have frq := fr3'.tt q3
          have K := W5_k frq
          have hpa : pAct b n t = pb (pNum b n 0 15 (t + 1)) fun x t1 => .inl ((3, x, 0, 0), t1) := by
            unfold pAct
            rw [fk, if_neg (by omega)]
            show pb (pb (pNum b n 0 15 (t + 1)) fun x t1 => .inl ((x, 0), t1)) (fun y t1 => pb (.inl (0, t1)) fun v t2 => .inl ((3, y.1, v, y.2), t2)) = _
            cases pNum b n 0 15 (t + 1) with
            | inr e' => rfl
            | inl y => rfl
          obtain ⟨u, r1, r2, r3, r4, r5⟩ := e201_p (st := st) (s := b1) q4 (b := b) (n := n) (T := T) (t := t) fu hk ha (by rw [K.1]; exact h35) (Wx_5 frq) ⟨K.2.1, K.2.2.1, K.2.2.2.1, K.2.2.2.2.1⟩ (by omega) (nI 3) (nI x) (nI 0) (by
            rw [hpa]
            cases hp : pNum b n 0 15 (t + 1) with
            | inr e' => rw [hp] at co1; exact DM.mono co1 (by omega)
            | inl y =>
              rw [hp] at co1
              obtain ⟨d6, hx⟩ := co1
              subst hx
              exact ⟨d6, ⟨rfl, rfl, rfl⟩, z34 b1 frq _⟩)
          refine ⟨u, ?_, r2, r3, r4, r5⟩
          rw [← r1]
          clear h d0 d1 d2 d3 co1 z34 fk hpa r1 r2 r3 r4 r5
          simp (disch := first | decide | omega) [isb, ck_tt, NP, NF, NC, NB, NS, GS, kdR, tpR hT, f_X12_act, g5, g7, e0, e1, e2, e3, q1]
      · -- let
        rw [w2] at e2 d2 fk
        simp only [Bool.toNat_true, if_true] at e2 d2 fk
        obtain ⟨x, b1, q1, q2, q3, q4, co1⟩ := num_p hT2 d2 fu (lo := 0) (hi := 7) (by omega) (by omega)
        have frq := fr2'.tt q3
        have K := W5_k frq
        have hpa : pAct b n t = pb (pNum b n 0 7 (t + 1)) fun x t1 => .inl ((2, x, 0, 0), t1) := by
          unfold pAct
          rw [fk, if_neg (by omega)]
          show pb (pb (pNum b n 0 7 (t + 1)) fun x t1 => .inl ((x, 0), t1)) (fun y t1 => pb (.inl (0, t1)) fun v t2 => .inl ((2, y.1, v, y.2), t2)) = _
          cases pNum b n 0 7 (t + 1) with
          | inr e' => rfl
          | inl y => rfl
        obtain ⟨u, r1, r2, r3, r4, r5⟩ := e201_p (st := st) (s := b1) q4 (b := b) (n := n) (T := T) (t := t) fu hk ha (by rw [K.1]; exact h35) (Wx_5 frq) ⟨K.2.1, K.2.2.1, K.2.2.2.1, K.2.2.2.2.1⟩ (by omega) (nI 2) (nI x) (nI 0) (by
          rw [hpa]
          cases hp : pNum b n 0 7 (t + 1) with
          | inr e' => rw [hp] at co1; exact DM.mono co1 (by omega)
          | inl y =>
            rw [hp] at co1
            obtain ⟨d6, hx⟩ := co1
            subst hx
            exact ⟨d6, ⟨rfl, rfl, rfl⟩, z34 b1 frq _⟩)
        refine ⟨u, ?_, r2, r3, r4, r5⟩
        rw [← r1]
        clear h d0 d1 d2 co1 z34 fk hpa r1 r2 r3 r4 r5
        simp (disch := first | decide | omega) [isb, ck_tt, NP, NF, NC, NB, NS, GS, kdR, tpR hT, f_X12_act, g5, g7, e0, e1, e2, q1]
    · -- axis
      rw [w1] at e1 d1 fk
      simp only [Bool.toNat_true, if_true] at e1 d1 fk
      obtain ⟨x, b1, b2, v, b3, q1, q2, q3, q4, q5, q6⟩ := nwn_p hT1 d1 (fu := fu) (by omega) (h1 := 7) (h2 := 99999) (w := 14) (by omega) (by omega) (by omega) (by omega)
      have frq := fr1'.tt q4
      have K := W5_k frq
      have hpa : pAct b n t = pb (pb (pNum b n 0 7 (t + 1)) fun x' t2 => pb (pb (pWd b n 14 t2) fun _ t3 => pNum b n 0 99999 t3) fun v' t4 => .inl ((x', v'), t4) : PR (Nat × Nat)) fun z t4 => .inl ((1, z.1, z.2, 0), t4) := by
        unfold pAct
        rw [fk, if_neg (by omega)]
        show pb (pb (pNum b n 0 7 (t + 1)) fun x t1 => .inl ((x, 0), t1)) (fun y t1 => pb (pb (pWd b n 14 t1) fun _ t2 => pNum b n 0 99999 t2) fun v t2 => .inl ((1, y.1, v, y.2), t2)) = _
        cases pNum b n 0 7 (t + 1) with
        | inr e' => rfl
        | inl y =>
          obtain ⟨y, ty⟩ := y
          simp only [pb_i]
          cases pb (pWd b n 14 ty) fun _ t2 => pNum b n 0 99999 t2 <;> rfl
      obtain ⟨u, r1, r2, r3, r4, r5⟩ := e201_p (st := st) (s := b3) q5 (b := b) (n := n) (T := T) (t := t) fu hk ha (by rw [K.1]; exact h35) (Wx_5 frq) ⟨K.2.1, K.2.2.1, K.2.2.2.1, K.2.2.2.2.1⟩ (by omega) (nI 1) (nI x) (nI v) (by
        rw [hpa]
        cases hp : (pb (pNum b n 0 7 (t + 1)) fun x' t2 => pb (pb (pWd b n 14 t2) fun _ t3 => pNum b n 0 99999 t3) fun v' t4 => .inl ((x', v'), t4) : PR (Nat × Nat)) with
        | inr e' => rw [hp] at q6; exact DM.mono q6 (by omega)
        | inl y =>
          rw [hp] at q6
          obtain ⟨q6, hx, hv⟩ := q6
          subst hx hv
          exact ⟨q6, ⟨rfl, rfl, rfl⟩, z34 b3 frq _⟩)
      refine ⟨u, ?_, r2, r3, r4, r5⟩
      rw [← r1]
      clear h d0 d1 q6 z34 fk hpa r1 r2 r3 r4 r5
      simp (disch := first | decide | omega) [isb, ck_tt, NP, NF, NC, NB, NS, GS, kdR, tpR hT, f_X12_act, g5, g7, e0, e1, q1, q2, q3]
  · -- channels
    rw [w0] at e0 d0 fk
    simp only [Bool.toNat_true, if_true] at e0 d0 fk
    obtain ⟨b1, q1, q3, q4, co1⟩ := channels_p hT0 d0 hf
    have frq := (Wx_5 fr0).tt (Wx_c q3)
    have K := W5_k fr0
    have hpa : pAct b n t = pb (pCh b n (t + 1)) fun x t2 => .inl ((0, 0, x.1, x.2), t2) := by
      unfold pAct pCh
      rw [fk, if_neg (by omega)]
      show pb (pb (pChs b n 4001 0 (t + 1)) fun m t1 => .inl ((0, m), t1)) (fun y t1 => pb (pTl b n 0 t1) fun v t2 => .inl ((0, y.1, v, y.2), t2)) = _
      cases pChs b n 4001 0 (t + 1) with
      | inr e' => rfl
      | inl y =>
        obtain ⟨y, ty⟩ := y
        simp only [pb_i]
        cases pTl b n 0 ty <;> rfl
    obtain ⟨u, r1, r2, r3, r4, r5⟩ := e201_p (st := st) (s := b1) q4 (b := b) (n := n) (T := T) (t := t) fu hk ha (by rw [q3.ki 153 35 (by decide), K.1]; exact h35) frq ⟨by rw [q3.fi 177 (by decide)]; exact K.2.1, by rw [q3.fi 180 (by decide)]; exact K.2.2.1, by rw [q3.fi 181 (by decide)]; exact K.2.2.2.1, by rw [q3.fi 182 (by decide)]; exact K.2.2.2.2.1⟩ (by omega) (nI 6) (nI 0) (nI 0) (by
      rw [hpa]
      cases hp : pCh b n (t + 1) with
      | inr e' => rw [hp] at co1; exact DM.mono co1 (by omega)
      | inl y =>
        rw [hp] at co1
        obtain ⟨d6, hx⟩ := co1
        refine ⟨d6, ⟨rfl, rfl, rfl⟩, fun c c1 c2 => ?_⟩
        have := hx c c1 c2
        rw [K.2.2.2.2.2.1, K.2.2.2.2.2.2] at this
        exact this)
    refine ⟨u, ?_, r2, r3, r4, r5⟩
    rw [← r1]
    clear h d0 co1 z34 fk hpa r1 r2 r3 r4 r5
    simp (disch := first | decide | omega) [isb, ck_tt, NP, NF, NC, NB, NS, GS, kdR, tpR hT, f_X12_act, g5, g7, e0, q1]
