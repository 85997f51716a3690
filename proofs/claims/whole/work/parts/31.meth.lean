/-! StageHouseModel.isHold(I)Z -/
def b_X12_isHold_24 (fu : Nat)  (y0 : Int32) (st : St) : Option (Int32 × St) :=
  ck (isb y0) (some (y0, st))
set_option maxHeartbeats 4000000 in
set_option maxRecDepth 100000 in
theorem t_X12_isHold_24 {X : CX} {res : Int32 × St} (B : BI X cX12_isHold RX12 2 1 NN (some .boolean) res) (fu : Nat)  (y0 : Int32) (st : St) : WW X res NN 24 [] [.int y0] st (b_X12_isHold_24 fu y0 st) := by
  have hX := B.1
  have hL := B.2.1
  unfold b_X12_isHold_24
  exact ww_zret B dX12_isHold_24
def b_X12_isHold_23 (fu : Nat)   (st : St) : Option (Int32 × St) :=
  b_X12_isHold_24 fu  0 st
set_option maxHeartbeats 4000000 in
set_option maxRecDepth 100000 in
theorem t_X12_isHold_23 {X : CX} {res : Int32 × St} (B : BI X cX12_isHold RX12 2 1 NN (some .boolean) res) (fu : Nat)   (st : St) : WW X res NN 23 [] [] st (b_X12_isHold_23 fu  st) := by
  have hX := B.1
  have hL := B.2.1
  unfold b_X12_isHold_23
  refine ww_iconst (v := 0) hX rfl dX12_isHold_23 ?_
  exact t_X12_isHold_24 B fu  0 st
def f_X12_isHold (fu : Nat) (th : Nat) (p1 : Int32) (st : St) : Option (Int32 × St) :=
  if p1 < 0 then (
  b_X12_isHold_23 fu   st)
  else (
  if 60 ≤ p1 then (
  b_X12_isHold_23 fu   st)
  else (
  ck (¬ gR st th 78 = 0) <|
  ck ((kd th).1 = 12) <|
  bd (gR st th 78) fun o1 =>
  ck ((kd o1).1 = 102 ∧ inb p1 (kd o1).2) <|
  if (gI st o1 (ix p1)) = 0 then (
  b_X12_isHold_23 fu   st)
  else (
  b_X12_isHold_24 fu  1 st)))
set_option maxHeartbeats 4000000 in
set_option maxRecDepth 100000 in
theorem t_X12_isHold {X : CX} {res : Int32 × St} (B : BI X cX12_isHold RX12 2 1 NN (some .boolean) res) (fu : Nat) (th : Nat) (p1 : Int32) (st : St) : WW X res NN 0 [(0, .ref (x_b X + th)), (1, .int p1)] [] st (f_X12_isHold fu th p1 st) := by
  have hX := B.1
  have hL := B.2.1
  unfold f_X12_isHold
  refine ww_iload_n hX 1 rfl dX12_isHold_0 rfl ?_
  refine ww_if_lt (tgt := 23) hX dX12_isHold_1 (by decide) ?_ ?_
  · exact ww_sub [] rfl (t_X12_isHold_23 B fu   st)
  · refine ww_iload_n hX 1 rfl dX12_isHold_4 rfl ?_
    refine ww_bipush (v := 60) hX rfl dX12_isHold_5 ?_
    refine ww_icmp_ge (tgt := 23) hX dX12_isHold_7 (by decide) ?_ ?_
    · exact ww_sub [] rfl (t_X12_isHold_23 B fu   st)
    · refine ww_aload_n hX 0 rfl dX12_isHold_10 rfl ?_
      refine ww_getR hX f_X12_208 (Or.inr ⟨_, rfl⟩) dX12_isHold_11 ?_
      refine ww_bdR (fun o1 => ?_)
      refine ww_iload_n hX 1 rfl dX12_isHold_14 rfl ?_
      refine ww_zaldc hX k_zald dX12_isHold_15 ?_
      refine ww_if_eq (tgt := 23) hX dX12_isHold_16 (by decide) ?_ ?_
      · exact ww_sub [] rfl (t_X12_isHold_23 B fu   st)
      · refine ww_iconst (v := 1) hX rfl dX12_isHold_19 ?_
        refine ww_goto (tgt := 24) hX dX12_isHold_20 (by decide) ?_
        exact ww_sub [] rfl (t_X12_isHold_24 B fu  1 st)
theorem c_X12_isHold (G : GX) (l : Launch) (fu : Nat) (th : Nat) (p1 : Int32) (st : St) : MI G NN l yX12_isHold cX12_isHold 2 (some .boolean) 1 [.ref (G.2.2.1 + th), .int p1] st (f_X12_isHold fu th p1 st) := mkI (by decide) (Nat.le_of_ble_eq_true rfl) (fun X res hl hG B => by subst hl; subst hG; exact t_X12_isHold B fu th p1 st)
/-! StageHouseModel.priceOfHold(I)I -/
def f_X12_priceOfHold (fu : Nat) (th : Nat) (p1 : Int32) (st : St) : Option (Int32 × St) :=
  ck (¬ gR st th 83 = 0) <|
  ck ((kd th).1 = 12) <|
  bd (gR st th 83) fun o1 =>
  ck ((kd o1).1 = 100 ∧ inb p1 (kd o1).2) <|
  ck (¬ gR st th 81 = 0) <|
  ck ((kd th).1 = 12) <|
  bd (gR st th 81) fun o2 =>
  ck ((kd o2).1 = 100 ∧ inb p1 (kd o2).2) <|
  ck (¬ gR st th 84 = 0) <|
  ck ((kd th).1 = 12) <|
  bd (gR st th 84) fun o3 =>
  ck ((kd o3).1 = 100 ∧ inb p1 (kd o3).2) <|
  ck (¬ gR st th 85 = 0) <|
  ck ((kd th).1 = 12) <|
  bd (gR st th 85) fun o4 =>
  ck ((kd o4).1 = 100 ∧ inb p1 (kd o4).2) <|
  ck ((kd th).1 = 12) <|
  ca (f_X12_priceOf fu th (gI st o1 (ix p1)) (gI st o2 (ix p1)) (gI st o3 (ix p1)) (gI st o4 (ix p1)) st) fun r5 s6 =>
  some (r5.toInt32, s6)
set_option maxHeartbeats 4000000 in
set_option maxRecDepth 100000 in
theorem t_X12_priceOfHold {X : CX} {res : Int32 × St} (B : BI X cX12_priceOfHold RX12 2 3 NN (some .int) res) (fu : Nat) (th : Nat) (p1 : Int32) (st : St) : WW X res NN 0 [(0, .ref (x_b X + th)), (1, .int p1)] [] st (f_X12_priceOfHold fu th p1 st) := by
  have hX := B.1
  have hL := B.2.1
  unfold f_X12_priceOfHold
  refine ww_aload_n hX 0 rfl dX12_priceOfHold_0 rfl ?_
  refine ww_aload_n hX 0 rfl dX12_priceOfHold_1 rfl ?_
  refine ww_getR hX f_X12_223 (Or.inr ⟨_, rfl⟩) dX12_priceOfHold_2 ?_
  refine ww_bdR (fun o1 => ?_)
  refine ww_iload_n hX 1 rfl dX12_priceOfHold_5 rfl ?_
  refine ww_ialdc hX k_iald dX12_priceOfHold_6 ?_
  refine ww_aload_n hX 0 rfl dX12_priceOfHold_7 rfl ?_
  refine ww_getR hX f_X12_217 (Or.inr ⟨_, rfl⟩) dX12_priceOfHold_8 ?_
  refine ww_bdR (fun o2 => ?_)
  refine ww_pc (b := 11) rfl ?_
  refine ww_iload_n hX 1 rfl dX12_priceOfHold_11 rfl ?_
  refine ww_ialdc hX k_iald dX12_priceOfHold_12 ?_
  refine ww_aload_n hX 0 rfl dX12_priceOfHold_13 rfl ?_
  refine ww_getR hX f_X12_226 (Or.inr ⟨_, rfl⟩) dX12_priceOfHold_14 ?_
  refine ww_bdR (fun o3 => ?_)
  refine ww_iload_n hX 1 rfl dX12_priceOfHold_17 rfl ?_
  refine ww_ialdc hX k_iald dX12_priceOfHold_18 ?_
  refine ww_aload_n hX 0 rfl dX12_priceOfHold_19 rfl ?_
  refine ww_getR hX f_X12_229 (Or.inr ⟨_, rfl⟩) dX12_priceOfHold_20 ?_
  refine ww_bdR (fun o4 => ?_)
  refine ww_pc (b := 23) rfl ?_
  refine ww_iload_n hX 1 rfl dX12_priceOfHold_23 rfl ?_
  refine ww_ialdc hX k_iald dX12_priceOfHold_24 ?_
  refine ww_callVL (As := [.int (gI st o1 (ix p1)), .int (gI st o2 (ix p1)), .int (gI st o3 (ix p1)), .int (gI st o4 (ix p1))]) (rest := []) (o := th) hX (Rk.of B.2.2.1 B.2.2.2.1 (by decide) (by decide)) g_X12_616 g_X12_616.in (fun _ => c_X12_priceOf (x_G X) (x_l X) fu th (gI st o1 (ix p1)) (gI st o2 (ix p1)) (gI st o3 (ix p1)) (gI st o4 (ix p1)) st) rfl rfl (Nat.le_of_ble_eq_true rfl) dX12_priceOfHold_25 (fun r5 s6 => ?_)
  refine ww_l2i hX dX12_priceOfHold_28 ?_
  exact ww_iret B dX12_priceOfHold_29
theorem c_X12_priceOfHold (G : GX) (l : Launch) (fu : Nat) (th : Nat) (p1 : Int32) (st : St) : MI G NN l yX12_priceOfHold cX12_priceOfHold 2 (some .int) 3 [.ref (G.2.2.1 + th), .int p1] st (f_X12_priceOfHold fu th p1 st) := mkI (by decide) (Nat.le_of_ble_eq_true rfl) (fun X res hl hG B => by subst hl; subst hG; exact t_X12_priceOfHold B fu th p1 st)
/-! StageHouseModel.hold(II)I -/
def b_X12_hold_79 (fu : Nat)  (y0 : Int32) (st : St) : Option (Int32 × St) :=
  some (y0, st)
set_option maxHeartbeats 4000000 in
set_option maxRecDepth 100000 in
theorem t_X12_hold_79 {X : CX} {res : Int32 × St} (B : BI X cX12_hold RX12 3 4 NN (some .int) res) (fu : Nat)  (y0 : Int32) (st : St) : WW X res NN 79 [] [.int y0] st (b_X12_hold_79 fu y0 st) := by
  have hX := B.1
  have hL := B.2.1
  unfold b_X12_hold_79
  exact ww_iret B dX12_hold_79
def f_X12_hold (fu : Nat) (th : Nat) (p1 : Int32) (p2 : Int32) (st : St) : Option (Int32 × St) :=
  ck ((kd th).1 = 12) <|
  ca (f_X12_isHold fu th p1 st) fun r1 s2 =>
  if r1 = 0 then (
  some ((-1), s2))
  else (
  if p2 = 0 then (
  ck (¬ gR s2 th 79 = 0) <|
  ck ((kd th).1 = 12) <|
  bd (gR s2 th 79) fun o8 =>
  ck ((kd o8).1 = 100 ∧ inb p1 (kd o8).2) <|
  b_X12_hold_79 fu  (gI s2 o8 (ix p1)) s2)
  else (
  if p2 = 1 then (
  ck (¬ gR s2 th 80 = 0) <|
  ck ((kd th).1 = 12) <|
  bd (gR s2 th 80) fun o7 =>
  ck ((kd o7).1 = 100 ∧ inb p1 (kd o7).2) <|
  b_X12_hold_79 fu  (gI s2 o7 (ix p1)) s2)
  else (
  if p2 = 2 then (
  ck (¬ gR s2 th 81 = 0) <|
  ck ((kd th).1 = 12) <|
  bd (gR s2 th 81) fun o6 =>
  ck ((kd o6).1 = 100 ∧ inb p1 (kd o6).2) <|
  b_X12_hold_79 fu  (gI s2 o6 (ix p1)) s2)
  else (
  if p2 = 3 then (
  ck ((kd th).1 = 12) <|
  ca (f_X12_priceOfHold fu th p1 s2) fun r4 s5 =>
  b_X12_hold_79 fu  r4 s5)
  else (
  if p2 = 4 then (
  ck (¬ gR s2 th 82 = 0) <|
  ck ((kd th).1 = 12) <|
  bd (gR s2 th 82) fun o3 =>
  ck ((kd o3).1 = 100 ∧ inb p1 (kd o3).2) <|
  b_X12_hold_79 fu  (gI s2 o3 (ix p1)) s2)
  else (
  b_X12_hold_79 fu  ((-1)) s2))))))
set_option maxHeartbeats 4000000 in
set_option maxRecDepth 100000 in
theorem t_X12_hold {X : CX} {res : Int32 × St} (B : BI X cX12_hold RX12 3 4 NN (some .int) res) (fu : Nat) (th : Nat) (p1 : Int32) (p2 : Int32) (st : St) : WW X res NN 0 [(0, .ref (x_b X + th)), (1, .int p1), (2, .int p2)] [] st (f_X12_hold fu th p1 p2 st) := by
  have hX := B.1
  have hL := B.2.1
  unfold f_X12_hold
  refine ww_aload_n hX 0 rfl dX12_hold_0 rfl ?_
  refine ww_iload_n hX 1 rfl dX12_hold_1 rfl ?_
  refine ww_callVI (As := [.int p1]) (rest := []) (o := th) hX (Rk.of B.2.2.1 B.2.2.2.1 (by decide) (by decide)) g_X12_620 g_X12_620.in (fun _ => c_X12_isHold (x_G X) (x_l X) fu th p1 st) rfl rfl (Nat.le_of_ble_eq_true rfl) dX12_hold_2 (fun r1 s2 => ?_)
  refine ww_if_ne (tgt := 10) hX dX12_hold_5 (by decide) ?_ ?_
  · refine ww_iload_n hX 2 rfl dX12_hold_10 rfl ?_
    refine ww_if_ne (tgt := 23) hX dX12_hold_11 (by decide) ?_ ?_
    · refine ww_iload_n hX 2 rfl dX12_hold_23 rfl ?_
      refine ww_iconst (v := 1) hX rfl dX12_hold_24 ?_
      refine ww_icmp_ne (tgt := 37) hX dX12_hold_25 (by decide) ?_ ?_
      · refine ww_iload_n hX 2 rfl dX12_hold_37 rfl ?_
        refine ww_iconst (v := 2) hX rfl dX12_hold_38 ?_
        refine ww_icmp_ne (tgt := 51) hX dX12_hold_39 (by decide) ?_ ?_
        · refine ww_iload_n hX 2 rfl dX12_hold_51 rfl ?_
          refine ww_iconst (v := 3) hX rfl dX12_hold_52 ?_
          refine ww_icmp_ne (tgt := 64) hX dX12_hold_53 (by decide) ?_ ?_
          · refine ww_iload_n hX 2 rfl dX12_hold_64 rfl ?_
            refine ww_iconst (v := 4) hX rfl dX12_hold_65 ?_
            refine ww_icmp_ne (tgt := 78) hX dX12_hold_66 (by decide) ?_ ?_
            · refine ww_iconst (v := (-1)) hX rfl dX12_hold_78 ?_
              exact ww_sub [] rfl (t_X12_hold_79 B fu  ((-1)) s2)
            · refine ww_aload_n hX 0 rfl dX12_hold_69 rfl ?_
              refine ww_getR hX f_X12_220 (Or.inr ⟨_, rfl⟩) dX12_hold_70 ?_
              refine ww_bdR (fun o3 => ?_)
              refine ww_iload_n hX 1 rfl dX12_hold_73 rfl ?_
              refine ww_ialdc hX k_iald dX12_hold_74 ?_
              refine ww_goto (tgt := 79) hX dX12_hold_75 (by decide) ?_
              exact ww_sub [] rfl (t_X12_hold_79 B fu  (gI s2 o3 (ix p1)) s2)
          · refine ww_aload_n hX 0 rfl dX12_hold_56 rfl ?_
            refine ww_iload_n hX 1 rfl dX12_hold_57 rfl ?_
            refine ww_callVI (As := [.int p1]) (rest := []) (o := th) hX (Rk.of B.2.2.1 B.2.2.2.1 (by decide) (by decide)) g_X12_623 g_X12_623.in (fun _ => c_X12_priceOfHold (x_G X) (x_l X) fu th p1 s2) rfl rfl (Nat.le_of_ble_eq_true rfl) dX12_hold_58 (fun r4 s5 => ?_)
            refine ww_goto (tgt := 79) hX dX12_hold_61 (by decide) ?_
            exact ww_sub [] rfl (t_X12_hold_79 B fu  r4 s5)
        · refine ww_aload_n hX 0 rfl dX12_hold_42 rfl ?_
          refine ww_getR hX f_X12_217 (Or.inr ⟨_, rfl⟩) dX12_hold_43 ?_
          refine ww_bdR (fun o6 => ?_)
          refine ww_iload_n hX 1 rfl dX12_hold_46 rfl ?_
          refine ww_ialdc hX k_iald dX12_hold_47 ?_
          refine ww_goto (tgt := 79) hX dX12_hold_48 (by decide) ?_
          exact ww_sub [] rfl (t_X12_hold_79 B fu  (gI s2 o6 (ix p1)) s2)
      · refine ww_aload_n hX 0 rfl dX12_hold_28 rfl ?_
        refine ww_getR hX f_X12_214 (Or.inr ⟨_, rfl⟩) dX12_hold_29 ?_
        refine ww_bdR (fun o7 => ?_)
        refine ww_iload_n hX 1 rfl dX12_hold_32 rfl ?_
        refine ww_ialdc hX k_iald dX12_hold_33 ?_
        refine ww_goto (tgt := 79) hX dX12_hold_34 (by decide) ?_
        exact ww_sub [] rfl (t_X12_hold_79 B fu  (gI s2 o7 (ix p1)) s2)
    · refine ww_aload_n hX 0 rfl dX12_hold_14 rfl ?_
      refine ww_getR hX f_X12_211 (Or.inr ⟨_, rfl⟩) dX12_hold_15 ?_
      refine ww_bdR (fun o8 => ?_)
      refine ww_iload_n hX 1 rfl dX12_hold_18 rfl ?_
      refine ww_ialdc hX k_iald dX12_hold_19 ?_
      refine ww_goto (tgt := 79) hX dX12_hold_20 (by decide) ?_
      exact ww_sub [] rfl (t_X12_hold_79 B fu  (gI s2 o8 (ix p1)) s2)
  · refine ww_iconst (v := (-1)) hX rfl dX12_hold_8 ?_
    exact ww_iret B dX12_hold_9
theorem c_X12_hold (G : GX) (l : Launch) (fu : Nat) (th : Nat) (p1 : Int32) (p2 : Int32) (st : St) : MI G NN l yX12_hold cX12_hold 3 (some .int) 4 [.ref (G.2.2.1 + th), .int p1, .int p2] st (f_X12_hold fu th p1 p2 st) := mkI (by decide) (Nat.le_of_ble_eq_true rfl) (fun X res hl hG B => by subst hl; subst hG; exact t_X12_hold B fu th p1 p2 st)
/-! StageHouseModel.pay(II)I -/
def b_X12_pay_27 (fu : Nat)   (st : St) : Option (Int32 × St) :=
  some ((-1), st)
set_option maxHeartbeats 4000000 in
set_option maxRecDepth 100000 in
theorem t_X12_pay_27 {X : CX} {res : Int32 × St} (B : BI X cX12_pay RX12 4 4 NN (some .int) res) (fu : Nat)   (st : St) : WW X res NN 27 [] [] st (b_X12_pay_27 fu  st) := by
  have hX := B.1
  have hL := B.2.1
  unfold b_X12_pay_27
  refine ww_iconst (v := (-1)) hX rfl dX12_pay_27 ?_
  exact ww_iret B dX12_pay_28
def f_X12_pay (fu : Nat) (th : Nat) (p1 : Int32) (p2 : Int32) (st : St) : Option (Int32 × St) :=
  ck ((kd th).1 = 12) <|
  ca (f_X12_isHold fu th p1 st) fun r1 s2 =>
  if r1 = 0 then (
  b_X12_pay_27 fu   s2)
  else (
  ck ((kd th).1 = 12) <|
  ca (f_X12_priceOfHold fu th p1 s2) fun r3 s4 =>
  if p2 = r3 then (
  ck ((kd th).1 = 12) <|
  if (gI s4 th 92) = 300 then (
  b_X12_pay_27 fu   s4)
  else (
  ck ((kd th).1 = 12) <|
  bd (gI s4 th 92) fun v5 =>
  ck ((kd th).1 = 12) <|
  ck ((kd th).1 = 12) <|
  bd (sI s4 th 92 ((gI s4 th 92) + 1)) fun s6 =>
  ck (¬ gR s6 th 86 = 0) <|
  ck ((kd th).1 = 12) <|
  bd (gR s6 th 86) fun o7 =>
  ck (¬ gR s6 th 79 = 0) <|
  ck ((kd th).1 = 12) <|
  bd (gR s6 th 79) fun o8 =>
  ck ((kd o8).1 = 100 ∧ inb p1 (kd o8).2) <|
  ck ((kd o7).1 = 100 ∧ inb v5 (kd o7).2) <|
  bd (sI s6 o7 (ix v5) (gI s6 o8 (ix p1))) fun s9 =>
  ck (¬ gR s9 th 87 = 0) <|
  ck ((kd th).1 = 12) <|
  bd (gR s9 th 87) fun o10 =>
  ck (¬ gR s9 th 80 = 0) <|
  ck ((kd th).1 = 12) <|
  bd (gR s9 th 80) fun o11 =>
  ck ((kd o11).1 = 100 ∧ inb p1 (kd o11).2) <|
  ck ((kd o10).1 = 100 ∧ inb v5 (kd o10).2) <|
  bd (sI s9 o10 (ix v5) (gI s9 o11 (ix p1))) fun s12 =>
  ck (¬ gR s12 th 88 = 0) <|
  ck ((kd th).1 = 12) <|
  bd (gR s12 th 88) fun o13 =>
  ck (¬ gR s12 th 81 = 0) <|
  ck ((kd th).1 = 12) <|
  bd (gR s12 th 81) fun o14 =>
  ck ((kd o14).1 = 100 ∧ inb p1 (kd o14).2) <|
  ck ((kd o13).1 = 100 ∧ inb v5 (kd o13).2) <|
  bd (sI s12 o13 (ix v5) (gI s12 o14 (ix p1))) fun s15 =>
  ck (¬ gR s15 th 89 = 0) <|
  ck ((kd th).1 = 12) <|
  bd (gR s15 th 89) fun o16 =>
  ck ((kd o16).1 = 100 ∧ inb v5 (kd o16).2) <|
  bd (sI s15 o16 (ix v5) p2) fun s17 =>
  ck (¬ gR s17 th 78 = 0) <|
  ck ((kd th).1 = 12) <|
  bd (gR s17 th 78) fun o18 =>
  ck (isb 0) <|
  ck ((kd o18).1 = 102 ∧ inb p1 (kd o18).2) <|
  bd (sI s17 o18 (ix p1) 0) fun s19 =>
  ck (¬ gR s19 th 79 = 0) <|
  ck ((kd th).1 = 12) <|
  bd (gR s19 th 79) fun o20 =>
  ck ((kd o20).1 = 100 ∧ inb p1 (kd o20).2) <|
  ck (¬ gR s19 th 80 = 0) <|
  ck ((kd th).1 = 12) <|
  bd (gR s19 th 80) fun o21 =>
  ck ((kd o21).1 = 100 ∧ inb p1 (kd o21).2) <|
  ck (¬ gR s19 th 81 = 0) <|
  ck ((kd th).1 = 12) <|
  bd (gR s19 th 81) fun o22 =>
  ck ((kd o22).1 = 100 ∧ inb p1 (kd o22).2) <|
  ck ((kd th).1 = 12) <|
  cv (f_X12_mark fu th (gI s19 o20 (ix p1)) (gI s19 o21 (ix p1)) (gI s19 o22 (ix p1)) 2 s19) fun s23 =>
  ck ((kd th).1 = 12) <|
  ck ((kd th).1 = 12) <|
  bd (sL s23 th 93 ((gL s23 th 93) + p2.toInt64)) fun s24 =>
  some (v5, s24)))
  else (
  b_X12_pay_27 fu   s4))
set_option maxHeartbeats 4000000 in
set_option maxRecDepth 100000 in
theorem t_X12_pay {X : CX} {res : Int32 × St} (B : BI X cX12_pay RX12 4 4 NN (some .int) res) (fu : Nat) (th : Nat) (p1 : Int32) (p2 : Int32) (st : St) : WW X res NN 0 [(0, .ref (x_b X + th)), (1, .int p1), (2, .int p2)] [] st (f_X12_pay fu th p1 p2 st) := by
  have hX := B.1
  have hL := B.2.1
  unfold f_X12_pay
  refine ww_aload_n hX 0 rfl dX12_pay_0 rfl ?_
  refine ww_iload_n hX 1 rfl dX12_pay_1 rfl ?_
  refine ww_callVI (As := [.int p1]) (rest := []) (o := th) hX (Rk.of B.2.2.1 B.2.2.2.1 (by decide) (by decide)) g_X12_620 g_X12_620.in (fun _ => c_X12_isHold (x_G X) (x_l X) fu th p1 st) rfl rfl (Nat.le_of_ble_eq_true rfl) dX12_pay_2 (fun r1 s2 => ?_)
  refine ww_if_eq (tgt := 27) hX dX12_pay_5 (by decide) ?_ ?_
  · exact ww_sub [] rfl (t_X12_pay_27 B fu   s2)
  · refine ww_iload_n hX 2 rfl dX12_pay_8 rfl ?_
    refine ww_aload_n hX 0 rfl dX12_pay_9 rfl ?_
    refine ww_iload_n hX 1 rfl dX12_pay_10 rfl ?_
    refine ww_callVI (As := [.int p1]) (rest := [.int p2]) (o := th) hX (Rk.of B.2.2.1 B.2.2.2.1 (by decide) (by decide)) g_X12_623 g_X12_623.in (fun _ => c_X12_priceOfHold (x_G X) (x_l X) fu th p1 s2) rfl rfl (Nat.le_of_ble_eq_true rfl) dX12_pay_11 (fun r3 s4 => ?_)
    refine ww_icmp_ne (tgt := 27) hX dX12_pay_14 (by decide) ?_ ?_
    · exact ww_sub [] rfl (t_X12_pay_27 B fu   s4)
    · refine ww_aload_n hX 0 rfl dX12_pay_17 rfl ?_
      refine ww_getI hX f_X12_626 (Or.inl rfl) dX12_pay_18 ?_
      refine ww_sipush (v := 300) hX rfl dX12_pay_21 ?_
      refine ww_icmp_ne (tgt := 29) hX dX12_pay_24 (by decide) ?_ ?_
      · refine ww_aload_n hX 0 rfl dX12_pay_29 rfl ?_
        refine ww_getI hX f_X12_626 (Or.inl rfl) dX12_pay_30 ?_
        refine ww_bdi (fun v5 => ?_)
        refine ww_istore_n (lv' := [(3, .int v5), (0, .ref (x_b X + th)), (1, .int p1), (2, .int p2)]) hX hL dX12_pay_33 rfl (by decide) rfl ?_
        refine ww_aload_n hX 1 rfl dX12_pay_34 rfl ?_
        refine ww_dup hX rfl dX12_pay_35 ?_
        refine ww_getI hX f_X12_626 (Or.inl rfl) dX12_pay_36 ?_
        refine ww_iconst (v := 1) hX rfl dX12_pay_39 ?_
        refine ww_pc (b := 40) rfl ?_
        refine ww_iadd hX dX12_pay_40 ?_
        refine ww_putI hX f_X12_626 rfl dX12_pay_41 ?_
        refine ww_bds (fun s6 => ?_)
        refine ww_aload_n hX 1 rfl dX12_pay_44 rfl ?_
        refine ww_getR hX f_X12_232 (Or.inr ⟨_, rfl⟩) dX12_pay_45 ?_
        refine ww_bdR (fun o7 => ?_)
        refine ww_iload_n hX 0 rfl dX12_pay_48 rfl ?_
        refine ww_aload_n hX 1 rfl dX12_pay_49 rfl ?_
        refine ww_getR hX f_X12_211 (Or.inr ⟨_, rfl⟩) dX12_pay_50 ?_
        refine ww_bdR (fun o8 => ?_)
        refine ww_iload_n hX 2 rfl dX12_pay_53 rfl ?_
        refine ww_pc (b := 54) rfl ?_
        refine ww_ialdc hX k_iald dX12_pay_54 ?_
        refine ww_iastc hX k_iast dX12_pay_55 ?_
        refine ww_bds (fun s9 => ?_)
        refine ww_aload_n hX 1 rfl dX12_pay_56 rfl ?_
        refine ww_getR hX f_X12_235 (Or.inr ⟨_, rfl⟩) dX12_pay_57 ?_
        refine ww_bdR (fun o10 => ?_)
        refine ww_iload_n hX 0 rfl dX12_pay_60 rfl ?_
        refine ww_aload_n hX 1 rfl dX12_pay_61 rfl ?_
        refine ww_getR hX f_X12_214 (Or.inr ⟨_, rfl⟩) dX12_pay_62 ?_
        refine ww_bdR (fun o11 => ?_)
        refine ww_iload_n hX 2 rfl dX12_pay_65 rfl ?_
        refine ww_pc (b := 66) rfl ?_
        refine ww_ialdc hX k_iald dX12_pay_66 ?_
        refine ww_iastc hX k_iast dX12_pay_67 ?_
        refine ww_bds (fun s12 => ?_)
        refine ww_aload_n hX 1 rfl dX12_pay_68 rfl ?_
        refine ww_getR hX f_X12_238 (Or.inr ⟨_, rfl⟩) dX12_pay_69 ?_
        refine ww_bdR (fun o13 => ?_)
        refine ww_iload_n hX 0 rfl dX12_pay_72 rfl ?_
        refine ww_aload_n hX 1 rfl dX12_pay_73 rfl ?_
        refine ww_getR hX f_X12_217 (Or.inr ⟨_, rfl⟩) dX12_pay_74 ?_
        refine ww_bdR (fun o14 => ?_)
        refine ww_iload_n hX 2 rfl dX12_pay_77 rfl ?_
        refine ww_pc (b := 78) rfl ?_
        refine ww_ialdc hX k_iald dX12_pay_78 ?_
        refine ww_iastc hX k_iast dX12_pay_79 ?_
        refine ww_bds (fun s15 => ?_)
        refine ww_aload_n hX 1 rfl dX12_pay_80 rfl ?_
        refine ww_getR hX f_X12_241 (Or.inr ⟨_, rfl⟩) dX12_pay_81 ?_
        refine ww_bdR (fun o16 => ?_)
        refine ww_iload_n hX 0 rfl dX12_pay_84 rfl ?_
        refine ww_iload_n hX 3 rfl dX12_pay_85 rfl ?_
        refine ww_iastc hX k_iast dX12_pay_86 ?_
        refine ww_bds (fun s17 => ?_)
        refine ww_aload_n hX 1 rfl dX12_pay_87 rfl ?_
        refine ww_pc (b := 88) rfl ?_
        refine ww_getR hX f_X12_208 (Or.inr ⟨_, rfl⟩) dX12_pay_88 ?_
        refine ww_bdR (fun o18 => ?_)
        refine ww_iload_n hX 2 rfl dX12_pay_91 rfl ?_
        refine ww_iconst (v := 0) hX rfl dX12_pay_92 ?_
        refine ww_zastc hX k_zast dX12_pay_93 ?_
        refine ww_bds (fun s19 => ?_)
        refine ww_aload_n hX 1 rfl dX12_pay_94 rfl ?_
        refine ww_aload_n hX 1 rfl dX12_pay_95 rfl ?_
        refine ww_getR hX f_X12_211 (Or.inr ⟨_, rfl⟩) dX12_pay_96 ?_
        refine ww_bdR (fun o20 => ?_)
        refine ww_iload_n hX 2 rfl dX12_pay_99 rfl ?_
        refine ww_pc (b := 100) rfl ?_
        refine ww_ialdc hX k_iald dX12_pay_100 ?_
        refine ww_aload_n hX 1 rfl dX12_pay_101 rfl ?_
        refine ww_getR hX f_X12_214 (Or.inr ⟨_, rfl⟩) dX12_pay_102 ?_
        refine ww_bdR (fun o21 => ?_)
        refine ww_iload_n hX 2 rfl dX12_pay_105 rfl ?_
        refine ww_ialdc hX k_iald dX12_pay_106 ?_
        refine ww_aload_n hX 1 rfl dX12_pay_107 rfl ?_
        refine ww_getR hX f_X12_217 (Or.inr ⟨_, rfl⟩) dX12_pay_108 ?_
        refine ww_bdR (fun o22 => ?_)
        refine ww_iload_n hX 2 rfl dX12_pay_111 rfl ?_
        refine ww_pc (b := 112) rfl ?_
        refine ww_ialdc hX k_iald dX12_pay_112 ?_
        refine ww_iconst (v := 2) hX rfl dX12_pay_113 ?_
        refine ww_callVV (As := [.int (gI s19 o20 (ix p1)), .int (gI s19 o21 (ix p1)), .int (gI s19 o22 (ix p1)), .int 2]) (rest := []) (o := th) hX (Rk.of B.2.2.1 B.2.2.2.1 (by decide) (by decide)) g_X12_612 g_X12_612.in (fun _ => c_X12_mark (x_G X) (x_l X) fu th (gI s19 o20 (ix p1)) (gI s19 o21 (ix p1)) (gI s19 o22 (ix p1)) 2 s19) rfl rfl (Nat.le_of_ble_eq_true rfl) dX12_pay_114 (fun s23 => ?_)
        refine ww_aload_n hX 1 rfl dX12_pay_117 rfl ?_
        refine ww_dup hX rfl dX12_pay_118 ?_
        refine ww_getL hX f_X12_629 rfl dX12_pay_119 ?_
        refine ww_iload_n hX 3 rfl dX12_pay_122 rfl ?_
        refine ww_i2l hX dX12_pay_123 ?_
        refine ww_pc (b := 124) rfl ?_
        refine ww_ladd hX dX12_pay_124 ?_
        refine ww_putL hX f_X12_629 rfl dX12_pay_125 ?_
        refine ww_bds (fun s24 => ?_)
        refine ww_iload_n hX 0 rfl dX12_pay_128 rfl ?_
        exact ww_iret B dX12_pay_129
      · exact ww_sub [] rfl (t_X12_pay_27 B fu   s4)
theorem c_X12_pay (G : GX) (l : Launch) (fu : Nat) (th : Nat) (p1 : Int32) (p2 : Int32) (st : St) : MI G NN l yX12_pay cX12_pay 4 (some .int) 4 [.ref (G.2.2.1 + th), .int p1, .int p2] st (f_X12_pay fu th p1 p2 st) := mkI (by decide) (Nat.le_of_ble_eq_true rfl) (fun X res hl hG B => by subst hl; subst hG; exact t_X12_pay B fu th p1 p2 st)
/-! StageHouseModel.give(I)Z -/
def f_X12_give (fu : Nat) (th : Nat) (p1 : Int32) (st : St) : Option (Int32 × St) :=
  ck ((kd th).1 = 12) <|
  ca (f_X12_isHold fu th p1 st) fun r1 s2 =>
  if r1 = 0 then (
  ck (isb 0) (some (0, s2)))
  else (
  ck ((kd th).1 = 12) <|
  cv (f_X12_frees fu th p1 s2) fun s3 =>
  ck (isb 1) (some (1, s3)))
set_option maxHeartbeats 4000000 in
set_option maxRecDepth 100000 in
theorem t_X12_give {X : CX} {res : Int32 × St} (B : BI X cX12_give RX12 2 3 NN (some .boolean) res) (fu : Nat) (th : Nat) (p1 : Int32) (st : St) : WW X res NN 0 [(0, .ref (x_b X + th)), (1, .int p1)] [] st (f_X12_give fu th p1 st) := by
  have hX := B.1
  have hL := B.2.1
  unfold f_X12_give
  refine ww_aload_n hX 0 rfl dX12_give_0 rfl ?_
  refine ww_iload_n hX 1 rfl dX12_give_1 rfl ?_
  refine ww_callVI (As := [.int p1]) (rest := []) (o := th) hX (Rk.of B.2.2.1 B.2.2.2.1 (by decide) (by decide)) g_X12_620 g_X12_620.in (fun _ => c_X12_isHold (x_G X) (x_l X) fu th p1 st) rfl rfl (Nat.le_of_ble_eq_true rfl) dX12_give_2 (fun r1 s2 => ?_)
  refine ww_if_ne (tgt := 10) hX dX12_give_5 (by decide) ?_ ?_
  · refine ww_aload_n hX 0 rfl dX12_give_10 rfl ?_
    refine ww_iload_n hX 1 rfl dX12_give_11 rfl ?_
    refine ww_callVV (As := [.int p1]) (rest := []) (o := th) hX (Rk.of B.2.2.1 B.2.2.2.1 (by decide) (by decide)) g_X12_583 g_X12_583.in (fun _ => c_X12_frees (x_G X) (x_l X) fu th p1 s2) rfl rfl (Nat.le_of_ble_eq_true rfl) dX12_give_12 (fun s3 => ?_)
    refine ww_iconst (v := 1) hX rfl dX12_give_15 ?_
    exact ww_zret B dX12_give_16
  · refine ww_iconst (v := 0) hX rfl dX12_give_8 ?_
    exact ww_zret B dX12_give_9
theorem c_X12_give (G : GX) (l : Launch) (fu : Nat) (th : Nat) (p1 : Int32) (st : St) : MI G NN l yX12_give cX12_give 2 (some .boolean) 3 [.ref (G.2.2.1 + th), .int p1] st (f_X12_give fu th p1 st) := mkI (by decide) (Nat.le_of_ble_eq_true rfl) (fun X res hl hG B => by subst hl; subst hG; exact t_X12_give B fu th p1 st)
/-! StageHouseModel.isTicket(I)Z -/
def b_X12_isTicket_35 (fu : Nat)  (y0 : Int32) (st : St) : Option (Int32 × St) :=
  ck (isb y0) (some (y0, st))
set_option maxHeartbeats 4000000 in
set_option maxRecDepth 100000 in
theorem t_X12_isTicket_35 {X : CX} {res : Int32 × St} (B : BI X cX12_isTicket RX12 2 1 NN (some .boolean) res) (fu : Nat)  (y0 : Int32) (st : St) : WW X res NN 35 [] [.int y0] st (b_X12_isTicket_35 fu y0 st) := by
  have hX := B.1
  have hL := B.2.1
  unfold b_X12_isTicket_35
  exact ww_zret B dX12_isTicket_35
def b_X12_isTicket_34 (fu : Nat)   (st : St) : Option (Int32 × St) :=
  b_X12_isTicket_35 fu  0 st
set_option maxHeartbeats 4000000 in
set_option maxRecDepth 100000 in
theorem t_X12_isTicket_34 {X : CX} {res : Int32 × St} (B : BI X cX12_isTicket RX12 2 1 NN (some .boolean) res) (fu : Nat)   (st : St) : WW X res NN 34 [] [] st (b_X12_isTicket_34 fu  st) := by
  have hX := B.1
  have hL := B.2.1
  unfold b_X12_isTicket_34
  refine ww_iconst (v := 0) hX rfl dX12_isTicket_34 ?_
  exact t_X12_isTicket_35 B fu  0 st
def f_X12_isTicket (fu : Nat) (th : Nat) (p1 : Int32) (st : St) : Option (Int32 × St) :=
  if p1 < 0 then (
  b_X12_isTicket_34 fu   st)
  else (
  ck ((kd th).1 = 12) <|
  if (gI st th 92) ≤ p1 then (
  b_X12_isTicket_34 fu   st)
  else (
  ck (¬ gR st th 90 = 0) <|
  ck ((kd th).1 = 12) <|
  bd (gR st th 90) fun o1 =>
  ck ((kd o1).1 = 102 ∧ inb p1 (kd o1).2) <|
  if (gI st o1 (ix p1)) = 0 then (
  ck (¬ gR st th 91 = 0) <|
  ck ((kd th).1 = 12) <|
  bd (gR st th 91) fun o2 =>
  ck ((kd o2).1 = 102 ∧ inb p1 (kd o2).2) <|
  if (gI st o2 (ix p1)) = 0 then (
  b_X12_isTicket_35 fu  1 st)
  else (
  b_X12_isTicket_34 fu   st))
  else (
  b_X12_isTicket_34 fu   st)))
set_option maxHeartbeats 4000000 in
set_option maxRecDepth 100000 in
theorem t_X12_isTicket {X : CX} {res : Int32 × St} (B : BI X cX12_isTicket RX12 2 1 NN (some .boolean) res) (fu : Nat) (th : Nat) (p1 : Int32) (st : St) : WW X res NN 0 [(0, .ref (x_b X + th)), (1, .int p1)] [] st (f_X12_isTicket fu th p1 st) := by
  have hX := B.1
  have hL := B.2.1
  unfold f_X12_isTicket
  refine ww_iload_n hX 1 rfl dX12_isTicket_0 rfl ?_
  refine ww_if_lt (tgt := 34) hX dX12_isTicket_1 (by decide) ?_ ?_
  · exact ww_sub [] rfl (t_X12_isTicket_34 B fu   st)
  · refine ww_iload_n hX 1 rfl dX12_isTicket_4 rfl ?_
    refine ww_aload_n hX 0 rfl dX12_isTicket_5 rfl ?_
    refine ww_getI hX f_X12_626 (Or.inl rfl) dX12_isTicket_6 ?_
    refine ww_icmp_ge (tgt := 34) hX dX12_isTicket_9 (by decide) ?_ ?_
    · exact ww_sub [] rfl (t_X12_isTicket_34 B fu   st)
    · refine ww_aload_n hX 0 rfl dX12_isTicket_12 rfl ?_
      refine ww_getR hX f_X12_244 (Or.inr ⟨_, rfl⟩) dX12_isTicket_13 ?_
      refine ww_bdR (fun o1 => ?_)
      refine ww_iload_n hX 1 rfl dX12_isTicket_16 rfl ?_
      refine ww_zaldc hX k_zald dX12_isTicket_17 ?_
      refine ww_if_ne (tgt := 34) hX dX12_isTicket_18 (by decide) ?_ ?_
      · exact ww_sub [] rfl (t_X12_isTicket_34 B fu   st)
      · refine ww_aload_n hX 0 rfl dX12_isTicket_21 rfl ?_
        refine ww_getR hX f_X12_247 (Or.inr ⟨_, rfl⟩) dX12_isTicket_22 ?_
        refine ww_bdR (fun o2 => ?_)
        refine ww_iload_n hX 1 rfl dX12_isTicket_25 rfl ?_
        refine ww_zaldc hX k_zald dX12_isTicket_26 ?_
        refine ww_if_ne (tgt := 34) hX dX12_isTicket_27 (by decide) ?_ ?_
        · exact ww_sub [] rfl (t_X12_isTicket_34 B fu   st)
        · refine ww_iconst (v := 1) hX rfl dX12_isTicket_30 ?_
          refine ww_goto (tgt := 35) hX dX12_isTicket_31 (by decide) ?_
          exact ww_sub [] rfl (t_X12_isTicket_35 B fu  1 st)
theorem c_X12_isTicket (G : GX) (l : Launch) (fu : Nat) (th : Nat) (p1 : Int32) (st : St) : MI G NN l yX12_isTicket cX12_isTicket 2 (some .boolean) 1 [.ref (G.2.2.1 + th), .int p1] st (f_X12_isTicket fu th p1 st) := mkI (by decide) (Nat.le_of_ble_eq_true rfl) (fun X res hl hG B => by subst hl; subst hG; exact t_X12_isTicket B fu th p1 st)
/-! StageHouseModel.back(II)I -/
def b_X12_back_26 (fu : Nat)   (st : St) : Option (Int32 × St) :=
  some ((-1), st)
set_option maxHeartbeats 4000000 in
set_option maxRecDepth 100000 in
theorem t_X12_back_26 {X : CX} {res : Int32 × St} (B : BI X cX12_back RX12 3 2 NN (some .int) res) (fu : Nat)   (st : St) : WW X res NN 26 [] [] st (b_X12_back_26 fu  st) := by
  have hX := B.1
  have hL := B.2.1
  unfold b_X12_back_26
  refine ww_iconst (v := (-1)) hX rfl dX12_back_26 ?_
  exact ww_iret B dX12_back_27
def f_X12_back (fu : Nat) (th : Nat) (p1 : Int32) (p2 : Int32) (st : St) : Option (Int32 × St) :=
  ck ((kd th).1 = 12) <|
  ca (f_X12_isTicket fu th p2 st) fun r1 s2 =>
  if r1 = 0 then (
  b_X12_back_26 fu   s2)
  else (
  if p1 < 0 then (
  b_X12_back_26 fu   s2)
  else (
  if 3 < p1 then (
  b_X12_back_26 fu   s2)
  else (
  ck (¬ gR s2 th 77 = 0) <|
  ck ((kd th).1 = 12) <|
  bd (gR s2 th 77) fun o3 =>
  ck ((kd o3).1 = 102 ∧ inb p1 (kd o3).2) <|
  if (gI s2 o3 (ix p1)) = 0 then (
  b_X12_back_26 fu   s2)
  else (
  ck (¬ gR s2 th 90 = 0) <|
  ck ((kd th).1 = 12) <|
  bd (gR s2 th 90) fun o4 =>
  ck (isb 1) <|
  ck ((kd o4).1 = 102 ∧ inb p2 (kd o4).2) <|
  bd (sI s2 o4 (ix p2) 1) fun s5 =>
  ck (¬ gR s5 th 86 = 0) <|
  ck ((kd th).1 = 12) <|
  bd (gR s5 th 86) fun o6 =>
  ck ((kd o6).1 = 100 ∧ inb p2 (kd o6).2) <|
  ck (¬ gR s5 th 87 = 0) <|
  ck ((kd th).1 = 12) <|
  bd (gR s5 th 87) fun o7 =>
  ck ((kd o7).1 = 100 ∧ inb p2 (kd o7).2) <|
  ck (¬ gR s5 th 88 = 0) <|
  ck ((kd th).1 = 12) <|
  bd (gR s5 th 88) fun o8 =>
  ck ((kd o8).1 = 100 ∧ inb p2 (kd o8).2) <|
  ck ((kd th).1 = 12) <|
  cv (f_X12_mark fu th (gI s5 o6 (ix p2)) (gI s5 o7 (ix p2)) (gI s5 o8 (ix p2)) 0 s5) fun s9 =>
  ck ((kd th).1 = 12) <|
  ck (¬ gR s9 th 89 = 0) <|
  ck ((kd th).1 = 12) <|
  bd (gR s9 th 89) fun o10 =>
  ck ((kd o10).1 = 100 ∧ inb p2 (kd o10).2) <|
  ck ((kd th).1 = 12) <|
  bd (sL s9 th 93 ((gL s9 th 93) - ((gI s9 o10 (ix p2)).toInt64))) fun s11 =>
  ck (¬ gR s11 th 89 = 0) <|
  ck ((kd th).1 = 12) <|
  bd (gR s11 th 89) fun o12 =>
  ck ((kd o12).1 = 100 ∧ inb p2 (kd o12).2) <|
  some (gI s11 o12 (ix p2), s11)))))
set_option maxHeartbeats 4000000 in
set_option maxRecDepth 100000 in
theorem t_X12_back {X : CX} {res : Int32 × St} (B : BI X cX12_back RX12 3 2 NN (some .int) res) (fu : Nat) (th : Nat) (p1 : Int32) (p2 : Int32) (st : St) : WW X res NN 0 [(0, .ref (x_b X + th)), (1, .int p1), (2, .int p2)] [] st (f_X12_back fu th p1 p2 st) := by
  have hX := B.1
  have hL := B.2.1
  unfold f_X12_back
  refine ww_aload_n hX 0 rfl dX12_back_0 rfl ?_
  refine ww_iload_n hX 2 rfl dX12_back_1 rfl ?_
  refine ww_callVI (As := [.int p2]) (rest := []) (o := th) hX (Rk.of B.2.2.1 B.2.2.2.1 (by decide) (by decide)) g_X12_633 g_X12_633.in (fun _ => c_X12_isTicket (x_G X) (x_l X) fu th p2 st) rfl rfl (Nat.le_of_ble_eq_true rfl) dX12_back_2 (fun r1 s2 => ?_)
  refine ww_if_eq (tgt := 26) hX dX12_back_5 (by decide) ?_ ?_
  · exact ww_sub [] rfl (t_X12_back_26 B fu   s2)
  · refine ww_iload_n hX 1 rfl dX12_back_8 rfl ?_
    refine ww_if_lt (tgt := 26) hX dX12_back_9 (by decide) ?_ ?_
    · exact ww_sub [] rfl (t_X12_back_26 B fu   s2)
    · refine ww_iload_n hX 1 rfl dX12_back_12 rfl ?_
      refine ww_iconst (v := 3) hX rfl dX12_back_13 ?_
      refine ww_icmp_gt (tgt := 26) hX dX12_back_14 (by decide) ?_ ?_
      · exact ww_sub [] rfl (t_X12_back_26 B fu   s2)
      · refine ww_aload_n hX 0 rfl dX12_back_17 rfl ?_
        refine ww_getR hX f_X12_205 (Or.inr ⟨_, rfl⟩) dX12_back_18 ?_
        refine ww_bdR (fun o3 => ?_)
        refine ww_iload_n hX 1 rfl dX12_back_21 rfl ?_
        refine ww_zaldc hX k_zald dX12_back_22 ?_
        refine ww_if_ne (tgt := 28) hX dX12_back_23 (by decide) ?_ ?_
        · refine ww_aload_n hX 0 rfl dX12_back_28 rfl ?_
          refine ww_getR hX f_X12_244 (Or.inr ⟨_, rfl⟩) dX12_back_29 ?_
          refine ww_bdR (fun o4 => ?_)
          refine ww_iload_n hX 2 rfl dX12_back_32 rfl ?_
          refine ww_iconst (v := 1) hX rfl dX12_back_33 ?_
          refine ww_zastc hX k_zast dX12_back_34 ?_
          refine ww_bds (fun s5 => ?_)
          refine ww_aload_n hX 0 rfl dX12_back_35 rfl ?_
          refine ww_aload_n hX 0 rfl dX12_back_36 rfl ?_
          refine ww_pc (b := 37) rfl ?_
          refine ww_getR hX f_X12_232 (Or.inr ⟨_, rfl⟩) dX12_back_37 ?_
          refine ww_bdR (fun o6 => ?_)
          refine ww_iload_n hX 2 rfl dX12_back_40 rfl ?_
          refine ww_ialdc hX k_iald dX12_back_41 ?_
          refine ww_aload_n hX 0 rfl dX12_back_42 rfl ?_
          refine ww_getR hX f_X12_235 (Or.inr ⟨_, rfl⟩) dX12_back_43 ?_
          refine ww_bdR (fun o7 => ?_)
          refine ww_iload_n hX 2 rfl dX12_back_46 rfl ?_
          refine ww_ialdc hX k_iald dX12_back_47 ?_
          refine ww_aload_n hX 0 rfl dX12_back_48 rfl ?_
          refine ww_pc (b := 49) rfl ?_
          refine ww_getR hX f_X12_238 (Or.inr ⟨_, rfl⟩) dX12_back_49 ?_
          refine ww_bdR (fun o8 => ?_)
          refine ww_iload_n hX 2 rfl dX12_back_52 rfl ?_
          refine ww_ialdc hX k_iald dX12_back_53 ?_
          refine ww_iconst (v := 0) hX rfl dX12_back_54 ?_
          refine ww_callVV (As := [.int (gI s5 o6 (ix p2)), .int (gI s5 o7 (ix p2)), .int (gI s5 o8 (ix p2)), .int 0]) (rest := []) (o := th) hX (Rk.of B.2.2.1 B.2.2.2.1 (by decide) (by decide)) g_X12_612 g_X12_612.in (fun _ => c_X12_mark (x_G X) (x_l X) fu th (gI s5 o6 (ix p2)) (gI s5 o7 (ix p2)) (gI s5 o8 (ix p2)) 0 s5) rfl rfl (Nat.le_of_ble_eq_true rfl) dX12_back_55 (fun s9 => ?_)
          refine ww_aload_n hX 0 rfl dX12_back_58 rfl ?_
          refine ww_dup hX rfl dX12_back_59 ?_
          refine ww_getL hX f_X12_629 rfl dX12_back_60 ?_
          refine ww_pc (b := 63) rfl ?_
          refine ww_aload_n hX 0 rfl dX12_back_63 rfl ?_
          refine ww_getR hX f_X12_241 (Or.inr ⟨_, rfl⟩) dX12_back_64 ?_
          refine ww_bdR (fun o10 => ?_)
          refine ww_iload_n hX 2 rfl dX12_back_67 rfl ?_
          refine ww_ialdc hX k_iald dX12_back_68 ?_
          refine ww_i2l hX dX12_back_69 ?_
          refine ww_lsub hX dX12_back_70 ?_
          refine ww_putL hX f_X12_629 rfl dX12_back_71 ?_
          refine ww_bds (fun s11 => ?_)
          refine ww_aload_n hX 0 rfl dX12_back_74 rfl ?_
          refine ww_pc (b := 75) rfl ?_
          refine ww_getR hX f_X12_241 (Or.inr ⟨_, rfl⟩) dX12_back_75 ?_
          refine ww_bdR (fun o12 => ?_)
          refine ww_iload_n hX 2 rfl dX12_back_78 rfl ?_
          refine ww_ialdc hX k_iald dX12_back_79 ?_
          exact ww_iret B dX12_back_80
        · exact ww_sub [] rfl (t_X12_back_26 B fu   s2)
theorem c_X12_back (G : GX) (l : Launch) (fu : Nat) (th : Nat) (p1 : Int32) (p2 : Int32) (st : St) : MI G NN l yX12_back cX12_back 3 (some .int) 2 [.ref (G.2.2.1 + th), .int p1, .int p2] st (f_X12_back fu th p1 p2 st) := mkI (by decide) (Nat.le_of_ble_eq_true rfl) (fun X res hl hG B => by subst hl; subst hG; exact t_X12_back B fu th p1 p2 st)
/-! StageHouseModel.enter(I)I -/
def f_X12_enter (fu : Nat) (th : Nat) (p1 : Int32) (st : St) : Option (Int32 × St) :=
  ck ((kd th).1 = 12) <|
  ca (f_X12_isTicket fu th p1 st) fun r1 s2 =>
  if r1 = 0 then (
  some ((-1), s2))
  else (
  ck (¬ gR s2 th 91 = 0) <|
  ck ((kd th).1 = 12) <|
  bd (gR s2 th 91) fun o3 =>
  ck (isb 1) <|
  ck ((kd o3).1 = 102 ∧ inb p1 (kd o3).2) <|
  bd (sI s2 o3 (ix p1) 1) fun s4 =>
  ck (¬ gR s4 th 88 = 0) <|
  ck ((kd th).1 = 12) <|
  bd (gR s4 th 88) fun o5 =>
  ck ((kd o5).1 = 100 ∧ inb p1 (kd o5).2) <|
  some (gI s4 o5 (ix p1), s4))
set_option maxHeartbeats 4000000 in
set_option maxRecDepth 100000 in
theorem t_X12_enter {X : CX} {res : Int32 × St} (B : BI X cX12_enter RX12 2 2 NN (some .int) res) (fu : Nat) (th : Nat) (p1 : Int32) (st : St) : WW X res NN 0 [(0, .ref (x_b X + th)), (1, .int p1)] [] st (f_X12_enter fu th p1 st) := by
  have hX := B.1
  have hL := B.2.1
  unfold f_X12_enter
  refine ww_aload_n hX 0 rfl dX12_enter_0 rfl ?_
  refine ww_iload_n hX 1 rfl dX12_enter_1 rfl ?_
  refine ww_callVI (As := [.int p1]) (rest := []) (o := th) hX (Rk.of B.2.2.1 B.2.2.2.1 (by decide) (by decide)) g_X12_633 g_X12_633.in (fun _ => c_X12_isTicket (x_G X) (x_l X) fu th p1 st) rfl rfl (Nat.le_of_ble_eq_true rfl) dX12_enter_2 (fun r1 s2 => ?_)
  refine ww_if_ne (tgt := 10) hX dX12_enter_5 (by decide) ?_ ?_
  · refine ww_aload_n hX 0 rfl dX12_enter_10 rfl ?_
    refine ww_getR hX f_X12_247 (Or.inr ⟨_, rfl⟩) dX12_enter_11 ?_
    refine ww_bdR (fun o3 => ?_)
    refine ww_iload_n hX 1 rfl dX12_enter_14 rfl ?_
    refine ww_iconst (v := 1) hX rfl dX12_enter_15 ?_
    refine ww_zastc hX k_zast dX12_enter_16 ?_
    refine ww_bds (fun s4 => ?_)
    refine ww_aload_n hX 0 rfl dX12_enter_17 rfl ?_
    refine ww_getR hX f_X12_238 (Or.inr ⟨_, rfl⟩) dX12_enter_18 ?_
    refine ww_bdR (fun o5 => ?_)
    refine ww_pc (b := 21) rfl ?_
    refine ww_iload_n hX 1 rfl dX12_enter_21 rfl ?_
    refine ww_ialdc hX k_iald dX12_enter_22 ?_
    exact ww_iret B dX12_enter_23
  · refine ww_iconst (v := (-1)) hX rfl dX12_enter_8 ?_
    exact ww_iret B dX12_enter_9
theorem c_X12_enter (G : GX) (l : Launch) (fu : Nat) (th : Nat) (p1 : Int32) (st : St) : MI G NN l yX12_enter cX12_enter 2 (some .int) 2 [.ref (G.2.2.1 + th), .int p1] st (f_X12_enter fu th p1 st) := mkI (by decide) (Nat.le_of_ble_eq_true rfl) (fun X res hl hG B => by subst hl; subst hG; exact t_X12_enter B fu th p1 st)
/-! StageHouseModel.seat(II)I -/
def b_X12_seat_39 (fu : Nat)  (y0 : Int32) (st : St) : Option (Int32 × St) :=
  some (y0, st)
set_option maxHeartbeats 4000000 in
set_option maxRecDepth 100000 in
theorem t_X12_seat_39 {X : CX} {res : Int32 × St} (B : BI X cX12_seat RX12 3 1 NN (some .int) res) (fu : Nat)  (y0 : Int32) (st : St) : WW X res NN 39 [] [.int y0] st (b_X12_seat_39 fu y0 st) := by
  have hX := B.1
  have hL := B.2.1
  unfold b_X12_seat_39
  exact ww_iret B dX12_seat_39
def b_X12_seat_24 (fu : Nat)   (st : St) : Option (Int32 × St) :=
  b_X12_seat_39 fu  ((-1)) st
set_option maxHeartbeats 4000000 in
set_option maxRecDepth 100000 in
theorem t_X12_seat_24 {X : CX} {res : Int32 × St} (B : BI X cX12_seat RX12 3 1 NN (some .int) res) (fu : Nat)   (st : St) : WW X res NN 24 [] [] st (b_X12_seat_24 fu  st) := by
  have hX := B.1
  have hL := B.2.1
  unfold b_X12_seat_24
  refine ww_iconst (v := (-1)) hX rfl dX12_seat_24 ?_
  refine ww_goto (tgt := 39) hX dX12_seat_25 (by decide) ?_
  exact t_X12_seat_39 B fu  ((-1)) st
def f_X12_seat (fu : Nat) (th : Nat) (p1 : Int32) (p2 : Int32) (st : St) : Option (Int32 × St) :=
  if p1 < 0 then (
  b_X12_seat_24 fu   st)
  else (
  if 39 < p1 then (
  b_X12_seat_24 fu   st)
  else (
  if p2 < 0 then (
  b_X12_seat_24 fu   st)
  else (
  ck (¬ gR st th 75 = 0) <|
  ck ((kd th).1 = 12) <|
  bd (gR st th 75) fun o1 =>
  ck ((kd o1).1 = 100 ∧ inb p1 (kd o1).2) <|
  if p2 < (gI st o1 (ix p1)) then (
  ck (¬ gR st th 76 = 0) <|
  ck ((kd th).1 = 12) <|
  bd (gR st th 76) fun o2 =>
  ck ((kd o2).1 = 100 ∧ inb ((30 * p1) + p2) (kd o2).2) <|
  b_X12_seat_39 fu  (gI st o2 (ix ((30 * p1) + p2))) st)
  else (
  b_X12_seat_24 fu   st))))
set_option maxHeartbeats 4000000 in
set_option maxRecDepth 100000 in
theorem t_X12_seat {X : CX} {res : Int32 × St} (B : BI X cX12_seat RX12 3 1 NN (some .int) res) (fu : Nat) (th : Nat) (p1 : Int32) (p2 : Int32) (st : St) : WW X res NN 0 [(0, .ref (x_b X + th)), (1, .int p1), (2, .int p2)] [] st (f_X12_seat fu th p1 p2 st) := by
  have hX := B.1
  have hL := B.2.1
  unfold f_X12_seat
  refine ww_iload_n hX 1 rfl dX12_seat_0 rfl ?_
  refine ww_if_lt (tgt := 24) hX dX12_seat_1 (by decide) ?_ ?_
  · exact ww_sub [] rfl (t_X12_seat_24 B fu   st)
  · refine ww_iload_n hX 1 rfl dX12_seat_4 rfl ?_
    refine ww_bipush (v := 39) hX rfl dX12_seat_5 ?_
    refine ww_icmp_gt (tgt := 24) hX dX12_seat_7 (by decide) ?_ ?_
    · exact ww_sub [] rfl (t_X12_seat_24 B fu   st)
    · refine ww_iload_n hX 2 rfl dX12_seat_10 rfl ?_
      refine ww_if_lt (tgt := 24) hX dX12_seat_11 (by decide) ?_ ?_
      · exact ww_sub [] rfl (t_X12_seat_24 B fu   st)
      · refine ww_iload_n hX 2 rfl dX12_seat_14 rfl ?_
        refine ww_aload_n hX 0 rfl dX12_seat_15 rfl ?_
        refine ww_getR hX f_X12_199 (Or.inr ⟨_, rfl⟩) dX12_seat_16 ?_
        refine ww_bdR (fun o1 => ?_)
        refine ww_iload_n hX 1 rfl dX12_seat_19 rfl ?_
        refine ww_ialdc hX k_iald dX12_seat_20 ?_
        refine ww_icmp_lt (tgt := 28) hX dX12_seat_21 (by decide) ?_ ?_
        · refine ww_aload_n hX 0 rfl dX12_seat_28 rfl ?_
          refine ww_getR hX f_X12_202 (Or.inr ⟨_, rfl⟩) dX12_seat_29 ?_
          refine ww_bdR (fun o2 => ?_)
          refine ww_bipush (v := 30) hX rfl dX12_seat_32 ?_
          refine ww_iload_n hX 1 rfl dX12_seat_34 rfl ?_
          refine ww_imul hX dX12_seat_35 ?_
          refine ww_iload_n hX 2 rfl dX12_seat_36 rfl ?_
          refine ww_iadd hX dX12_seat_37 ?_
          refine ww_pc (b := 38) rfl ?_
          refine ww_ialdc hX k_iald dX12_seat_38 ?_
          exact ww_sub [] rfl (t_X12_seat_39 B fu  (gI st o2 (ix ((30 * p1) + p2))) st)
        · exact ww_sub [] rfl (t_X12_seat_24 B fu   st)
theorem c_X12_seat (G : GX) (l : Launch) (fu : Nat) (th : Nat) (p1 : Int32) (p2 : Int32) (st : St) : MI G NN l yX12_seat cX12_seat 3 (some .int) 1 [.ref (G.2.2.1 + th), .int p1, .int p2] st (f_X12_seat fu th p1 p2 st) := mkI (by decide) (Nat.le_of_ble_eq_true rfl) (fun X res hl hG B => by subst hl; subst hG; exact t_X12_seat B fu th p1 p2 st)
/-! StageHouseModel.told(I)I -/
def b_X12_told_92 (fu : Nat) (k_29 : Nat → Int32 → Int32 → Int32 → St → Option (Int32 × St)) (x0 : Nat) (x1 : Int32) (x3 : Int32) (y0 : Int32) (y1 : Int32) (st : St) : Option (Int32 × St) :=
  bd (y0 + y1) fun v2 =>
  bd (x3 + 1) fun v3 =>
  k_29 x0 x1 v2 v3  st
set_option maxHeartbeats 4000000 in
set_option maxRecDepth 100000 in
theorem t_X12_told_92 {X : CX} {res : Int32 × St} (B : BI X cX12_told RX12 5 1 NN (some .int) res) (fu : Nat) (k_29 : Nat → Int32 → Int32 → Int32 → St → Option (Int32 × St)) (h_29 : ∀ (x0 : Nat) (x1 : Int32) (x2 : Int32) (x3 : Int32)  (st : St), WW X res NN 29 [(0, .ref (x_b X + x0)), (1, .int x1), (2, .int x2), (3, .int x3)] [] st (k_29 x0 x1 x2 x3 st)) (x0 : Nat) (x1 : Int32) (x3 : Int32) (y0 : Int32) (y1 : Int32) (st : St) : WW X res NN 92 [(0, .ref (x_b X + x0)), (1, .int x1), (3, .int x3)] [.int y1, .int y0] st (b_X12_told_92 fu k_29 x0 x1 x3 y0 y1 st) := by
  have hX := B.1
  have hL := B.2.1
  unfold b_X12_told_92
  refine ww_iadd hX dX12_told_92 ?_
  refine ww_bdi (fun v2 => ?_)
  refine ww_istore_n (lv' := [(2, .int v2), (0, .ref (x_b X + x0)), (1, .int x1), (3, .int x3)]) hX hL dX12_told_93 rfl (by decide) rfl ?_
  refine ww_iincb (lv' := fun v3 => [(3, .int v3), (2, .int v2), (0, .ref (x_b X + x0)), (1, .int x1)]) (c := 1) hX hL 3 rfl dX12_told_94 rfl (by decide) (fun _ => rfl) (fun v3 => ?_)
  refine ww_goto (tgt := 29) hX dX12_told_97 (by decide) ?_
  exact ww_sub [2, 3, 1, 0] rfl (h_29 x0 x1 v2 v3  st)
def b_X12_told_65 (fu : Nat) (k_29 : Nat → Int32 → Int32 → Int32 → St → Option (Int32 × St)) (x0 : Nat) (x1 : Int32) (x2 : Int32) (x3 : Int32) (y0 : Int32) (st : St) : Option (Int32 × St) :=
  if y0 = 0 then (
  b_X12_told_92 fu k_29 x0 x1 x3 x2 0 st)
  else (
  if x1 = 1 then (
  b_X12_told_92 fu k_29 x0 x1 x3 x2 1 st)
  else (
  ck (¬ gR st x0 88 = 0) <|
  ck ((kd x0).1 = 12) <|
  bd (gR st x0 88) fun o4 =>
  ck ((kd o4).1 = 100 ∧ inb x3 (kd o4).2) <|
  b_X12_told_92 fu k_29 x0 x1 x3 x2 (gI st o4 (ix x3)) st))
set_option maxHeartbeats 4000000 in
set_option maxRecDepth 100000 in
theorem t_X12_told_65 {X : CX} {res : Int32 × St} (B : BI X cX12_told RX12 5 1 NN (some .int) res) (fu : Nat) (k_29 : Nat → Int32 → Int32 → Int32 → St → Option (Int32 × St)) (h_29 : ∀ (x0 : Nat) (x1 : Int32) (x2 : Int32) (x3 : Int32)  (st : St), WW X res NN 29 [(0, .ref (x_b X + x0)), (1, .int x1), (2, .int x2), (3, .int x3)] [] st (k_29 x0 x1 x2 x3 st)) (x0 : Nat) (x1 : Int32) (x2 : Int32) (x3 : Int32) (y0 : Int32) (st : St) : WW X res NN 65 [(0, .ref (x_b X + x0)), (1, .int x1), (2, .int x2), (3, .int x3)] [.int y0] st (b_X12_told_65 fu k_29 x0 x1 x2 x3 y0 st) := by
  have hX := B.1
  have hL := B.2.1
  unfold b_X12_told_65
  refine ww_istore (lv' := [(4, .int y0), (0, .ref (x_b X + x0)), (1, .int x1), (2, .int x2), (3, .int x3)]) hX hL dX12_told_65 (by decide) rfl ?_
  refine ww_iload_n hX 3 rfl dX12_told_67 rfl ?_
  refine ww_iload hX 0 rfl dX12_told_68 ?_
  refine ww_if_eq (tgt := 91) hX dX12_told_70 (by decide) ?_ ?_
  · refine ww_iconst (v := 0) hX rfl dX12_told_91 ?_
    exact ww_sub [1, 2, 4] rfl (t_X12_told_92 B fu k_29 h_29 x0 x1 x3 x2 0 st)
  · refine ww_iload_n hX 2 rfl dX12_told_73 rfl ?_
    refine ww_iconst (v := 1) hX rfl dX12_told_74 ?_
    refine ww_icmp_ne (tgt := 82) hX dX12_told_75 (by decide) ?_ ?_
    · refine ww_aload_n hX 1 rfl dX12_told_82 rfl ?_
      refine ww_getR hX f_X12_238 (Or.inr ⟨_, rfl⟩) dX12_told_83 ?_
      refine ww_bdR (fun o4 => ?_)
      refine ww_iload_n hX 4 rfl dX12_told_86 rfl ?_
      refine ww_ialdc hX k_iald dX12_told_87 ?_
      refine ww_goto (tgt := 92) hX dX12_told_88 (by decide) ?_
      exact ww_sub [1, 2, 4] rfl (t_X12_told_92 B fu k_29 h_29 x0 x1 x3 x2 (gI st o4 (ix x3)) st)
    · refine ww_iconst (v := 1) hX rfl dX12_told_78 ?_
      refine ww_goto (tgt := 92) hX dX12_told_79 (by decide) ?_
      exact ww_sub [1, 2, 4] rfl (t_X12_told_92 B fu k_29 h_29 x0 x1 x3 x2 1 st)
def b_X12_told_29_b (fu : Nat) (k_29 : Nat → Int32 → Int32 → Int32 → St → Option (Int32 × St)) (x0 : Nat) (x1 : Int32) (x2 : Int32) (x3 : Int32)  (st : St) : Option (Int32 × St) :=
  ck ((kd x0).1 = 12) <|
  if (gI st x0 92) ≤ x3 then (
  some (x2, st))
  else (
  if x1 = 4 then (
  ck (¬ gR st x0 91 = 0) <|
  ck ((kd x0).1 = 12) <|
  bd (gR st x0 91) fun o5 =>
  ck ((kd o5).1 = 102 ∧ inb x3 (kd o5).2) <|
  b_X12_told_65 fu k_29 x0 x1 x2 x3 (gI st o5 (ix x3)) st)
  else (
  ck (¬ gR st x0 90 = 0) <|
  ck ((kd x0).1 = 12) <|
  bd (gR st x0 90) fun o1 =>
  ck ((kd o1).1 = 102 ∧ inb x3 (kd o1).2) <|
  if (gI st o1 (ix x3)) = 0 then (
  b_X12_told_65 fu k_29 x0 x1 x2 x3 1 st)
  else (
  b_X12_told_65 fu k_29 x0 x1 x2 x3 0 st)))
set_option maxHeartbeats 4000000 in
set_option maxRecDepth 100000 in
theorem t_X12_told_29_b {X : CX} {res : Int32 × St} (B : BI X cX12_told RX12 5 1 NN (some .int) res) (fu : Nat) (k_29 : Nat → Int32 → Int32 → Int32 → St → Option (Int32 × St)) (h_29 : ∀ (x0 : Nat) (x1 : Int32) (x2 : Int32) (x3 : Int32)  (st : St), WW X res NN 29 [(0, .ref (x_b X + x0)), (1, .int x1), (2, .int x2), (3, .int x3)] [] st (k_29 x0 x1 x2 x3 st)) (x0 : Nat) (x1 : Int32) (x2 : Int32) (x3 : Int32)  (st : St) : WW X res NN 29 [(0, .ref (x_b X + x0)), (1, .int x1), (2, .int x2), (3, .int x3)] [] st (b_X12_told_29_b fu k_29 x0 x1 x2 x3 st) := by
  have hX := B.1
  have hL := B.2.1
  unfold b_X12_told_29_b
  refine ww_iload_n hX 3 rfl dX12_told_29 rfl ?_
  refine ww_aload_n hX 0 rfl dX12_told_30 rfl ?_
  refine ww_getI hX f_X12_626 (Or.inl rfl) dX12_told_31 ?_
  refine ww_icmp_ge (tgt := 100) hX dX12_told_34 (by decide) ?_ ?_
  · refine ww_iload_n hX 2 rfl dX12_told_100 rfl ?_
    exact ww_iret B dX12_told_101
  · refine ww_iload_n hX 1 rfl dX12_told_37 rfl ?_
    refine ww_iconst (v := 4) hX rfl dX12_told_38 ?_
    refine ww_icmp_ne (tgt := 51) hX dX12_told_39 (by decide) ?_ ?_
    · refine ww_aload_n hX 0 rfl dX12_told_51 rfl ?_
      refine ww_getR hX f_X12_244 (Or.inr ⟨_, rfl⟩) dX12_told_52 ?_
      refine ww_bdR (fun o1 => ?_)
      refine ww_iload_n hX 3 rfl dX12_told_55 rfl ?_
      refine ww_zaldc hX k_zald dX12_told_56 ?_
      refine ww_if_ne (tgt := 64) hX dX12_told_57 (by decide) ?_ ?_
      · refine ww_iconst (v := 0) hX rfl dX12_told_64 ?_
        exact t_X12_told_65 B fu k_29 h_29 x0 x1 x2 x3 0 st
      · refine ww_iconst (v := 1) hX rfl dX12_told_60 ?_
        refine ww_goto (tgt := 65) hX dX12_told_61 (by decide) ?_
        exact t_X12_told_65 B fu k_29 h_29 x0 x1 x2 x3 1 st
    · refine ww_aload_n hX 0 rfl dX12_told_42 rfl ?_
      refine ww_getR hX f_X12_247 (Or.inr ⟨_, rfl⟩) dX12_told_43 ?_
      refine ww_bdR (fun o5 => ?_)
      refine ww_iload_n hX 3 rfl dX12_told_46 rfl ?_
      refine ww_zaldc hX k_zald dX12_told_47 ?_
      refine ww_goto (tgt := 65) hX dX12_told_48 (by decide) ?_
      exact t_X12_told_65 B fu k_29 h_29 x0 x1 x2 x3 (gI st o5 (ix x3)) st
def b_X12_told_29 (fu : Nat) : Nat → Nat → Int32 → Int32 → Int32 → St → Option (Int32 × St)
  | 0, _, _, _, _, _ => none
  | i + 1, x0, x1, x2, x3, st => b_X12_told_29_b fu (b_X12_told_29 fu i) x0 x1 x2 x3 st
theorem t_X12_told_29 {X : CX} {res : Int32 × St} (B : BI X cX12_told RX12 5 1 NN (some .int) res) (fu : Nat) : ∀ (i : Nat) (x0 : Nat) (x1 : Int32) (x2 : Int32) (x3 : Int32)  (st : St), WW X res NN 29 [(0, .ref (x_b X + x0)), (1, .int x1), (2, .int x2), (3, .int x3)] [] st (b_X12_told_29 fu i x0 x1 x2 x3 st) := by
  intro i
  induction i with
  | zero => intro x0 x1 x2 x3 st; exact ww_none
  | succ i ih => intro x0 x1 x2 x3 st; exact t_X12_told_29_b B fu (b_X12_told_29 fu i) ih x0 x1 x2 x3 st
def b_X12_told_27 (fu : Nat) (x0 : Nat) (x1 : Int32) (x2 : Int32)  (st : St) : Option (Int32 × St) :=
  b_X12_told_29 fu fu x0 x1 x2 0  st
set_option maxHeartbeats 4000000 in
set_option maxRecDepth 100000 in
theorem t_X12_told_27 {X : CX} {res : Int32 × St} (B : BI X cX12_told RX12 5 1 NN (some .int) res) (fu : Nat) (x0 : Nat) (x1 : Int32) (x2 : Int32)  (st : St) : WW X res NN 27 [(0, .ref (x_b X + x0)), (1, .int x1), (2, .int x2)] [] st (b_X12_told_27 fu x0 x1 x2 st) := by
  have hX := B.1
  have hL := B.2.1
  unfold b_X12_told_27
  refine ww_iconst (v := 0) hX rfl dX12_told_27 ?_
  refine ww_istore_n (lv' := [(3, .int 0), (0, .ref (x_b X + x0)), (1, .int x1), (2, .int x2)]) hX hL dX12_told_28 rfl (by decide) rfl ?_
  exact ww_sub [1, 2, 3, 0] rfl (t_X12_told_29 B fu fu x0 x1 x2 0  st)
def b_X12_told_205 (fu : Nat)  (y0 : Int32) (st : St) : Option (Int32 × St) :=
  some (y0, st)
set_option maxHeartbeats 4000000 in
set_option maxRecDepth 100000 in
theorem t_X12_told_205 {X : CX} {res : Int32 × St} (B : BI X cX12_told RX12 5 1 NN (some .int) res) (fu : Nat)  (y0 : Int32) (st : St) : WW X res NN 205 [] [.int y0] st (b_X12_told_205 fu y0 st) := by
  have hX := B.1
  have hL := B.2.1
  unfold b_X12_told_205
  exact ww_iret B dX12_told_205
def b_X12_told_148_b (fu : Nat) (k_148 : Nat → Int32 → Int32 → St → Option (Int32 × St)) (x0 : Nat) (x2 : Int32) (x3 : Int32)  (st : St) : Option (Int32 × St) :=
  if 8 ≤ x3 then (
  some (x2, st))
  else (
  ck (¬ gR st x0 65 = 0) <|
  ck ((kd x0).1 = 12) <|
  bd (gR st x0 65) fun o6 =>
  ck ((kd o6).1 = 100 ∧ inb x3 (kd o6).2) <|
  bd (x2 + (gI st o6 (ix x3))) fun v7 =>
  bd (x3 + 1) fun v8 =>
  k_148 x0 v7 v8  st)
set_option maxHeartbeats 4000000 in
set_option maxRecDepth 100000 in
theorem t_X12_told_148_b {X : CX} {res : Int32 × St} (B : BI X cX12_told RX12 5 1 NN (some .int) res) (fu : Nat) (k_148 : Nat → Int32 → Int32 → St → Option (Int32 × St)) (h_148 : ∀ (x0 : Nat) (x2 : Int32) (x3 : Int32)  (st : St), WW X res NN 148 [(0, .ref (x_b X + x0)), (2, .int x2), (3, .int x3)] [] st (k_148 x0 x2 x3 st)) (x0 : Nat) (x2 : Int32) (x3 : Int32)  (st : St) : WW X res NN 148 [(0, .ref (x_b X + x0)), (2, .int x2), (3, .int x3)] [] st (b_X12_told_148_b fu k_148 x0 x2 x3 st) := by
  have hX := B.1
  have hL := B.2.1
  unfold b_X12_told_148_b
  refine ww_iload_n hX 2 rfl dX12_told_148 rfl ?_
  refine ww_bipush (v := 8) hX rfl dX12_told_149 ?_
  refine ww_icmp_ge (tgt := 169) hX dX12_told_151 (by decide) ?_ ?_
  · refine ww_iload_n hX 1 rfl dX12_told_169 rfl ?_
    exact ww_iret B dX12_told_170
  · refine ww_iload_n hX 1 rfl dX12_told_154 rfl ?_
    refine ww_aload_n hX 0 rfl dX12_told_155 rfl ?_
    refine ww_getR hX f_X12_178 (Or.inr ⟨_, rfl⟩) dX12_told_156 ?_
    refine ww_bdR (fun o6 => ?_)
    refine ww_iload_n hX 2 rfl dX12_told_159 rfl ?_
    refine ww_ialdc hX k_iald dX12_told_160 ?_
    refine ww_iadd hX dX12_told_161 ?_
    refine ww_bdi (fun v7 => ?_)
    refine ww_istore_n (lv' := [(2, .int v7), (0, .ref (x_b X + x0)), (3, .int x3)]) hX hL dX12_told_162 rfl (by decide) rfl ?_
    refine ww_pc (b := 163) rfl ?_
    refine ww_iincb (lv' := fun v8 => [(3, .int v8), (2, .int v7), (0, .ref (x_b X + x0))]) (c := 1) hX hL 2 rfl dX12_told_163 rfl (by decide) (fun _ => rfl) (fun v8 => ?_)
    refine ww_goto (tgt := 148) hX dX12_told_166 (by decide) ?_
    exact ww_sub [2, 1, 0] rfl (h_148 x0 v7 v8  st)
def b_X12_told_148 (fu : Nat) : Nat → Nat → Int32 → Int32 → St → Option (Int32 × St)
  | 0, _, _, _, _ => none
  | i + 1, x0, x2, x3, st => b_X12_told_148_b fu (b_X12_told_148 fu i) x0 x2 x3 st
theorem t_X12_told_148 {X : CX} {res : Int32 × St} (B : BI X cX12_told RX12 5 1 NN (some .int) res) (fu : Nat) : ∀ (i : Nat) (x0 : Nat) (x2 : Int32) (x3 : Int32)  (st : St), WW X res NN 148 [(0, .ref (x_b X + x0)), (2, .int x2), (3, .int x3)] [] st (b_X12_told_148 fu i x0 x2 x3 st) := by
  intro i
  induction i with
  | zero => intro x0 x2 x3 st; exact ww_none
  | succ i ih => intro x0 x2 x3 st; exact t_X12_told_148_b B fu (b_X12_told_148 fu i) ih x0 x2 x3 st
def b_X12_told_130 (fu : Nat) (k_109 : Nat → Int32 → Int32 → St → Option (Int32 × St)) (x0 : Nat) (x3 : Int32) (y0 : Int32) (y1 : Int32) (st : St) : Option (Int32 × St) :=
  bd (y0 + y1) fun v10 =>
  bd (x3 + 1) fun v11 =>
  k_109 x0 v10 v11  st
set_option maxHeartbeats 4000000 in
set_option maxRecDepth 100000 in
theorem t_X12_told_130 {X : CX} {res : Int32 × St} (B : BI X cX12_told RX12 5 1 NN (some .int) res) (fu : Nat) (k_109 : Nat → Int32 → Int32 → St → Option (Int32 × St)) (h_109 : ∀ (x0 : Nat) (x2 : Int32) (x3 : Int32)  (st : St), WW X res NN 109 [(0, .ref (x_b X + x0)), (2, .int x2), (3, .int x3)] [] st (k_109 x0 x2 x3 st)) (x0 : Nat) (x3 : Int32) (y0 : Int32) (y1 : Int32) (st : St) : WW X res NN 130 [(0, .ref (x_b X + x0)), (3, .int x3)] [.int y1, .int y0] st (b_X12_told_130 fu k_109 x0 x3 y0 y1 st) := by
  have hX := B.1
  have hL := B.2.1
  unfold b_X12_told_130
  refine ww_iadd hX dX12_told_130 ?_
  refine ww_bdi (fun v10 => ?_)
  refine ww_istore_n (lv' := [(2, .int v10), (0, .ref (x_b X + x0)), (3, .int x3)]) hX hL dX12_told_131 rfl (by decide) rfl ?_
  refine ww_iincb (lv' := fun v11 => [(3, .int v11), (2, .int v10), (0, .ref (x_b X + x0))]) (c := 1) hX hL 2 rfl dX12_told_132 rfl (by decide) (fun _ => rfl) (fun v11 => ?_)
  refine ww_goto (tgt := 109) hX dX12_told_135 (by decide) ?_
  exact ww_sub [2, 1, 0] rfl (h_109 x0 v10 v11  st)
def b_X12_told_109_b (fu : Nat) (k_109 : Nat → Int32 → Int32 → St → Option (Int32 × St)) (x0 : Nat) (x2 : Int32) (x3 : Int32)  (st : St) : Option (Int32 × St) :=
  if 60 ≤ x3 then (
  some (x2, st))
  else (
  ck (¬ gR st x0 78 = 0) <|
  ck ((kd x0).1 = 12) <|
  bd (gR st x0 78) fun o9 =>
  ck ((kd o9).1 = 102 ∧ inb x3 (kd o9).2) <|
  if (gI st o9 (ix x3)) = 0 then (
  b_X12_told_130 fu k_109 x0 x3 x2 0 st)
  else (
  b_X12_told_130 fu k_109 x0 x3 x2 1 st))
set_option maxHeartbeats 4000000 in
set_option maxRecDepth 100000 in
theorem t_X12_told_109_b {X : CX} {res : Int32 × St} (B : BI X cX12_told RX12 5 1 NN (some .int) res) (fu : Nat) (k_109 : Nat → Int32 → Int32 → St → Option (Int32 × St)) (h_109 : ∀ (x0 : Nat) (x2 : Int32) (x3 : Int32)  (st : St), WW X res NN 109 [(0, .ref (x_b X + x0)), (2, .int x2), (3, .int x3)] [] st (k_109 x0 x2 x3 st)) (x0 : Nat) (x2 : Int32) (x3 : Int32)  (st : St) : WW X res NN 109 [(0, .ref (x_b X + x0)), (2, .int x2), (3, .int x3)] [] st (b_X12_told_109_b fu k_109 x0 x2 x3 st) := by
  have hX := B.1
  have hL := B.2.1
  unfold b_X12_told_109_b
  refine ww_iload_n hX 2 rfl dX12_told_109 rfl ?_
  refine ww_bipush (v := 60) hX rfl dX12_told_110 ?_
  refine ww_icmp_ge (tgt := 138) hX dX12_told_112 (by decide) ?_ ?_
  · refine ww_iload_n hX 1 rfl dX12_told_138 rfl ?_
    exact ww_iret B dX12_told_139
  · refine ww_iload_n hX 1 rfl dX12_told_115 rfl ?_
    refine ww_aload_n hX 0 rfl dX12_told_116 rfl ?_
    refine ww_getR hX f_X12_208 (Or.inr ⟨_, rfl⟩) dX12_told_117 ?_
    refine ww_bdR (fun o9 => ?_)
    refine ww_iload_n hX 2 rfl dX12_told_120 rfl ?_
    refine ww_zaldc hX k_zald dX12_told_121 ?_
    refine ww_if_eq (tgt := 129) hX dX12_told_122 (by decide) ?_ ?_
    · refine ww_iconst (v := 0) hX rfl dX12_told_129 ?_
      exact ww_sub [0, 2] rfl (t_X12_told_130 B fu k_109 h_109 x0 x3 x2 0 st)
    · refine ww_iconst (v := 1) hX rfl dX12_told_125 ?_
      refine ww_goto (tgt := 130) hX dX12_told_126 (by decide) ?_
      exact ww_sub [0, 2] rfl (t_X12_told_130 B fu k_109 h_109 x0 x3 x2 1 st)
def b_X12_told_109 (fu : Nat) : Nat → Nat → Int32 → Int32 → St → Option (Int32 × St)
  | 0, _, _, _, _ => none
  | i + 1, x0, x2, x3, st => b_X12_told_109_b fu (b_X12_told_109 fu i) x0 x2 x3 st
theorem t_X12_told_109 {X : CX} {res : Int32 × St} (B : BI X cX12_told RX12 5 1 NN (some .int) res) (fu : Nat) : ∀ (i : Nat) (x0 : Nat) (x2 : Int32) (x3 : Int32)  (st : St), WW X res NN 109 [(0, .ref (x_b X + x0)), (2, .int x2), (3, .int x3)] [] st (b_X12_told_109 fu i x0 x2 x3 st) := by
  intro i
  induction i with
  | zero => intro x0 x2 x3 st; exact ww_none
  | succ i ih => intro x0 x2 x3 st; exact t_X12_told_109_b B fu (b_X12_told_109 fu i) ih x0 x2 x3 st
def f_X12_told (fu : Nat) (th : Nat) (p1 : Int32) (st : St) : Option (Int32 × St) :=
  if p1 = 0 then (
  ck ((kd th).1 = 12) <|
  some ((gL st th 93).toInt32, st))
  else (
  if p1 = 1 then (
  b_X12_told_27 fu th p1 0  st)
  else (
  if p1 = 2 then (
  b_X12_told_27 fu th p1 0  st)
  else (
  if p1 = 4 then (
  b_X12_told_27 fu th p1 0  st)
  else (
  if p1 = 3 then (
  b_X12_told_109 fu fu th 0 0  st)
  else (
  if p1 = 6 then (
  b_X12_told_148 fu fu th 0 0  st)
  else (
  if p1 = 5 then (
  ck ((kd th).1 = 12) <|
  b_X12_told_205 fu  (gI st th 40) st)
  else (
  if p1 = 7 then (
  ck ((kd th).1 = 12) <|
  if (gI st th 67) = 0 then (
  b_X12_told_205 fu  0 st)
  else (
  b_X12_told_205 fu  1 st))
  else (
  b_X12_told_205 fu  ((-1)) st))))))))
set_option maxHeartbeats 4000000 in
set_option maxRecDepth 100000 in
theorem t_X12_told {X : CX} {res : Int32 × St} (B : BI X cX12_told RX12 5 1 NN (some .int) res) (fu : Nat) (th : Nat) (p1 : Int32) (st : St) : WW X res NN 0 [(0, .ref (x_b X + th)), (1, .int p1)] [] st (f_X12_told fu th p1 st) := by
  have hX := B.1
  have hL := B.2.1
  unfold f_X12_told
  refine ww_iload_n hX 1 rfl dX12_told_0 rfl ?_
  refine ww_if_ne (tgt := 10) hX dX12_told_1 (by decide) ?_ ?_
  · refine ww_iconst (v := 0) hX rfl dX12_told_10 ?_
    refine ww_istore_n (lv' := [(2, .int 0), (0, .ref (x_b X + th)), (1, .int p1)]) hX hL dX12_told_11 rfl (by decide) rfl ?_
    refine ww_iload_n hX 2 rfl dX12_told_12 rfl ?_
    refine ww_iconst (v := 1) hX rfl dX12_told_13 ?_
    refine ww_icmp_eq (tgt := 27) hX dX12_told_14 (by decide) ?_ ?_
    · exact ww_sub [1, 2, 0] rfl (t_X12_told_27 B fu th p1 0  st)
    · refine ww_iload_n hX 2 rfl dX12_told_17 rfl ?_
      refine ww_iconst (v := 2) hX rfl dX12_told_18 ?_
      refine ww_icmp_eq (tgt := 27) hX dX12_told_19 (by decide) ?_ ?_
      · exact ww_sub [1, 2, 0] rfl (t_X12_told_27 B fu th p1 0  st)
      · refine ww_iload_n hX 2 rfl dX12_told_22 rfl ?_
        refine ww_iconst (v := 4) hX rfl dX12_told_23 ?_
        refine ww_icmp_ne (tgt := 102) hX dX12_told_24 (by decide) ?_ ?_
        · refine ww_iload_n hX 2 rfl dX12_told_102 rfl ?_
          refine ww_iconst (v := 3) hX rfl dX12_told_103 ?_
          refine ww_icmp_ne (tgt := 140) hX dX12_told_104 (by decide) ?_ ?_
          · refine ww_iload_n hX 2 rfl dX12_told_140 rfl ?_
            refine ww_bipush (v := 6) hX rfl dX12_told_141 ?_
            refine ww_icmp_ne (tgt := 171) hX dX12_told_143 (by decide) ?_ ?_
            · refine ww_iload_n hX 2 rfl dX12_told_171 rfl ?_
              refine ww_iconst (v := 5) hX rfl dX12_told_172 ?_
              refine ww_icmp_ne (tgt := 183) hX dX12_told_173 (by decide) ?_ ?_
              · refine ww_iload_n hX 2 rfl dX12_told_183 rfl ?_
                refine ww_bipush (v := 7) hX rfl dX12_told_184 ?_
                refine ww_icmp_ne (tgt := 204) hX dX12_told_186 (by decide) ?_ ?_
                · refine ww_iconst (v := (-1)) hX rfl dX12_told_204 ?_
                  exact ww_sub [] rfl (t_X12_told_205 B fu  ((-1)) st)
                · refine ww_aload_n hX 1 rfl dX12_told_189 rfl ?_
                  refine ww_getI hX f_X12_565 (Or.inr rfl) dX12_told_190 ?_
                  refine ww_if_eq (tgt := 200) hX dX12_told_193 (by decide) ?_ ?_
                  · refine ww_iconst (v := 0) hX rfl dX12_told_200 ?_
                    refine ww_goto (tgt := 205) hX dX12_told_201 (by decide) ?_
                    exact ww_sub [] rfl (t_X12_told_205 B fu  0 st)
                  · refine ww_iconst (v := 1) hX rfl dX12_told_196 ?_
                    refine ww_goto (tgt := 205) hX dX12_told_197 (by decide) ?_
                    exact ww_sub [] rfl (t_X12_told_205 B fu  1 st)
              · refine ww_aload_n hX 1 rfl dX12_told_176 rfl ?_
                refine ww_getI hX f_X12_490 (Or.inl rfl) dX12_told_177 ?_
                refine ww_goto (tgt := 205) hX dX12_told_180 (by decide) ?_
                exact ww_sub [] rfl (t_X12_told_205 B fu  (gI st th 40) st)
            · refine ww_iconst (v := 0) hX rfl dX12_told_146 ?_
              refine ww_istore_n (lv' := [(3, .int 0), (2, .int 0), (0, .ref (x_b X + th)), (1, .int p1)]) hX hL dX12_told_147 rfl (by decide) rfl ?_
              exact ww_sub [2, 1, 0] rfl (t_X12_told_148 B fu fu th 0 0  st)
          · refine ww_iconst (v := 0) hX rfl dX12_told_107 ?_
            refine ww_istore_n (lv' := [(3, .int 0), (2, .int 0), (0, .ref (x_b X + th)), (1, .int p1)]) hX hL dX12_told_108 rfl (by decide) rfl ?_
            exact ww_sub [2, 1, 0] rfl (t_X12_told_109 B fu fu th 0 0  st)
        · exact ww_sub [1, 2, 0] rfl (t_X12_told_27 B fu th p1 0  st)
  · refine ww_aload_n hX 0 rfl dX12_told_4 rfl ?_
    refine ww_getL hX f_X12_629 rfl dX12_told_5 ?_
    refine ww_l2i hX dX12_told_8 ?_
    exact ww_iret B dX12_told_9
theorem c_X12_told (G : GX) (l : Launch) (fu : Nat) (th : Nat) (p1 : Int32) (st : St) : MI G NN l yX12_told cX12_told 5 (some .int) 1 [.ref (G.2.2.1 + th), .int p1] st (f_X12_told fu th p1 st) := mkI (by decide) (Nat.le_of_ble_eq_true rfl) (fun X res hl hG B => by subst hl; subst hG; exact t_X12_told B fu th p1 st)
/-! StageHouseModel.term(I)V -/
def b_X12_term_124 (fu : Nat)   (st : St) : Option (St) :=
  some st
set_option maxHeartbeats 4000000 in
set_option maxRecDepth 100000 in
theorem t_X12_term_124 {X : CX} {res : St} (B : BV X cX12_term RX12 5 9 NN none res) (fu : Nat)   (st : St) : WW X res NN 124 [] [] st (b_X12_term_124 fu  st) := by
  have hX := B.1
  have hL := B.2.1
  unfold b_X12_term_124
  exact ww_vret B dX12_term_124
def b_X12_term_103 (fu : Nat) (x3 : Int32) (y0 : Nat) (y1 : Int32) (y2 : Int32) (st : St) : Option (St) :=
  bd (y1 + y2) fun v15 =>
  ck ((kd y0).1 = 103 ∧ inb v15 (kd y0).2) <|
  ck ((kd y0).1 = 103 ∧ inb v15 (kd y0).2) <|
  bd (sL st y0 (ix v15) ((gL st y0 (ix v15)) + x3.toInt64)) fun s16 =>
  b_X12_term_124 fu   s16
set_option maxHeartbeats 4000000 in
set_option maxRecDepth 100000 in
theorem t_X12_term_103 {X : CX} {res : St} (B : BV X cX12_term RX12 5 9 NN none res) (fu : Nat) (x3 : Int32) (y0 : Nat) (y1 : Int32) (y2 : Int32) (st : St) : WW X res NN 103 [(3, .int x3)] [.int y2, .int y1, .ref (x_b X + y0)] st (b_X12_term_103 fu x3 y0 y1 y2 st) := by
  have hX := B.1
  have hL := B.2.1
  unfold b_X12_term_103
  refine ww_iadd hX dX12_term_103 ?_
  refine ww_bdi (fun v15 => ?_)
  refine ww_dup2_11 hX rfl rfl dX12_term_104 ?_
  refine ww_laldc hX k_lald dX12_term_105 ?_
  refine ww_iload_n hX 0 rfl dX12_term_106 rfl ?_
  refine ww_i2l hX dX12_term_107 ?_
  refine ww_ladd hX dX12_term_108 ?_
  refine ww_lastc hX k_last dX12_term_109 ?_
  refine ww_bds (fun s16 => ?_)
  refine ww_pc (b := 110) rfl ?_
  refine ww_goto (tgt := 124) hX dX12_term_110 (by decide) ?_
  exact ww_sub [] rfl (t_X12_term_124 B fu   s16)
def b_X12_term_102 (fu : Nat) (x3 : Int32) (y0 : Nat) (y1 : Int32) (st : St) : Option (St) :=
  b_X12_term_103 fu x3 y0 y1 0 st
set_option maxHeartbeats 4000000 in
set_option maxRecDepth 100000 in
theorem t_X12_term_102 {X : CX} {res : St} (B : BV X cX12_term RX12 5 9 NN none res) (fu : Nat) (x3 : Int32) (y0 : Nat) (y1 : Int32) (st : St) : WW X res NN 102 [(3, .int x3)] [.int y1, .ref (x_b X + y0)] st (b_X12_term_102 fu x3 y0 y1 st) := by
  have hX := B.1
  have hL := B.2.1
  unfold b_X12_term_102
  refine ww_iconst (v := 0) hX rfl dX12_term_102 ?_
  exact t_X12_term_103 B fu x3 y0 y1 0 st
def b_X12_term_40 (fu : Nat) (x0 : Nat) (x1 : Int32) (x3 : Int32)  (st : St) : Option (St) :=
  ck ((kd x0).1 = 12) <|
  cv (f_X12_needWord fu x0 22 st) fun s9 =>
  ck ((kd x0).1 = 12) <|
  ca (f_X12_takeWord fu x0 23 s9) fun r10 s11 =>
  if r10 = 0 then (
  ck ((kd x0).1 = 12) <|
  ca (f_X12_number fu x0 0 2 s11) fun r12 s13 =>
  ck (¬ gR s13 x0 110 = 0) <|
  ck ((kd x0).1 = 12) <|
  bd (gR s13 x0 110) fun o14 =>
  if r12 < 0 then (
  b_X12_term_102 fu x3 o14 (3 * x1) s13)
  else (
  if 2 < r12 then (
  b_X12_term_102 fu x3 o14 (3 * x1) s13)
  else (
  b_X12_term_103 fu x3 o14 (3 * x1) r12 s13)))
  else (
  ck (¬ gR s11 x0 109 = 0) <|
  ck ((kd x0).1 = 12) <|
  bd (gR s11 x0 109) fun o17 =>
  ck ((kd o17).1 = 103 ∧ inb x1 (kd o17).2) <|
  ck ((kd o17).1 = 103 ∧ inb x1 (kd o17).2) <|
  bd (sL s11 o17 (ix x1) ((gL s11 o17 (ix x1)) + x3.toInt64)) fun s18 =>
  b_X12_term_124 fu   s18)
set_option maxHeartbeats 4000000 in
set_option maxRecDepth 100000 in
theorem t_X12_term_40 {X : CX} {res : St} (B : BV X cX12_term RX12 5 9 NN none res) (fu : Nat) (x0 : Nat) (x1 : Int32) (x3 : Int32)  (st : St) : WW X res NN 40 [(0, .ref (x_b X + x0)), (1, .int x1), (3, .int x3)] [] st (b_X12_term_40 fu x0 x1 x3 st) := by
  have hX := B.1
  have hL := B.2.1
  unfold b_X12_term_40
  refine ww_aload_n hX 0 rfl dX12_term_40 rfl ?_
  refine ww_ldcwS (q := 46) hX rfl dX12_term_41 ?_
  refine ww_callVV (As := [.ref ((x_K X).1 22)]) (rest := []) (o := x0) hX (Rk.of B.2.2.1 B.2.2.2.1 (by decide) (by decide)) g_X12_437 g_X12_437.in (fun _ => c_X12_needWord (x_G X) (x_l X) fu x0 22 st) rfl rfl (Nat.le_of_ble_eq_true rfl) dX12_term_44 (fun s9 => ?_)
  refine ww_aload_n hX 0 rfl dX12_term_47 rfl ?_
  refine ww_ldcwS (q := 47) hX rfl dX12_term_48 ?_
  refine ww_callVI (As := [.ref ((x_K X).1 23)]) (rest := []) (o := x0) hX (Rk.of B.2.2.1 B.2.2.2.1 (by decide) (by decide)) g_X12_406 g_X12_406.in (fun _ => c_X12_takeWord (x_G X) (x_l X) fu x0 23 s9) rfl rfl (Nat.le_of_ble_eq_true rfl) dX12_term_51 (fun r10 s11 => ?_)
  refine ww_if_eq (tgt := 71) hX dX12_term_54 (by decide) ?_ ?_
  · refine ww_aload_n hX 0 rfl dX12_term_71 rfl ?_
    refine ww_iconst (v := 0) hX rfl dX12_term_72 ?_
    refine ww_iconst (v := 2) hX rfl dX12_term_73 ?_
    refine ww_callVI (As := [.int 0, .int 2]) (rest := []) (o := x0) hX (Rk.of B.2.2.1 B.2.2.2.1 (by decide) (by decide)) g_X12_415 g_X12_415.in (fun _ => c_X12_number (x_G X) (x_l X) fu x0 0 2 s11) rfl rfl (Nat.le_of_ble_eq_true rfl) dX12_term_74 (fun r12 s13 => ?_)
    refine ww_istore (lv' := [(4, .int r12), (0, .ref (x_b X + x0)), (1, .int x1), (3, .int x3)]) hX hL dX12_term_77 (by decide) rfl ?_
    refine ww_aload_n hX 1 rfl dX12_term_79 rfl ?_
    refine ww_getR hX f_X12_292 (Or.inr ⟨_, rfl⟩) dX12_term_80 ?_
    refine ww_bdR (fun o14 => ?_)
    refine ww_pc (b := 83) rfl ?_
    refine ww_iconst (v := 3) hX rfl dX12_term_83 ?_
    refine ww_iload_n hX 2 rfl dX12_term_84 rfl ?_
    refine ww_imul hX dX12_term_85 ?_
    refine ww_iload hX 0 rfl dX12_term_86 ?_
    refine ww_if_lt (tgt := 102) hX dX12_term_88 (by decide) ?_ ?_
    · exact ww_sub [3] rfl (t_X12_term_102 B fu x3 o14 (3 * x1) s13)
    · refine ww_iload hX 0 rfl dX12_term_91 ?_
      refine ww_iconst (v := 2) hX rfl dX12_term_93 ?_
      refine ww_icmp_gt (tgt := 102) hX dX12_term_94 (by decide) ?_ ?_
      · exact ww_sub [3] rfl (t_X12_term_102 B fu x3 o14 (3 * x1) s13)
      · refine ww_iload hX 0 rfl dX12_term_97 ?_
        refine ww_goto (tgt := 103) hX dX12_term_99 (by decide) ?_
        exact ww_sub [3] rfl (t_X12_term_103 B fu x3 o14 (3 * x1) r12 s13)
  · refine ww_aload_n hX 0 rfl dX12_term_57 rfl ?_
    refine ww_getR hX f_X12_289 (Or.inr ⟨_, rfl⟩) dX12_term_58 ?_
    refine ww_bdR (fun o17 => ?_)
    refine ww_iload_n hX 1 rfl dX12_term_61 rfl ?_
    refine ww_dup2_11 hX rfl rfl dX12_term_62 ?_
    refine ww_laldc hX k_lald dX12_term_63 ?_
    refine ww_iload_n hX 2 rfl dX12_term_64 rfl ?_
    refine ww_i2l hX dX12_term_65 ?_
    refine ww_pc (b := 66) rfl ?_
    refine ww_ladd hX dX12_term_66 ?_
    refine ww_lastc hX k_last dX12_term_67 ?_
    refine ww_bds (fun s18 => ?_)
    refine ww_goto (tgt := 124) hX dX12_term_68 (by decide) ?_
    exact ww_sub [] rfl (t_X12_term_124 B fu   s18)
def f_X12_term (fu : Nat) (th : Nat) (p1 : Int32) (st : St) : Option (St) :=
  ck (¬ gR st th 4 = 0) <|
  ck ((kd th).1 = 12) <|
  bd (gR st th 4) fun o1 =>
  ck ((kd th).1 = 12) <|
  ck ((kd o1).1 = 100 ∧ inb (gI st th 5) (kd o1).2) <|
  bd (gI st o1 (ix (gI st th 5))) fun v2 =>
  ck ((kd th).1 = 12) <|
  ca (f_X12_number fu th 0 99999 st) fun r3 s4 =>
  ck ((kd th).1 = 12) <|
  ca (f_X12_takeSign fu th 37 s4) fun r5 s6 =>
  if r5 = 0 then (
  ck (¬ gR s6 th 111 = 0) <|
  ck ((kd th).1 = 12) <|
  bd (gR s6 th 111) fun o7 =>
  ck ((kd o7).1 = 103 ∧ inb p1 (kd o7).2) <|
  ck ((kd o7).1 = 103 ∧ inb p1 (kd o7).2) <|
  bd (sL s6 o7 (ix p1) ((gL s6 o7 (ix p1)) + r3.toInt64)) fun s8 =>
  b_X12_term_124 fu   s8)
  else (
  if r3 ≤ 100 then (
  b_X12_term_40 fu th p1 r3  s6)
  else (
  ck ((kd th).1 = 12) <|
  cv (f_X12_tell fu th 2 v2 s6) fun s19 =>
  b_X12_term_40 fu th p1 r3  s19))
set_option maxHeartbeats 4000000 in
set_option maxRecDepth 100000 in
theorem t_X12_term {X : CX} {res : St} (B : BV X cX12_term RX12 5 9 NN none res) (fu : Nat) (th : Nat) (p1 : Int32) (st : St) : WW X res NN 0 [(0, .ref (x_b X + th)), (1, .int p1)] [] st (f_X12_term fu th p1 st) := by
  have hX := B.1
  have hL := B.2.1
  unfold f_X12_term
  refine ww_aload_n hX 0 rfl dX12_term_0 rfl ?_
  refine ww_getR hX f_X12_21 (Or.inr ⟨_, rfl⟩) dX12_term_1 ?_
  refine ww_bdR (fun o1 => ?_)
  refine ww_aload_n hX 0 rfl dX12_term_4 rfl ?_
  refine ww_getI hX f_X12_381 (Or.inl rfl) dX12_term_5 ?_
  refine ww_ialdc hX k_iald dX12_term_8 ?_
  refine ww_bdi (fun v2 => ?_)
  refine ww_istore_n (lv' := [(2, .int v2), (0, .ref (x_b X + th)), (1, .int p1)]) hX hL dX12_term_9 rfl (by decide) rfl ?_
  refine ww_aload_n hX 1 rfl dX12_term_10 rfl ?_
  refine ww_pc (b := 11) rfl ?_
  refine ww_iconst (v := 0) hX rfl dX12_term_11 ?_
  refine ww_ldcw (v := 99999) hX k_X12_478 dX12_term_12 ?_
  refine ww_callVI (As := [.int 0, .int 99999]) (rest := []) (o := th) hX (Rk.of B.2.2.1 B.2.2.2.1 (by decide) (by decide)) g_X12_415 g_X12_415.in (fun _ => c_X12_number (x_G X) (x_l X) fu th 0 99999 st) rfl rfl (Nat.le_of_ble_eq_true rfl) dX12_term_15 (fun r3 s4 => ?_)
  refine ww_istore_n (lv' := [(3, .int r3), (2, .int v2), (0, .ref (x_b X + th)), (1, .int p1)]) hX hL dX12_term_18 rfl (by decide) rfl ?_
  refine ww_aload_n hX 2 rfl dX12_term_19 rfl ?_
  refine ww_bipush (v := 37) hX rfl dX12_term_20 ?_
  refine ww_callVI (As := [.int 37]) (rest := []) (o := th) hX (Rk.of B.2.2.1 B.2.2.2.1 (by decide) (by decide)) g_X12_412 g_X12_412.in (fun _ => c_X12_takeSign (x_G X) (x_l X) fu th 37 s4) rfl rfl (Nat.le_of_ble_eq_true rfl) dX12_term_22 (fun r5 s6 => ?_)
  refine ww_if_eq (tgt := 113) hX dX12_term_25 (by decide) ?_ ?_
  · refine ww_aload_n hX 2 rfl dX12_term_113 rfl ?_
    refine ww_getR hX f_X12_295 (Or.inr ⟨_, rfl⟩) dX12_term_114 ?_
    refine ww_bdR (fun o7 => ?_)
    refine ww_iload_n hX 3 rfl dX12_term_117 rfl ?_
    refine ww_dup2_11 hX rfl rfl dX12_term_118 ?_
    refine ww_laldc hX k_lald dX12_term_119 ?_
    refine ww_iload_n hX 0 rfl dX12_term_120 rfl ?_
    refine ww_i2l hX dX12_term_121 ?_
    refine ww_pc (b := 122) rfl ?_
    refine ww_ladd hX dX12_term_122 ?_
    refine ww_lastc hX k_last dX12_term_123 ?_
    refine ww_bds (fun s8 => ?_)
    exact ww_sub [] rfl (t_X12_term_124 B fu   s8)
  · refine ww_iload_n hX 0 rfl dX12_term_28 rfl ?_
    refine ww_bipush (v := 100) hX rfl dX12_term_29 ?_
    refine ww_icmp_le (tgt := 40) hX dX12_term_31 (by decide) ?_ ?_
    · exact ww_sub [2, 3, 0] rfl (t_X12_term_40 B fu th p1 r3  s6)
    · refine ww_aload_n hX 2 rfl dX12_term_34 rfl ?_
      refine ww_iconst (v := 2) hX rfl dX12_term_35 ?_
      refine ww_iload_n hX 1 rfl dX12_term_36 rfl ?_
      refine ww_callVV (As := [.int 2, .int v2]) (rest := []) (o := th) hX (Rk.of B.2.2.1 B.2.2.2.1 (by decide) (by decide)) g_X12_394 g_X12_394.in (fun _ => c_X12_tell (x_G X) (x_l X) fu th 2 v2 s6) rfl rfl (Nat.le_of_ble_eq_true rfl) dX12_term_37 (fun s19 => ?_)
      exact ww_sub [2, 3, 0] rfl (t_X12_term_40 B fu th p1 r3  s19)
theorem c_X12_term (G : GX) (l : Launch) (fu : Nat) (th : Nat) (p1 : Int32) (st : St) : MV G NN l yX12_term cX12_term 5 none 9 [.ref (G.2.2.1 + th), .int p1] st (f_X12_term fu th p1 st) := mkV (by decide) (Nat.le_of_ble_eq_true rfl) (fun X res hl hG B => by subst hl; subst hG; exact t_X12_term B fu th p1 st)
/-! StageHouseModel.shares()I -/
def b_X12_shares_293_b (fu : Nat) (k_293 : Nat → Int32 → Int32 → St → Option (Int32 × St)) (x0 : Nat) (x1 : Int32) (x2 : Int32)  (st : St) : Option (Int32 × St) :=
  if 9 ≤ x2 then (
  some (x1, st))
  else (
  ck (¬ gR st x0 107 = 0) <|
  ck ((kd x0).1 = 12) <|
  bd (gR st x0 107) fun o2 =>
  ck (¬ gR st x0 110 = 0) <|
  ck ((kd x0).1 = 12) <|
  bd (gR st x0 110) fun o3 =>
  ck ((kd o3).1 = 103 ∧ inb x2 (kd o3).2) <|
  ck ((kd o2).1 = 103 ∧ inb x2 (kd o2).2) <|
  bd (sL st o2 (ix x2) (gL st o3 (ix x2))) fun s4 =>
  bd (x2 + 1) fun v5 =>
  k_293 x0 x1 v5  s4)
set_option maxHeartbeats 4000000 in
set_option maxRecDepth 100000 in
theorem t_X12_shares_293_b {X : CX} {res : Int32 × St} (B : BI X cX12_shares RX12 7 10 NN (some .int) res) (fu : Nat) (k_293 : Nat → Int32 → Int32 → St → Option (Int32 × St)) (h_293 : ∀ (x0 : Nat) (x1 : Int32) (x2 : Int32)  (st : St), WW X res NN 293 [(0, .ref (x_b X + x0)), (1, .int x1), (2, .int x2)] [] st (k_293 x0 x1 x2 st)) (x0 : Nat) (x1 : Int32) (x2 : Int32)  (st : St) : WW X res NN 293 [(0, .ref (x_b X + x0)), (1, .int x1), (2, .int x2)] [] st (b_X12_shares_293_b fu k_293 x0 x1 x2 st) := by
  have hX := B.1
  have hL := B.2.1
  unfold b_X12_shares_293_b
  refine ww_iload_n hX 2 rfl dX12_shares_293 rfl ?_
  refine ww_bipush (v := 9) hX rfl dX12_shares_294 ?_
  refine ww_icmp_ge (tgt := 317) hX dX12_shares_296 (by decide) ?_ ?_
  · refine ww_iload_n hX 1 rfl dX12_shares_317 rfl ?_
    exact ww_iret B dX12_shares_318
  · refine ww_aload_n hX 0 rfl dX12_shares_299 rfl ?_
    refine ww_getR hX f_X12_283 (Or.inr ⟨_, rfl⟩) dX12_shares_300 ?_
    refine ww_bdR (fun o2 => ?_)
    refine ww_iload_n hX 2 rfl dX12_shares_303 rfl ?_
    refine ww_aload_n hX 0 rfl dX12_shares_304 rfl ?_
    refine ww_getR hX f_X12_292 (Or.inr ⟨_, rfl⟩) dX12_shares_305 ?_
    refine ww_bdR (fun o3 => ?_)
    refine ww_iload_n hX 2 rfl dX12_shares_308 rfl ?_
    refine ww_laldc hX k_lald dX12_shares_309 ?_
    refine ww_pc (b := 310) rfl ?_
    refine ww_lastc hX k_last dX12_shares_310 ?_
    refine ww_bds (fun s4 => ?_)
    refine ww_iincb (lv' := fun v5 => [(2, .int v5), (0, .ref (x_b X + x0)), (1, .int x1)]) (c := 1) hX hL 2 rfl dX12_shares_311 rfl (by decide) (fun _ => rfl) (fun v5 => ?_)
    refine ww_goto (tgt := 293) hX dX12_shares_314 (by decide) ?_
    exact ww_sub [1, 2, 0] rfl (h_293 x0 x1 v5  s4)
def b_X12_shares_293 (fu : Nat) : Nat → Nat → Int32 → Int32 → St → Option (Int32 × St)
  | 0, _, _, _, _ => none
  | i + 1, x0, x1, x2, st => b_X12_shares_293_b fu (b_X12_shares_293 fu i) x0 x1 x2 st
theorem t_X12_shares_293 {X : CX} {res : Int32 × St} (B : BI X cX12_shares RX12 7 10 NN (some .int) res) (fu : Nat) : ∀ (i : Nat) (x0 : Nat) (x1 : Int32) (x2 : Int32)  (st : St), WW X res NN 293 [(0, .ref (x_b X + x0)), (1, .int x1), (2, .int x2)] [] st (b_X12_shares_293 fu i x0 x1 x2 st) := by
  intro i
  induction i with
  | zero => intro x0 x1 x2 st; exact ww_none
  | succ i ih => intro x0 x1 x2 st; exact t_X12_shares_293_b B fu (b_X12_shares_293 fu i) ih x0 x1 x2 st
def b_X12_shares_256_b (fu : Nat) (k_256 : Nat → Int32 → Int32 → St → Option (Int32 × St)) (x0 : Nat) (x1 : Int32) (x2 : Int32)  (st : St) : Option (Int32 × St) :=
  if 3 ≤ x2 then (
  b_X12_shares_293 fu fu x0 x1 0  st)
  else (
  ck (¬ gR st x0 106 = 0) <|
  ck ((kd x0).1 = 12) <|
  bd (gR st x0 106) fun o6 =>
  ck (¬ gR st x0 109 = 0) <|
  ck ((kd x0).1 = 12) <|
  bd (gR st x0 109) fun o7 =>
  ck ((kd o7).1 = 103 ∧ inb x2 (kd o7).2) <|
  ck ((kd o6).1 = 103 ∧ inb x2 (kd o6).2) <|
  bd (sL st o6 (ix x2) (gL st o7 (ix x2))) fun s8 =>
  ck (¬ gR s8 x0 108 = 0) <|
  ck ((kd x0).1 = 12) <|
  bd (gR s8 x0 108) fun o9 =>
  ck (¬ gR s8 x0 111 = 0) <|
  ck ((kd x0).1 = 12) <|
  bd (gR s8 x0 111) fun o10 =>
  ck ((kd o10).1 = 103 ∧ inb x2 (kd o10).2) <|
  ck ((kd o9).1 = 103 ∧ inb x2 (kd o9).2) <|
  bd (sL s8 o9 (ix x2) (gL s8 o10 (ix x2))) fun s11 =>
  bd (x2 + 1) fun v12 =>
  k_256 x0 x1 v12  s11)
set_option maxHeartbeats 4000000 in
set_option maxRecDepth 100000 in
theorem t_X12_shares_256_b {X : CX} {res : Int32 × St} (B : BI X cX12_shares RX12 7 10 NN (some .int) res) (fu : Nat) (k_256 : Nat → Int32 → Int32 → St → Option (Int32 × St)) (h_256 : ∀ (x0 : Nat) (x1 : Int32) (x2 : Int32)  (st : St), WW X res NN 256 [(0, .ref (x_b X + x0)), (1, .int x1), (2, .int x2)] [] st (k_256 x0 x1 x2 st)) (x0 : Nat) (x1 : Int32) (x2 : Int32)  (st : St) : WW X res NN 256 [(0, .ref (x_b X + x0)), (1, .int x1), (2, .int x2)] [] st (b_X12_shares_256_b fu k_256 x0 x1 x2 st) := by
  have hX := B.1
  have hL := B.2.1
  unfold b_X12_shares_256_b
  refine ww_iload_n hX 2 rfl dX12_shares_256 rfl ?_
  refine ww_iconst (v := 3) hX rfl dX12_shares_257 ?_
  refine ww_icmp_ge (tgt := 291) hX dX12_shares_258 (by decide) ?_ ?_
  · refine ww_iconst (v := 0) hX rfl dX12_shares_291 ?_
    refine ww_istore_n (lv' := [(2, .int 0), (0, .ref (x_b X + x0)), (1, .int x1)]) hX hL dX12_shares_292 rfl (by decide) rfl ?_
    exact ww_sub [1, 2, 0] rfl (t_X12_shares_293 B fu fu x0 x1 0  st)
  · refine ww_aload_n hX 0 rfl dX12_shares_261 rfl ?_
    refine ww_getR hX f_X12_280 (Or.inr ⟨_, rfl⟩) dX12_shares_262 ?_
    refine ww_bdR (fun o6 => ?_)
    refine ww_iload_n hX 2 rfl dX12_shares_265 rfl ?_
    refine ww_aload_n hX 0 rfl dX12_shares_266 rfl ?_
    refine ww_getR hX f_X12_289 (Or.inr ⟨_, rfl⟩) dX12_shares_267 ?_
    refine ww_bdR (fun o7 => ?_)
    refine ww_iload_n hX 2 rfl dX12_shares_270 rfl ?_
    refine ww_laldc hX k_lald dX12_shares_271 ?_
    refine ww_pc (b := 272) rfl ?_
    refine ww_lastc hX k_last dX12_shares_272 ?_
    refine ww_bds (fun s8 => ?_)
    refine ww_aload_n hX 0 rfl dX12_shares_273 rfl ?_
    refine ww_getR hX f_X12_286 (Or.inr ⟨_, rfl⟩) dX12_shares_274 ?_
    refine ww_bdR (fun o9 => ?_)
    refine ww_iload_n hX 2 rfl dX12_shares_277 rfl ?_
    refine ww_aload_n hX 0 rfl dX12_shares_278 rfl ?_
    refine ww_getR hX f_X12_295 (Or.inr ⟨_, rfl⟩) dX12_shares_279 ?_
    refine ww_bdR (fun o10 => ?_)
    refine ww_iload_n hX 2 rfl dX12_shares_282 rfl ?_
    refine ww_laldc hX k_lald dX12_shares_283 ?_
    refine ww_pc (b := 284) rfl ?_
    refine ww_lastc hX k_last dX12_shares_284 ?_
    refine ww_bds (fun s11 => ?_)
    refine ww_iincb (lv' := fun v12 => [(2, .int v12), (0, .ref (x_b X + x0)), (1, .int x1)]) (c := 1) hX hL 2 rfl dX12_shares_285 rfl (by decide) (fun _ => rfl) (fun v12 => ?_)
    refine ww_goto (tgt := 256) hX dX12_shares_288 (by decide) ?_
    exact ww_sub [1, 2, 0] rfl (h_256 x0 x1 v12  s11)
def b_X12_shares_256 (fu : Nat) : Nat → Nat → Int32 → Int32 → St → Option (Int32 × St)
  | 0, _, _, _, _ => none
  | i + 1, x0, x1, x2, st => b_X12_shares_256_b fu (b_X12_shares_256 fu i) x0 x1 x2 st
theorem t_X12_shares_256 {X : CX} {res : Int32 × St} (B : BI X cX12_shares RX12 7 10 NN (some .int) res) (fu : Nat) : ∀ (i : Nat) (x0 : Nat) (x1 : Int32) (x2 : Int32)  (st : St), WW X res NN 256 [(0, .ref (x_b X + x0)), (1, .int x1), (2, .int x2)] [] st (b_X12_shares_256 fu i x0 x1 x2 st) := by
  intro i
  induction i with
  | zero => intro x0 x1 x2 st; exact ww_none
  | succ i ih => intro x0 x1 x2 st; exact t_X12_shares_256_b B fu (b_X12_shares_256 fu i) ih x0 x1 x2 st
def b_X12_shares_239 (fu : Nat) (x0 : Nat) (x1 : Int32)  (st : St) : Option (Int32 × St) :=
  ck ((kd x0).1 = 12) <|
  if (gI st x0 6) = 0 then (
  b_X12_shares_256 fu fu x0 x1 0  st)
  else (
  ck ((kd x0).1 = 12) <|
  some (((-10)) - (gI st x0 7), st))
set_option maxHeartbeats 4000000 in
set_option maxRecDepth 100000 in
theorem t_X12_shares_239 {X : CX} {res : Int32 × St} (B : BI X cX12_shares RX12 7 10 NN (some .int) res) (fu : Nat) (x0 : Nat) (x1 : Int32)  (st : St) : WW X res NN 239 [(0, .ref (x_b X + x0)), (1, .int x1)] [] st (b_X12_shares_239 fu x0 x1 st) := by
  have hX := B.1
  have hL := B.2.1
  unfold b_X12_shares_239
  refine ww_aload_n hX 0 rfl dX12_shares_239 rfl ?_
  refine ww_getI hX f_X12_384 (Or.inl rfl) dX12_shares_240 ?_
  refine ww_if_eq (tgt := 254) hX dX12_shares_243 (by decide) ?_ ?_
  · refine ww_iconst (v := 0) hX rfl dX12_shares_254 ?_
    refine ww_istore_n (lv' := [(2, .int 0), (0, .ref (x_b X + x0)), (1, .int x1)]) hX hL dX12_shares_255 rfl (by decide) rfl ?_
    exact ww_sub [1, 2, 0] rfl (t_X12_shares_256 B fu fu x0 x1 0  st)
  · refine ww_bipush (v := (-10)) hX rfl dX12_shares_246 ?_
    refine ww_aload_n hX 0 rfl dX12_shares_248 rfl ?_
    refine ww_getI hX f_X12_387 (Or.inl rfl) dX12_shares_249 ?_
    refine ww_isub hX dX12_shares_252 ?_
    exact ww_iret B dX12_shares_253
def b_X12_shares_230 (fu : Nat) (k_61 : Nat → Int32 → St → Option (Int32 × St)) (x0 : Nat) (x1 : Int32)  (st : St) : Option (Int32 × St) :=
  ck ((kd x0).1 = 12) <|
  cv (f_X12_needSign fu x0 59 st) fun s19 =>
  k_61 x0 x1  s19
set_option maxHeartbeats 4000000 in
set_option maxRecDepth 100000 in
theorem t_X12_shares_230 {X : CX} {res : Int32 × St} (B : BI X cX12_shares RX12 7 10 NN (some .int) res) (fu : Nat) (k_61 : Nat → Int32 → St → Option (Int32 × St)) (h_61 : ∀ (x0 : Nat) (x1 : Int32)  (st : St), WW X res NN 61 [(0, .ref (x_b X + x0)), (1, .int x1)] [] st (k_61 x0 x1 st)) (x0 : Nat) (x1 : Int32)  (st : St) : WW X res NN 230 [(0, .ref (x_b X + x0)), (1, .int x1)] [] st (b_X12_shares_230 fu k_61 x0 x1 st) := by
  have hX := B.1
  have hL := B.2.1
  unfold b_X12_shares_230
  refine ww_aload_n hX 0 rfl dX12_shares_230 rfl ?_
  refine ww_bipush (v := 59) hX rfl dX12_shares_231 ?_
  refine ww_callVV (As := [.int 59]) (rest := []) (o := x0) hX (Rk.of B.2.2.1 B.2.2.2.1 (by decide) (by decide)) g_X12_452 g_X12_452.in (fun _ => c_X12_needSign (x_G X) (x_l X) fu x0 59 st) rfl rfl (Nat.le_of_ble_eq_true rfl) dX12_shares_233 (fun s19 => ?_)
  refine ww_goto (tgt := 61) hX dX12_shares_236 (by decide) ?_
  exact h_61 x0 x1  s19
def b_X12_shares_213 (fu : Nat) (k_61 : Nat → Int32 → St → Option (Int32 × St)) (k_166 : Nat → Int32 → Int32 → Int32 → Int32 → St → Option (Int32 × St)) (x0 : Nat) (x1 : Int32) (x4 : Int32) (x5 : Int32)  (st : St) : Option (Int32 × St) :=
  ck ((kd x0).1 = 12) <|
  cv (f_X12_term fu x0 x4 st) fun s21 =>
  ck ((kd x0).1 = 12) <|
  ca (f_X12_takeSign fu x0 43 s21) fun r22 s23 =>
  k_166 x0 x1 x4 x5 r22  s23
set_option maxHeartbeats 4000000 in
set_option maxRecDepth 100000 in
theorem t_X12_shares_213 {X : CX} {res : Int32 × St} (B : BI X cX12_shares RX12 7 10 NN (some .int) res) (fu : Nat) (k_61 : Nat → Int32 → St → Option (Int32 × St)) (k_166 : Nat → Int32 → Int32 → Int32 → Int32 → St → Option (Int32 × St)) (h_61 : ∀ (x0 : Nat) (x1 : Int32)  (st : St), WW X res NN 61 [(0, .ref (x_b X + x0)), (1, .int x1)] [] st (k_61 x0 x1 st)) (h_166 : ∀ (x0 : Nat) (x1 : Int32) (x4 : Int32) (x5 : Int32) (x6 : Int32)  (st : St), WW X res NN 166 [(0, .ref (x_b X + x0)), (1, .int x1), (4, .int x4), (5, .int x5), (6, .int x6)] [] st (k_166 x0 x1 x4 x5 x6 st)) (x0 : Nat) (x1 : Int32) (x4 : Int32) (x5 : Int32)  (st : St) : WW X res NN 213 [(0, .ref (x_b X + x0)), (1, .int x1), (4, .int x4), (5, .int x5)] [] st (b_X12_shares_213 fu k_61 k_166 x0 x1 x4 x5 st) := by
  have hX := B.1
  have hL := B.2.1
  unfold b_X12_shares_213
  refine ww_aload_n hX 0 rfl dX12_shares_213 rfl ?_
  refine ww_iload hX 2 rfl dX12_shares_214 ?_
  refine ww_callVV (As := [.int x4]) (rest := []) (o := x0) hX (Rk.of B.2.2.1 B.2.2.2.1 (by decide) (by decide)) g_X12_636 g_X12_636.in (fun _ => c_X12_term (x_G X) (x_l X) fu x0 x4 st) rfl rfl (Nat.le_of_ble_eq_true rfl) dX12_shares_216 (fun s21 => ?_)
  refine ww_aload_n hX 0 rfl dX12_shares_219 rfl ?_
  refine ww_bipush (v := 43) hX rfl dX12_shares_220 ?_
  refine ww_callVI (As := [.int 43]) (rest := []) (o := x0) hX (Rk.of B.2.2.1 B.2.2.2.1 (by decide) (by decide)) g_X12_412 g_X12_412.in (fun _ => c_X12_takeSign (x_G X) (x_l X) fu x0 43 s21) rfl rfl (Nat.le_of_ble_eq_true rfl) dX12_shares_222 (fun r22 s23 => ?_)
  refine ww_istore (lv' := [(6, .int r22), (0, .ref (x_b X + x0)), (1, .int x1), (4, .int x4), (5, .int x5)]) hX hL dX12_shares_225 (by decide) rfl ?_
  refine ww_pc (b := 227) rfl ?_
  refine ww_goto (tgt := 166) hX dX12_shares_227 (by decide) ?_
  exact ww_sub [1, 2, 3, 4, 0] rfl (h_166 x0 x1 x4 x5 r22  s23)
def b_X12_shares_166_b (fu : Nat) (k_61 : Nat → Int32 → St → Option (Int32 × St)) (k_166 : Nat → Int32 → Int32 → Int32 → Int32 → St → Option (Int32 × St)) (x0 : Nat) (x1 : Int32) (x4 : Int32) (x5 : Int32) (x6 : Int32)  (st : St) : Option (Int32 × St) :=
  if x6 = 0 then (
  b_X12_shares_230 fu k_61 x0 x1  st)
  else (
  ck ((kd x0).1 = 12) <|
  if (gI st x0 8) = 0 then (
  bd (x5 + 1) fun v20 =>
  if v20 = 5 then (
  ck (¬ gR st x0 2 = 0) <|
  ck ((kd x0).1 = 12) <|
  bd (gR st x0 2) fun o24 =>
  ck ((kd x0).1 = 12) <|
  ck ((kd o24).1 = 100 ∧ inb (gI st x0 5) (kd o24).2) <|
  if (gI st o24 (ix (gI st x0 5))) = 0 then (
  b_X12_shares_213 fu k_61 k_166 x0 x1 x4 v20  st)
  else (
  ck (¬ gR st x0 4 = 0) <|
  ck ((kd x0).1 = 12) <|
  bd (gR st x0 4) fun o25 =>
  ck ((kd x0).1 = 12) <|
  ck ((kd o25).1 = 100 ∧ inb (gI st x0 5) (kd o25).2) <|
  ck ((kd x0).1 = 12) <|
  cv (f_X12_tell fu x0 2 (gI st o25 (ix (gI st x0 5))) st) fun s26 =>
  b_X12_shares_213 fu k_61 k_166 x0 x1 x4 v20  s26))
  else (
  b_X12_shares_213 fu k_61 k_166 x0 x1 x4 v20  st))
  else (
  b_X12_shares_230 fu k_61 x0 x1  st))
set_option maxHeartbeats 4000000 in
set_option maxRecDepth 100000 in
theorem t_X12_shares_166_b {X : CX} {res : Int32 × St} (B : BI X cX12_shares RX12 7 10 NN (some .int) res) (fu : Nat) (k_61 : Nat → Int32 → St → Option (Int32 × St)) (k_166 : Nat → Int32 → Int32 → Int32 → Int32 → St → Option (Int32 × St)) (h_61 : ∀ (x0 : Nat) (x1 : Int32)  (st : St), WW X res NN 61 [(0, .ref (x_b X + x0)), (1, .int x1)] [] st (k_61 x0 x1 st)) (h_166 : ∀ (x0 : Nat) (x1 : Int32) (x4 : Int32) (x5 : Int32) (x6 : Int32)  (st : St), WW X res NN 166 [(0, .ref (x_b X + x0)), (1, .int x1), (4, .int x4), (5, .int x5), (6, .int x6)] [] st (k_166 x0 x1 x4 x5 x6 st)) (x0 : Nat) (x1 : Int32) (x4 : Int32) (x5 : Int32) (x6 : Int32)  (st : St) : WW X res NN 166 [(0, .ref (x_b X + x0)), (1, .int x1), (4, .int x4), (5, .int x5), (6, .int x6)] [] st (b_X12_shares_166_b fu k_61 k_166 x0 x1 x4 x5 x6 st) := by
  have hX := B.1
  have hL := B.2.1
  unfold b_X12_shares_166_b
  refine ww_iload hX 4 rfl dX12_shares_166 ?_
  refine ww_if_eq (tgt := 230) hX dX12_shares_168 (by decide) ?_ ?_
  · exact ww_sub [0, 1] rfl (t_X12_shares_230 B fu k_61 h_61 x0 x1  st)
  · refine ww_aload_n hX 0 rfl dX12_shares_171 rfl ?_
    refine ww_getI hX f_X12_390 (Or.inr rfl) dX12_shares_172 ?_
    refine ww_if_ne (tgt := 230) hX dX12_shares_175 (by decide) ?_ ?_
    · exact ww_sub [0, 1] rfl (t_X12_shares_230 B fu k_61 h_61 x0 x1  st)
    · refine ww_iincb (lv' := fun v20 => [(5, .int v20), (0, .ref (x_b X + x0)), (1, .int x1), (4, .int x4), (6, .int x6)]) (c := 1) hX hL 3 rfl dX12_shares_178 rfl (by decide) (fun _ => rfl) (fun v20 => ?_)
      refine ww_iload hX 0 rfl dX12_shares_181 ?_
      refine ww_iconst (v := 5) hX rfl dX12_shares_183 ?_
      refine ww_icmp_ne (tgt := 213) hX dX12_shares_184 (by decide) ?_ ?_
      · exact ww_sub [1, 2, 3, 0] rfl (t_X12_shares_213 B fu k_61 k_166 h_61 h_166 x0 x1 x4 v20  st)
      · refine ww_aload_n hX 1 rfl dX12_shares_187 rfl ?_
        refine ww_getR hX f_X12_13 (Or.inr ⟨_, rfl⟩) dX12_shares_188 ?_
        refine ww_bdR (fun o24 => ?_)
        refine ww_aload_n hX 1 rfl dX12_shares_191 rfl ?_
        refine ww_getI hX f_X12_381 (Or.inl rfl) dX12_shares_192 ?_
        refine ww_ialdc hX k_iald dX12_shares_195 ?_
        refine ww_if_eq (tgt := 213) hX dX12_shares_196 (by decide) ?_ ?_
        · exact ww_sub [1, 2, 3, 0] rfl (t_X12_shares_213 B fu k_61 k_166 h_61 h_166 x0 x1 x4 v20  st)
        · refine ww_aload_n hX 1 rfl dX12_shares_199 rfl ?_
          refine ww_iconst (v := 2) hX rfl dX12_shares_200 ?_
          refine ww_aload_n hX 1 rfl dX12_shares_201 rfl ?_
          refine ww_getR hX f_X12_21 (Or.inr ⟨_, rfl⟩) dX12_shares_202 ?_
          refine ww_bdR (fun o25 => ?_)
          refine ww_aload_n hX 1 rfl dX12_shares_205 rfl ?_
          refine ww_getI hX f_X12_381 (Or.inl rfl) dX12_shares_206 ?_
          refine ww_ialdc hX k_iald dX12_shares_209 ?_
          refine ww_pc (b := 210) rfl ?_
          refine ww_callVV (As := [.int 2, .int (gI st o25 (ix (gI st x0 5)))]) (rest := []) (o := x0) hX (Rk.of B.2.2.1 B.2.2.2.1 (by decide) (by decide)) g_X12_394 g_X12_394.in (fun _ => c_X12_tell (x_G X) (x_l X) fu x0 2 (gI st o25 (ix (gI st x0 5))) st) rfl rfl (Nat.le_of_ble_eq_true rfl) dX12_shares_210 (fun s26 => ?_)
          exact ww_sub [1, 2, 3, 0] rfl (t_X12_shares_213 B fu k_61 k_166 h_61 h_166 x0 x1 x4 v20  s26)
def b_X12_shares_166 (fu : Nat) (k_61 : Nat → Int32 → St → Option (Int32 × St)) : Nat → Nat → Int32 → Int32 → Int32 → Int32 → St → Option (Int32 × St)
  | 0, _, _, _, _, _, _ => none
  | i + 1, x0, x1, x4, x5, x6, st => b_X12_shares_166_b fu k_61 (b_X12_shares_166 fu k_61 i) x0 x1 x4 x5 x6 st
theorem t_X12_shares_166 {X : CX} {res : Int32 × St} (B : BI X cX12_shares RX12 7 10 NN (some .int) res) (fu : Nat) (k_61 : Nat → Int32 → St → Option (Int32 × St)) (h_61 : ∀ (x0 : Nat) (x1 : Int32)  (st : St), WW X res NN 61 [(0, .ref (x_b X + x0)), (1, .int x1)] [] st (k_61 x0 x1 st)) : ∀ (i : Nat) (x0 : Nat) (x1 : Int32) (x4 : Int32) (x5 : Int32) (x6 : Int32)  (st : St), WW X res NN 166 [(0, .ref (x_b X + x0)), (1, .int x1), (4, .int x4), (5, .int x5), (6, .int x6)] [] st (b_X12_shares_166 fu k_61 i x0 x1 x4 x5 x6 st) := by
  intro i
  induction i with
  | zero => intro x0 x1 x4 x5 x6 st; exact ww_none
  | succ i ih => intro x0 x1 x4 x5 x6 st; exact t_X12_shares_166_b B fu k_61 (b_X12_shares_166 fu k_61 i) h_61 ih x0 x1 x4 x5 x6 st
def b_X12_shares_154 (fu : Nat) (k_61 : Nat → Int32 → St → Option (Int32 × St)) (x0 : Nat) (x1 : Int32) (x4 : Int32)  (st : St) : Option (Int32 × St) :=
  ck ((kd x0).1 = 12) <|
  cv (f_X12_needSign fu x0 58 st) fun s18 =>
  b_X12_shares_166 fu k_61 fu x0 x1 x4 0 1  s18
set_option maxHeartbeats 4000000 in
set_option maxRecDepth 100000 in
theorem t_X12_shares_154 {X : CX} {res : Int32 × St} (B : BI X cX12_shares RX12 7 10 NN (some .int) res) (fu : Nat) (k_61 : Nat → Int32 → St → Option (Int32 × St)) (h_61 : ∀ (x0 : Nat) (x1 : Int32)  (st : St), WW X res NN 61 [(0, .ref (x_b X + x0)), (1, .int x1)] [] st (k_61 x0 x1 st)) (x0 : Nat) (x1 : Int32) (x4 : Int32)  (st : St) : WW X res NN 154 [(0, .ref (x_b X + x0)), (1, .int x1), (4, .int x4)] [] st (b_X12_shares_154 fu k_61 x0 x1 x4 st) := by
  have hX := B.1
  have hL := B.2.1
  unfold b_X12_shares_154
  refine ww_aload_n hX 0 rfl dX12_shares_154 rfl ?_
  refine ww_bipush (v := 58) hX rfl dX12_shares_155 ?_
  refine ww_callVV (As := [.int 58]) (rest := []) (o := x0) hX (Rk.of B.2.2.1 B.2.2.2.1 (by decide) (by decide)) g_X12_452 g_X12_452.in (fun _ => c_X12_needSign (x_G X) (x_l X) fu x0 58 st) rfl rfl (Nat.le_of_ble_eq_true rfl) dX12_shares_157 (fun s18 => ?_)
  refine ww_iconst (v := 0) hX rfl dX12_shares_160 ?_
  refine ww_istore (lv' := [(5, .int 0), (0, .ref (x_b X + x0)), (1, .int x1), (4, .int x4)]) hX hL dX12_shares_161 (by decide) rfl ?_
  refine ww_iconst (v := 1) hX rfl dX12_shares_163 ?_
  refine ww_istore (lv' := [(6, .int 1), (5, .int 0), (0, .ref (x_b X + x0)), (1, .int x1), (4, .int x4)]) hX hL dX12_shares_164 (by decide) rfl ?_
  exact ww_sub [2, 3, 4, 1, 0] rfl (t_X12_shares_166 B fu k_61 h_61 fu x0 x1 x4 0 1  s18)
def b_X12_shares_151 (fu : Nat) (k_61 : Nat → Int32 → St → Option (Int32 × St)) (x0 : Nat) (x1 : Int32) (x4 : Int32)  (st : St) : Option (Int32 × St) :=
  bd (x1 + 1) fun v27 =>
  b_X12_shares_154 fu k_61 x0 v27 x4  st
set_option maxHeartbeats 4000000 in
set_option maxRecDepth 100000 in
theorem t_X12_shares_151 {X : CX} {res : Int32 × St} (B : BI X cX12_shares RX12 7 10 NN (some .int) res) (fu : Nat) (k_61 : Nat → Int32 → St → Option (Int32 × St)) (h_61 : ∀ (x0 : Nat) (x1 : Int32)  (st : St), WW X res NN 61 [(0, .ref (x_b X + x0)), (1, .int x1)] [] st (k_61 x0 x1 st)) (x0 : Nat) (x1 : Int32) (x4 : Int32)  (st : St) : WW X res NN 151 [(0, .ref (x_b X + x0)), (1, .int x1), (4, .int x4)] [] st (b_X12_shares_151 fu k_61 x0 x1 x4 st) := by
  have hX := B.1
  have hL := B.2.1
  unfold b_X12_shares_151
  refine ww_iincb (lv' := fun v27 => [(1, .int v27), (0, .ref (x_b X + x0)), (4, .int x4)]) (c := 1) hX hL 1 rfl dX12_shares_151 rfl (by decide) (fun _ => rfl) (fun v27 => ?_)
  exact ww_sub [1, 0, 2] rfl (t_X12_shares_154 B fu k_61 h_61 x0 v27 x4  st)
def b_X12_shares_144 (fu : Nat) (k_61 : Nat → Int32 → St → Option (Int32 × St)) (x0 : Nat) (x1 : Int32) (x3 : Int32) (x4 : Int32)  (st : St) : Option (Int32 × St) :=
  ck (¬ gR st x0 112 = 0) <|
  ck ((kd x0).1 = 12) <|
  bd (gR st x0 112) fun o29 =>
  ck (isb 1) <|
  ck ((kd o29).1 = 102 ∧ inb x3 (kd o29).2) <|
  bd (sI st o29 (ix x3) 1) fun s30 =>
  b_X12_shares_151 fu k_61 x0 x1 x4  s30
set_option maxHeartbeats 4000000 in
set_option maxRecDepth 100000 in
theorem t_X12_shares_144 {X : CX} {res : Int32 × St} (B : BI X cX12_shares RX12 7 10 NN (some .int) res) (fu : Nat) (k_61 : Nat → Int32 → St → Option (Int32 × St)) (h_61 : ∀ (x0 : Nat) (x1 : Int32)  (st : St), WW X res NN 61 [(0, .ref (x_b X + x0)), (1, .int x1)] [] st (k_61 x0 x1 st)) (x0 : Nat) (x1 : Int32) (x3 : Int32) (x4 : Int32)  (st : St) : WW X res NN 144 [(0, .ref (x_b X + x0)), (1, .int x1), (3, .int x3), (4, .int x4)] [] st (b_X12_shares_144 fu k_61 x0 x1 x3 x4 st) := by
  have hX := B.1
  have hL := B.2.1
  unfold b_X12_shares_144
  refine ww_aload_n hX 0 rfl dX12_shares_144 rfl ?_
  refine ww_getR hX f_X12_298 (Or.inr ⟨_, rfl⟩) dX12_shares_145 ?_
  refine ww_bdR (fun o29 => ?_)
  refine ww_iload_n hX 2 rfl dX12_shares_148 rfl ?_
  refine ww_iconst (v := 1) hX rfl dX12_shares_149 ?_
  refine ww_zastc hX k_zast dX12_shares_150 ?_
  refine ww_bds (fun s30 => ?_)
  exact ww_sub [0, 1, 3] rfl (t_X12_shares_151 B fu k_61 h_61 x0 x1 x4  s30)
def b_X12_shares_111 (fu : Nat) (k_61 : Nat → Int32 → St → Option (Int32 × St)) (x0 : Nat) (x1 : Int32) (x2 : Int32) (x3 : Int32) (y0 : Int32) (st : St) : Option (Int32 × St) :=
  ck ((kd x0).1 = 12) <|
  if (gI st x0 8) = 0 then (
  if x3 < 0 then (
  b_X12_shares_151 fu k_61 x0 x1 y0  st)
  else (
  if 2 < x3 then (
  b_X12_shares_151 fu k_61 x0 x1 y0  st)
  else (
  ck (¬ gR st x0 112 = 0) <|
  ck ((kd x0).1 = 12) <|
  bd (gR st x0 112) fun o28 =>
  ck ((kd o28).1 = 102 ∧ inb x3 (kd o28).2) <|
  if (gI st o28 (ix x3)) = 0 then (
  b_X12_shares_144 fu k_61 x0 x1 x3 y0  st)
  else (
  ck ((kd x0).1 = 12) <|
  cv (f_X12_tell fu x0 3 x2 st) fun s31 =>
  b_X12_shares_144 fu k_61 x0 x1 x3 y0  s31))))
  else (
  b_X12_shares_154 fu k_61 x0 x1 y0  st)
set_option maxHeartbeats 4000000 in
set_option maxRecDepth 100000 in
theorem t_X12_shares_111 {X : CX} {res : Int32 × St} (B : BI X cX12_shares RX12 7 10 NN (some .int) res) (fu : Nat) (k_61 : Nat → Int32 → St → Option (Int32 × St)) (h_61 : ∀ (x0 : Nat) (x1 : Int32)  (st : St), WW X res NN 61 [(0, .ref (x_b X + x0)), (1, .int x1)] [] st (k_61 x0 x1 st)) (x0 : Nat) (x1 : Int32) (x2 : Int32) (x3 : Int32) (y0 : Int32) (st : St) : WW X res NN 111 [(0, .ref (x_b X + x0)), (1, .int x1), (2, .int x2), (3, .int x3)] [.int y0] st (b_X12_shares_111 fu k_61 x0 x1 x2 x3 y0 st) := by
  have hX := B.1
  have hL := B.2.1
  unfold b_X12_shares_111
  refine ww_istore (lv' := [(4, .int y0), (0, .ref (x_b X + x0)), (1, .int x1), (2, .int x2), (3, .int x3)]) hX hL dX12_shares_111 (by decide) rfl ?_
  refine ww_aload_n hX 1 rfl dX12_shares_113 rfl ?_
  refine ww_getI hX f_X12_390 (Or.inr rfl) dX12_shares_114 ?_
  refine ww_if_ne (tgt := 154) hX dX12_shares_117 (by decide) ?_ ?_
  · exact ww_sub [1, 2, 0] rfl (t_X12_shares_154 B fu k_61 h_61 x0 x1 y0  st)
  · refine ww_iload_n hX 4 rfl dX12_shares_120 rfl ?_
    refine ww_if_lt (tgt := 151) hX dX12_shares_121 (by decide) ?_ ?_
    · exact ww_sub [1, 2, 0] rfl (t_X12_shares_151 B fu k_61 h_61 x0 x1 y0  st)
    · refine ww_iload_n hX 4 rfl dX12_shares_124 rfl ?_
      refine ww_iconst (v := 2) hX rfl dX12_shares_125 ?_
      refine ww_icmp_gt (tgt := 151) hX dX12_shares_126 (by decide) ?_ ?_
      · exact ww_sub [1, 2, 0] rfl (t_X12_shares_151 B fu k_61 h_61 x0 x1 y0  st)
      · refine ww_aload_n hX 1 rfl dX12_shares_129 rfl ?_
        refine ww_getR hX f_X12_298 (Or.inr ⟨_, rfl⟩) dX12_shares_130 ?_
        refine ww_bdR (fun o28 => ?_)
        refine ww_iload_n hX 4 rfl dX12_shares_133 rfl ?_
        refine ww_zaldc hX k_zald dX12_shares_134 ?_
        refine ww_if_eq (tgt := 144) hX dX12_shares_135 (by decide) ?_ ?_
        · exact ww_sub [1, 2, 4, 0] rfl (t_X12_shares_144 B fu k_61 h_61 x0 x1 x3 y0  st)
        · refine ww_aload_n hX 1 rfl dX12_shares_138 rfl ?_
          refine ww_iconst (v := 3) hX rfl dX12_shares_139 ?_
          refine ww_iload_n hX 3 rfl dX12_shares_140 rfl ?_
          refine ww_callVV (As := [.int 3, .int x2]) (rest := []) (o := x0) hX (Rk.of B.2.2.1 B.2.2.2.1 (by decide) (by decide)) g_X12_394 g_X12_394.in (fun _ => c_X12_tell (x_G X) (x_l X) fu x0 3 x2 st) rfl rfl (Nat.le_of_ble_eq_true rfl) dX12_shares_141 (fun s31 => ?_)
          exact ww_sub [1, 2, 4, 0] rfl (t_X12_shares_144 B fu k_61 h_61 x0 x1 x3 y0  s31)
def b_X12_shares_106 (fu : Nat) (k_61 : Nat → Int32 → St → Option (Int32 × St)) (x0 : Nat) (x1 : Int32) (x2 : Int32) (x3 : Int32)  (st : St) : Option (Int32 × St) :=
  b_X12_shares_111 fu k_61 x0 x1 x2 x3 0 st
set_option maxHeartbeats 4000000 in
set_option maxRecDepth 100000 in
theorem t_X12_shares_106 {X : CX} {res : Int32 × St} (B : BI X cX12_shares RX12 7 10 NN (some .int) res) (fu : Nat) (k_61 : Nat → Int32 → St → Option (Int32 × St)) (h_61 : ∀ (x0 : Nat) (x1 : Int32)  (st : St), WW X res NN 61 [(0, .ref (x_b X + x0)), (1, .int x1)] [] st (k_61 x0 x1 st)) (x0 : Nat) (x1 : Int32) (x2 : Int32) (x3 : Int32)  (st : St) : WW X res NN 106 [(0, .ref (x_b X + x0)), (1, .int x1), (2, .int x2), (3, .int x3)] [] st (b_X12_shares_106 fu k_61 x0 x1 x2 x3 st) := by
  have hX := B.1
  have hL := B.2.1
  unfold b_X12_shares_106
  refine ww_iconst (v := 0) hX rfl dX12_shares_106 ?_
  refine ww_goto (tgt := 111) hX dX12_shares_107 (by decide) ?_
  exact t_X12_shares_111 B fu k_61 h_61 x0 x1 x2 x3 0 st
def b_X12_shares_61_b (fu : Nat) (k_61 : Nat → Int32 → St → Option (Int32 × St)) (x0 : Nat) (x1 : Int32)  (st : St) : Option (Int32 × St) :=
  ck ((kd x0).1 = 12) <|
  if (gI st x0 8) = 0 then (
  ck (¬ gR st x0 2 = 0) <|
  ck ((kd x0).1 = 12) <|
  bd (gR st x0 2) fun o13 =>
  ck ((kd x0).1 = 12) <|
  ck ((kd o13).1 = 100 ∧ inb (gI st x0 5) (kd o13).2) <|
  if (gI st o13 (ix (gI st x0 5))) = 0 then (
  b_X12_shares_239 fu x0 x1  st)
  else (
  ck (¬ gR st x0 4 = 0) <|
  ck ((kd x0).1 = 12) <|
  bd (gR st x0 4) fun o14 =>
  ck ((kd x0).1 = 12) <|
  ck ((kd o14).1 = 100 ∧ inb (gI st x0 5) (kd o14).2) <|
  bd (gI st o14 (ix (gI st x0 5))) fun v15 =>
  ck ((kd x0).1 = 12) <|
  ca (f_X12_number fu x0 0 2 st) fun r16 s17 =>
  if r16 < 0 then (
  b_X12_shares_106 fu k_61 x0 x1 v15 r16  s17)
  else (
  if r16 ≤ 2 then (
  b_X12_shares_111 fu k_61 x0 x1 v15 r16 r16 s17)
  else (
  b_X12_shares_106 fu k_61 x0 x1 v15 r16  s17))))
  else (
  b_X12_shares_239 fu x0 x1  st)
set_option maxHeartbeats 4000000 in
set_option maxRecDepth 100000 in
theorem t_X12_shares_61_b {X : CX} {res : Int32 × St} (B : BI X cX12_shares RX12 7 10 NN (some .int) res) (fu : Nat) (k_61 : Nat → Int32 → St → Option (Int32 × St)) (h_61 : ∀ (x0 : Nat) (x1 : Int32)  (st : St), WW X res NN 61 [(0, .ref (x_b X + x0)), (1, .int x1)] [] st (k_61 x0 x1 st)) (x0 : Nat) (x1 : Int32)  (st : St) : WW X res NN 61 [(0, .ref (x_b X + x0)), (1, .int x1)] [] st (b_X12_shares_61_b fu k_61 x0 x1 st) := by
  have hX := B.1
  have hL := B.2.1
  unfold b_X12_shares_61_b
  refine ww_aload_n hX 0 rfl dX12_shares_61 rfl ?_
  refine ww_getI hX f_X12_390 (Or.inr rfl) dX12_shares_62 ?_
  refine ww_if_ne (tgt := 239) hX dX12_shares_65 (by decide) ?_ ?_
  · exact t_X12_shares_239 B fu x0 x1  st
  · refine ww_aload_n hX 0 rfl dX12_shares_68 rfl ?_
    refine ww_getR hX f_X12_13 (Or.inr ⟨_, rfl⟩) dX12_shares_69 ?_
    refine ww_bdR (fun o13 => ?_)
    refine ww_aload_n hX 0 rfl dX12_shares_72 rfl ?_
    refine ww_getI hX f_X12_381 (Or.inl rfl) dX12_shares_73 ?_
    refine ww_ialdc hX k_iald dX12_shares_76 ?_
    refine ww_if_eq (tgt := 239) hX dX12_shares_77 (by decide) ?_ ?_
    · exact t_X12_shares_239 B fu x0 x1  st
    · refine ww_aload_n hX 0 rfl dX12_shares_80 rfl ?_
      refine ww_getR hX f_X12_21 (Or.inr ⟨_, rfl⟩) dX12_shares_81 ?_
      refine ww_bdR (fun o14 => ?_)
      refine ww_aload_n hX 0 rfl dX12_shares_84 rfl ?_
      refine ww_getI hX f_X12_381 (Or.inl rfl) dX12_shares_85 ?_
      refine ww_ialdc hX k_iald dX12_shares_88 ?_
      refine ww_bdi (fun v15 => ?_)
      refine ww_istore_n (lv' := [(2, .int v15), (0, .ref (x_b X + x0)), (1, .int x1)]) hX hL dX12_shares_89 rfl (by decide) rfl ?_
      refine ww_aload_n hX 1 rfl dX12_shares_90 rfl ?_
      refine ww_pc (b := 91) rfl ?_
      refine ww_iconst (v := 0) hX rfl dX12_shares_91 ?_
      refine ww_iconst (v := 2) hX rfl dX12_shares_92 ?_
      refine ww_callVI (As := [.int 0, .int 2]) (rest := []) (o := x0) hX (Rk.of B.2.2.1 B.2.2.2.1 (by decide) (by decide)) g_X12_415 g_X12_415.in (fun _ => c_X12_number (x_G X) (x_l X) fu x0 0 2 st) rfl rfl (Nat.le_of_ble_eq_true rfl) dX12_shares_93 (fun r16 s17 => ?_)
      refine ww_istore_n (lv' := [(3, .int r16), (2, .int v15), (0, .ref (x_b X + x0)), (1, .int x1)]) hX hL dX12_shares_96 rfl (by decide) rfl ?_
      refine ww_iload_n hX 0 rfl dX12_shares_97 rfl ?_
      refine ww_if_lt (tgt := 106) hX dX12_shares_98 (by decide) ?_ ?_
      · exact ww_sub [2, 3, 1, 0] rfl (t_X12_shares_106 B fu k_61 h_61 x0 x1 v15 r16  s17)
      · refine ww_iload_n hX 0 rfl dX12_shares_101 rfl ?_
        refine ww_iconst (v := 2) hX rfl dX12_shares_102 ?_
        refine ww_icmp_le (tgt := 110) hX dX12_shares_103 (by decide) ?_ ?_
        · refine ww_iload_n hX 0 rfl dX12_shares_110 rfl ?_
          exact ww_sub [2, 3, 1, 0] rfl (t_X12_shares_111 B fu k_61 h_61 x0 x1 v15 r16 r16 s17)
        · exact ww_sub [2, 3, 1, 0] rfl (t_X12_shares_106 B fu k_61 h_61 x0 x1 v15 r16  s17)
def b_X12_shares_61 (fu : Nat) : Nat → Nat → Int32 → St → Option (Int32 × St)
  | 0, _, _, _ => none
  | i + 1, x0, x1, st => b_X12_shares_61_b fu (b_X12_shares_61 fu i) x0 x1 st
theorem t_X12_shares_61 {X : CX} {res : Int32 × St} (B : BI X cX12_shares RX12 7 10 NN (some .int) res) (fu : Nat) : ∀ (i : Nat) (x0 : Nat) (x1 : Int32)  (st : St), WW X res NN 61 [(0, .ref (x_b X + x0)), (1, .int x1)] [] st (b_X12_shares_61 fu i x0 x1 st) := by
  intro i
  induction i with
  | zero => intro x0 x1 st; exact ww_none
  | succ i ih => intro x0 x1 st; exact t_X12_shares_61_b B fu (b_X12_shares_61 fu i) ih x0 x1 st
def b_X12_shares_40_b (fu : Nat) (k_40 : Nat → Int32 → St → Option (Int32 × St)) (x0 : Nat) (x1 : Int32)  (st : St) : Option (Int32 × St) :=
  if 9 ≤ x1 then (
  b_X12_shares_61 fu fu x0 0  st)
  else (
  ck (¬ gR st x0 110 = 0) <|
  ck ((kd x0).1 = 12) <|
  bd (gR st x0 110) fun o32 =>
  ck ((kd o32).1 = 103 ∧ inb x1 (kd o32).2) <|
  bd (sL st o32 (ix x1) 0) fun s33 =>
  bd (x1 + 1) fun v34 =>
  k_40 x0 v34  s33)
set_option maxHeartbeats 4000000 in
set_option maxRecDepth 100000 in
theorem t_X12_shares_40_b {X : CX} {res : Int32 × St} (B : BI X cX12_shares RX12 7 10 NN (some .int) res) (fu : Nat) (k_40 : Nat → Int32 → St → Option (Int32 × St)) (h_40 : ∀ (x0 : Nat) (x1 : Int32)  (st : St), WW X res NN 40 [(0, .ref (x_b X + x0)), (1, .int x1)] [] st (k_40 x0 x1 st)) (x0 : Nat) (x1 : Int32)  (st : St) : WW X res NN 40 [(0, .ref (x_b X + x0)), (1, .int x1)] [] st (b_X12_shares_40_b fu k_40 x0 x1 st) := by
  have hX := B.1
  have hL := B.2.1
  unfold b_X12_shares_40_b
  refine ww_iload_n hX 1 rfl dX12_shares_40 rfl ?_
  refine ww_bipush (v := 9) hX rfl dX12_shares_41 ?_
  refine ww_icmp_ge (tgt := 59) hX dX12_shares_43 (by decide) ?_ ?_
  · refine ww_iconst (v := 0) hX rfl dX12_shares_59 ?_
    refine ww_istore_n (lv' := [(1, .int 0), (0, .ref (x_b X + x0))]) hX hL dX12_shares_60 rfl (by decide) rfl ?_
    exact ww_sub [1, 0] rfl (t_X12_shares_61 B fu fu x0 0  st)
  · refine ww_aload_n hX 0 rfl dX12_shares_46 rfl ?_
    refine ww_getR hX f_X12_292 (Or.inr ⟨_, rfl⟩) dX12_shares_47 ?_
    refine ww_bdR (fun o32 => ?_)
    refine ww_iload_n hX 1 rfl dX12_shares_50 rfl ?_
    refine ww_lconst (v := 0) hX rfl dX12_shares_51 ?_
    refine ww_lastc hX k_last dX12_shares_52 ?_
    refine ww_bds (fun s33 => ?_)
    refine ww_iincb (lv' := fun v34 => [(1, .int v34), (0, .ref (x_b X + x0))]) (c := 1) hX hL 1 rfl dX12_shares_53 rfl (by decide) (fun _ => rfl) (fun v34 => ?_)
    refine ww_goto (tgt := 40) hX dX12_shares_56 (by decide) ?_
    exact ww_sub [1, 0] rfl (h_40 x0 v34  s33)
def b_X12_shares_40 (fu : Nat) : Nat → Nat → Int32 → St → Option (Int32 × St)
  | 0, _, _, _ => none
  | i + 1, x0, x1, st => b_X12_shares_40_b fu (b_X12_shares_40 fu i) x0 x1 st
theorem t_X12_shares_40 {X : CX} {res : Int32 × St} (B : BI X cX12_shares RX12 7 10 NN (some .int) res) (fu : Nat) : ∀ (i : Nat) (x0 : Nat) (x1 : Int32)  (st : St), WW X res NN 40 [(0, .ref (x_b X + x0)), (1, .int x1)] [] st (b_X12_shares_40 fu i x0 x1 st) := by
  intro i
  induction i with
  | zero => intro x0 x1 st; exact ww_none
  | succ i ih => intro x0 x1 st; exact t_X12_shares_40_b B fu (b_X12_shares_40 fu i) ih x0 x1 st
def b_X12_shares_6_b (fu : Nat) (k_6 : Nat → Int32 → St → Option (Int32 × St)) (x0 : Nat) (x1 : Int32)  (st : St) : Option (Int32 × St) :=
  if 3 ≤ x1 then (
  b_X12_shares_40 fu fu x0 0  st)
  else (
  ck (¬ gR st x0 109 = 0) <|
  ck ((kd x0).1 = 12) <|
  bd (gR st x0 109) fun o35 =>
  ck ((kd o35).1 = 103 ∧ inb x1 (kd o35).2) <|
  bd (sL st o35 (ix x1) 0) fun s36 =>
  ck (¬ gR s36 x0 111 = 0) <|
  ck ((kd x0).1 = 12) <|
  bd (gR s36 x0 111) fun o37 =>
  ck ((kd o37).1 = 103 ∧ inb x1 (kd o37).2) <|
  bd (sL s36 o37 (ix x1) 0) fun s38 =>
  ck (¬ gR s38 x0 112 = 0) <|
  ck ((kd x0).1 = 12) <|
  bd (gR s38 x0 112) fun o39 =>
  ck (isb 0) <|
  ck ((kd o39).1 = 102 ∧ inb x1 (kd o39).2) <|
  bd (sI s38 o39 (ix x1) 0) fun s40 =>
  bd (x1 + 1) fun v41 =>
  k_6 x0 v41  s40)
set_option maxHeartbeats 4000000 in
set_option maxRecDepth 100000 in
theorem t_X12_shares_6_b {X : CX} {res : Int32 × St} (B : BI X cX12_shares RX12 7 10 NN (some .int) res) (fu : Nat) (k_6 : Nat → Int32 → St → Option (Int32 × St)) (h_6 : ∀ (x0 : Nat) (x1 : Int32)  (st : St), WW X res NN 6 [(0, .ref (x_b X + x0)), (1, .int x1)] [] st (k_6 x0 x1 st)) (x0 : Nat) (x1 : Int32)  (st : St) : WW X res NN 6 [(0, .ref (x_b X + x0)), (1, .int x1)] [] st (b_X12_shares_6_b fu k_6 x0 x1 st) := by
  have hX := B.1
  have hL := B.2.1
  unfold b_X12_shares_6_b
  refine ww_iload_n hX 1 rfl dX12_shares_6 rfl ?_
  refine ww_iconst (v := 3) hX rfl dX12_shares_7 ?_
  refine ww_icmp_ge (tgt := 38) hX dX12_shares_8 (by decide) ?_ ?_
  · refine ww_iconst (v := 0) hX rfl dX12_shares_38 ?_
    refine ww_istore_n (lv' := [(1, .int 0), (0, .ref (x_b X + x0))]) hX hL dX12_shares_39 rfl (by decide) rfl ?_
    exact ww_sub [1, 0] rfl (t_X12_shares_40 B fu fu x0 0  st)
  · refine ww_aload_n hX 0 rfl dX12_shares_11 rfl ?_
    refine ww_getR hX f_X12_289 (Or.inr ⟨_, rfl⟩) dX12_shares_12 ?_
    refine ww_bdR (fun o35 => ?_)
    refine ww_iload_n hX 1 rfl dX12_shares_15 rfl ?_
    refine ww_lconst (v := 0) hX rfl dX12_shares_16 ?_
    refine ww_lastc hX k_last dX12_shares_17 ?_
    refine ww_bds (fun s36 => ?_)
    refine ww_aload_n hX 0 rfl dX12_shares_18 rfl ?_
    refine ww_getR hX f_X12_295 (Or.inr ⟨_, rfl⟩) dX12_shares_19 ?_
    refine ww_bdR (fun o37 => ?_)
    refine ww_pc (b := 22) rfl ?_
    refine ww_iload_n hX 1 rfl dX12_shares_22 rfl ?_
    refine ww_lconst (v := 0) hX rfl dX12_shares_23 ?_
    refine ww_lastc hX k_last dX12_shares_24 ?_
    refine ww_bds (fun s38 => ?_)
    refine ww_aload_n hX 0 rfl dX12_shares_25 rfl ?_
    refine ww_getR hX f_X12_298 (Or.inr ⟨_, rfl⟩) dX12_shares_26 ?_
    refine ww_bdR (fun o39 => ?_)
    refine ww_iload_n hX 1 rfl dX12_shares_29 rfl ?_
    refine ww_iconst (v := 0) hX rfl dX12_shares_30 ?_
    refine ww_zastc hX k_zast dX12_shares_31 ?_
    refine ww_bds (fun s40 => ?_)
    refine ww_pc (b := 32) rfl ?_
    refine ww_iincb (lv' := fun v41 => [(1, .int v41), (0, .ref (x_b X + x0))]) (c := 1) hX hL 1 rfl dX12_shares_32 rfl (by decide) (fun _ => rfl) (fun v41 => ?_)
    refine ww_goto (tgt := 6) hX dX12_shares_35 (by decide) ?_
    exact ww_sub [1, 0] rfl (h_6 x0 v41  s40)
def b_X12_shares_6 (fu : Nat) : Nat → Nat → Int32 → St → Option (Int32 × St)
  | 0, _, _, _ => none
  | i + 1, x0, x1, st => b_X12_shares_6_b fu (b_X12_shares_6 fu i) x0 x1 st
theorem t_X12_shares_6 {X : CX} {res : Int32 × St} (B : BI X cX12_shares RX12 7 10 NN (some .int) res) (fu : Nat) : ∀ (i : Nat) (x0 : Nat) (x1 : Int32)  (st : St), WW X res NN 6 [(0, .ref (x_b X + x0)), (1, .int x1)] [] st (b_X12_shares_6 fu i x0 x1 st) := by
  intro i
  induction i with
  | zero => intro x0 x1 st; exact ww_none
  | succ i ih => intro x0 x1 st; exact t_X12_shares_6_b B fu (b_X12_shares_6 fu i) ih x0 x1 st
def f_X12_shares (fu : Nat) (th : Nat) (st : St) : Option (Int32 × St) :=
  ck ((kd th).1 = 12) <|
  cv (f_X12_read fu th st) fun s1 =>
  b_X12_shares_6 fu fu th 0  s1
set_option maxHeartbeats 4000000 in
set_option maxRecDepth 100000 in
theorem t_X12_shares {X : CX} {res : Int32 × St} (B : BI X cX12_shares RX12 7 10 NN (some .int) res) (fu : Nat) (th : Nat) (st : St) : WW X res NN 0 [(0, .ref (x_b X + th))] [] st (f_X12_shares fu th st) := by
  have hX := B.1
  have hL := B.2.1
  unfold f_X12_shares
  refine ww_aload_n hX 0 rfl dX12_shares_0 rfl ?_
  refine ww_callVV (As := []) (rest := []) (o := th) hX (Rk.of B.2.2.1 B.2.2.2.1 (by decide) (by decide)) g_X12_426 g_X12_426.in (fun _ => c_X12_read (x_G X) (x_l X) fu th st) rfl rfl (Nat.le_of_ble_eq_true rfl) dX12_shares_1 (fun s1 => ?_)
  refine ww_iconst (v := 0) hX rfl dX12_shares_4 ?_
  refine ww_istore_n (lv' := [(1, .int 0), (0, .ref (x_b X + th))]) hX hL dX12_shares_5 rfl (by decide) rfl ?_
  exact ww_sub [1, 0] rfl (t_X12_shares_6 B fu fu th 0  s1)
theorem c_X12_shares (G : GX) (l : Launch) (fu : Nat) (th : Nat) (st : St) : MI G NN l yX12_shares cX12_shares 7 (some .int) 10 [.ref (G.2.2.1 + th)] st (f_X12_shares fu th st) := mkI (by decide) (Nat.le_of_ble_eq_true rfl) (fun X res hl hG B => by subst hl; subst hG; exact t_X12_shares B fu th st)
/-! StageHouseModel.three(JJJJJJJJJ)J -/
def f_X12_three (fu : Nat) (p0 : Int64) (p2 : Int64) (p4 : Int64) (p6 : Int64) (p8 : Int64) (p10 : Int64) (p12 : Int64) (p14 : Int64) (p16 : Int64) (st : St) : Option (Int64 × St) :=
  some (((p0 * ((p8 * p16) - (p10 * p14))) - (p2 * ((p6 * p16) - (p10 * p12)))) + (p4 * ((p6 * p14) - (p8 * p12))), st)
set_option maxHeartbeats 4000000 in
set_option maxRecDepth 100000 in
theorem t_X12_three {X : CX} {res : Int64 × St} (B : BL X cX12_three RX12 18 1 NN (some .long) res) (fu : Nat) (p0 : Int64) (p2 : Int64) (p4 : Int64) (p6 : Int64) (p8 : Int64) (p10 : Int64) (p12 : Int64) (p14 : Int64) (p16 : Int64) (st : St) : WW X res NN 0 [(0, .long p0), (2, .long p2), (4, .long p4), (6, .long p6), (8, .long p8), (10, .long p10), (12, .long p12), (14, .long p14), (16, .long p16)] [] st (f_X12_three fu p0 p2 p4 p6 p8 p10 p12 p14 p16 st) := by
  have hX := B.1
  have hL := B.2.1
  unfold f_X12_three
  refine ww_lload_n hX 0 rfl dX12_three_0 rfl ?_
  refine ww_lload hX 4 rfl dX12_three_1 ?_
  refine ww_lload hX 8 rfl dX12_three_3 ?_
  refine ww_lmul hX dX12_three_5 ?_
  refine ww_lload hX 5 rfl dX12_three_6 ?_
  refine ww_lload hX 7 rfl dX12_three_8 ?_
  refine ww_lmul hX dX12_three_10 ?_
  refine ww_pc (b := 11) rfl ?_
  refine ww_lsub hX dX12_three_11 ?_
  refine ww_lmul hX dX12_three_12 ?_
  refine ww_lload_n hX 1 rfl dX12_three_13 rfl ?_
  refine ww_lload hX 3 rfl dX12_three_14 ?_
  refine ww_lload hX 8 rfl dX12_three_16 ?_
  refine ww_lmul hX dX12_three_18 ?_
  refine ww_lload hX 5 rfl dX12_three_19 ?_
  refine ww_lload hX 6 rfl dX12_three_21 ?_
  refine ww_pc (b := 23) rfl ?_
  refine ww_lmul hX dX12_three_23 ?_
  refine ww_lsub hX dX12_three_24 ?_
  refine ww_lmul hX dX12_three_25 ?_
  refine ww_lsub hX dX12_three_26 ?_
  refine ww_lload hX 2 rfl dX12_three_27 ?_
  refine ww_lload hX 3 rfl dX12_three_29 ?_
  refine ww_lload hX 7 rfl dX12_three_31 ?_
  refine ww_lmul hX dX12_three_33 ?_
  refine ww_pc (b := 34) rfl ?_
  refine ww_lload hX 4 rfl dX12_three_34 ?_
  refine ww_lload hX 6 rfl dX12_three_36 ?_
  refine ww_lmul hX dX12_three_38 ?_
  refine ww_lsub hX dX12_three_39 ?_
  refine ww_lmul hX dX12_three_40 ?_
  refine ww_ladd hX dX12_three_41 ?_
  exact ww_lret B dX12_three_42
theorem c_X12_three (G : GX) (l : Launch) (fu : Nat) (p0 : Int64) (p2 : Int64) (p4 : Int64) (p6 : Int64) (p8 : Int64) (p10 : Int64) (p12 : Int64) (p14 : Int64) (p16 : Int64) (st : St) : ML G NN l yX12_three cX12_three 18 (some .long) 1 [.long p0, .long p2, .long p4, .long p6, .long p8, .long p10, .long p12, .long p14, .long p16] st (f_X12_three fu p0 p2 p4 p6 p8 p10 p12 p14 p16 st) := mkL (by decide) (Nat.le_of_ble_eq_true rfl) (fun X res hl hG B => by subst hl; subst hG; exact t_X12_three B fu p0 p2 p4 p6 p8 p10 p12 p14 p16 st)
/-! StageHouseModel.common(JJ)J -/
def b_X12_common_6_b (fu : Nat) (k_6 : Int64 → Int64 → St → Option (Int64 × St)) (x4 : Int64) (x6 : Int64)  (st : St) : Option (Int64 × St) :=
  if (lg_cmp x6 0) = 0 then (
  some (x4, st))
  else (
  ck (¬ x6 = 0) <|
  bd (x4 - x4 / x6 * x6) fun v1 =>
  k_6 x6 v1  st)
set_option maxHeartbeats 4000000 in
set_option maxRecDepth 100000 in
theorem t_X12_common_6_b {X : CX} {res : Int64 × St} (B : BL X cX12_common RX12 10 1 NN (some .long) res) (fu : Nat) (k_6 : Int64 → Int64 → St → Option (Int64 × St)) (h_6 : ∀ (x4 : Int64) (x6 : Int64)  (st : St), WW X res NN 6 [(4, .long x4), (6, .long x6)] [] st (k_6 x4 x6 st)) (x4 : Int64) (x6 : Int64)  (st : St) : WW X res NN 6 [(4, .long x4), (6, .long x6)] [] st (b_X12_common_6_b fu k_6 x4 x6 st) := by
  have hX := B.1
  have hL := B.2.1
  unfold b_X12_common_6_b
  refine ww_lload hX 1 rfl dX12_common_6 ?_
  refine ww_lconst (v := 0) hX rfl dX12_common_8 ?_
  refine ww_lcmp hX dX12_common_9 ?_
  refine ww_if_eq (tgt := 31) hX dX12_common_10 (by decide) ?_ ?_
  · refine ww_lload hX 0 rfl dX12_common_31 ?_
    exact ww_lret B dX12_common_33
  · refine ww_lload hX 0 rfl dX12_common_13 ?_
    refine ww_lload hX 1 rfl dX12_common_15 ?_
    refine ww_lrem hX dX12_common_17 ?_
    refine ww_bdl (fun v1 => ?_)
    refine ww_lstore (lv' := [(8, .long v1), (4, .long x4), (6, .long x6)]) hX hL dX12_common_18 (by decide) rfl ?_
    refine ww_lload hX 2 rfl dX12_common_20 ?_
    refine ww_lstore (lv' := [(4, .long x6), (8, .long v1), (6, .long x6)]) hX hL dX12_common_22 (by decide) rfl ?_
    refine ww_lload hX 1 rfl dX12_common_24 ?_
    refine ww_pc (b := 26) rfl ?_
    refine ww_lstore (lv' := [(6, .long v1), (4, .long x6), (8, .long v1)]) hX hL dX12_common_26 (by decide) rfl ?_
    refine ww_goto (tgt := 6) hX dX12_common_28 (by decide) ?_
    exact ww_sub [1, 0] rfl (h_6 x6 v1  st)
def b_X12_common_6 (fu : Nat) : Nat → Int64 → Int64 → St → Option (Int64 × St)
  | 0, _, _, _ => none
  | i + 1, x4, x6, st => b_X12_common_6_b fu (b_X12_common_6 fu i) x4 x6 st
theorem t_X12_common_6 {X : CX} {res : Int64 × St} (B : BL X cX12_common RX12 10 1 NN (some .long) res) (fu : Nat) : ∀ (i : Nat) (x4 : Int64) (x6 : Int64)  (st : St), WW X res NN 6 [(4, .long x4), (6, .long x6)] [] st (b_X12_common_6 fu i x4 x6 st) := by
  intro i
  induction i with
  | zero => intro x4 x6 st; exact ww_none
  | succ i ih => intro x4 x6 st; exact t_X12_common_6_b B fu (b_X12_common_6 fu i) ih x4 x6 st
def f_X12_common (fu : Nat) (p0 : Int64) (p2 : Int64) (st : St) : Option (Int64 × St) :=
  b_X12_common_6 fu fu p0 p2  st
set_option maxHeartbeats 4000000 in
set_option maxRecDepth 100000 in
theorem t_X12_common {X : CX} {res : Int64 × St} (B : BL X cX12_common RX12 10 1 NN (some .long) res) (fu : Nat) (p0 : Int64) (p2 : Int64) (st : St) : WW X res NN 0 [(0, .long p0), (2, .long p2)] [] st (f_X12_common fu p0 p2 st) := by
  have hX := B.1
  have hL := B.2.1
  unfold f_X12_common
  refine ww_lload_n hX 0 rfl dX12_common_0 rfl ?_
  refine ww_lstore (lv' := [(4, .long p0), (0, .long p0), (2, .long p2)]) hX hL dX12_common_1 (by decide) rfl ?_
  refine ww_lload_n hX 2 rfl dX12_common_3 rfl ?_
  refine ww_lstore (lv' := [(6, .long p2), (4, .long p0), (0, .long p0), (2, .long p2)]) hX hL dX12_common_4 (by decide) rfl ?_
  exact ww_sub [1, 0] rfl (t_X12_common_6 B fu fu p0 p2  st)
theorem c_X12_common (G : GX) (l : Launch) (fu : Nat) (p0 : Int64) (p2 : Int64) (st : St) : ML G NN l yX12_common cX12_common 10 (some .long) 1 [.long p0, .long p2] st (f_X12_common fu p0 p2 st) := mkL (by decide) (Nat.le_of_ble_eq_true rfl) (fun X res hl hG B => by subst hl; subst hG; exact t_X12_common B fu p0 p2 st)
/-! StageHouseModel.share(II)J -/
def b_X12_share_18 (fu : Nat)   (st : St) : Option (Int64 × St) :=
  some ((-1), st)
set_option maxHeartbeats 4000000 in
set_option maxRecDepth 100000 in
theorem t_X12_share_18 {X : CX} {res : Int64 × St} (B : BL X cX12_share RX12 37 2 NN (some .long) res) (fu : Nat)   (st : St) : WW X res NN 18 [] [] st (b_X12_share_18 fu  st) := by
  have hX := B.1
  have hL := B.2.1
  unfold b_X12_share_18
  refine ww_ldc2 (v := (-1)) hX k_X12_642 dX12_share_18 ?_
  exact ww_lret B dX12_share_21
def b_X12_share_387 (fu : Nat)  (y0 : Int64) (st : St) : Option (Int64 × St) :=
  some (y0, st)
set_option maxHeartbeats 4000000 in
set_option maxRecDepth 100000 in
theorem t_X12_share_387 {X : CX} {res : Int64 × St} (B : BL X cX12_share RX12 37 2 NN (some .long) res) (fu : Nat)  (y0 : Int64) (st : St) : WW X res NN 387 [] [.long y0] st (b_X12_share_387 fu y0 st) := by
  have hX := B.1
  have hL := B.2.1
  unfold b_X12_share_387
  exact ww_lret B dX12_share_387
def b_X12_share_353 (fu : Nat) (x2 : Int32) (x27 : Int64) (x31 : Int64) (x33 : Int64)  (st : St) : Option (Int64 × St) :=
  if x2 = 0 then (
  some (x31, st))
  else (
  ca (f_X12_common fu x33 x27 st) fun r34 s35 =>
  if x2 = 1 then (
  ck (¬ r34 = 0) <|
  b_X12_share_387 fu  (x33 / r34) s35)
  else (
  ck (¬ r34 = 0) <|
  b_X12_share_387 fu  (x27 / r34) s35))
set_option maxHeartbeats 4000000 in
set_option maxRecDepth 100000 in
theorem t_X12_share_353 {X : CX} {res : Int64 × St} (B : BL X cX12_share RX12 37 2 NN (some .long) res) (fu : Nat) (x2 : Int32) (x27 : Int64) (x31 : Int64) (x33 : Int64)  (st : St) : WW X res NN 353 [(2, .int x2), (27, .long x27), (31, .long x31), (33, .long x33)] [] st (b_X12_share_353 fu x2 x27 x31 x33 st) := by
  have hX := B.1
  have hL := B.2.1
  unfold b_X12_share_353
  refine ww_iload_n hX 0 rfl dX12_share_353 rfl ?_
  refine ww_if_ne (tgt := 360) hX dX12_share_354 (by decide) ?_ ?_
  · refine ww_lload hX 3 rfl dX12_share_360 ?_
    refine ww_lload hX 1 rfl dX12_share_362 ?_
    refine ww_callSL (As := [.long x33, .long x27]) (rest := []) hX (Rk.of B.2.2.1 B.2.2.2.1 (by decide) (by decide)) g_X12_648 (c_X12_common (x_G X) (x_l X) fu x33 x27 st) rfl rfl (Nat.le_of_ble_eq_true rfl) dX12_share_364 (fun r34 s35 => ?_)
    refine ww_lstore (lv' := [(35, .long r34), (2, .int x2), (27, .long x27), (31, .long x31), (33, .long x33)]) hX hL dX12_share_367 (by decide) rfl ?_
    refine ww_iload_n hX 1 rfl dX12_share_369 rfl ?_
    refine ww_iconst (v := 1) hX rfl dX12_share_370 ?_
    refine ww_icmp_ne (tgt := 382) hX dX12_share_371 (by decide) ?_ ?_
    · refine ww_lload hX 2 rfl dX12_share_382 ?_
      refine ww_lload hX 0 rfl dX12_share_384 ?_
      refine ww_ldiv hX dX12_share_386 ?_
      exact ww_sub [] rfl (t_X12_share_387 B fu  (x27 / r34) s35)
    · refine ww_lload hX 4 rfl dX12_share_374 ?_
      refine ww_lload hX 0 rfl dX12_share_376 ?_
      refine ww_ldiv hX dX12_share_378 ?_
      refine ww_goto (tgt := 387) hX dX12_share_379 (by decide) ?_
      exact ww_sub [] rfl (t_X12_share_387 B fu  (x33 / r34) s35)
  · refine ww_lload hX 2 rfl dX12_share_357 ?_
    exact ww_lret B dX12_share_359
def b_X12_share_319 (fu : Nat) (x2 : Int32) (x27 : Int64) (x29 : Int64)  (st : St) : Option (Int64 × St) :=
  ck (¬ x27 = 0) <|
  bd (x29 / x27) fun v32 =>
  ck (¬ x27 = 0) <|
  bd (x29 - x29 / x27 * x27) fun v33 =>
  if 0 ≤ (lg_cmp v33 0) then (
  b_X12_share_353 fu x2 x27 v32 v33  st)
  else (
  bd (v32 - 1) fun v36 =>
  bd (v33 + x27) fun v37 =>
  b_X12_share_353 fu x2 x27 v36 v37  st)
set_option maxHeartbeats 4000000 in
set_option maxRecDepth 100000 in
theorem t_X12_share_319 {X : CX} {res : Int64 × St} (B : BL X cX12_share RX12 37 2 NN (some .long) res) (fu : Nat) (x2 : Int32) (x27 : Int64) (x29 : Int64)  (st : St) : WW X res NN 319 [(2, .int x2), (27, .long x27), (29, .long x29)] [] st (b_X12_share_319 fu x2 x27 x29 st) := by
  have hX := B.1
  have hL := B.2.1
  unfold b_X12_share_319
  refine ww_lload hX 2 rfl dX12_share_319 ?_
  refine ww_lload hX 1 rfl dX12_share_321 ?_
  refine ww_ldiv hX dX12_share_323 ?_
  refine ww_bdl (fun v32 => ?_)
  refine ww_lstore (lv' := [(31, .long v32), (2, .int x2), (27, .long x27), (29, .long x29)]) hX hL dX12_share_324 (by decide) rfl ?_
  refine ww_lload hX 3 rfl dX12_share_326 ?_
  refine ww_lload hX 2 rfl dX12_share_328 ?_
  refine ww_lrem hX dX12_share_330 ?_
  refine ww_pc (b := 331) rfl ?_
  refine ww_bdl (fun v33 => ?_)
  refine ww_lstore (lv' := [(33, .long v33), (31, .long v32), (2, .int x2), (27, .long x27), (29, .long x29)]) hX hL dX12_share_331 (by decide) rfl ?_
  refine ww_lload hX 0 rfl dX12_share_333 ?_
  refine ww_lconst (v := 0) hX rfl dX12_share_335 ?_
  refine ww_lcmp hX dX12_share_336 ?_
  refine ww_if_ge (tgt := 353) hX dX12_share_337 (by decide) ?_ ?_
  · exact ww_sub [2, 3, 1, 0] rfl (t_X12_share_353 B fu x2 x27 v32 v33  st)
  · refine ww_lload hX 1 rfl dX12_share_340 ?_
    refine ww_lconst (v := 1) hX rfl dX12_share_342 ?_
    refine ww_lsub hX dX12_share_343 ?_
    refine ww_bdl (fun v36 => ?_)
    refine ww_lstore (lv' := [(31, .long v36), (33, .long v33), (2, .int x2), (27, .long x27), (29, .long x29)]) hX hL dX12_share_344 (by decide) rfl ?_
    refine ww_lload hX 1 rfl dX12_share_346 ?_
    refine ww_lload hX 3 rfl dX12_share_348 ?_
    refine ww_ladd hX dX12_share_350 ?_
    refine ww_pc (b := 351) rfl ?_
    refine ww_bdl (fun v37 => ?_)
    refine ww_lstore (lv' := [(33, .long v37), (31, .long v36), (2, .int x2), (27, .long x27), (29, .long x29)]) hX hL dX12_share_351 (by decide) rfl ?_
    exact ww_sub [2, 3, 1, 0] rfl (t_X12_share_353 B fu x2 x27 v36 v37  st)
def b_X12_share_300 (fu : Nat) (x2 : Int32) (x27 : Int64) (y0 : Int64) (st : St) : Option (Int64 × St) :=
  if 0 ≤ (lg_cmp x27 0) then (
  b_X12_share_319 fu x2 x27 y0  st)
  else (
  bd (-x27) fun v38 =>
  bd (-y0) fun v39 =>
  b_X12_share_319 fu x2 v38 v39  st)
set_option maxHeartbeats 4000000 in
set_option maxRecDepth 100000 in
theorem t_X12_share_300 {X : CX} {res : Int64 × St} (B : BL X cX12_share RX12 37 2 NN (some .long) res) (fu : Nat) (x2 : Int32) (x27 : Int64) (y0 : Int64) (st : St) : WW X res NN 300 [(2, .int x2), (27, .long x27)] [.long y0] st (b_X12_share_300 fu x2 x27 y0 st) := by
  have hX := B.1
  have hL := B.2.1
  unfold b_X12_share_300
  refine ww_lstore (lv' := [(29, .long y0), (2, .int x2), (27, .long x27)]) hX hL dX12_share_300 (by decide) rfl ?_
  refine ww_lload hX 2 rfl dX12_share_302 ?_
  refine ww_lconst (v := 0) hX rfl dX12_share_304 ?_
  refine ww_lcmp hX dX12_share_305 ?_
  refine ww_if_ge (tgt := 319) hX dX12_share_306 (by decide) ?_ ?_
  · exact ww_sub [1, 2, 0] rfl (t_X12_share_319 B fu x2 x27 y0  st)
  · refine ww_lload hX 2 rfl dX12_share_309 ?_
    refine ww_lneg hX dX12_share_311 ?_
    refine ww_bdl (fun v38 => ?_)
    refine ww_lstore (lv' := [(27, .long v38), (29, .long y0), (2, .int x2)]) hX hL dX12_share_312 (by decide) rfl ?_
    refine ww_lload hX 1 rfl dX12_share_314 ?_
    refine ww_lneg hX dX12_share_316 ?_
    refine ww_bdl (fun v39 => ?_)
    refine ww_lstore (lv' := [(29, .long v39), (27, .long v38), (2, .int x2)]) hX hL dX12_share_317 (by decide) rfl ?_
    exact ww_sub [2, 1, 0] rfl (t_X12_share_319 B fu x2 v38 v39  st)
def f_X12_share (fu : Nat) (th : Nat) (p1 : Int32) (p2 : Int32) (st : St) : Option (Int64 × St) :=
  if p1 < 0 then (
  b_X12_share_18 fu   st)
  else (
  if 2 < p1 then (
  b_X12_share_18 fu   st)
  else (
  if p2 < 0 then (
  b_X12_share_18 fu   st)
  else (
  if p2 ≤ 3 then (
  ck (¬ gR st th 107 = 0) <|
  ck ((kd th).1 = 12) <|
  bd (gR st th 107) fun o1 =>
  ck ((kd o1).1 = 103 ∧ inb 0 (kd o1).2) <|
  bd (100 - (gL st o1 (ix 0))) fun v2 =>
  ck (¬ gR st th 107 = 0) <|
  ck ((kd th).1 = 12) <|
  bd (gR st th 107) fun o3 =>
  ck ((kd o3).1 = 103 ∧ inb 1 (kd o3).2) <|
  bd (-(gL st o3 (ix 1))) fun v4 =>
  ck (¬ gR st th 107 = 0) <|
  ck ((kd th).1 = 12) <|
  bd (gR st th 107) fun o5 =>
  ck ((kd o5).1 = 103 ∧ inb 2 (kd o5).2) <|
  bd (-(gL st o5 (ix 2))) fun v6 =>
  ck (¬ gR st th 107 = 0) <|
  ck ((kd th).1 = 12) <|
  bd (gR st th 107) fun o7 =>
  ck ((kd o7).1 = 103 ∧ inb 3 (kd o7).2) <|
  bd (-(gL st o7 (ix 3))) fun v8 =>
  ck (¬ gR st th 107 = 0) <|
  ck ((kd th).1 = 12) <|
  bd (gR st th 107) fun o9 =>
  ck ((kd o9).1 = 103 ∧ inb 4 (kd o9).2) <|
  bd (100 - (gL st o9 (ix 4))) fun v10 =>
  ck (¬ gR st th 107 = 0) <|
  ck ((kd th).1 = 12) <|
  bd (gR st th 107) fun o11 =>
  ck ((kd o11).1 = 103 ∧ inb 5 (kd o11).2) <|
  bd (-(gL st o11 (ix 5))) fun v12 =>
  ck (¬ gR st th 107 = 0) <|
  ck ((kd th).1 = 12) <|
  bd (gR st th 107) fun o13 =>
  ck ((kd o13).1 = 103 ∧ inb 6 (kd o13).2) <|
  bd (-(gL st o13 (ix 6))) fun v14 =>
  ck (¬ gR st th 107 = 0) <|
  ck ((kd th).1 = 12) <|
  bd (gR st th 107) fun o15 =>
  ck ((kd o15).1 = 103 ∧ inb 7 (kd o15).2) <|
  bd (-(gL st o15 (ix 7))) fun v16 =>
  ck (¬ gR st th 107 = 0) <|
  ck ((kd th).1 = 12) <|
  bd (gR st th 107) fun o17 =>
  ck ((kd o17).1 = 103 ∧ inb 8 (kd o17).2) <|
  bd (100 - (gL st o17 (ix 8))) fun v18 =>
  ck (¬ gR st th 106 = 0) <|
  ck ((kd th).1 = 12) <|
  bd (gR st th 106) fun o19 =>
  ck ((kd o19).1 = 103 ∧ inb 0 (kd o19).2) <|
  ck ((kd th).1 = 12) <|
  ck (¬ gR st th 108 = 0) <|
  ck ((kd th).1 = 12) <|
  bd (gR st th 108) fun o20 =>
  ck ((kd o20).1 = 103 ∧ inb 0 (kd o20).2) <|
  bd (((gL st o19 (ix 0)) * (gL st th 93)) + (100 * (gL st o20 (ix 0)))) fun v21 =>
  ck (¬ gR st th 106 = 0) <|
  ck ((kd th).1 = 12) <|
  bd (gR st th 106) fun o22 =>
  ck ((kd o22).1 = 103 ∧ inb 1 (kd o22).2) <|
  ck ((kd th).1 = 12) <|
  ck (¬ gR st th 108 = 0) <|
  ck ((kd th).1 = 12) <|
  bd (gR st th 108) fun o23 =>
  ck ((kd o23).1 = 103 ∧ inb 1 (kd o23).2) <|
  bd (((gL st o22 (ix 1)) * (gL st th 93)) + (100 * (gL st o23 (ix 1)))) fun v24 =>
  ck (¬ gR st th 106 = 0) <|
  ck ((kd th).1 = 12) <|
  bd (gR st th 106) fun o25 =>
  ck ((kd o25).1 = 103 ∧ inb 2 (kd o25).2) <|
  ck ((kd th).1 = 12) <|
  ck (¬ gR st th 108 = 0) <|
  ck ((kd th).1 = 12) <|
  bd (gR st th 108) fun o26 =>
  ck ((kd o26).1 = 103 ∧ inb 2 (kd o26).2) <|
  bd (((gL st o25 (ix 2)) * (gL st th 93)) + (100 * (gL st o26 (ix 2)))) fun v27 =>
  ca (f_X12_three fu v2 v4 v6 v8 v10 v12 v14 v16 v18 st) fun r28 s29 =>
  if (lg_cmp r28 0) = 0 then (
  some (0, s29))
  else (
  if p2 = 3 then (
  some (1, s29))
  else (
  if p1 = 0 then (
  ca (f_X12_three fu v21 v4 v6 v24 v10 v12 v27 v16 v18 s29) fun r42 s43 =>
  b_X12_share_300 fu p2 r28 r42 s43)
  else (
  if p1 = 1 then (
  ca (f_X12_three fu v2 v21 v6 v8 v24 v12 v14 v27 v18 s29) fun r40 s41 =>
  b_X12_share_300 fu p2 r28 r40 s41)
  else (
  ca (f_X12_three fu v2 v4 v21 v8 v10 v24 v14 v16 v27 s29) fun r30 s31 =>
  b_X12_share_300 fu p2 r28 r30 s31)))))
  else (
  b_X12_share_18 fu   st))))
set_option maxHeartbeats 4000000 in
set_option maxRecDepth 100000 in
theorem t_X12_share {X : CX} {res : Int64 × St} (B : BL X cX12_share RX12 37 2 NN (some .long) res) (fu : Nat) (th : Nat) (p1 : Int32) (p2 : Int32) (st : St) : WW X res NN 0 [(0, .ref (x_b X + th)), (1, .int p1), (2, .int p2)] [] st (f_X12_share fu th p1 p2 st) := by
  have hX := B.1
  have hL := B.2.1
  unfold f_X12_share
  refine ww_iload_n hX 1 rfl dX12_share_0 rfl ?_
  refine ww_if_lt (tgt := 18) hX dX12_share_1 (by decide) ?_ ?_
  · exact ww_sub [] rfl (t_X12_share_18 B fu   st)
  · refine ww_iload_n hX 1 rfl dX12_share_4 rfl ?_
    refine ww_iconst (v := 2) hX rfl dX12_share_5 ?_
    refine ww_icmp_gt (tgt := 18) hX dX12_share_6 (by decide) ?_ ?_
    · exact ww_sub [] rfl (t_X12_share_18 B fu   st)
    · refine ww_iload_n hX 2 rfl dX12_share_9 rfl ?_
      refine ww_if_lt (tgt := 18) hX dX12_share_10 (by decide) ?_ ?_
      · exact ww_sub [] rfl (t_X12_share_18 B fu   st)
      · refine ww_iload_n hX 2 rfl dX12_share_13 rfl ?_
        refine ww_iconst (v := 3) hX rfl dX12_share_14 ?_
        refine ww_icmp_le (tgt := 22) hX dX12_share_15 (by decide) ?_ ?_
        · refine ww_ldc2 (v := 100) hX k_X12_603 dX12_share_22 ?_
          refine ww_aload_n hX 0 rfl dX12_share_25 rfl ?_
          refine ww_getR hX f_X12_283 (Or.inr ⟨_, rfl⟩) dX12_share_26 ?_
          refine ww_bdR (fun o1 => ?_)
          refine ww_iconst (v := 0) hX rfl dX12_share_29 ?_
          refine ww_laldc hX k_lald dX12_share_30 ?_
          refine ww_lsub hX dX12_share_31 ?_
          refine ww_bdl (fun v2 => ?_)
          refine ww_lstore_n (lv' := [(3, .long v2), (0, .ref (x_b X + th)), (1, .int p1), (2, .int p2)]) hX hL dX12_share_32 rfl (by decide) rfl ?_
          refine ww_pc (b := 33) rfl ?_
          refine ww_aload_n hX 1 rfl dX12_share_33 rfl ?_
          refine ww_getR hX f_X12_283 (Or.inr ⟨_, rfl⟩) dX12_share_34 ?_
          refine ww_bdR (fun o3 => ?_)
          refine ww_iconst (v := 1) hX rfl dX12_share_37 ?_
          refine ww_laldc hX k_lald dX12_share_38 ?_
          refine ww_lneg hX dX12_share_39 ?_
          refine ww_bdl (fun v4 => ?_)
          refine ww_lstore (lv' := [(5, .long v4), (3, .long v2), (0, .ref (x_b X + th)), (1, .int p1), (2, .int p2)]) hX hL dX12_share_40 (by decide) rfl ?_
          refine ww_aload_n hX 2 rfl dX12_share_42 rfl ?_
          refine ww_getR hX f_X12_283 (Or.inr ⟨_, rfl⟩) dX12_share_43 ?_
          refine ww_bdR (fun o5 => ?_)
          refine ww_pc (b := 46) rfl ?_
          refine ww_iconst (v := 2) hX rfl dX12_share_46 ?_
          refine ww_laldc hX k_lald dX12_share_47 ?_
          refine ww_lneg hX dX12_share_48 ?_
          refine ww_bdl (fun v6 => ?_)
          refine ww_lstore (lv' := [(7, .long v6), (5, .long v4), (3, .long v2), (0, .ref (x_b X + th)), (1, .int p1), (2, .int p2)]) hX hL dX12_share_49 (by decide) rfl ?_
          refine ww_aload_n hX 3 rfl dX12_share_51 rfl ?_
          refine ww_getR hX f_X12_283 (Or.inr ⟨_, rfl⟩) dX12_share_52 ?_
          refine ww_bdR (fun o7 => ?_)
          refine ww_iconst (v := 3) hX rfl dX12_share_55 ?_
          refine ww_laldc hX k_lald dX12_share_56 ?_
          refine ww_pc (b := 57) rfl ?_
          refine ww_lneg hX dX12_share_57 ?_
          refine ww_bdl (fun v8 => ?_)
          refine ww_lstore (lv' := [(9, .long v8), (7, .long v6), (5, .long v4), (3, .long v2), (0, .ref (x_b X + th)), (1, .int p1), (2, .int p2)]) hX hL dX12_share_58 (by decide) rfl ?_
          refine ww_ldc2 (v := 100) hX k_X12_603 dX12_share_60 ?_
          refine ww_aload_n hX 4 rfl dX12_share_63 rfl ?_
          refine ww_getR hX f_X12_283 (Or.inr ⟨_, rfl⟩) dX12_share_64 ?_
          refine ww_bdR (fun o9 => ?_)
          refine ww_iconst (v := 4) hX rfl dX12_share_67 ?_
          refine ww_laldc hX k_lald dX12_share_68 ?_
          refine ww_lsub hX dX12_share_69 ?_
          refine ww_pc (b := 70) rfl ?_
          refine ww_bdl (fun v10 => ?_)
          refine ww_lstore (lv' := [(11, .long v10), (9, .long v8), (7, .long v6), (5, .long v4), (3, .long v2), (0, .ref (x_b X + th)), (1, .int p1), (2, .int p2)]) hX hL dX12_share_70 (by decide) rfl ?_
          refine ww_aload_n hX 5 rfl dX12_share_72 rfl ?_
          refine ww_getR hX f_X12_283 (Or.inr ⟨_, rfl⟩) dX12_share_73 ?_
          refine ww_bdR (fun o11 => ?_)
          refine ww_iconst (v := 5) hX rfl dX12_share_76 ?_
          refine ww_laldc hX k_lald dX12_share_77 ?_
          refine ww_lneg hX dX12_share_78 ?_
          refine ww_bdl (fun v12 => ?_)
          refine ww_lstore (lv' := [(13, .long v12), (11, .long v10), (9, .long v8), (7, .long v6), (5, .long v4), (3, .long v2), (0, .ref (x_b X + th)), (1, .int p1), (2, .int p2)]) hX hL dX12_share_79 (by decide) rfl ?_
          refine ww_aload_n hX 6 rfl dX12_share_81 rfl ?_
          refine ww_pc (b := 82) rfl ?_
          refine ww_getR hX f_X12_283 (Or.inr ⟨_, rfl⟩) dX12_share_82 ?_
          refine ww_bdR (fun o13 => ?_)
          refine ww_bipush (v := 6) hX rfl dX12_share_85 ?_
          refine ww_laldc hX k_lald dX12_share_87 ?_
          refine ww_lneg hX dX12_share_88 ?_
          refine ww_bdl (fun v14 => ?_)
          refine ww_lstore (lv' := [(15, .long v14), (13, .long v12), (11, .long v10), (9, .long v8), (7, .long v6), (5, .long v4), (3, .long v2), (0, .ref (x_b X + th)), (1, .int p1), (2, .int p2)]) hX hL dX12_share_89 (by decide) rfl ?_
          refine ww_aload_n hX 7 rfl dX12_share_91 rfl ?_
          refine ww_getR hX f_X12_283 (Or.inr ⟨_, rfl⟩) dX12_share_92 ?_
          refine ww_bdR (fun o15 => ?_)
          refine ww_bipush (v := 7) hX rfl dX12_share_95 ?_
          refine ww_pc (b := 97) rfl ?_
          refine ww_laldc hX k_lald dX12_share_97 ?_
          refine ww_lneg hX dX12_share_98 ?_
          refine ww_bdl (fun v16 => ?_)
          refine ww_lstore (lv' := [(17, .long v16), (15, .long v14), (13, .long v12), (11, .long v10), (9, .long v8), (7, .long v6), (5, .long v4), (3, .long v2), (0, .ref (x_b X + th)), (1, .int p1), (2, .int p2)]) hX hL dX12_share_99 (by decide) rfl ?_
          refine ww_ldc2 (v := 100) hX k_X12_603 dX12_share_101 ?_
          refine ww_aload_n hX 8 rfl dX12_share_104 rfl ?_
          refine ww_getR hX f_X12_283 (Or.inr ⟨_, rfl⟩) dX12_share_105 ?_
          refine ww_bdR (fun o17 => ?_)
          refine ww_bipush (v := 8) hX rfl dX12_share_108 ?_
          refine ww_laldc hX k_lald dX12_share_110 ?_
          refine ww_pc (b := 111) rfl ?_
          refine ww_lsub hX dX12_share_111 ?_
          refine ww_bdl (fun v18 => ?_)
          refine ww_lstore (lv' := [(19, .long v18), (17, .long v16), (15, .long v14), (13, .long v12), (11, .long v10), (9, .long v8), (7, .long v6), (5, .long v4), (3, .long v2), (0, .ref (x_b X + th)), (1, .int p1), (2, .int p2)]) hX hL dX12_share_112 (by decide) rfl ?_
          refine ww_aload_n hX 9 rfl dX12_share_114 rfl ?_
          refine ww_getR hX f_X12_280 (Or.inr ⟨_, rfl⟩) dX12_share_115 ?_
          refine ww_bdR (fun o19 => ?_)
          refine ww_iconst (v := 0) hX rfl dX12_share_118 ?_
          refine ww_laldc hX k_lald dX12_share_119 ?_
          refine ww_aload_n hX 9 rfl dX12_share_120 rfl ?_
          refine ww_getL hX f_X12_629 rfl dX12_share_121 ?_
          refine ww_pc (b := 124) rfl ?_
          refine ww_lmul hX dX12_share_124 ?_
          refine ww_ldc2 (v := 100) hX k_X12_603 dX12_share_125 ?_
          refine ww_aload_n hX 9 rfl dX12_share_128 rfl ?_
          refine ww_getR hX f_X12_286 (Or.inr ⟨_, rfl⟩) dX12_share_129 ?_
          refine ww_bdR (fun o20 => ?_)
          refine ww_iconst (v := 0) hX rfl dX12_share_132 ?_
          refine ww_laldc hX k_lald dX12_share_133 ?_
          refine ww_lmul hX dX12_share_134 ?_
          refine ww_ladd hX dX12_share_135 ?_
          refine ww_pc (b := 136) rfl ?_
          refine ww_bdl (fun v21 => ?_)
          refine ww_lstore (lv' := [(21, .long v21), (19, .long v18), (17, .long v16), (15, .long v14), (13, .long v12), (11, .long v10), (9, .long v8), (7, .long v6), (5, .long v4), (3, .long v2), (0, .ref (x_b X + th)), (1, .int p1), (2, .int p2)]) hX hL dX12_share_136 (by decide) rfl ?_
          refine ww_aload_n hX 10 rfl dX12_share_138 rfl ?_
          refine ww_getR hX f_X12_280 (Or.inr ⟨_, rfl⟩) dX12_share_139 ?_
          refine ww_bdR (fun o22 => ?_)
          refine ww_iconst (v := 1) hX rfl dX12_share_142 ?_
          refine ww_laldc hX k_lald dX12_share_143 ?_
          refine ww_aload_n hX 10 rfl dX12_share_144 rfl ?_
          refine ww_getL hX f_X12_629 rfl dX12_share_145 ?_
          refine ww_lmul hX dX12_share_148 ?_
          refine ww_pc (b := 149) rfl ?_
          refine ww_ldc2 (v := 100) hX k_X12_603 dX12_share_149 ?_
          refine ww_aload_n hX 10 rfl dX12_share_152 rfl ?_
          refine ww_getR hX f_X12_286 (Or.inr ⟨_, rfl⟩) dX12_share_153 ?_
          refine ww_bdR (fun o23 => ?_)
          refine ww_iconst (v := 1) hX rfl dX12_share_156 ?_
          refine ww_laldc hX k_lald dX12_share_157 ?_
          refine ww_lmul hX dX12_share_158 ?_
          refine ww_ladd hX dX12_share_159 ?_
          refine ww_bdl (fun v24 => ?_)
          refine ww_lstore (lv' := [(23, .long v24), (21, .long v21), (19, .long v18), (17, .long v16), (15, .long v14), (13, .long v12), (11, .long v10), (9, .long v8), (7, .long v6), (5, .long v4), (3, .long v2), (0, .ref (x_b X + th)), (1, .int p1), (2, .int p2)]) hX hL dX12_share_160 (by decide) rfl ?_
          refine ww_pc (b := 162) rfl ?_
          refine ww_aload_n hX 11 rfl dX12_share_162 rfl ?_
          refine ww_getR hX f_X12_280 (Or.inr ⟨_, rfl⟩) dX12_share_163 ?_
          refine ww_bdR (fun o25 => ?_)
          refine ww_iconst (v := 2) hX rfl dX12_share_166 ?_
          refine ww_laldc hX k_lald dX12_share_167 ?_
          refine ww_aload_n hX 11 rfl dX12_share_168 rfl ?_
          refine ww_getL hX f_X12_629 rfl dX12_share_169 ?_
          refine ww_lmul hX dX12_share_172 ?_
          refine ww_ldc2 (v := 100) hX k_X12_603 dX12_share_173 ?_
          refine ww_pc (b := 176) rfl ?_
          refine ww_aload_n hX 11 rfl dX12_share_176 rfl ?_
          refine ww_getR hX f_X12_286 (Or.inr ⟨_, rfl⟩) dX12_share_177 ?_
          refine ww_bdR (fun o26 => ?_)
          refine ww_iconst (v := 2) hX rfl dX12_share_180 ?_
          refine ww_laldc hX k_lald dX12_share_181 ?_
          refine ww_lmul hX dX12_share_182 ?_
          refine ww_ladd hX dX12_share_183 ?_
          refine ww_bdl (fun v27 => ?_)
          refine ww_lstore (lv' := [(25, .long v27), (23, .long v24), (21, .long v21), (19, .long v18), (17, .long v16), (15, .long v14), (13, .long v12), (11, .long v10), (9, .long v8), (7, .long v6), (5, .long v4), (3, .long v2), (0, .ref (x_b X + th)), (1, .int p1), (2, .int p2)]) hX hL dX12_share_184 (by decide) rfl ?_
          refine ww_lload_n hX 11 rfl dX12_share_186 rfl ?_
          refine ww_pc (b := 187) rfl ?_
          refine ww_lload hX 10 rfl dX12_share_187 ?_
          refine ww_lload hX 9 rfl dX12_share_189 ?_
          refine ww_lload hX 8 rfl dX12_share_191 ?_
          refine ww_lload hX 7 rfl dX12_share_193 ?_
          refine ww_lload hX 6 rfl dX12_share_195 ?_
          refine ww_lload hX 5 rfl dX12_share_197 ?_
          refine ww_lload hX 4 rfl dX12_share_199 ?_
          refine ww_lload hX 3 rfl dX12_share_201 ?_
          refine ww_pc (b := 203) rfl ?_
          refine ww_callSL (As := [.long v2, .long v4, .long v6, .long v8, .long v10, .long v12, .long v14, .long v16, .long v18]) (rest := []) hX (Rk.of B.2.2.1 B.2.2.2.1 (by decide) (by decide)) g_X12_644 (c_X12_three (x_G X) (x_l X) fu v2 v4 v6 v8 v10 v12 v14 v16 v18 st) rfl rfl (Nat.le_of_ble_eq_true rfl) dX12_share_203 (fun r28 s29 => ?_)
          refine ww_lstore (lv' := [(27, .long r28), (25, .long v27), (23, .long v24), (21, .long v21), (19, .long v18), (17, .long v16), (15, .long v14), (13, .long v12), (11, .long v10), (9, .long v8), (7, .long v6), (5, .long v4), (3, .long v2), (0, .ref (x_b X + th)), (1, .int p1), (2, .int p2)]) hX hL dX12_share_206 (by decide) rfl ?_
          refine ww_lload hX 0 rfl dX12_share_208 ?_
          refine ww_lconst (v := 0) hX rfl dX12_share_210 ?_
          refine ww_lcmp hX dX12_share_211 ?_
          refine ww_if_ne (tgt := 217) hX dX12_share_212 (by decide) ?_ ?_
          · refine ww_iload_n hX 15 rfl dX12_share_217 rfl ?_
            refine ww_iconst (v := 3) hX rfl dX12_share_218 ?_
            refine ww_icmp_ne (tgt := 224) hX dX12_share_219 (by decide) ?_ ?_
            · refine ww_iload_n hX 14 rfl dX12_share_224 rfl ?_
              refine ww_if_ne (tgt := 252) hX dX12_share_225 (by decide) ?_ ?_
              · refine ww_iload_n hX 14 rfl dX12_share_252 rfl ?_
                refine ww_iconst (v := 1) hX rfl dX12_share_253 ?_
                refine ww_icmp_ne (tgt := 280) hX dX12_share_254 (by decide) ?_ ?_
                · refine ww_lload_n hX 12 rfl dX12_share_280 rfl ?_
                  refine ww_lload hX 11 rfl dX12_share_281 ?_
                  refine ww_lload hX 3 rfl dX12_share_283 ?_
                  refine ww_lload hX 9 rfl dX12_share_285 ?_
                  refine ww_lload hX 8 rfl dX12_share_287 ?_
                  refine ww_lload hX 2 rfl dX12_share_289 ?_
                  refine ww_lload hX 6 rfl dX12_share_291 ?_
                  refine ww_pc (b := 293) rfl ?_
                  refine ww_lload hX 5 rfl dX12_share_293 ?_
                  refine ww_lload hX 1 rfl dX12_share_295 ?_
                  refine ww_callSL (As := [.long v2, .long v4, .long v21, .long v8, .long v10, .long v24, .long v14, .long v16, .long v27]) (rest := []) hX (Rk.of B.2.2.1 B.2.2.2.1 (by decide) (by decide)) g_X12_644 (c_X12_three (x_G X) (x_l X) fu v2 v4 v21 v8 v10 v24 v14 v16 v27 s29) rfl rfl (Nat.le_of_ble_eq_true rfl) dX12_share_297 (fun r30 s31 => ?_)
                  exact ww_sub [15, 0] rfl (t_X12_share_300 B fu p2 r28 r30 s31)
                · refine ww_lload_n hX 12 rfl dX12_share_257 rfl ?_
                  refine ww_lload hX 3 rfl dX12_share_258 ?_
                  refine ww_lload hX 10 rfl dX12_share_260 ?_
                  refine ww_lload hX 9 rfl dX12_share_262 ?_
                  refine ww_lload hX 2 rfl dX12_share_264 ?_
                  refine ww_lload hX 7 rfl dX12_share_266 ?_
                  refine ww_lload hX 6 rfl dX12_share_268 ?_
                  refine ww_pc (b := 270) rfl ?_
                  refine ww_lload hX 1 rfl dX12_share_270 ?_
                  refine ww_lload hX 4 rfl dX12_share_272 ?_
                  refine ww_callSL (As := [.long v2, .long v21, .long v6, .long v8, .long v24, .long v12, .long v14, .long v27, .long v18]) (rest := []) hX (Rk.of B.2.2.1 B.2.2.2.1 (by decide) (by decide)) g_X12_644 (c_X12_three (x_G X) (x_l X) fu v2 v21 v6 v8 v24 v12 v14 v27 v18 s29) rfl rfl (Nat.le_of_ble_eq_true rfl) dX12_share_274 (fun r40 s41 => ?_)
                  refine ww_goto (tgt := 300) hX dX12_share_277 (by decide) ?_
                  exact ww_sub [15, 0] rfl (t_X12_share_300 B fu p2 r28 r40 s41)
              · refine ww_lload hX 3 rfl dX12_share_228 ?_
                refine ww_lload hX 11 rfl dX12_share_230 ?_
                refine ww_lload hX 10 rfl dX12_share_232 ?_
                refine ww_lload hX 2 rfl dX12_share_234 ?_
                refine ww_lload hX 8 rfl dX12_share_236 ?_
                refine ww_lload hX 7 rfl dX12_share_238 ?_
                refine ww_lload hX 1 rfl dX12_share_240 ?_
                refine ww_pc (b := 242) rfl ?_
                refine ww_lload hX 5 rfl dX12_share_242 ?_
                refine ww_lload hX 4 rfl dX12_share_244 ?_
                refine ww_callSL (As := [.long v21, .long v4, .long v6, .long v24, .long v10, .long v12, .long v27, .long v16, .long v18]) (rest := []) hX (Rk.of B.2.2.1 B.2.2.2.1 (by decide) (by decide)) g_X12_644 (c_X12_three (x_G X) (x_l X) fu v21 v4 v6 v24 v10 v12 v27 v16 v18 s29) rfl rfl (Nat.le_of_ble_eq_true rfl) dX12_share_246 (fun r42 s43 => ?_)
                refine ww_goto (tgt := 300) hX dX12_share_249 (by decide) ?_
                exact ww_sub [15, 0] rfl (t_X12_share_300 B fu p2 r28 r42 s43)
            · refine ww_lconst (v := 1) hX rfl dX12_share_222 ?_
              exact ww_lret B dX12_share_223
          · refine ww_lconst (v := 0) hX rfl dX12_share_215 ?_
            exact ww_lret B dX12_share_216
        · exact ww_sub [] rfl (t_X12_share_18 B fu   st)
theorem c_X12_share (G : GX) (l : Launch) (fu : Nat) (th : Nat) (p1 : Int32) (p2 : Int32) (st : St) : ML G NN l yX12_share cX12_share 37 (some .long) 2 [.ref (G.2.2.1 + th), .int p1, .int p2] st (f_X12_share fu th p1 p2 st) := mkL (by decide) (Nat.le_of_ble_eq_true rfl) (fun X res hl hG B => by subst hl; subst hG; exact t_X12_share B fu th p1 p2 st)
