/-! java/lang/Long.numberOfTrailingZeros(J)I -/
def b_J13_numberOfTrailingZeros_95d88_25 (fu : Nat)  (y0 : Int32) (st : St) : Option (Int32 × St) :=
  some (y0, st)
set_option maxHeartbeats 4000000 in
set_option maxRecDepth 100000 in
theorem t_J13_numberOfTrailingZeros_95d88_25 {X : CX} {res : Int32 × St} (B : BI X cJ13_numberOfTrailingZeros_95d88 RJ13 3 2 NN (some .int) res) (fu : Nat)  (y0 : Int32) (st : St) : WW X res NN 25 [] [.int y0] st (b_J13_numberOfTrailingZeros_95d88_25 fu y0 st) := by
  have hX := B.1
  have hL := B.2.1
  unfold b_J13_numberOfTrailingZeros_95d88_25
  exact ww_iret B dJ13_numberOfTrailingZeros_95d88_25
def f_J13_numberOfTrailingZeros_95d88 (fu : Nat) (p0 : Int64) (st : St) : Option (Int32 × St) :=
  if p0.toInt32 = 0 then (
  ca (f_J6_numberOfTrailingZeros_0f7a4 fu (((p0.toUInt64 >>> ((32 : Int32).toInt64.toUInt64 &&& Int64.toUInt64 63)).toInt64).toInt32) st) fun r3 s4 =>
  b_J13_numberOfTrailingZeros_95d88_25 fu  (32 + r3) s4)
  else (
  ca (f_J6_numberOfTrailingZeros_0f7a4 fu p0.toInt32 st) fun r1 s2 =>
  b_J13_numberOfTrailingZeros_95d88_25 fu  r1 s2)
set_option maxHeartbeats 4000000 in
set_option maxRecDepth 100000 in
theorem t_J13_numberOfTrailingZeros_95d88 {X : CX} {res : Int32 × St} (B : BI X cJ13_numberOfTrailingZeros_95d88 RJ13 3 2 NN (some .int) res) (fu : Nat) (p0 : Int64) (st : St) : WW X res NN 0 [(0, .long p0)] [] st (f_J13_numberOfTrailingZeros_95d88 fu p0 st) := by
  have hX := B.1
  have hL := B.2.1
  unfold f_J13_numberOfTrailingZeros_95d88
  refine ww_lload_n hX 0 rfl dJ13_numberOfTrailingZeros_95d88_0 rfl ?_
  refine ww_l2i hX dJ13_numberOfTrailingZeros_95d88_1 ?_
  refine ww_istore_n (lv' := [(2, .int p0.toInt32), (0, .long p0)]) hX hL dJ13_numberOfTrailingZeros_95d88_2 rfl (by decide) rfl ?_
  refine ww_iload_n hX 0 rfl dJ13_numberOfTrailingZeros_95d88_3 rfl ?_
  refine ww_if_ne (tgt := 21) hX dJ13_numberOfTrailingZeros_95d88_4 (by decide) ?_ ?_
  · refine ww_iload_n hX 0 rfl dJ13_numberOfTrailingZeros_95d88_21 rfl ?_
    refine ww_callSI (As := [.int p0.toInt32]) (rest := []) hX (Rk.of B.2.2.1 B.2.2.2.1 (by decide) (by decide)) g_J13_311 (c_J6_numberOfTrailingZeros_0f7a4 (x_G X) (x_l X) fu p0.toInt32 st) rfl rfl (Nat.le_of_ble_eq_true rfl) dJ13_numberOfTrailingZeros_95d88_22 (fun r1 s2 => ?_)
    exact ww_sub [] rfl (t_J13_numberOfTrailingZeros_95d88_25 B fu  r1 s2)
  · refine ww_bipush (v := 32) hX rfl dJ13_numberOfTrailingZeros_95d88_7 ?_
    refine ww_lload_n hX 1 rfl dJ13_numberOfTrailingZeros_95d88_9 rfl ?_
    refine ww_bipush (v := 32) hX rfl dJ13_numberOfTrailingZeros_95d88_10 ?_
    refine ww_lushr hX dJ13_numberOfTrailingZeros_95d88_12 ?_
    refine ww_l2i hX dJ13_numberOfTrailingZeros_95d88_13 ?_
    refine ww_callSI (As := [.int (((p0.toUInt64 >>> ((32 : Int32).toInt64.toUInt64 &&& Int64.toUInt64 63)).toInt64).toInt32)]) (rest := [.int 32]) hX (Rk.of B.2.2.1 B.2.2.2.1 (by decide) (by decide)) g_J13_311 (c_J6_numberOfTrailingZeros_0f7a4 (x_G X) (x_l X) fu (((p0.toUInt64 >>> ((32 : Int32).toInt64.toUInt64 &&& Int64.toUInt64 63)).toInt64).toInt32) st) rfl rfl (Nat.le_of_ble_eq_true rfl) dJ13_numberOfTrailingZeros_95d88_14 (fun r3 s4 => ?_)
    refine ww_iadd hX dJ13_numberOfTrailingZeros_95d88_17 ?_
    refine ww_pc (b := 18) rfl ?_
    refine ww_goto (tgt := 25) hX dJ13_numberOfTrailingZeros_95d88_18 (by decide) ?_
    exact ww_sub [] rfl (t_J13_numberOfTrailingZeros_95d88_25 B fu  (32 + r3) s4)
theorem c_J13_numberOfTrailingZeros_95d88 (G : GX) (l : Launch) (fu : Nat) (p0 : Int64) (st : St) : MI G NN l yJ13_numberOfTrailingZeros_95d88 cJ13_numberOfTrailingZeros_95d88 3 (some .int) 2 [.long p0] st (f_J13_numberOfTrailingZeros_95d88 fu p0 st) := mkI (by decide) (Nat.le_of_ble_eq_true rfl) (fun X res hl hG B => by subst hl; subst hG; exact t_J13_numberOfTrailingZeros_95d88 B fu p0 st)
/-! StageHouse$Script.trackAll(I[I)V -/
def b_X8_trackAll_24 (fu : Nat)   (st : St) : Option (St) :=
  some st
set_option maxHeartbeats 4000000 in
set_option maxRecDepth 100000 in
theorem t_X8_trackAll_24 {X : CX} {res : St} (B : BV X cX8_trackAll RX8 9 3 NN none res) (fu : Nat)   (st : St) : WW X res NN 24 [] [] st (b_X8_trackAll_24 fu  st) := by
  have hX := B.1
  have hL := B.2.1
  unfold b_X8_trackAll_24
  exact ww_vret B dX8_trackAll_24
def b_X8_trackAll_128 (fu : Nat)   (st : St) : Option (St) :=
  some st
set_option maxHeartbeats 4000000 in
set_option maxRecDepth 100000 in
theorem t_X8_trackAll_128 {X : CX} {res : St} (B : BV X cX8_trackAll RX8 9 3 NN none res) (fu : Nat)   (st : St) : WW X res NN 128 [] [] st (b_X8_trackAll_128 fu  st) := by
  have hX := B.1
  have hL := B.2.1
  unfold b_X8_trackAll_128
  exact ww_vret B dX8_trackAll_128
def b_X8_trackAll_85_b (fu : Nat) (k_41 : Nat → Int32 → Nat → Int64 → Int32 → St → Option (St)) (k_85 : Nat → Int32 → Nat → Int64 → Int32 → Int64 → Int32 → St → Option (St)) (x0 : Nat) (x1 : Int32) (x2 : Nat) (x3 : Int64) (x5 : Int32) (x6 : Int64) (x8 : Int32)  (st : St) : Option (St) :=
  if x8 ≤ 0 then (
  bd (x5 + (-1)) fun v11 =>
  k_41 x0 x1 x2 x3 v11  st)
  else (
  ca (f_J13_numberOfTrailingZeros_95d88 fu x6 st) fun r12 s13 =>
  ck (¬ gR s13 x0 10 = 0) <|
  ck ((kd x0).1 = 8) <|
  bd (gR s13 x0 10) fun o14 =>
  ck ((kd o14).1 = 100 ∧ inb x5 (kd o14).2) <|
  ck ((kd x2).1 = 100 ∧ inb (r12 &&& 63) (kd x2).2) <|
  bd (sI s13 x2 (ix (r12 &&& 63)) (gI s13 o14 (ix x5))) fun s15 =>
  bd (x6 &&& (x6 - 1)) fun v16 =>
  bd (x8 + (-1)) fun v17 =>
  k_85 x0 x1 x2 x3 x5 v16 v17  s15)
set_option maxHeartbeats 4000000 in
set_option maxRecDepth 100000 in
theorem t_X8_trackAll_85_b {X : CX} {res : St} (B : BV X cX8_trackAll RX8 9 3 NN none res) (fu : Nat) (k_41 : Nat → Int32 → Nat → Int64 → Int32 → St → Option (St)) (k_85 : Nat → Int32 → Nat → Int64 → Int32 → Int64 → Int32 → St → Option (St)) (h_41 : ∀ (x0 : Nat) (x1 : Int32) (x2 : Nat) (x3 : Int64) (x5 : Int32)  (st : St), WW X res NN 41 [(0, .ref (x_b X + x0)), (1, .int x1), (2, .ref (x_b X + x2)), (3, .long x3), (5, .int x5)] [] st (k_41 x0 x1 x2 x3 x5 st)) (h_85 : ∀ (x0 : Nat) (x1 : Int32) (x2 : Nat) (x3 : Int64) (x5 : Int32) (x6 : Int64) (x8 : Int32)  (st : St), WW X res NN 85 [(0, .ref (x_b X + x0)), (1, .int x1), (2, .ref (x_b X + x2)), (3, .long x3), (5, .int x5), (6, .long x6), (8, .int x8)] [] st (k_85 x0 x1 x2 x3 x5 x6 x8 st)) (x0 : Nat) (x1 : Int32) (x2 : Nat) (x3 : Int64) (x5 : Int32) (x6 : Int64) (x8 : Int32)  (st : St) : WW X res NN 85 [(0, .ref (x_b X + x0)), (1, .int x1), (2, .ref (x_b X + x2)), (3, .long x3), (5, .int x5), (6, .long x6), (8, .int x8)] [] st (b_X8_trackAll_85_b fu k_41 k_85 x0 x1 x2 x3 x5 x6 x8 st) := by
  have hX := B.1
  have hL := B.2.1
  unfold b_X8_trackAll_85_b
  refine ww_iload hX 6 rfl dX8_trackAll_85 ?_
  refine ww_if_le (tgt := 122) hX dX8_trackAll_87 (by decide) ?_ ?_
  · refine ww_iincb (lv' := fun v11 => [(5, .int v11), (0, .ref (x_b X + x0)), (1, .int x1), (2, .ref (x_b X + x2)), (3, .long x3), (6, .long x6), (8, .int x8)]) (c := (-1)) hX hL 4 rfl dX8_trackAll_122 rfl (by decide) (fun _ => rfl) (fun v11 => ?_)
    refine ww_goto (tgt := 41) hX dX8_trackAll_125 (by decide) ?_
    exact ww_sub [1, 2, 3, 4, 0] rfl (h_41 x0 x1 x2 x3 v11  st)
  · refine ww_aload_n hX 2 rfl dX8_trackAll_90 rfl ?_
    refine ww_lload hX 5 rfl dX8_trackAll_91 ?_
    refine ww_callSI (As := [.long x6]) (rest := [.ref (x_b X + x2)]) hX (Rk.of B.2.2.1 B.2.2.2.1 (by decide) (by decide)) g_X8_181 (c_J13_numberOfTrailingZeros_95d88 (x_G X) (x_l X) fu x6 st) rfl rfl (Nat.le_of_ble_eq_true rfl) dX8_trackAll_93 (fun r12 s13 => ?_)
    refine ww_bipush (v := 63) hX rfl dX8_trackAll_96 ?_
    refine ww_iand hX dX8_trackAll_98 ?_
    refine ww_aload_n hX 0 rfl dX8_trackAll_99 rfl ?_
    refine ww_getR hX f_X8_42 (Or.inr ⟨_, rfl⟩) dX8_trackAll_100 ?_
    refine ww_bdR (fun o14 => ?_)
    refine ww_pc (b := 103) rfl ?_
    refine ww_iload hX 4 rfl dX8_trackAll_103 ?_
    refine ww_ialdc hX k_iald dX8_trackAll_105 ?_
    refine ww_iastc hX k_iast dX8_trackAll_106 ?_
    refine ww_bds (fun s15 => ?_)
    refine ww_lload hX 5 rfl dX8_trackAll_107 ?_
    refine ww_lload hX 5 rfl dX8_trackAll_109 ?_
    refine ww_lconst (v := 1) hX rfl dX8_trackAll_111 ?_
    refine ww_lsub hX dX8_trackAll_112 ?_
    refine ww_land hX dX8_trackAll_113 ?_
    refine ww_pc (b := 114) rfl ?_
    refine ww_bdl (fun v16 => ?_)
    refine ww_lstore (lv' := [(6, .long v16), (0, .ref (x_b X + x0)), (1, .int x1), (2, .ref (x_b X + x2)), (3, .long x3), (5, .int x5), (8, .int x8)]) hX hL dX8_trackAll_114 (by decide) rfl ?_
    refine ww_iincb (lv' := fun v17 => [(8, .int v17), (6, .long v16), (0, .ref (x_b X + x0)), (1, .int x1), (2, .ref (x_b X + x2)), (3, .long x3), (5, .int x5)]) (c := (-1)) hX hL 6 rfl dX8_trackAll_116 rfl (by decide) (fun _ => rfl) (fun v17 => ?_)
    refine ww_goto (tgt := 85) hX dX8_trackAll_119 (by decide) ?_
    exact ww_sub [2, 3, 4, 5, 6, 1, 0] rfl (h_85 x0 x1 x2 x3 x5 v16 v17  s15)
def b_X8_trackAll_85 (fu : Nat) (k_41 : Nat → Int32 → Nat → Int64 → Int32 → St → Option (St)) : Nat → Nat → Int32 → Nat → Int64 → Int32 → Int64 → Int32 → St → Option (St)
  | 0, _, _, _, _, _, _, _, _ => none
  | i + 1, x0, x1, x2, x3, x5, x6, x8, st => b_X8_trackAll_85_b fu k_41 (b_X8_trackAll_85 fu k_41 i) x0 x1 x2 x3 x5 x6 x8 st
theorem t_X8_trackAll_85 {X : CX} {res : St} (B : BV X cX8_trackAll RX8 9 3 NN none res) (fu : Nat) (k_41 : Nat → Int32 → Nat → Int64 → Int32 → St → Option (St)) (h_41 : ∀ (x0 : Nat) (x1 : Int32) (x2 : Nat) (x3 : Int64) (x5 : Int32)  (st : St), WW X res NN 41 [(0, .ref (x_b X + x0)), (1, .int x1), (2, .ref (x_b X + x2)), (3, .long x3), (5, .int x5)] [] st (k_41 x0 x1 x2 x3 x5 st)) : ∀ (i : Nat) (x0 : Nat) (x1 : Int32) (x2 : Nat) (x3 : Int64) (x5 : Int32) (x6 : Int64) (x8 : Int32)  (st : St), WW X res NN 85 [(0, .ref (x_b X + x0)), (1, .int x1), (2, .ref (x_b X + x2)), (3, .long x3), (5, .int x5), (6, .long x6), (8, .int x8)] [] st (b_X8_trackAll_85 fu k_41 i x0 x1 x2 x3 x5 x6 x8 st) := by
  intro i
  induction i with
  | zero => intro x0 x1 x2 x3 x5 x6 x8 st; exact ww_none
  | succ i ih => intro x0 x1 x2 x3 x5 x6 x8 st; exact t_X8_trackAll_85_b B fu k_41 (b_X8_trackAll_85 fu k_41 i) h_41 ih x0 x1 x2 x3 x5 x6 x8 st
def b_X8_trackAll_41_b (fu : Nat) (k_41 : Nat → Int32 → Nat → Int64 → Int32 → St → Option (St)) (x0 : Nat) (x1 : Int32) (x2 : Nat) (x3 : Int64) (x5 : Int32)  (st : St) : Option (St) :=
  ck (¬ gR st x0 6 = 0) <|
  ck ((kd x0).1 = 8) <|
  bd (gR st x0 6) fun o5 =>
  ck ((kd o5).1 = 100 ∧ inb x1 (kd o5).2) <|
  if x5 < (gI st o5 (ix x1)) then (
  b_X8_trackAll_128 fu   st)
  else (
  if (lg_cmp x3 0) = 0 then (
  b_X8_trackAll_128 fu   st)
  else (
  ck (¬ gR st x0 11 = 0) <|
  ck ((kd x0).1 = 8) <|
  bd (gR st x0 11) fun o6 =>
  ck ((kd o6).1 = 103 ∧ inb x5 (kd o6).2) <|
  bd ((gL st o6 (ix x5)) &&& x3) fun v7 =>
  bd (x3 &&& (v7 ^^^ ((-1)))) fun v8 =>
  ca (f_J13_bitCount_95d88 fu v7 st) fun r9 s10 =>
  b_X8_trackAll_85 fu k_41 fu x0 x1 x2 v8 x5 v7 r9  s10))
set_option maxHeartbeats 4000000 in
set_option maxRecDepth 100000 in
theorem t_X8_trackAll_41_b {X : CX} {res : St} (B : BV X cX8_trackAll RX8 9 3 NN none res) (fu : Nat) (k_41 : Nat → Int32 → Nat → Int64 → Int32 → St → Option (St)) (h_41 : ∀ (x0 : Nat) (x1 : Int32) (x2 : Nat) (x3 : Int64) (x5 : Int32)  (st : St), WW X res NN 41 [(0, .ref (x_b X + x0)), (1, .int x1), (2, .ref (x_b X + x2)), (3, .long x3), (5, .int x5)] [] st (k_41 x0 x1 x2 x3 x5 st)) (x0 : Nat) (x1 : Int32) (x2 : Nat) (x3 : Int64) (x5 : Int32)  (st : St) : WW X res NN 41 [(0, .ref (x_b X + x0)), (1, .int x1), (2, .ref (x_b X + x2)), (3, .long x3), (5, .int x5)] [] st (b_X8_trackAll_41_b fu k_41 x0 x1 x2 x3 x5 st) := by
  have hX := B.1
  have hL := B.2.1
  unfold b_X8_trackAll_41_b
  refine ww_iload hX 4 rfl dX8_trackAll_41 ?_
  refine ww_aload_n hX 0 rfl dX8_trackAll_43 rfl ?_
  refine ww_getR hX f_X8_30 (Or.inr ⟨_, rfl⟩) dX8_trackAll_44 ?_
  refine ww_bdR (fun o5 => ?_)
  refine ww_iload_n hX 1 rfl dX8_trackAll_47 rfl ?_
  refine ww_ialdc hX k_iald dX8_trackAll_48 ?_
  refine ww_icmp_lt (tgt := 128) hX dX8_trackAll_49 (by decide) ?_ ?_
  · exact ww_sub [] rfl (t_X8_trackAll_128 B fu   st)
  · refine ww_lload_n hX 3 rfl dX8_trackAll_52 rfl ?_
    refine ww_lconst (v := 0) hX rfl dX8_trackAll_53 ?_
    refine ww_lcmp hX dX8_trackAll_54 ?_
    refine ww_if_eq (tgt := 128) hX dX8_trackAll_55 (by decide) ?_ ?_
    · exact ww_sub [] rfl (t_X8_trackAll_128 B fu   st)
    · refine ww_aload_n hX 0 rfl dX8_trackAll_58 rfl ?_
      refine ww_getR hX f_X8_45 (Or.inr ⟨_, rfl⟩) dX8_trackAll_59 ?_
      refine ww_bdR (fun o6 => ?_)
      refine ww_iload hX 4 rfl dX8_trackAll_62 ?_
      refine ww_laldc hX k_lald dX8_trackAll_64 ?_
      refine ww_lload_n hX 3 rfl dX8_trackAll_65 rfl ?_
      refine ww_land hX dX8_trackAll_66 ?_
      refine ww_bdl (fun v7 => ?_)
      refine ww_lstore (lv' := [(6, .long v7), (0, .ref (x_b X + x0)), (1, .int x1), (2, .ref (x_b X + x2)), (3, .long x3), (5, .int x5)]) hX hL dX8_trackAll_67 (by decide) rfl ?_
      refine ww_pc (b := 69) rfl ?_
      refine ww_lload_n hX 4 rfl dX8_trackAll_69 rfl ?_
      refine ww_lload hX 0 rfl dX8_trackAll_70 ?_
      refine ww_ldc2 (v := (-1)) hX k_X8_167 dX8_trackAll_72 ?_
      refine ww_lxor hX dX8_trackAll_75 ?_
      refine ww_land hX dX8_trackAll_76 ?_
      refine ww_bdl (fun v8 => ?_)
      refine ww_lstore_n (lv' := [(3, .long v8), (6, .long v7), (0, .ref (x_b X + x0)), (1, .int x1), (2, .ref (x_b X + x2)), (5, .int x5)]) hX hL dX8_trackAll_77 rfl (by decide) rfl ?_
      refine ww_lload hX 1 rfl dX8_trackAll_78 ?_
      refine ww_callSI (As := [.long v7]) (rest := []) hX (Rk.of B.2.2.1 B.2.2.2.1 (by decide) (by decide)) g_X8_175 (c_J13_bitCount_95d88 (x_G X) (x_l X) fu v7 st) rfl rfl (Nat.le_of_ble_eq_true rfl) dX8_trackAll_80 (fun r9 s10 => ?_)
      refine ww_pc (b := 83) rfl ?_
      refine ww_istore (lv' := [(8, .int r9), (3, .long v8), (6, .long v7), (0, .ref (x_b X + x0)), (1, .int x1), (2, .ref (x_b X + x2)), (5, .int x5)]) hX hL dX8_trackAll_83 (by decide) rfl ?_
      exact ww_sub [3, 4, 5, 1, 6, 2, 0] rfl (t_X8_trackAll_85 B fu k_41 h_41 fu x0 x1 x2 v8 x5 v7 r9  s10)
def b_X8_trackAll_41 (fu : Nat) : Nat → Nat → Int32 → Nat → Int64 → Int32 → St → Option (St)
  | 0, _, _, _, _, _, _ => none
  | i + 1, x0, x1, x2, x3, x5, st => b_X8_trackAll_41_b fu (b_X8_trackAll_41 fu i) x0 x1 x2 x3 x5 st
theorem t_X8_trackAll_41 {X : CX} {res : St} (B : BV X cX8_trackAll RX8 9 3 NN none res) (fu : Nat) : ∀ (i : Nat) (x0 : Nat) (x1 : Int32) (x2 : Nat) (x3 : Int64) (x5 : Int32)  (st : St), WW X res NN 41 [(0, .ref (x_b X + x0)), (1, .int x1), (2, .ref (x_b X + x2)), (3, .long x3), (5, .int x5)] [] st (b_X8_trackAll_41 fu i x0 x1 x2 x3 x5 st) := by
  intro i
  induction i with
  | zero => intro x0 x1 x2 x3 x5 st; exact ww_none
  | succ i ih => intro x0 x1 x2 x3 x5 st; exact t_X8_trackAll_41_b B fu (b_X8_trackAll_41 fu i) ih x0 x1 x2 x3 x5 st
def f_X8_trackAll (fu : Nat) (th : Nat) (p1 : Int32) (p2 : Nat) (st : St) : Option (St) :=
  cv (f_J7_fill_53178 fu p2 0 st) fun s1 =>
  if p1 < 0 then (
  b_X8_trackAll_24 fu   s1)
  else (
  ck ((kd th).1 = 8) <|
  if (gI s1 th 12) ≤ p1 then (
  b_X8_trackAll_24 fu   s1)
  else (
  ck ((kd p2).1 = 100) <|
  if 64 ≤ (Int32.ofNat (kd p2).2) then (
  bd ((-1)) fun v2 =>
  ck (¬ gR s1 th 7 = 0) <|
  ck ((kd th).1 = 8) <|
  bd (gR s1 th 7) fun o3 =>
  ck ((kd o3).1 = 100 ∧ inb (p1 + 1) (kd o3).2) <|
  bd ((gI s1 o3 (ix (p1 + 1))) - 1) fun v4 =>
  b_X8_trackAll_41 fu fu th p1 p2 v2 v4  s1)
  else (
  b_X8_trackAll_24 fu   s1)))
set_option maxHeartbeats 4000000 in
set_option maxRecDepth 100000 in
theorem t_X8_trackAll {X : CX} {res : St} (B : BV X cX8_trackAll RX8 9 3 NN none res) (fu : Nat) (th : Nat) (p1 : Int32) (p2 : Nat) (st : St) : WW X res NN 0 [(0, .ref (x_b X + th)), (1, .int p1), (2, .ref (x_b X + p2))] [] st (f_X8_trackAll fu th p1 p2 st) := by
  have hX := B.1
  have hL := B.2.1
  unfold f_X8_trackAll
  refine ww_aload_n hX 2 rfl dX8_trackAll_0 rfl ?_
  refine ww_iconst (v := 0) hX rfl dX8_trackAll_1 ?_
  refine ww_callSV (As := [.ref (x_b X + p2), .int 0]) (rest := []) hX (Rk.of B.2.2.1 B.2.2.2.1 (by decide) (by decide)) g_X8_169 (c_J7_fill_53178 (x_G X) (x_l X) fu p2 0 st) rfl rfl (Nat.le_of_ble_eq_true rfl) dX8_trackAll_2 (fun s1 => ?_)
  refine ww_iload_n hX 1 rfl dX8_trackAll_5 rfl ?_
  refine ww_if_lt (tgt := 24) hX dX8_trackAll_6 (by decide) ?_ ?_
  · exact ww_sub [] rfl (t_X8_trackAll_24 B fu   s1)
  · refine ww_iload_n hX 1 rfl dX8_trackAll_9 rfl ?_
    refine ww_aload_n hX 0 rfl dX8_trackAll_10 rfl ?_
    refine ww_getI hX f_X8_49 (Or.inl rfl) dX8_trackAll_11 ?_
    refine ww_icmp_ge (tgt := 24) hX dX8_trackAll_14 (by decide) ?_ ?_
    · exact ww_sub [] rfl (t_X8_trackAll_24 B fu   s1)
    · refine ww_aload_n hX 2 rfl dX8_trackAll_17 rfl ?_
      refine ww_alenc hX k_alen dX8_trackAll_18 ?_
      refine ww_bipush (v := 64) hX rfl dX8_trackAll_19 ?_
      refine ww_icmp_ge (tgt := 25) hX dX8_trackAll_21 (by decide) ?_ ?_
      · refine ww_ldc2 (v := (-1)) hX k_X8_167 dX8_trackAll_25 ?_
        refine ww_bdl (fun v2 => ?_)
        refine ww_lstore_n (lv' := [(3, .long v2), (0, .ref (x_b X + th)), (1, .int p1), (2, .ref (x_b X + p2))]) hX hL dX8_trackAll_28 rfl (by decide) rfl ?_
        refine ww_aload_n hX 1 rfl dX8_trackAll_29 rfl ?_
        refine ww_getR hX f_X8_33 (Or.inr ⟨_, rfl⟩) dX8_trackAll_30 ?_
        refine ww_bdR (fun o3 => ?_)
        refine ww_iload_n hX 2 rfl dX8_trackAll_33 rfl ?_
        refine ww_iconst (v := 1) hX rfl dX8_trackAll_34 ?_
        refine ww_iadd hX dX8_trackAll_35 ?_
        refine ww_pc (b := 36) rfl ?_
        refine ww_ialdc hX k_iald dX8_trackAll_36 ?_
        refine ww_iconst (v := 1) hX rfl dX8_trackAll_37 ?_
        refine ww_isub hX dX8_trackAll_38 ?_
        refine ww_bdi (fun v4 => ?_)
        refine ww_istore (lv' := [(5, .int v4), (3, .long v2), (0, .ref (x_b X + th)), (1, .int p1), (2, .ref (x_b X + p2))]) hX hL dX8_trackAll_39 (by decide) rfl ?_
        exact ww_sub [2, 3, 4, 1, 0] rfl (t_X8_trackAll_41 B fu fu th p1 p2 v2 v4  s1)
      · exact ww_sub [] rfl (t_X8_trackAll_24 B fu   s1)
theorem c_X8_trackAll (G : GX) (l : Launch) (fu : Nat) (th : Nat) (p1 : Int32) (p2 : Nat) (st : St) : MV G NN l yX8_trackAll cX8_trackAll 9 none 3 [.ref (G.2.2.1 + th), .int p1, .ref (G.2.2.1 + p2)] st (f_X8_trackAll fu th p1 p2 st) := mkV (by decide) (Nat.le_of_ble_eq_true rfl) (fun X res hl hG B => by subst hl; subst hG; exact t_X8_trackAll B fu th p1 p2 st)
/-! StageHouse$Board.begin(II)V -/
def b_X1_begin_34 (fu : Nat)   (st : St) : Option (St) :=
  some st
set_option maxHeartbeats 4000000 in
set_option maxRecDepth 100000 in
theorem t_X1_begin_34 {X : CX} {res : St} (B : BV X cX1_begin RX1 7 5 NN none res) (fu : Nat)   (st : St) : WW X res NN 34 [] [] st (b_X1_begin_34 fu  st) := by
  have hX := B.1
  have hL := B.2.1
  unfold b_X1_begin_34
  exact ww_vret B dX1_begin_34
def b_X1_begin_145_b (fu : Nat) (k_145 : Nat → Int32 → Nat → Int32 → Int32 → St → Option (St)) (x0 : Nat) (x2 : Int32) (x4 : Nat) (x5 : Int32) (x6 : Int32)  (st : St) : Option (St) :=
  ck (¬ gR st x4 7 = 0) <|
  ck ((kd x4).1 = 8) <|
  bd (gR st x4 7) fun o12 =>
  ck ((kd o12).1 = 100 ∧ inb (x5 + 1) (kd o12).2) <|
  if (gI st o12 (ix (x5 + 1))) ≤ x6 then (
  some st)
  else (
  ck ((kd x0).1 = 1) <|
  cv (f_X1_runAct fu x0 x4 x6 x2 st) fun s13 =>
  bd (x6 + 1) fun v14 =>
  k_145 x0 x2 x4 x5 v14  s13)
set_option maxHeartbeats 4000000 in
set_option maxRecDepth 100000 in
theorem t_X1_begin_145_b {X : CX} {res : St} (B : BV X cX1_begin RX1 7 5 NN none res) (fu : Nat) (k_145 : Nat → Int32 → Nat → Int32 → Int32 → St → Option (St)) (h_145 : ∀ (x0 : Nat) (x2 : Int32) (x4 : Nat) (x5 : Int32) (x6 : Int32)  (st : St), WW X res NN 145 [(0, .ref (x_b X + x0)), (2, .int x2), (4, .ref (x_b X + x4)), (5, .int x5), (6, .int x6)] [] st (k_145 x0 x2 x4 x5 x6 st)) (x0 : Nat) (x2 : Int32) (x4 : Nat) (x5 : Int32) (x6 : Int32)  (st : St) : WW X res NN 145 [(0, .ref (x_b X + x0)), (2, .int x2), (4, .ref (x_b X + x4)), (5, .int x5), (6, .int x6)] [] st (b_X1_begin_145_b fu k_145 x0 x2 x4 x5 x6 st) := by
  have hX := B.1
  have hL := B.2.1
  unfold b_X1_begin_145_b
  refine ww_iload hX 4 rfl dX1_begin_145 ?_
  refine ww_aload hX 2 rfl dX1_begin_147 ?_
  refine ww_getR hX f_X1_105 (Or.inr ⟨_, rfl⟩) dX1_begin_149 ?_
  refine ww_bdR (fun o12 => ?_)
  refine ww_iload hX 3 rfl dX1_begin_152 ?_
  refine ww_iconst (v := 1) hX rfl dX1_begin_154 ?_
  refine ww_iadd hX dX1_begin_155 ?_
  refine ww_ialdc hX k_iald dX1_begin_156 ?_
  refine ww_pc (b := 157) rfl ?_
  refine ww_icmp_ge (tgt := 175) hX dX1_begin_157 (by decide) ?_ ?_
  · exact ww_vret B dX1_begin_175
  · refine ww_aload_n hX 0 rfl dX1_begin_160 rfl ?_
    refine ww_aload hX 2 rfl dX1_begin_161 ?_
    refine ww_iload hX 4 rfl dX1_begin_163 ?_
    refine ww_iload_n hX 1 rfl dX1_begin_165 rfl ?_
    refine ww_callVV (As := [.ref (x_b X + x4), .int x6, .int x2]) (rest := []) (o := x0) hX (Rk.of B.2.2.1 B.2.2.2.1 (by decide) (by decide)) g_X1_108 g_X1_108.in (fun _ => c_X1_runAct (x_G X) (x_l X) fu x0 x4 x6 x2 st) rfl rfl (Nat.le_of_ble_eq_true rfl) dX1_begin_166 (fun s13 => ?_)
    refine ww_iincb (lv' := fun v14 => [(6, .int v14), (0, .ref (x_b X + x0)), (2, .int x2), (4, .ref (x_b X + x4)), (5, .int x5)]) (c := 1) hX hL 4 rfl dX1_begin_169 rfl (by decide) (fun _ => rfl) (fun v14 => ?_)
    refine ww_goto (tgt := 145) hX dX1_begin_172 (by decide) ?_
    exact ww_sub [1, 2, 3, 4, 0] rfl (h_145 x0 x2 x4 x5 v14  s13)
def b_X1_begin_145 (fu : Nat) : Nat → Nat → Int32 → Nat → Int32 → Int32 → St → Option (St)
  | 0, _, _, _, _, _, _ => none
  | i + 1, x0, x2, x4, x5, x6, st => b_X1_begin_145_b fu (b_X1_begin_145 fu i) x0 x2 x4 x5 x6 st
theorem t_X1_begin_145 {X : CX} {res : St} (B : BV X cX1_begin RX1 7 5 NN none res) (fu : Nat) : ∀ (i : Nat) (x0 : Nat) (x2 : Int32) (x4 : Nat) (x5 : Int32) (x6 : Int32)  (st : St), WW X res NN 145 [(0, .ref (x_b X + x0)), (2, .int x2), (4, .ref (x_b X + x4)), (5, .int x5), (6, .int x6)] [] st (b_X1_begin_145 fu i x0 x2 x4 x5 x6 st) := by
  intro i
  induction i with
  | zero => intro x0 x2 x4 x5 x6 st; exact ww_none
  | succ i ih => intro x0 x2 x4 x5 x6 st; exact t_X1_begin_145_b B fu (b_X1_begin_145 fu i) ih x0 x2 x4 x5 x6 st
def b_X1_begin_129 (fu : Nat) (k_83 : Nat → Int32 → Int32 → Nat → Nat → Int32 → Int32 → St → Option (St)) (x0 : Nat) (x1 : Int32) (x2 : Int32) (x3 : Nat) (x4 : Nat) (x5 : Int32) (x6 : Int32)  (st : St) : Option (St) :=
  bd (x6 + 1) fun v17 =>
  k_83 x0 x1 x2 x3 x4 x5 v17  st
set_option maxHeartbeats 4000000 in
set_option maxRecDepth 100000 in
theorem t_X1_begin_129 {X : CX} {res : St} (B : BV X cX1_begin RX1 7 5 NN none res) (fu : Nat) (k_83 : Nat → Int32 → Int32 → Nat → Nat → Int32 → Int32 → St → Option (St)) (h_83 : ∀ (x0 : Nat) (x1 : Int32) (x2 : Int32) (x3 : Nat) (x4 : Nat) (x5 : Int32) (x6 : Int32)  (st : St), WW X res NN 83 [(0, .ref (x_b X + x0)), (1, .int x1), (2, .int x2), (3, .ref (x_b X + x3)), (4, .ref (x_b X + x4)), (5, .int x5), (6, .int x6)] [] st (k_83 x0 x1 x2 x3 x4 x5 x6 st)) (x0 : Nat) (x1 : Int32) (x2 : Int32) (x3 : Nat) (x4 : Nat) (x5 : Int32) (x6 : Int32)  (st : St) : WW X res NN 129 [(0, .ref (x_b X + x0)), (1, .int x1), (2, .int x2), (3, .ref (x_b X + x3)), (4, .ref (x_b X + x4)), (5, .int x5), (6, .int x6)] [] st (b_X1_begin_129 fu k_83 x0 x1 x2 x3 x4 x5 x6 st) := by
  have hX := B.1
  have hL := B.2.1
  unfold b_X1_begin_129
  refine ww_iincb (lv' := fun v17 => [(6, .int v17), (0, .ref (x_b X + x0)), (1, .int x1), (2, .int x2), (3, .ref (x_b X + x3)), (4, .ref (x_b X + x4)), (5, .int x5)]) (c := 1) hX hL 6 rfl dX1_begin_129 rfl (by decide) (fun _ => rfl) (fun v17 => ?_)
  refine ww_goto (tgt := 83) hX dX1_begin_132 (by decide) ?_
  exact ww_sub [1, 2, 3, 4, 5, 6, 0] rfl (h_83 x0 x1 x2 x3 x4 x5 v17  st)
def b_X1_begin_83_b (fu : Nat) (k_83 : Nat → Int32 → Int32 → Nat → Nat → Int32 → Int32 → St → Option (St)) (x0 : Nat) (x1 : Int32) (x2 : Int32) (x3 : Nat) (x4 : Nat) (x5 : Int32) (x6 : Int32)  (st : St) : Option (St) :=
  if 64 ≤ x6 then (
  ck (¬ gR st x4 7 = 0) <|
  ck ((kd x4).1 = 8) <|
  bd (gR st x4 7) fun o10 =>
  ck ((kd o10).1 = 100 ∧ inb x5 (kd o10).2) <|
  bd (gI st o10 (ix x5)) fun v11 =>
  b_X1_begin_145 fu fu x0 x2 x4 x5 v11  st)
  else (
  ck (¬ gR st x0 2 = 0) <|
  ck ((kd x0).1 = 1) <|
  bd (gR st x0 2) fun o15 =>
  ck ((kd o15).1 = 100 ∧ inb x6 (kd o15).2) <|
  ck (¬ gR st x3 1 = 0) <|
  ck ((kd x3).1 = 3) <|
  bd (gR st x3 1) fun o16 =>
  ck ((kd o16).1 = 100 ∧ inb x6 (kd o16).2) <|
  if (gI st o15 (ix x6)) = (gI st o16 (ix x6)) then (
  b_X1_begin_129 fu k_83 x0 x1 x2 x3 x4 x5 x6  st)
  else (
  ck (¬ gR st x0 2 = 0) <|
  ck ((kd x0).1 = 1) <|
  bd (gR st x0 2) fun o18 =>
  ck ((kd o18).1 = 100 ∧ inb x6 (kd o18).2) <|
  ck ((kd x3).1 = 3) <|
  cv (f_X3_fade fu x3 x6 (gI st o18 (ix x6)) x2 st) fun s19 =>
  ck (¬ gR s19 x0 1 = 0) <|
  ck ((kd x0).1 = 1) <|
  bd (gR s19 x0 1) fun o20 =>
  ck ((kd o20).1 = 100 ∧ inb x6 (kd o20).2) <|
  bd (sI s19 o20 (ix x6) x1) fun s21 =>
  b_X1_begin_129 fu k_83 x0 x1 x2 x3 x4 x5 x6  s21))
set_option maxHeartbeats 4000000 in
set_option maxRecDepth 100000 in
theorem t_X1_begin_83_b {X : CX} {res : St} (B : BV X cX1_begin RX1 7 5 NN none res) (fu : Nat) (k_83 : Nat → Int32 → Int32 → Nat → Nat → Int32 → Int32 → St → Option (St)) (h_83 : ∀ (x0 : Nat) (x1 : Int32) (x2 : Int32) (x3 : Nat) (x4 : Nat) (x5 : Int32) (x6 : Int32)  (st : St), WW X res NN 83 [(0, .ref (x_b X + x0)), (1, .int x1), (2, .int x2), (3, .ref (x_b X + x3)), (4, .ref (x_b X + x4)), (5, .int x5), (6, .int x6)] [] st (k_83 x0 x1 x2 x3 x4 x5 x6 st)) (x0 : Nat) (x1 : Int32) (x2 : Int32) (x3 : Nat) (x4 : Nat) (x5 : Int32) (x6 : Int32)  (st : St) : WW X res NN 83 [(0, .ref (x_b X + x0)), (1, .int x1), (2, .int x2), (3, .ref (x_b X + x3)), (4, .ref (x_b X + x4)), (5, .int x5), (6, .int x6)] [] st (b_X1_begin_83_b fu k_83 x0 x1 x2 x3 x4 x5 x6 st) := by
  have hX := B.1
  have hL := B.2.1
  unfold b_X1_begin_83_b
  refine ww_iload hX 6 rfl dX1_begin_83 ?_
  refine ww_bipush (v := 64) hX rfl dX1_begin_85 ?_
  refine ww_icmp_ge (tgt := 135) hX dX1_begin_87 (by decide) ?_ ?_
  · refine ww_aload hX 4 rfl dX1_begin_135 ?_
    refine ww_getR hX f_X1_105 (Or.inr ⟨_, rfl⟩) dX1_begin_137 ?_
    refine ww_bdR (fun o10 => ?_)
    refine ww_iload hX 5 rfl dX1_begin_140 ?_
    refine ww_ialdc hX k_iald dX1_begin_142 ?_
    refine ww_bdi (fun v11 => ?_)
    refine ww_istore (lv' := [(6, .int v11), (0, .ref (x_b X + x0)), (1, .int x1), (2, .int x2), (3, .ref (x_b X + x3)), (4, .ref (x_b X + x4)), (5, .int x5)]) hX hL dX1_begin_143 (by decide) rfl ?_
    exact ww_sub [1, 3, 5, 6, 0] rfl (t_X1_begin_145 B fu fu x0 x2 x4 x5 v11  st)
  · refine ww_aload_n hX 0 rfl dX1_begin_90 rfl ?_
    refine ww_getR hX f_X1_21 (Or.inr ⟨_, rfl⟩) dX1_begin_91 ?_
    refine ww_bdR (fun o15 => ?_)
    refine ww_iload hX 6 rfl dX1_begin_94 ?_
    refine ww_ialdc hX k_iald dX1_begin_96 ?_
    refine ww_aload_n hX 3 rfl dX1_begin_97 rfl ?_
    refine ww_getR hX f_X1_99 (Or.inr ⟨_, rfl⟩) dX1_begin_98 ?_
    refine ww_bdR (fun o16 => ?_)
    refine ww_iload hX 6 rfl dX1_begin_101 ?_
    refine ww_pc (b := 103) rfl ?_
    refine ww_ialdc hX k_iald dX1_begin_103 ?_
    refine ww_icmp_eq (tgt := 129) hX dX1_begin_104 (by decide) ?_ ?_
    · exact t_X1_begin_129 B fu k_83 h_83 x0 x1 x2 x3 x4 x5 x6  st
    · refine ww_aload_n hX 3 rfl dX1_begin_107 rfl ?_
      refine ww_iload hX 6 rfl dX1_begin_108 ?_
      refine ww_aload_n hX 0 rfl dX1_begin_110 rfl ?_
      refine ww_getR hX f_X1_21 (Or.inr ⟨_, rfl⟩) dX1_begin_111 ?_
      refine ww_bdR (fun o18 => ?_)
      refine ww_iload hX 6 rfl dX1_begin_114 ?_
      refine ww_ialdc hX k_iald dX1_begin_116 ?_
      refine ww_iload_n hX 2 rfl dX1_begin_117 rfl ?_
      refine ww_pc (b := 118) rfl ?_
      refine ww_callVV (As := [.int x6, .int (gI st o18 (ix x6)), .int x2]) (rest := []) (o := x3) hX (Rk.of B.2.2.1 B.2.2.2.1 (by decide) (by decide)) g_X1_102 g_X1_102.in (fun _ => c_X3_fade (x_G X) (x_l X) fu x3 x6 (gI st o18 (ix x6)) x2 st) rfl rfl (Nat.le_of_ble_eq_true rfl) dX1_begin_118 (fun s19 => ?_)
      refine ww_aload_n hX 0 rfl dX1_begin_121 rfl ?_
      refine ww_getR hX f_X1_17 (Or.inr ⟨_, rfl⟩) dX1_begin_122 ?_
      refine ww_bdR (fun o20 => ?_)
      refine ww_iload hX 6 rfl dX1_begin_125 ?_
      refine ww_iload_n hX 1 rfl dX1_begin_127 rfl ?_
      refine ww_iastc hX k_iast dX1_begin_128 ?_
      refine ww_bds (fun s21 => ?_)
      exact t_X1_begin_129 B fu k_83 h_83 x0 x1 x2 x3 x4 x5 x6  s21
def b_X1_begin_83 (fu : Nat) : Nat → Nat → Int32 → Int32 → Nat → Nat → Int32 → Int32 → St → Option (St)
  | 0, _, _, _, _, _, _, _, _ => none
  | i + 1, x0, x1, x2, x3, x4, x5, x6, st => b_X1_begin_83_b fu (b_X1_begin_83 fu i) x0 x1 x2 x3 x4 x5 x6 st
theorem t_X1_begin_83 {X : CX} {res : St} (B : BV X cX1_begin RX1 7 5 NN none res) (fu : Nat) : ∀ (i : Nat) (x0 : Nat) (x1 : Int32) (x2 : Int32) (x3 : Nat) (x4 : Nat) (x5 : Int32) (x6 : Int32)  (st : St), WW X res NN 83 [(0, .ref (x_b X + x0)), (1, .int x1), (2, .int x2), (3, .ref (x_b X + x3)), (4, .ref (x_b X + x4)), (5, .int x5), (6, .int x6)] [] st (b_X1_begin_83 fu i x0 x1 x2 x3 x4 x5 x6 st) := by
  intro i
  induction i with
  | zero => intro x0 x1 x2 x3 x4 x5 x6 st; exact ww_none
  | succ i ih => intro x0 x1 x2 x3 x4 x5 x6 st; exact t_X1_begin_83_b B fu (b_X1_begin_83 fu i) ih x0 x1 x2 x3 x4 x5 x6 st
def b_X1_begin_66 (fu : Nat) (x0 : Nat) (x1 : Int32) (x2 : Int32) (x3 : Nat) (x4 : Nat) (x5 : Int32) (y0 : Nat) (y1 : Int32) (st : St) : Option (St) :=
  ck ((kd y0).1 = 3) <|
  bd (sI st y0 8 y1) fun s7 =>
  ck (¬ gR s7 x0 2 = 0) <|
  ck ((kd x0).1 = 1) <|
  bd (gR s7 x0 2) fun o8 =>
  ck ((kd x4).1 = 8) <|
  cv (f_X8_trackAll fu x4 x5 o8 s7) fun s9 =>
  b_X1_begin_83 fu fu x0 x1 x2 x3 x4 x5 0  s9
set_option maxHeartbeats 4000000 in
set_option maxRecDepth 100000 in
theorem t_X1_begin_66 {X : CX} {res : St} (B : BV X cX1_begin RX1 7 5 NN none res) (fu : Nat) (x0 : Nat) (x1 : Int32) (x2 : Int32) (x3 : Nat) (x4 : Nat) (x5 : Int32) (y0 : Nat) (y1 : Int32) (st : St) : WW X res NN 66 [(0, .ref (x_b X + x0)), (1, .int x1), (2, .int x2), (3, .ref (x_b X + x3)), (4, .ref (x_b X + x4)), (5, .int x5)] [.int y1, .ref (x_b X + y0)] st (b_X1_begin_66 fu x0 x1 x2 x3 x4 x5 y0 y1 st) := by
  have hX := B.1
  have hL := B.2.1
  unfold b_X1_begin_66
  refine ww_putI hX f_X1_78 rfl dX1_begin_66 ?_
  refine ww_bds (fun s7 => ?_)
  refine ww_aload hX 4 rfl dX1_begin_69 ?_
  refine ww_iload hX 5 rfl dX1_begin_71 ?_
  refine ww_aload_n hX 0 rfl dX1_begin_73 rfl ?_
  refine ww_getR hX f_X1_21 (Or.inr ⟨_, rfl⟩) dX1_begin_74 ?_
  refine ww_bdR (fun o8 => ?_)
  refine ww_callVV (As := [.int x5, .ref (x_b X + o8)]) (rest := []) (o := x4) hX (Rk.of B.2.2.1 B.2.2.2.1 (by decide) (by decide)) g_X1_95 g_X1_95.in (fun _ => c_X8_trackAll (x_G X) (x_l X) fu x4 x5 o8 s7) rfl rfl (Nat.le_of_ble_eq_true rfl) dX1_begin_77 (fun s9 => ?_)
  refine ww_iconst (v := 0) hX rfl dX1_begin_80 ?_
  refine ww_pc (b := 81) rfl ?_
  refine ww_istore (lv' := [(6, .int 0), (0, .ref (x_b X + x0)), (1, .int x1), (2, .int x2), (3, .ref (x_b X + x3)), (4, .ref (x_b X + x4)), (5, .int x5)]) hX hL dX1_begin_81 (by decide) rfl ?_
  exact ww_sub [1, 2, 3, 4, 5, 6, 0] rfl (t_X1_begin_83 B fu fu x0 x1 x2 x3 x4 x5 0  s9)
def f_X1_begin (fu : Nat) (th : Nat) (p1 : Int32) (p2 : Int32) (st : St) : Option (St) :=
  ck (¬ gR st th 0 = 0) <|
  ck ((kd th).1 = 1) <|
  bd (gR st th 0) fun o1 =>
  ck (¬ gR st o1 (ix p1) = 0) <|
  ck ((kd o1).1 = 104 ∧ inb p1 (kd o1).2) <|
  bd (gR st o1 (ix p1)) fun o2 =>
  ck (¬ gR st o2 0 = 0) <|
  ck ((kd o2).1 = 3) <|
  bd (gR st o2 0) fun o3 =>
  ck ((kd o2).1 = 3) <|
  bd (gI st o2 5) fun v4 =>
  if v4 < 0 then (
  b_X1_begin_34 fu   st)
  else (
  ck ((kd o3).1 = 8) <|
  if v4 < (gI st o3 12) then (
  ck (isb 0) <|
  ck ((kd o2).1 = 3) <|
  bd (sI st o2 6 0) fun s5 =>
  ck (¬ gR s5 o3 4 = 0) <|
  ck ((kd o3).1 = 8) <|
  bd (gR s5 o3 4) fun o6 =>
  ck ((kd o6).1 = 100 ∧ inb v4 (kd o6).2) <|
  if (gI s5 o6 (ix v4)) ≤ 0 then (
  b_X1_begin_66 fu th p1 p2 o2 o3 v4 o2 ((-1)) s5)
  else (
  ck (¬ gR s5 o3 4 = 0) <|
  ck ((kd o3).1 = 8) <|
  bd (gR s5 o3 4) fun o22 =>
  ck ((kd o22).1 = 100 ∧ inb v4 (kd o22).2) <|
  b_X1_begin_66 fu th p1 p2 o2 o3 v4 o2 (p2 + (gI s5 o22 (ix v4))) s5))
  else (
  b_X1_begin_34 fu   st))
set_option maxHeartbeats 4000000 in
set_option maxRecDepth 100000 in
theorem t_X1_begin {X : CX} {res : St} (B : BV X cX1_begin RX1 7 5 NN none res) (fu : Nat) (th : Nat) (p1 : Int32) (p2 : Int32) (st : St) : WW X res NN 0 [(0, .ref (x_b X + th)), (1, .int p1), (2, .int p2)] [] st (f_X1_begin fu th p1 p2 st) := by
  have hX := B.1
  have hL := B.2.1
  unfold f_X1_begin
  refine ww_aload_n hX 0 rfl dX1_begin_0 rfl ?_
  refine ww_getR hX f_X1_11 (Or.inr ⟨_, rfl⟩) dX1_begin_1 ?_
  refine ww_bdR (fun o1 => ?_)
  refine ww_iload_n hX 1 rfl dX1_begin_4 rfl ?_
  refine ww_aald104c hX k_aald104 dX1_begin_5 ?_
  refine ww_bdR (fun o2 => ?_)
  refine ww_astore_n (lv' := [(3, .ref (x_b X + o2)), (0, .ref (x_b X + th)), (1, .int p1), (2, .int p2)]) hX hL dX1_begin_6 rfl (by decide) rfl ?_
  refine ww_aload_n hX 0 rfl dX1_begin_7 rfl ?_
  refine ww_getR hX f_X1_52 (Or.inl ⟨_, rfl⟩) dX1_begin_8 ?_
  refine ww_bdR (fun o3 => ?_)
  refine ww_pc (b := 11) rfl ?_
  refine ww_astore (lv' := [(4, .ref (x_b X + o3)), (3, .ref (x_b X + o2)), (0, .ref (x_b X + th)), (1, .int p1), (2, .int p2)]) hX hL dX1_begin_11 (by decide) rfl ?_
  refine ww_aload_n hX 1 rfl dX1_begin_13 rfl ?_
  refine ww_getI hX f_X1_89 (Or.inl rfl) dX1_begin_14 ?_
  refine ww_bdi (fun v4 => ?_)
  refine ww_istore (lv' := [(5, .int v4), (4, .ref (x_b X + o3)), (3, .ref (x_b X + o2)), (0, .ref (x_b X + th)), (1, .int p1), (2, .int p2)]) hX hL dX1_begin_17 (by decide) rfl ?_
  refine ww_iload hX 0 rfl dX1_begin_19 ?_
  refine ww_if_lt (tgt := 34) hX dX1_begin_21 (by decide) ?_ ?_
  · exact ww_sub [] rfl (t_X1_begin_34 B fu   st)
  · refine ww_iload hX 0 rfl dX1_begin_24 ?_
    refine ww_aload hX 1 rfl dX1_begin_26 ?_
    refine ww_getI hX f_X1_58 (Or.inl rfl) dX1_begin_28 ?_
    refine ww_icmp_lt (tgt := 35) hX dX1_begin_31 (by decide) ?_ ?_
    · refine ww_aload_n hX 2 rfl dX1_begin_35 rfl ?_
      refine ww_iconst (v := 0) hX rfl dX1_begin_36 ?_
      refine ww_putZ hX f_X1_71 rfl dX1_begin_37 ?_
      refine ww_bds (fun s5 => ?_)
      refine ww_aload_n hX 2 rfl dX1_begin_40 rfl ?_
      refine ww_aload hX 1 rfl dX1_begin_41 ?_
      refine ww_getR hX f_X1_92 (Or.inr ⟨_, rfl⟩) dX1_begin_43 ?_
      refine ww_bdR (fun o6 => ?_)
      refine ww_iload hX 0 rfl dX1_begin_46 ?_
      refine ww_pc (b := 48) rfl ?_
      refine ww_ialdc hX k_iald dX1_begin_48 ?_
      refine ww_if_le (tgt := 65) hX dX1_begin_49 (by decide) ?_ ?_
      · refine ww_iconst (v := (-1)) hX rfl dX1_begin_65 ?_
        exact ww_sub [3, 4, 5, 2, 1, 0] rfl (t_X1_begin_66 B fu th p1 p2 o2 o3 v4 o2 ((-1)) s5)
      · refine ww_iload_n hX 5 rfl dX1_begin_52 rfl ?_
        refine ww_aload hX 1 rfl dX1_begin_53 ?_
        refine ww_getR hX f_X1_92 (Or.inr ⟨_, rfl⟩) dX1_begin_55 ?_
        refine ww_bdR (fun o22 => ?_)
        refine ww_iload hX 0 rfl dX1_begin_58 ?_
        refine ww_ialdc hX k_iald dX1_begin_60 ?_
        refine ww_iadd hX dX1_begin_61 ?_
        refine ww_goto (tgt := 66) hX dX1_begin_62 (by decide) ?_
        exact ww_sub [3, 4, 5, 2, 1, 0] rfl (t_X1_begin_66 B fu th p1 p2 o2 o3 v4 o2 (p2 + (gI s5 o22 (ix v4))) s5)
    · exact ww_sub [] rfl (t_X1_begin_34 B fu   st)
theorem c_X1_begin (G : GX) (l : Launch) (fu : Nat) (th : Nat) (p1 : Int32) (p2 : Int32) (st : St) : MV G NN l yX1_begin cX1_begin 7 none 5 [.ref (G.2.2.1 + th), .int p1, .int p2] st (f_X1_begin fu th p1 p2 st) := mkV (by decide) (Nat.le_of_ble_eq_true rfl) (fun X res hl hG B => by subst hl; subst hG; exact t_X1_begin B fu th p1 p2 st)
/-! StageHouse$Board.start(III)V -/
def b_X1_start_24 (fu : Nat)   (st : St) : Option (St) :=
  some st
set_option maxHeartbeats 4000000 in
set_option maxRecDepth 100000 in
theorem t_X1_start_24 {X : CX} {res : St} (B : BV X cX1_start RX1 6 6 NN none res) (fu : Nat)   (st : St) : WW X res NN 24 [] [] st (b_X1_start_24 fu  st) := by
  have hX := B.1
  have hL := B.2.1
  unfold b_X1_start_24
  exact ww_vret B dX1_start_24
def b_X1_start_58 (fu : Nat)   (st : St) : Option (St) :=
  some st
set_option maxHeartbeats 4000000 in
set_option maxRecDepth 100000 in
theorem t_X1_start_58 {X : CX} {res : St} (B : BV X cX1_start RX1 6 6 NN none res) (fu : Nat)   (st : St) : WW X res NN 58 [] [] st (b_X1_start_58 fu  st) := by
  have hX := B.1
  have hL := B.2.1
  unfold b_X1_start_58
  exact ww_vret B dX1_start_58
def f_X1_start (fu : Nat) (th : Nat) (p1 : Int32) (p2 : Int32) (p3 : Int32) (st : St) : Option (St) :=
  ck (¬ gR st th 0 = 0) <|
  ck ((kd th).1 = 1) <|
  bd (gR st th 0) fun o1 =>
  ck (¬ gR st o1 (ix p1) = 0) <|
  ck ((kd o1).1 = 104 ∧ inb p1 (kd o1).2) <|
  bd (gR st o1 (ix p1)) fun o2 =>
  if p2 < 0 then (
  b_X1_start_24 fu   st)
  else (
  ck (¬ gR st o2 0 = 0) <|
  ck ((kd o2).1 = 3) <|
  bd (gR st o2 0) fun o3 =>
  ck ((kd o3).1 = 8) <|
  if p2 < (gI st o3 12) then (
  ck (¬ gR st o2 0 = 0) <|
  ck ((kd o2).1 = 3) <|
  bd (gR st o2 0) fun o4 =>
  ck (¬ gR st o4 3 = 0) <|
  ck ((kd o4).1 = 8) <|
  bd (gR st o4 3) fun o5 =>
  ck ((kd o5).1 = 100 ∧ inb p2 (kd o5).2) <|
  bd (gI st o5 (ix p2)) fun v6 =>
  ck ((kd o2).1 = 3) <|
  cv (f_X3_arm fu o2 p2 (p3 + v6) st) fun s7 =>
  if v6 = 0 then (
  ck ((kd th).1 = 1) <|
  cv (f_X1_begin fu th p1 p3 s7) fun s8 =>
  b_X1_start_58 fu   s8)
  else (
  b_X1_start_58 fu   s7))
  else (
  b_X1_start_24 fu   st))
set_option maxHeartbeats 4000000 in
set_option maxRecDepth 100000 in
theorem t_X1_start {X : CX} {res : St} (B : BV X cX1_start RX1 6 6 NN none res) (fu : Nat) (th : Nat) (p1 : Int32) (p2 : Int32) (p3 : Int32) (st : St) : WW X res NN 0 [(0, .ref (x_b X + th)), (1, .int p1), (2, .int p2), (3, .int p3)] [] st (f_X1_start fu th p1 p2 p3 st) := by
  have hX := B.1
  have hL := B.2.1
  unfold f_X1_start
  refine ww_aload_n hX 0 rfl dX1_start_0 rfl ?_
  refine ww_getR hX f_X1_11 (Or.inr ⟨_, rfl⟩) dX1_start_1 ?_
  refine ww_bdR (fun o1 => ?_)
  refine ww_iload_n hX 1 rfl dX1_start_4 rfl ?_
  refine ww_aald104c hX k_aald104 dX1_start_5 ?_
  refine ww_bdR (fun o2 => ?_)
  refine ww_astore (lv' := [(4, .ref (x_b X + o2)), (0, .ref (x_b X + th)), (1, .int p1), (2, .int p2), (3, .int p3)]) hX hL dX1_start_6 (by decide) rfl ?_
  refine ww_iload_n hX 3 rfl dX1_start_8 rfl ?_
  refine ww_if_lt (tgt := 24) hX dX1_start_9 (by decide) ?_ ?_
  · exact ww_sub [] rfl (t_X1_start_24 B fu   st)
  · refine ww_iload_n hX 3 rfl dX1_start_12 rfl ?_
    refine ww_aload hX 0 rfl dX1_start_13 ?_
    refine ww_getR hX f_X1_52 (Or.inl ⟨_, rfl⟩) dX1_start_15 ?_
    refine ww_bdR (fun o3 => ?_)
    refine ww_getI hX f_X1_58 (Or.inl rfl) dX1_start_18 ?_
    refine ww_icmp_lt (tgt := 25) hX dX1_start_21 (by decide) ?_ ?_
    · refine ww_aload hX 0 rfl dX1_start_25 ?_
      refine ww_getR hX f_X1_52 (Or.inl ⟨_, rfl⟩) dX1_start_27 ?_
      refine ww_bdR (fun o4 => ?_)
      refine ww_getR hX f_X1_61 (Or.inr ⟨_, rfl⟩) dX1_start_30 ?_
      refine ww_bdR (fun o5 => ?_)
      refine ww_iload_n hX 3 rfl dX1_start_33 rfl ?_
      refine ww_ialdc hX k_iald dX1_start_34 ?_
      refine ww_bdi (fun v6 => ?_)
      refine ww_istore (lv' := [(5, .int v6), (4, .ref (x_b X + o2)), (0, .ref (x_b X + th)), (1, .int p1), (2, .int p2), (3, .int p3)]) hX hL dX1_start_35 (by decide) rfl ?_
      refine ww_aload hX 1 rfl dX1_start_37 ?_
      refine ww_pc (b := 39) rfl ?_
      refine ww_iload_n hX 4 rfl dX1_start_39 rfl ?_
      refine ww_iload_n hX 5 rfl dX1_start_40 rfl ?_
      refine ww_iload hX 0 rfl dX1_start_41 ?_
      refine ww_iadd hX dX1_start_43 ?_
      refine ww_callVV (As := [.int p2, .int (p3 + v6)]) (rest := []) (o := o2) hX (Rk.of B.2.2.1 B.2.2.2.1 (by decide) (by decide)) g_X1_64 g_X1_64.in (fun _ => c_X3_arm (x_G X) (x_l X) fu o2 p2 (p3 + v6) st) rfl rfl (Nat.le_of_ble_eq_true rfl) dX1_start_44 (fun s7 => ?_)
      refine ww_iload hX 0 rfl dX1_start_47 ?_
      refine ww_if_ne (tgt := 58) hX dX1_start_49 (by decide) ?_ ?_
      · exact ww_sub [] rfl (t_X1_start_58 B fu   s7)
      · refine ww_aload_n hX 2 rfl dX1_start_52 rfl ?_
        refine ww_iload_n hX 3 rfl dX1_start_53 rfl ?_
        refine ww_iload_n hX 5 rfl dX1_start_54 rfl ?_
        refine ww_callVV (As := [.int p1, .int p3]) (rest := []) (o := th) hX (Rk.of B.2.2.1 B.2.2.2.1 (by decide) (by decide)) g_X1_68 g_X1_68.in (fun _ => c_X1_begin (x_G X) (x_l X) fu th p1 p3 s7) rfl rfl (Nat.le_of_ble_eq_true rfl) dX1_start_55 (fun s8 => ?_)
        exact ww_sub [] rfl (t_X1_start_58 B fu   s8)
    · exact ww_sub [] rfl (t_X1_start_24 B fu   st)
theorem c_X1_start (G : GX) (l : Launch) (fu : Nat) (th : Nat) (p1 : Int32) (p2 : Int32) (p3 : Int32) (st : St) : MV G NN l yX1_start cX1_start 6 none 6 [.ref (G.2.2.1 + th), .int p1, .int p2, .int p3] st (f_X1_start fu th p1 p2 p3 st) := mkV (by decide) (Nat.le_of_ble_eq_true rfl) (fun X res hl hG B => by subst hl; subst hG; exact t_X1_start B fu th p1 p2 p3 st)
/-! StageHouse$CueList.following()I -/
def b_X3_following_88 (fu : Nat)  (y0 : Int32) (st : St) : Option (Int32 × St) :=
  some (y0, st)
set_option maxHeartbeats 4000000 in
set_option maxRecDepth 100000 in
theorem t_X3_following_88 {X : CX} {res : Int32 × St} (B : BI X cX3_following RX3 2 2 NN (some .int) res) (fu : Nat)  (y0 : Int32) (st : St) : WW X res NN 88 [] [.int y0] st (b_X3_following_88 fu y0 st) := by
  have hX := B.1
  have hL := B.2.1
  unfold b_X3_following_88
  exact ww_iret B dX3_following_88
def b_X3_following_62 (fu : Nat) (x0 : Nat)  (st : St) : Option (Int32 × St) :=
  ck ((kd x0).1 = 3) <|
  ck (¬ gR st x0 0 = 0) <|
  ck ((kd x0).1 = 3) <|
  bd (gR st x0 0) fun o1 =>
  ck ((kd o1).1 = 8) <|
  if (gI st o1 12) ≤ ((gI st x0 5) + 1) then (
  b_X3_following_88 fu  ((-1)) st)
  else (
  ck ((kd x0).1 = 3) <|
  b_X3_following_88 fu  ((gI st x0 5) + 1) st)
set_option maxHeartbeats 4000000 in
set_option maxRecDepth 100000 in
theorem t_X3_following_62 {X : CX} {res : Int32 × St} (B : BI X cX3_following RX3 2 2 NN (some .int) res) (fu : Nat) (x0 : Nat)  (st : St) : WW X res NN 62 [(0, .ref (x_b X + x0))] [] st (b_X3_following_62 fu x0 st) := by
  have hX := B.1
  have hL := B.2.1
  unfold b_X3_following_62
  refine ww_aload_n hX 0 rfl dX3_following_62 rfl ?_
  refine ww_getI hX f_X3_31 (Or.inl rfl) dX3_following_63 ?_
  refine ww_iconst (v := 1) hX rfl dX3_following_66 ?_
  refine ww_iadd hX dX3_following_67 ?_
  refine ww_aload_n hX 0 rfl dX3_following_68 rfl ?_
  refine ww_getR hX f_X3_12 (Or.inl ⟨_, rfl⟩) dX3_following_69 ?_
  refine ww_bdR (fun o1 => ?_)
  refine ww_getI hX f_X3_51 (Or.inl rfl) dX3_following_72 ?_
  refine ww_pc (b := 75) rfl ?_
  refine ww_icmp_ge (tgt := 87) hX dX3_following_75 (by decide) ?_ ?_
  · refine ww_iconst (v := (-1)) hX rfl dX3_following_87 ?_
    exact ww_sub [] rfl (t_X3_following_88 B fu  ((-1)) st)
  · refine ww_aload_n hX 0 rfl dX3_following_78 rfl ?_
    refine ww_getI hX f_X3_31 (Or.inl rfl) dX3_following_79 ?_
    refine ww_iconst (v := 1) hX rfl dX3_following_82 ?_
    refine ww_iadd hX dX3_following_83 ?_
    refine ww_goto (tgt := 88) hX dX3_following_84 (by decide) ?_
    exact ww_sub [] rfl (t_X3_following_88 B fu  ((gI st x0 5) + 1) st)
def f_X3_following (fu : Nat) (th : Nat) (st : St) : Option (Int32 × St) :=
  ck ((kd th).1 = 3) <|
  if (gI st th 5) < 0 then (
  b_X3_following_62 fu th  st)
  else (
  ck ((kd th).1 = 3) <|
  ck (¬ gR st th 0 = 0) <|
  ck ((kd th).1 = 3) <|
  bd (gR st th 0) fun o2 =>
  ck ((kd o2).1 = 8) <|
  if (gI st o2 12) ≤ (gI st th 5) then (
  b_X3_following_62 fu th  st)
  else (
  ck (¬ gR st th 0 = 0) <|
  ck ((kd th).1 = 3) <|
  bd (gR st th 0) fun o3 =>
  ck (¬ gR st o3 5 = 0) <|
  ck ((kd o3).1 = 8) <|
  bd (gR st o3 5) fun o4 =>
  ck ((kd th).1 = 3) <|
  ck ((kd o4).1 = 100 ∧ inb (gI st th 5) (kd o4).2) <|
  if (gI st o4 (ix (gI st th 5))) ≤ 0 then (
  b_X3_following_62 fu th  st)
  else (
  ck (¬ gR st th 0 = 0) <|
  ck ((kd th).1 = 3) <|
  bd (gR st th 0) fun o5 =>
  ck (¬ gR st th 0 = 0) <|
  ck ((kd th).1 = 3) <|
  bd (gR st th 0) fun o6 =>
  ck (¬ gR st o6 5 = 0) <|
  ck ((kd o6).1 = 8) <|
  bd (gR st o6 5) fun o7 =>
  ck ((kd th).1 = 3) <|
  ck ((kd o7).1 = 100 ∧ inb (gI st th 5) (kd o7).2) <|
  ck ((kd o5).1 = 8) <|
  ca (f_X8_find fu o5 (gI st o7 (ix (gI st th 5))) st) fun r8 s9 =>
  if r8 < 0 then (
  b_X3_following_62 fu th  s9)
  else (
  some (r8, s9)))))
set_option maxHeartbeats 4000000 in
set_option maxRecDepth 100000 in
theorem t_X3_following {X : CX} {res : Int32 × St} (B : BI X cX3_following RX3 2 2 NN (some .int) res) (fu : Nat) (th : Nat) (st : St) : WW X res NN 0 [(0, .ref (x_b X + th))] [] st (f_X3_following fu th st) := by
  have hX := B.1
  have hL := B.2.1
  unfold f_X3_following
  refine ww_aload_n hX 0 rfl dX3_following_0 rfl ?_
  refine ww_getI hX f_X3_31 (Or.inl rfl) dX3_following_1 ?_
  refine ww_if_lt (tgt := 62) hX dX3_following_4 (by decide) ?_ ?_
  · exact t_X3_following_62 B fu th  st
  · refine ww_aload_n hX 0 rfl dX3_following_7 rfl ?_
    refine ww_getI hX f_X3_31 (Or.inl rfl) dX3_following_8 ?_
    refine ww_aload_n hX 0 rfl dX3_following_11 rfl ?_
    refine ww_getR hX f_X3_12 (Or.inl ⟨_, rfl⟩) dX3_following_12 ?_
    refine ww_bdR (fun o2 => ?_)
    refine ww_getI hX f_X3_51 (Or.inl rfl) dX3_following_15 ?_
    refine ww_icmp_ge (tgt := 62) hX dX3_following_18 (by decide) ?_ ?_
    · exact t_X3_following_62 B fu th  st
    · refine ww_aload_n hX 0 rfl dX3_following_21 rfl ?_
      refine ww_getR hX f_X3_12 (Or.inl ⟨_, rfl⟩) dX3_following_22 ?_
      refine ww_bdR (fun o3 => ?_)
      refine ww_getR hX f_X3_57 (Or.inr ⟨_, rfl⟩) dX3_following_25 ?_
      refine ww_bdR (fun o4 => ?_)
      refine ww_aload_n hX 0 rfl dX3_following_28 rfl ?_
      refine ww_getI hX f_X3_31 (Or.inl rfl) dX3_following_29 ?_
      refine ww_ialdc hX k_iald dX3_following_32 ?_
      refine ww_if_le (tgt := 62) hX dX3_following_33 (by decide) ?_ ?_
      · exact t_X3_following_62 B fu th  st
      · refine ww_aload_n hX 0 rfl dX3_following_36 rfl ?_
        refine ww_getR hX f_X3_12 (Or.inl ⟨_, rfl⟩) dX3_following_37 ?_
        refine ww_bdR (fun o5 => ?_)
        refine ww_aload_n hX 0 rfl dX3_following_40 rfl ?_
        refine ww_getR hX f_X3_12 (Or.inl ⟨_, rfl⟩) dX3_following_41 ?_
        refine ww_bdR (fun o6 => ?_)
        refine ww_getR hX f_X3_57 (Or.inr ⟨_, rfl⟩) dX3_following_44 ?_
        refine ww_bdR (fun o7 => ?_)
        refine ww_aload_n hX 0 rfl dX3_following_47 rfl ?_
        refine ww_getI hX f_X3_31 (Or.inl rfl) dX3_following_48 ?_
        refine ww_pc (b := 51) rfl ?_
        refine ww_ialdc hX k_iald dX3_following_51 ?_
        refine ww_callVI (As := [.int (gI st o7 (ix (gI st th 5)))]) (rest := []) (o := o5) hX (Rk.of B.2.2.1 B.2.2.2.1 (by decide) (by decide)) g_X3_60 g_X3_60.in (fun _ => c_X8_find (x_G X) (x_l X) fu o5 (gI st o7 (ix (gI st th 5))) st) rfl rfl (Nat.le_of_ble_eq_true rfl) dX3_following_52 (fun r8 s9 => ?_)
        refine ww_istore_n (lv' := [(1, .int r8), (0, .ref (x_b X + th))]) hX hL dX3_following_55 rfl (by decide) rfl ?_
        refine ww_iload_n hX 0 rfl dX3_following_56 rfl ?_
        refine ww_if_lt (tgt := 62) hX dX3_following_57 (by decide) ?_ ?_
        · exact ww_sub [1] rfl (t_X3_following_62 B fu th  s9)
        · refine ww_iload_n hX 0 rfl dX3_following_60 rfl ?_
          exact ww_iret B dX3_following_61
theorem c_X3_following (G : GX) (l : Launch) (fu : Nat) (th : Nat) (st : St) : MI G NN l yX3_following cX3_following 2 (some .int) 2 [.ref (G.2.2.1 + th)] st (f_X3_following fu th st) := mkI (by decide) (Nat.le_of_ble_eq_true rfl) (fun X res hl hG B => by subst hl; subst hG; exact t_X3_following B fu th st)
/-! StageHouse$Board.step(II)V -/
def b_X1_step_62 (fu : Nat)   (st : St) : Option (St) :=
  some st
set_option maxHeartbeats 4000000 in
set_option maxRecDepth 100000 in
theorem t_X1_step_62 {X : CX} {res : St} (B : BV X cX1_step RX1 4 7 NN none res) (fu : Nat)   (st : St) : WW X res NN 62 [] [] st (b_X1_step_62 fu  st) := by
  have hX := B.1
  have hL := B.2.1
  unfold b_X1_step_62
  exact ww_vret B dX1_step_62
def f_X1_step (fu : Nat) (th : Nat) (p1 : Int32) (p2 : Int32) (st : St) : Option (St) :=
  ck (¬ gR st th 0 = 0) <|
  ck ((kd th).1 = 1) <|
  bd (gR st th 0) fun o1 =>
  ck (¬ gR st o1 (ix p1) = 0) <|
  ck ((kd o1).1 = 104 ∧ inb p1 (kd o1).2) <|
  bd (gR st o1 (ix p1)) fun o2 =>
  ck ((kd o2).1 = 3) <|
  if (gI st o2 6) = 0 then (
  ck ((kd o2).1 = 3) <|
  if (gI st o2 8) = ((-1)) then (
  b_X1_step_62 fu   st)
  else (
  ck ((kd o2).1 = 3) <|
  if p2 < (gI st o2 8) then (
  b_X1_step_62 fu   st)
  else (
  ck ((kd o2).1 = 3) <|
  bd (sI st o2 8 ((-1))) fun s3 =>
  ck ((kd o2).1 = 3) <|
  ca (f_X3_following fu o2 s3) fun r4 s5 =>
  ck ((kd th).1 = 1) <|
  cv (f_X1_start fu th p1 r4 p2 s5) fun s6 =>
  b_X1_step_62 fu   s6)))
  else (
  ck ((kd o2).1 = 3) <|
  if p2 < (gI st o2 7) then (
  b_X1_step_62 fu   st)
  else (
  ck ((kd th).1 = 1) <|
  cv (f_X1_begin fu th p1 p2 st) fun s7 =>
  b_X1_step_62 fu   s7))
set_option maxHeartbeats 4000000 in
set_option maxRecDepth 100000 in
theorem t_X1_step {X : CX} {res : St} (B : BV X cX1_step RX1 4 7 NN none res) (fu : Nat) (th : Nat) (p1 : Int32) (p2 : Int32) (st : St) : WW X res NN 0 [(0, .ref (x_b X + th)), (1, .int p1), (2, .int p2)] [] st (f_X1_step fu th p1 p2 st) := by
  have hX := B.1
  have hL := B.2.1
  unfold f_X1_step
  refine ww_aload_n hX 0 rfl dX1_step_0 rfl ?_
  refine ww_getR hX f_X1_11 (Or.inr ⟨_, rfl⟩) dX1_step_1 ?_
  refine ww_bdR (fun o1 => ?_)
  refine ww_iload_n hX 1 rfl dX1_step_4 rfl ?_
  refine ww_aald104c hX k_aald104 dX1_step_5 ?_
  refine ww_bdR (fun o2 => ?_)
  refine ww_astore_n (lv' := [(3, .ref (x_b X + o2)), (0, .ref (x_b X + th)), (1, .int p1), (2, .int p2)]) hX hL dX1_step_6 rfl (by decide) rfl ?_
  refine ww_aload_n hX 0 rfl dX1_step_7 rfl ?_
  refine ww_getI hX f_X1_71 (Or.inr rfl) dX1_step_8 ?_
  refine ww_pc (b := 11) rfl ?_
  refine ww_if_eq (tgt := 31) hX dX1_step_11 (by decide) ?_ ?_
  · refine ww_aload_n hX 0 rfl dX1_step_31 rfl ?_
    refine ww_getI hX f_X1_78 (Or.inl rfl) dX1_step_32 ?_
    refine ww_iconst (v := (-1)) hX rfl dX1_step_35 ?_
    refine ww_icmp_eq (tgt := 62) hX dX1_step_36 (by decide) ?_ ?_
    · exact ww_sub [] rfl (t_X1_step_62 B fu   st)
    · refine ww_aload_n hX 0 rfl dX1_step_39 rfl ?_
      refine ww_getI hX f_X1_78 (Or.inl rfl) dX1_step_40 ?_
      refine ww_iload_n hX 3 rfl dX1_step_43 rfl ?_
      refine ww_icmp_gt (tgt := 62) hX dX1_step_44 (by decide) ?_ ?_
      · exact ww_sub [] rfl (t_X1_step_62 B fu   st)
      · refine ww_aload_n hX 0 rfl dX1_step_47 rfl ?_
        refine ww_iconst (v := (-1)) hX rfl dX1_step_48 ?_
        refine ww_putI hX f_X1_78 rfl dX1_step_49 ?_
        refine ww_bds (fun s3 => ?_)
        refine ww_aload_n hX 1 rfl dX1_step_52 rfl ?_
        refine ww_iload_n hX 2 rfl dX1_step_53 rfl ?_
        refine ww_aload_n hX 0 rfl dX1_step_54 rfl ?_
        refine ww_callVI (As := []) (rest := [.int p1, .ref (x_b X + th)]) (o := o2) hX (Rk.of B.2.2.1 B.2.2.2.1 (by decide) (by decide)) g_X1_81 g_X1_81.in (fun _ => c_X3_following (x_G X) (x_l X) fu o2 s3) rfl rfl (Nat.le_of_ble_eq_true rfl) dX1_step_55 (fun r4 s5 => ?_)
        refine ww_pc (b := 58) rfl ?_
        refine ww_iload_n hX 3 rfl dX1_step_58 rfl ?_
        refine ww_callVV (As := [.int p1, .int r4, .int p2]) (rest := []) (o := th) hX (Rk.of B.2.2.1 B.2.2.2.1 (by decide) (by decide)) g_X1_85 g_X1_85.in (fun _ => c_X1_start (x_G X) (x_l X) fu th p1 r4 p2 s5) rfl rfl (Nat.le_of_ble_eq_true rfl) dX1_step_59 (fun s6 => ?_)
        exact ww_sub [] rfl (t_X1_step_62 B fu   s6)
  · refine ww_aload_n hX 0 rfl dX1_step_14 rfl ?_
    refine ww_getI hX f_X1_75 (Or.inl rfl) dX1_step_15 ?_
    refine ww_iload_n hX 3 rfl dX1_step_18 rfl ?_
    refine ww_icmp_gt (tgt := 62) hX dX1_step_19 (by decide) ?_ ?_
    · exact ww_sub [] rfl (t_X1_step_62 B fu   st)
    · refine ww_aload_n hX 1 rfl dX1_step_22 rfl ?_
      refine ww_iload_n hX 2 rfl dX1_step_23 rfl ?_
      refine ww_iload_n hX 3 rfl dX1_step_24 rfl ?_
      refine ww_callVV (As := [.int p1, .int p2]) (rest := []) (o := th) hX (Rk.of B.2.2.1 B.2.2.2.1 (by decide) (by decide)) g_X1_68 g_X1_68.in (fun _ => c_X1_begin (x_G X) (x_l X) fu th p1 p2 st) rfl rfl (Nat.le_of_ble_eq_true rfl) dX1_step_25 (fun s7 => ?_)
      refine ww_goto (tgt := 62) hX dX1_step_28 (by decide) ?_
      exact ww_sub [] rfl (t_X1_step_62 B fu   s7)
theorem c_X1_step (G : GX) (l : Launch) (fu : Nat) (th : Nat) (p1 : Int32) (p2 : Int32) (st : St) : MV G NN l yX1_step cX1_step 4 none 7 [.ref (G.2.2.1 + th), .int p1, .int p2] st (f_X1_step fu th p1 p2 st) := mkV (by decide) (Nat.le_of_ble_eq_true rfl) (fun X res hl hG B => by subst hl; subst hG; exact t_X1_step B fu th p1 p2 st)
/-! StageHouse$Board.scaled(II)I -/
def f_X1_scaled (fu : Nat) (p0 : Int32) (p1 : Int32) (st : St) : Option (Int32 × St) :=
  ck (¬ 510 = 0) <|
  some ((((2 * p0) * p1) + 255) / 510, st)
set_option maxHeartbeats 4000000 in
set_option maxRecDepth 100000 in
theorem t_X1_scaled {X : CX} {res : Int32 × St} (B : BI X cX1_scaled RX1 2 1 NN (some .int) res) (fu : Nat) (p0 : Int32) (p1 : Int32) (st : St) : WW X res NN 0 [(0, .int p0), (1, .int p1)] [] st (f_X1_scaled fu p0 p1 st) := by
  have hX := B.1
  have hL := B.2.1
  unfold f_X1_scaled
  refine ww_iconst (v := 2) hX rfl dX1_scaled_0 ?_
  refine ww_iload_n hX 0 rfl dX1_scaled_1 rfl ?_
  refine ww_imul hX dX1_scaled_2 ?_
  refine ww_iload_n hX 1 rfl dX1_scaled_3 rfl ?_
  refine ww_imul hX dX1_scaled_4 ?_
  refine ww_sipush (v := 255) hX rfl dX1_scaled_5 ?_
  refine ww_iadd hX dX1_scaled_8 ?_
  refine ww_pc (b := 9) rfl ?_
  refine ww_sipush (v := 510) hX rfl dX1_scaled_9 ?_
  refine ww_idiv hX dX1_scaled_12 ?_
  exact ww_iret B dX1_scaled_13
theorem c_X1_scaled (G : GX) (l : Launch) (fu : Nat) (p0 : Int32) (p1 : Int32) (st : St) : MI G NN l yX1_scaled cX1_scaled 2 (some .int) 1 [.int p0, .int p1] st (f_X1_scaled fu p0 p1 st) := mkI (by decide) (Nat.le_of_ble_eq_true rfl) (fun X res hl hG B => by subst hl; subst hG; exact t_X1_scaled B fu p0 p1 st)
/-! StageHouse$Board.mixed(II)I -/
def b_X1_mixed_38_b (fu : Nat) (k_38 : Nat → Int32 → Int32 → Int32 → Int32 → St → Option (Int32 × St)) (x0 : Nat) (x1 : Int32) (x2 : Int32) (x3 : Int32) (x4 : Int32)  (st : St) : Option (Int32 × St) :=
  if 4 ≤ x4 then (
  some (x3, st))
  else (
  ck (¬ gR st x0 0 = 0) <|
  ck ((kd x0).1 = 1) <|
  bd (gR st x0 0) fun o1 =>
  ck (¬ gR st o1 (ix x4) = 0) <|
  ck ((kd o1).1 = 104 ∧ inb x4 (kd o1).2) <|
  bd (gR st o1 (ix x4)) fun o2 =>
  ck ((kd o2).1 = 3) <|
  ca (f_X3_levelAt fu o2 x1 x2 st) fun r3 s4 =>
  ck (¬ gR s4 x0 0 = 0) <|
  ck ((kd x0).1 = 1) <|
  bd (gR s4 x0 0) fun o5 =>
  ck (¬ gR s4 o5 (ix x4) = 0) <|
  ck ((kd o5).1 = 104 ∧ inb x4 (kd o5).2) <|
  bd (gR s4 o5 (ix x4)) fun o6 =>
  ck ((kd o6).1 = 3) <|
  ca (f_X1_scaled fu r3 (gI s4 o6 9) s4) fun r7 s8 =>
  ca (f_J9_max_7cf53 fu x3 r7 s8) fun r9 s10 =>
  bd (x4 + 1) fun v11 =>
  k_38 x0 x1 x2 r9 v11  s10)
set_option maxHeartbeats 4000000 in
set_option maxRecDepth 100000 in
theorem t_X1_mixed_38_b {X : CX} {res : Int32 × St} (B : BI X cX1_mixed RX1 5 3 NN (some .int) res) (fu : Nat) (k_38 : Nat → Int32 → Int32 → Int32 → Int32 → St → Option (Int32 × St)) (h_38 : ∀ (x0 : Nat) (x1 : Int32) (x2 : Int32) (x3 : Int32) (x4 : Int32)  (st : St), WW X res NN 38 [(0, .ref (x_b X + x0)), (1, .int x1), (2, .int x2), (3, .int x3), (4, .int x4)] [] st (k_38 x0 x1 x2 x3 x4 st)) (x0 : Nat) (x1 : Int32) (x2 : Int32) (x3 : Int32) (x4 : Int32)  (st : St) : WW X res NN 38 [(0, .ref (x_b X + x0)), (1, .int x1), (2, .int x2), (3, .int x3), (4, .int x4)] [] st (b_X1_mixed_38_b fu k_38 x0 x1 x2 x3 x4 st) := by
  have hX := B.1
  have hL := B.2.1
  unfold b_X1_mixed_38_b
  refine ww_iload hX 4 rfl dX1_mixed_38 ?_
  refine ww_iconst (v := 4) hX rfl dX1_mixed_40 ?_
  refine ww_icmp_ge (tgt := 80) hX dX1_mixed_41 (by decide) ?_ ?_
  · refine ww_iload_n hX 3 rfl dX1_mixed_80 rfl ?_
    exact ww_iret B dX1_mixed_81
  · refine ww_iload_n hX 3 rfl dX1_mixed_44 rfl ?_
    refine ww_aload_n hX 0 rfl dX1_mixed_45 rfl ?_
    refine ww_getR hX f_X1_11 (Or.inr ⟨_, rfl⟩) dX1_mixed_46 ?_
    refine ww_bdR (fun o1 => ?_)
    refine ww_iload hX 4 rfl dX1_mixed_49 ?_
    refine ww_aald104c hX k_aald104 dX1_mixed_51 ?_
    refine ww_bdR (fun o2 => ?_)
    refine ww_iload_n hX 1 rfl dX1_mixed_52 rfl ?_
    refine ww_iload_n hX 2 rfl dX1_mixed_53 rfl ?_
    refine ww_pc (b := 54) rfl ?_
    refine ww_callVI (As := [.int x1, .int x2]) (rest := [.int x3]) (o := o2) hX (Rk.of B.2.2.1 B.2.2.2.1 (by decide) (by decide)) g_X1_157 g_X1_157.in (fun _ => c_X3_levelAt (x_G X) (x_l X) fu o2 x1 x2 st) rfl rfl (Nat.le_of_ble_eq_true rfl) dX1_mixed_54 (fun r3 s4 => ?_)
    refine ww_aload_n hX 0 rfl dX1_mixed_57 rfl ?_
    refine ww_getR hX f_X1_11 (Or.inr ⟨_, rfl⟩) dX1_mixed_58 ?_
    refine ww_bdR (fun o5 => ?_)
    refine ww_iload hX 4 rfl dX1_mixed_61 ?_
    refine ww_aald104c hX k_aald104 dX1_mixed_63 ?_
    refine ww_bdR (fun o6 => ?_)
    refine ww_getI hX f_X1_144 (Or.inl rfl) dX1_mixed_64 ?_
    refine ww_callSI (As := [.int r3, .int (gI s4 o6 9)]) (rest := [.int x3]) hX (Rk.of B.2.2.1 B.2.2.2.1 (by decide) (by decide)) g_X1_160 (c_X1_scaled (x_G X) (x_l X) fu r3 (gI s4 o6 9) s4) rfl rfl (Nat.le_of_ble_eq_true rfl) dX1_mixed_67 (fun r7 s8 => ?_)
    refine ww_callSI (As := [.int x3, .int r7]) (rest := []) hX (Rk.of B.2.2.1 B.2.2.2.1 (by decide) (by decide)) g_X1_151 (c_J9_max_7cf53 (x_G X) (x_l X) fu x3 r7 s8) rfl rfl (Nat.le_of_ble_eq_true rfl) dX1_mixed_70 (fun r9 s10 => ?_)
    refine ww_pc (b := 73) rfl ?_
    refine ww_istore_n (lv' := [(3, .int r9), (0, .ref (x_b X + x0)), (1, .int x1), (2, .int x2), (4, .int x4)]) hX hL dX1_mixed_73 rfl (by decide) rfl ?_
    refine ww_iincb (lv' := fun v11 => [(4, .int v11), (3, .int r9), (0, .ref (x_b X + x0)), (1, .int x1), (2, .int x2)]) (c := 1) hX hL 4 rfl dX1_mixed_74 rfl (by decide) (fun _ => rfl) (fun v11 => ?_)
    refine ww_goto (tgt := 38) hX dX1_mixed_77 (by decide) ?_
    exact ww_sub [2, 3, 4, 1, 0] rfl (h_38 x0 x1 x2 r9 v11  s10)
def b_X1_mixed_38 (fu : Nat) : Nat → Nat → Int32 → Int32 → Int32 → Int32 → St → Option (Int32 × St)
  | 0, _, _, _, _, _, _ => none
  | i + 1, x0, x1, x2, x3, x4, st => b_X1_mixed_38_b fu (b_X1_mixed_38 fu i) x0 x1 x2 x3 x4 st
theorem t_X1_mixed_38 {X : CX} {res : Int32 × St} (B : BI X cX1_mixed RX1 5 3 NN (some .int) res) (fu : Nat) : ∀ (i : Nat) (x0 : Nat) (x1 : Int32) (x2 : Int32) (x3 : Int32) (x4 : Int32)  (st : St), WW X res NN 38 [(0, .ref (x_b X + x0)), (1, .int x1), (2, .int x2), (3, .int x3), (4, .int x4)] [] st (b_X1_mixed_38 fu i x0 x1 x2 x3 x4 st) := by
  intro i
  induction i with
  | zero => intro x0 x1 x2 x3 x4 st; exact ww_none
  | succ i ih => intro x0 x1 x2 x3 x4 st; exact t_X1_mixed_38_b B fu (b_X1_mixed_38 fu i) ih x0 x1 x2 x3 x4 st
def b_X1_mixed_32 (fu : Nat)  (y0 : Int32) (st : St) : Option (Int32 × St) :=
  some (y0, st)
set_option maxHeartbeats 4000000 in
set_option maxRecDepth 100000 in
theorem t_X1_mixed_32 {X : CX} {res : Int32 × St} (B : BI X cX1_mixed RX1 5 3 NN (some .int) res) (fu : Nat)  (y0 : Int32) (st : St) : WW X res NN 32 [] [.int y0] st (b_X1_mixed_32 fu y0 st) := by
  have hX := B.1
  have hL := B.2.1
  unfold b_X1_mixed_32
  exact ww_iret B dX1_mixed_32
def f_X1_mixed (fu : Nat) (th : Nat) (p1 : Int32) (p2 : Int32) (st : St) : Option (Int32 × St) :=
  if p1 < 48 then (
  b_X1_mixed_38 fu fu th p1 p2 0 0  st)
  else (
  ck (¬ gR st th 1 = 0) <|
  ck ((kd th).1 = 1) <|
  bd (gR st th 1) fun o12 =>
  ck ((kd o12).1 = 100 ∧ inb p1 (kd o12).2) <|
  bd (gI st o12 (ix p1)) fun v13 =>
  if 0 ≤ v13 then (
  ck (¬ gR st th 0 = 0) <|
  ck ((kd th).1 = 1) <|
  bd (gR st th 0) fun o14 =>
  ck (¬ gR st o14 (ix v13) = 0) <|
  ck ((kd o14).1 = 104 ∧ inb v13 (kd o14).2) <|
  bd (gR st o14 (ix v13)) fun o15 =>
  ck ((kd o15).1 = 3) <|
  ca (f_X3_levelAt fu o15 p1 p2 st) fun r16 s17 =>
  b_X1_mixed_32 fu  r16 s17)
  else (
  b_X1_mixed_32 fu  0 st))
set_option maxHeartbeats 4000000 in
set_option maxRecDepth 100000 in
theorem t_X1_mixed {X : CX} {res : Int32 × St} (B : BI X cX1_mixed RX1 5 3 NN (some .int) res) (fu : Nat) (th : Nat) (p1 : Int32) (p2 : Int32) (st : St) : WW X res NN 0 [(0, .ref (x_b X + th)), (1, .int p1), (2, .int p2)] [] st (f_X1_mixed fu th p1 p2 st) := by
  have hX := B.1
  have hL := B.2.1
  unfold f_X1_mixed
  refine ww_iload_n hX 1 rfl dX1_mixed_0 rfl ?_
  refine ww_bipush (v := 48) hX rfl dX1_mixed_1 ?_
  refine ww_icmp_lt (tgt := 33) hX dX1_mixed_3 (by decide) ?_ ?_
  · refine ww_iconst (v := 0) hX rfl dX1_mixed_33 ?_
    refine ww_istore_n (lv' := [(3, .int 0), (0, .ref (x_b X + th)), (1, .int p1), (2, .int p2)]) hX hL dX1_mixed_34 rfl (by decide) rfl ?_
    refine ww_iconst (v := 0) hX rfl dX1_mixed_35 ?_
    refine ww_istore (lv' := [(4, .int 0), (3, .int 0), (0, .ref (x_b X + th)), (1, .int p1), (2, .int p2)]) hX hL dX1_mixed_36 (by decide) rfl ?_
    exact ww_sub [2, 3, 4, 1, 0] rfl (t_X1_mixed_38 B fu fu th p1 p2 0 0  st)
  · refine ww_aload_n hX 0 rfl dX1_mixed_6 rfl ?_
    refine ww_getR hX f_X1_17 (Or.inr ⟨_, rfl⟩) dX1_mixed_7 ?_
    refine ww_bdR (fun o12 => ?_)
    refine ww_iload_n hX 1 rfl dX1_mixed_10 rfl ?_
    refine ww_ialdc hX k_iald dX1_mixed_11 ?_
    refine ww_bdi (fun v13 => ?_)
    refine ww_istore_n (lv' := [(3, .int v13), (0, .ref (x_b X + th)), (1, .int p1), (2, .int p2)]) hX hL dX1_mixed_12 rfl (by decide) rfl ?_
    refine ww_iload_n hX 0 rfl dX1_mixed_13 rfl ?_
    refine ww_if_ge (tgt := 21) hX dX1_mixed_14 (by decide) ?_ ?_
    · refine ww_aload_n hX 1 rfl dX1_mixed_21 rfl ?_
      refine ww_getR hX f_X1_11 (Or.inr ⟨_, rfl⟩) dX1_mixed_22 ?_
      refine ww_bdR (fun o14 => ?_)
      refine ww_iload_n hX 0 rfl dX1_mixed_25 rfl ?_
      refine ww_aald104c hX k_aald104 dX1_mixed_26 ?_
      refine ww_bdR (fun o15 => ?_)
      refine ww_iload_n hX 2 rfl dX1_mixed_27 rfl ?_
      refine ww_iload_n hX 3 rfl dX1_mixed_28 rfl ?_
      refine ww_callVI (As := [.int p1, .int p2]) (rest := []) (o := o15) hX (Rk.of B.2.2.1 B.2.2.2.1 (by decide) (by decide)) g_X1_157 g_X1_157.in (fun _ => c_X3_levelAt (x_G X) (x_l X) fu o15 p1 p2 st) rfl rfl (Nat.le_of_ble_eq_true rfl) dX1_mixed_29 (fun r16 s17 => ?_)
      exact ww_sub [] rfl (t_X1_mixed_32 B fu  r16 s17)
    · refine ww_iconst (v := 0) hX rfl dX1_mixed_17 ?_
      refine ww_goto (tgt := 32) hX dX1_mixed_18 (by decide) ?_
      exact ww_sub [] rfl (t_X1_mixed_32 B fu  0 st)
theorem c_X1_mixed (G : GX) (l : Launch) (fu : Nat) (th : Nat) (p1 : Int32) (p2 : Int32) (st : St) : MI G NN l yX1_mixed cX1_mixed 5 (some .int) 3 [.ref (G.2.2.1 + th), .int p1, .int p2] st (f_X1_mixed fu th p1 p2 st) := mkI (by decide) (Nat.le_of_ble_eq_true rfl) (fun X res hl hG B => by subst hl; subst hG; exact t_X1_mixed B fu th p1 p2 st)
/-! StageHouse$Board.sent(II)I -/
def b_X1_sent_92 (fu : Nat) (x0 : Nat) (x3 : Int32)  (st : St) : Option (Int32 × St) :=
  ck ((kd x0).1 = 1) <|
  ca (f_X1_scaled fu x3 (gI st x0 7) st) fun r9 s10 =>
  some (r9, s10)
set_option maxHeartbeats 4000000 in
set_option maxRecDepth 100000 in
theorem t_X1_sent_92 {X : CX} {res : Int32 × St} (B : BI X cX1_sent RX1 4 4 NN (some .int) res) (fu : Nat) (x0 : Nat) (x3 : Int32)  (st : St) : WW X res NN 92 [(0, .ref (x_b X + x0)), (3, .int x3)] [] st (b_X1_sent_92 fu x0 x3 st) := by
  have hX := B.1
  have hL := B.2.1
  unfold b_X1_sent_92
  refine ww_iload_n hX 1 rfl dX1_sent_92 rfl ?_
  refine ww_aload_n hX 0 rfl dX1_sent_93 rfl ?_
  refine ww_getI hX f_X1_37 (Or.inl rfl) dX1_sent_94 ?_
  refine ww_callSI (As := [.int x3, .int (gI st x0 7)]) (rest := []) hX (Rk.of B.2.2.1 B.2.2.2.1 (by decide) (by decide)) g_X1_160 (c_X1_scaled (x_G X) (x_l X) fu x3 (gI st x0 7) st) rfl rfl (Nat.le_of_ble_eq_true rfl) dX1_sent_97 (fun r9 s10 => ?_)
  exact ww_iret B dX1_sent_100
def b_X1_sent_79 (fu : Nat) (x0 : Nat) (y0 : Int32) (st : St) : Option (Int32 × St) :=
  b_X1_sent_92 fu x0 y0  st
set_option maxHeartbeats 4000000 in
set_option maxRecDepth 100000 in
theorem t_X1_sent_79 {X : CX} {res : Int32 × St} (B : BI X cX1_sent RX1 4 4 NN (some .int) res) (fu : Nat) (x0 : Nat) (y0 : Int32) (st : St) : WW X res NN 79 [(0, .ref (x_b X + x0))] [.int y0] st (b_X1_sent_79 fu x0 y0 st) := by
  have hX := B.1
  have hL := B.2.1
  unfold b_X1_sent_79
  refine ww_istore_n (lv' := [(3, .int y0), (0, .ref (x_b X + x0))]) hX hL dX1_sent_79 rfl (by decide) rfl ?_
  refine ww_goto (tgt := 92) hX dX1_sent_80 (by decide) ?_
  exact ww_sub [1, 0] rfl (t_X1_sent_92 B fu x0 y0  st)
def f_X1_sent (fu : Nat) (th : Nat) (p1 : Int32) (p2 : Int32) (st : St) : Option (Int32 × St) :=
  ck (¬ gR st th 3 = 0) <|
  ck ((kd th).1 = 1) <|
  bd (gR st th 3) fun o1 =>
  ck ((kd o1).1 = 100 ∧ inb p1 (kd o1).2) <|
  if (gI st o1 (ix p1)) = 0 then (
  some (0, st))
  else (
  ck (¬ gR st th 3 = 0) <|
  ck ((kd th).1 = 1) <|
  bd (gR st th 3) fun o2 =>
  ck ((kd o2).1 = 100 ∧ inb p1 (kd o2).2) <|
  ck ((kd th).1 = 1) <|
  ca (f_X1_mixed fu th ((gI st o2 (ix p1)) - 1) p2 st) fun r3 s4 =>
  ck (¬ gR s4 th 4 = 0) <|
  ck ((kd th).1 = 1) <|
  bd (gR s4 th 4) fun o5 =>
  ck ((kd o5).1 = 100 ∧ inb p1 (kd o5).2) <|
  bd (gI s4 o5 (ix p1)) fun v6 =>
  if v6 = 1 then (
  ca (f_X1_scaled fu r3 r3 s4) fun r7 s8 =>
  b_X1_sent_92 fu th r7  s8)
  else if v6 = 2 then (
  if r3 < 128 then (
  b_X1_sent_79 fu th 0 s4)
  else (
  b_X1_sent_79 fu th 255 s4))
  else if v6 = 3 then (
  bd (255 - r3) fun v11 =>
  b_X1_sent_92 fu th v11  s4)
  else (
  b_X1_sent_92 fu th r3  s4))
set_option maxHeartbeats 4000000 in
set_option maxRecDepth 100000 in
theorem t_X1_sent {X : CX} {res : Int32 × St} (B : BI X cX1_sent RX1 4 4 NN (some .int) res) (fu : Nat) (th : Nat) (p1 : Int32) (p2 : Int32) (st : St) : WW X res NN 0 [(0, .ref (x_b X + th)), (1, .int p1), (2, .int p2)] [] st (f_X1_sent fu th p1 p2 st) := by
  have hX := B.1
  have hL := B.2.1
  unfold f_X1_sent
  refine ww_aload_n hX 0 rfl dX1_sent_0 rfl ?_
  refine ww_getR hX f_X1_24 (Or.inr ⟨_, rfl⟩) dX1_sent_1 ?_
  refine ww_bdR (fun o1 => ?_)
  refine ww_iload_n hX 1 rfl dX1_sent_4 rfl ?_
  refine ww_ialdc hX k_iald dX1_sent_5 ?_
  refine ww_if_ne (tgt := 11) hX dX1_sent_6 (by decide) ?_ ?_
  · refine ww_aload_n hX 0 rfl dX1_sent_11 rfl ?_
    refine ww_aload_n hX 0 rfl dX1_sent_12 rfl ?_
    refine ww_getR hX f_X1_24 (Or.inr ⟨_, rfl⟩) dX1_sent_13 ?_
    refine ww_bdR (fun o2 => ?_)
    refine ww_iload_n hX 1 rfl dX1_sent_16 rfl ?_
    refine ww_ialdc hX k_iald dX1_sent_17 ?_
    refine ww_iconst (v := 1) hX rfl dX1_sent_18 ?_
    refine ww_isub hX dX1_sent_19 ?_
    refine ww_pc (b := 20) rfl ?_
    refine ww_iload_n hX 2 rfl dX1_sent_20 rfl ?_
    refine ww_callVI (As := [.int ((gI st o2 (ix p1)) - 1), .int p2]) (rest := []) (o := th) hX (Rk.of B.2.2.1 B.2.2.2.1 (by decide) (by decide)) g_X1_163 g_X1_163.in (fun _ => c_X1_mixed (x_G X) (x_l X) fu th ((gI st o2 (ix p1)) - 1) p2 st) rfl rfl (Nat.le_of_ble_eq_true rfl) dX1_sent_21 (fun r3 s4 => ?_)
    refine ww_istore_n (lv' := [(3, .int r3), (0, .ref (x_b X + th)), (1, .int p1), (2, .int p2)]) hX hL dX1_sent_24 rfl (by decide) rfl ?_
    refine ww_aload_n hX 1 rfl dX1_sent_25 rfl ?_
    refine ww_getR hX f_X1_27 (Or.inr ⟨_, rfl⟩) dX1_sent_26 ?_
    refine ww_bdR (fun o5 => ?_)
    refine ww_iload_n hX 2 rfl dX1_sent_29 rfl ?_
    refine ww_ialdc hX k_iald dX1_sent_30 ?_
    refine ww_bdi (fun v6 => ?_)
    refine ww_if (fun c31_0 => ?_) (fun c31_0 => ?_)
    · refine ww_tsw (off := 25) (tgt := 56) hX dX1_sent_31 (by rw [c31_0]; decide) (by rw [c31_0]; decide) (by rw [c31_0]; rfl) (by decide) ?_
      refine ww_iload_n hX 0 rfl dX1_sent_56 rfl ?_
      refine ww_iload_n hX 0 rfl dX1_sent_57 rfl ?_
      refine ww_callSI (As := [.int r3, .int r3]) (rest := []) hX (Rk.of B.2.2.1 B.2.2.2.1 (by decide) (by decide)) g_X1_160 (c_X1_scaled (x_G X) (x_l X) fu r3 r3 s4) rfl rfl (Nat.le_of_ble_eq_true rfl) dX1_sent_58 (fun r7 s8 => ?_)
      refine ww_istore_n (lv' := [(3, .int r7), (0, .ref (x_b X + th)), (1, .int p1), (2, .int p2)]) hX hL dX1_sent_61 rfl (by decide) rfl ?_
      refine ww_goto (tgt := 92) hX dX1_sent_62 (by decide) ?_
      exact ww_sub [1, 0] rfl (t_X1_sent_92 B fu th r7  s8)
    refine ww_if (fun c31_1 => ?_) (fun c31_1 => ?_)
    · refine ww_tsw (off := 34) (tgt := 65) hX dX1_sent_31 (by rw [c31_1]; decide) (by rw [c31_1]; decide) (by rw [c31_1]; rfl) (by decide) ?_
      refine ww_iload_n hX 0 rfl dX1_sent_65 rfl ?_
      refine ww_sipush (v := 128) hX rfl dX1_sent_66 ?_
      refine ww_icmp_lt (tgt := 78) hX dX1_sent_69 (by decide) ?_ ?_
      · refine ww_iconst (v := 0) hX rfl dX1_sent_78 ?_
        exact ww_sub [1] rfl (t_X1_sent_79 B fu th 0 s4)
      · refine ww_sipush (v := 255) hX rfl dX1_sent_72 ?_
        refine ww_goto (tgt := 79) hX dX1_sent_75 (by decide) ?_
        exact ww_sub [1] rfl (t_X1_sent_79 B fu th 255 s4)
    refine ww_if (fun c31_2 => ?_) (fun c31_2 => ?_)
    · refine ww_tsw (off := 52) (tgt := 83) hX dX1_sent_31 (by rw [c31_2]; decide) (by rw [c31_2]; decide) (by rw [c31_2]; rfl) (by decide) ?_
      refine ww_sipush (v := 255) hX rfl dX1_sent_83 ?_
      refine ww_iload_n hX 0 rfl dX1_sent_86 rfl ?_
      refine ww_isub hX dX1_sent_87 ?_
      refine ww_bdi (fun v11 => ?_)
      refine ww_istore_n (lv' := [(3, .int v11), (0, .ref (x_b X + th)), (1, .int p1), (2, .int p2)]) hX hL dX1_sent_88 rfl (by decide) rfl ?_
      refine ww_goto (tgt := 92) hX dX1_sent_89 (by decide) ?_
      exact ww_sub [1, 0] rfl (t_X1_sent_92 B fu th v11  s4)
    refine ww_tswd (tgt := 92) hX dX1_sent_31 (by have z0 : v6.toInt ≠ 1 := fun q => c31_0 (Int32.toInt_inj.mp (q.trans (by decide))); have z1 : v6.toInt ≠ 2 := fun q => c31_1 (Int32.toInt_inj.mp (q.trans (by decide))); have z2 : v6.toInt ≠ 3 := fun q => c31_2 (Int32.toInt_inj.mp (q.trans (by decide))); omega) (by decide) ?_
    exact ww_sub [1, 0] rfl (t_X1_sent_92 B fu th r3  s4)
  · refine ww_iconst (v := 0) hX rfl dX1_sent_9 ?_
    exact ww_iret B dX1_sent_10
theorem c_X1_sent (G : GX) (l : Launch) (fu : Nat) (th : Nat) (p1 : Int32) (p2 : Int32) (st : St) : MI G NN l yX1_sent cX1_sent 4 (some .int) 4 [.ref (G.2.2.1 + th), .int p1, .int p2] st (f_X1_sent fu th p1 p2 st) := mkI (by decide) (Nat.le_of_ble_eq_true rfl) (fun X res hl hG B => by subst hl; subst hG; exact t_X1_sent B fu th p1 p2 st)
/-! StageHouse$Box.hasHold(I)Z -/
def b_X2_hasHold_24 (fu : Nat)  (y0 : Int32) (st : St) : Option (Int32 × St) :=
  ck (isb y0) (some (y0, st))
set_option maxHeartbeats 4000000 in
set_option maxRecDepth 100000 in
theorem t_X2_hasHold_24 {X : CX} {res : Int32 × St} (B : BI X cX2_hasHold RX2 2 1 NN (some .boolean) res) (fu : Nat)  (y0 : Int32) (st : St) : WW X res NN 24 [] [.int y0] st (b_X2_hasHold_24 fu y0 st) := by
  have hX := B.1
  have hL := B.2.1
  unfold b_X2_hasHold_24
  exact ww_zret B dX2_hasHold_24
def b_X2_hasHold_23 (fu : Nat)   (st : St) : Option (Int32 × St) :=
  b_X2_hasHold_24 fu  0 st
set_option maxHeartbeats 4000000 in
set_option maxRecDepth 100000 in
theorem t_X2_hasHold_23 {X : CX} {res : Int32 × St} (B : BI X cX2_hasHold RX2 2 1 NN (some .boolean) res) (fu : Nat)   (st : St) : WW X res NN 23 [] [] st (b_X2_hasHold_23 fu  st) := by
  have hX := B.1
  have hL := B.2.1
  unfold b_X2_hasHold_23
  refine ww_iconst (v := 0) hX rfl dX2_hasHold_23 ?_
  exact t_X2_hasHold_24 B fu  0 st
def f_X2_hasHold (fu : Nat) (th : Nat) (p1 : Int32) (st : St) : Option (Int32 × St) :=
  if p1 < 0 then (
  b_X2_hasHold_23 fu   st)
  else (
  if 60 ≤ p1 then (
  b_X2_hasHold_23 fu   st)
  else (
  ck (¬ gR st th 3 = 0) <|
  ck ((kd th).1 = 2) <|
  bd (gR st th 3) fun o1 =>
  ck ((kd o1).1 = 100 ∧ inb p1 (kd o1).2) <|
  if (gI st o1 (ix p1)) ≤ 0 then (
  b_X2_hasHold_23 fu   st)
  else (
  b_X2_hasHold_24 fu  1 st)))
set_option maxHeartbeats 4000000 in
set_option maxRecDepth 100000 in
theorem t_X2_hasHold {X : CX} {res : Int32 × St} (B : BI X cX2_hasHold RX2 2 1 NN (some .boolean) res) (fu : Nat) (th : Nat) (p1 : Int32) (st : St) : WW X res NN 0 [(0, .ref (x_b X + th)), (1, .int p1)] [] st (f_X2_hasHold fu th p1 st) := by
  have hX := B.1
  have hL := B.2.1
  unfold f_X2_hasHold
  refine ww_iload_n hX 1 rfl dX2_hasHold_0 rfl ?_
  refine ww_if_lt (tgt := 23) hX dX2_hasHold_1 (by decide) ?_ ?_
  · exact ww_sub [] rfl (t_X2_hasHold_23 B fu   st)
  · refine ww_iload_n hX 1 rfl dX2_hasHold_4 rfl ?_
    refine ww_bipush (v := 60) hX rfl dX2_hasHold_5 ?_
    refine ww_icmp_ge (tgt := 23) hX dX2_hasHold_7 (by decide) ?_ ?_
    · exact ww_sub [] rfl (t_X2_hasHold_23 B fu   st)
    · refine ww_aload_n hX 0 rfl dX2_hasHold_10 rfl ?_
      refine ww_getR hX f_X2_15 (Or.inr ⟨_, rfl⟩) dX2_hasHold_11 ?_
      refine ww_bdR (fun o1 => ?_)
      refine ww_iload_n hX 1 rfl dX2_hasHold_14 rfl ?_
      refine ww_ialdc hX k_iald dX2_hasHold_15 ?_
      refine ww_if_le (tgt := 23) hX dX2_hasHold_16 (by decide) ?_ ?_
      · exact ww_sub [] rfl (t_X2_hasHold_23 B fu   st)
      · refine ww_iconst (v := 1) hX rfl dX2_hasHold_19 ?_
        refine ww_goto (tgt := 24) hX dX2_hasHold_20 (by decide) ?_
        exact ww_sub [] rfl (t_X2_hasHold_24 B fu  1 st)
theorem c_X2_hasHold (G : GX) (l : Launch) (fu : Nat) (th : Nat) (p1 : Int32) (st : St) : MI G NN l yX2_hasHold cX2_hasHold 2 (some .boolean) 1 [.ref (G.2.2.1 + th), .int p1] st (f_X2_hasHold fu th p1 st) := mkI (by decide) (Nat.le_of_ble_eq_true rfl) (fun X res hl hG B => by subst hl; subst hG; exact t_X2_hasHold B fu th p1 st)
/-! StageHouse$Box.freeHold()I -/
def b_X2_freeHold_2_b (fu : Nat) (k_2 : Nat → Int32 → St → Option (Int32 × St)) (x0 : Nat) (x1 : Int32)  (st : St) : Option (Int32 × St) :=
  if 60 ≤ x1 then (
  some ((-1), st))
  else (
  ck (¬ gR st x0 3 = 0) <|
  ck ((kd x0).1 = 2) <|
  bd (gR st x0 3) fun o1 =>
  ck ((kd o1).1 = 100 ∧ inb x1 (kd o1).2) <|
  if (gI st o1 (ix x1)) = 0 then (
  some (x1, st))
  else (
  bd (x1 + 1) fun v2 =>
  k_2 x0 v2  st))
set_option maxHeartbeats 4000000 in
set_option maxRecDepth 100000 in
theorem t_X2_freeHold_2_b {X : CX} {res : Int32 × St} (B : BI X cX2_freeHold RX2 2 1 NN (some .int) res) (fu : Nat) (k_2 : Nat → Int32 → St → Option (Int32 × St)) (h_2 : ∀ (x0 : Nat) (x1 : Int32)  (st : St), WW X res NN 2 [(0, .ref (x_b X + x0)), (1, .int x1)] [] st (k_2 x0 x1 st)) (x0 : Nat) (x1 : Int32)  (st : St) : WW X res NN 2 [(0, .ref (x_b X + x0)), (1, .int x1)] [] st (b_X2_freeHold_2_b fu k_2 x0 x1 st) := by
  have hX := B.1
  have hL := B.2.1
  unfold b_X2_freeHold_2_b
  refine ww_iload_n hX 1 rfl dX2_freeHold_2 rfl ?_
  refine ww_bipush (v := 60) hX rfl dX2_freeHold_3 ?_
  refine ww_icmp_ge (tgt := 25) hX dX2_freeHold_5 (by decide) ?_ ?_
  · refine ww_iconst (v := (-1)) hX rfl dX2_freeHold_25 ?_
    exact ww_iret B dX2_freeHold_26
  · refine ww_aload_n hX 0 rfl dX2_freeHold_8 rfl ?_
    refine ww_getR hX f_X2_15 (Or.inr ⟨_, rfl⟩) dX2_freeHold_9 ?_
    refine ww_bdR (fun o1 => ?_)
    refine ww_iload_n hX 1 rfl dX2_freeHold_12 rfl ?_
    refine ww_ialdc hX k_iald dX2_freeHold_13 ?_
    refine ww_if_ne (tgt := 19) hX dX2_freeHold_14 (by decide) ?_ ?_
    · refine ww_iincb (lv' := fun v2 => [(1, .int v2), (0, .ref (x_b X + x0))]) (c := 1) hX hL 1 rfl dX2_freeHold_19 rfl (by decide) (fun _ => rfl) (fun v2 => ?_)
      refine ww_goto (tgt := 2) hX dX2_freeHold_22 (by decide) ?_
      exact ww_sub [1, 0] rfl (h_2 x0 v2  st)
    · refine ww_iload_n hX 1 rfl dX2_freeHold_17 rfl ?_
      exact ww_iret B dX2_freeHold_18
def b_X2_freeHold_2 (fu : Nat) : Nat → Nat → Int32 → St → Option (Int32 × St)
  | 0, _, _, _ => none
  | i + 1, x0, x1, st => b_X2_freeHold_2_b fu (b_X2_freeHold_2 fu i) x0 x1 st
theorem t_X2_freeHold_2 {X : CX} {res : Int32 × St} (B : BI X cX2_freeHold RX2 2 1 NN (some .int) res) (fu : Nat) : ∀ (i : Nat) (x0 : Nat) (x1 : Int32)  (st : St), WW X res NN 2 [(0, .ref (x_b X + x0)), (1, .int x1)] [] st (b_X2_freeHold_2 fu i x0 x1 st) := by
  intro i
  induction i with
  | zero => intro x0 x1 st; exact ww_none
  | succ i ih => intro x0 x1 st; exact t_X2_freeHold_2_b B fu (b_X2_freeHold_2 fu i) ih x0 x1 st
def f_X2_freeHold (fu : Nat) (th : Nat) (st : St) : Option (Int32 × St) :=
  b_X2_freeHold_2 fu fu th 0  st
set_option maxHeartbeats 4000000 in
set_option maxRecDepth 100000 in
theorem t_X2_freeHold {X : CX} {res : Int32 × St} (B : BI X cX2_freeHold RX2 2 1 NN (some .int) res) (fu : Nat) (th : Nat) (st : St) : WW X res NN 0 [(0, .ref (x_b X + th))] [] st (f_X2_freeHold fu th st) := by
  have hX := B.1
  have hL := B.2.1
  unfold f_X2_freeHold
  refine ww_iconst (v := 0) hX rfl dX2_freeHold_0 ?_
  refine ww_istore_n (lv' := [(1, .int 0), (0, .ref (x_b X + th))]) hX hL dX2_freeHold_1 rfl (by decide) rfl ?_
  exact ww_sub [1, 0] rfl (t_X2_freeHold_2 B fu fu th 0  st)
theorem c_X2_freeHold (G : GX) (l : Launch) (fu : Nat) (th : Nat) (st : St) : MI G NN l yX2_freeHold cX2_freeHold 2 (some .int) 1 [.ref (G.2.2.1 + th)] st (f_X2_freeHold fu th st) := mkI (by decide) (Nat.le_of_ble_eq_true rfl) (fun X res hl hG B => by subst hl; subst hG; exact t_X2_freeHold B fu th st)
/-! StageHouse$Hall.mark(III)V -/
def b_X4_mark_37 (fu : Nat)   (st : St) : Option (St) :=
  some st
set_option maxHeartbeats 4000000 in
set_option maxRecDepth 100000 in
theorem t_X4_mark_37 {X : CX} {res : St} (B : BV X cX4_mark RX4 5 1 NN none res) (fu : Nat)   (st : St) : WW X res NN 37 [] [] st (b_X4_mark_37 fu  st) := by
  have hX := B.1
  have hL := B.2.1
  unfold b_X4_mark_37
  exact ww_vret B dX4_mark_37
def b_X4_mark_3_b (fu : Nat) (k_3 : Nat → Int32 → Int32 → Int32 → Int32 → St → Option (St)) (x0 : Nat) (x1 : Int32) (x2 : Int32) (x3 : Int32) (x4 : Int32)  (st : St) : Option (St) :=
  if x2 ≤ x4 then (
  b_X4_mark_37 fu   st)
  else (
  ck (¬ gR st x0 3 = 0) <|
  ck ((kd x0).1 = 4) <|
  bd (gR st x0 3) fun o1 =>
  ck ((kd o1).1 = 100) <|
  if (Int32.ofNat (kd o1).2) ≤ (x1 + x4) then (
  b_X4_mark_37 fu   st)
  else (
  ck (¬ gR st x0 3 = 0) <|
  ck ((kd x0).1 = 4) <|
  bd (gR st x0 3) fun o2 =>
  ck ((kd o2).1 = 100 ∧ inb (x1 + x4) (kd o2).2) <|
  bd (sI st o2 (ix (x1 + x4)) x3) fun s3 =>
  bd (x4 + 1) fun v4 =>
  k_3 x0 x1 x2 x3 v4  s3))
set_option maxHeartbeats 4000000 in
set_option maxRecDepth 100000 in
theorem t_X4_mark_3_b {X : CX} {res : St} (B : BV X cX4_mark RX4 5 1 NN none res) (fu : Nat) (k_3 : Nat → Int32 → Int32 → Int32 → Int32 → St → Option (St)) (h_3 : ∀ (x0 : Nat) (x1 : Int32) (x2 : Int32) (x3 : Int32) (x4 : Int32)  (st : St), WW X res NN 3 [(0, .ref (x_b X + x0)), (1, .int x1), (2, .int x2), (3, .int x3), (4, .int x4)] [] st (k_3 x0 x1 x2 x3 x4 st)) (x0 : Nat) (x1 : Int32) (x2 : Int32) (x3 : Int32) (x4 : Int32)  (st : St) : WW X res NN 3 [(0, .ref (x_b X + x0)), (1, .int x1), (2, .int x2), (3, .int x3), (4, .int x4)] [] st (b_X4_mark_3_b fu k_3 x0 x1 x2 x3 x4 st) := by
  have hX := B.1
  have hL := B.2.1
  unfold b_X4_mark_3_b
  refine ww_iload hX 4 rfl dX4_mark_3 ?_
  refine ww_iload_n hX 2 rfl dX4_mark_5 rfl ?_
  refine ww_icmp_ge (tgt := 37) hX dX4_mark_6 (by decide) ?_ ?_
  · exact ww_sub [] rfl (t_X4_mark_37 B fu   st)
  · refine ww_iload_n hX 1 rfl dX4_mark_9 rfl ?_
    refine ww_iload hX 4 rfl dX4_mark_10 ?_
    refine ww_iadd hX dX4_mark_12 ?_
    refine ww_aload_n hX 0 rfl dX4_mark_13 rfl ?_
    refine ww_getR hX f_X4_21 (Or.inr ⟨_, rfl⟩) dX4_mark_14 ?_
    refine ww_bdR (fun o1 => ?_)
    refine ww_alenc hX k_alen dX4_mark_17 ?_
    refine ww_icmp_ge (tgt := 37) hX dX4_mark_18 (by decide) ?_ ?_
    · exact ww_sub [] rfl (t_X4_mark_37 B fu   st)
    · refine ww_aload_n hX 0 rfl dX4_mark_21 rfl ?_
      refine ww_getR hX f_X4_21 (Or.inr ⟨_, rfl⟩) dX4_mark_22 ?_
      refine ww_bdR (fun o2 => ?_)
      refine ww_iload_n hX 1 rfl dX4_mark_25 rfl ?_
      refine ww_iload hX 4 rfl dX4_mark_26 ?_
      refine ww_iadd hX dX4_mark_28 ?_
      refine ww_iload_n hX 3 rfl dX4_mark_29 rfl ?_
      refine ww_iastc hX k_iast dX4_mark_30 ?_
      refine ww_bds (fun s3 => ?_)
      refine ww_pc (b := 31) rfl ?_
      refine ww_iincb (lv' := fun v4 => [(4, .int v4), (0, .ref (x_b X + x0)), (1, .int x1), (2, .int x2), (3, .int x3)]) (c := 1) hX hL 4 rfl dX4_mark_31 rfl (by decide) (fun _ => rfl) (fun v4 => ?_)
      refine ww_goto (tgt := 3) hX dX4_mark_34 (by decide) ?_
      exact ww_sub [1, 2, 3, 4, 0] rfl (h_3 x0 x1 x2 x3 v4  s3)
def b_X4_mark_3 (fu : Nat) : Nat → Nat → Int32 → Int32 → Int32 → Int32 → St → Option (St)
  | 0, _, _, _, _, _, _ => none
  | i + 1, x0, x1, x2, x3, x4, st => b_X4_mark_3_b fu (b_X4_mark_3 fu i) x0 x1 x2 x3 x4 st
theorem t_X4_mark_3 {X : CX} {res : St} (B : BV X cX4_mark RX4 5 1 NN none res) (fu : Nat) : ∀ (i : Nat) (x0 : Nat) (x1 : Int32) (x2 : Int32) (x3 : Int32) (x4 : Int32)  (st : St), WW X res NN 3 [(0, .ref (x_b X + x0)), (1, .int x1), (2, .int x2), (3, .int x3), (4, .int x4)] [] st (b_X4_mark_3 fu i x0 x1 x2 x3 x4 st) := by
  intro i
  induction i with
  | zero => intro x0 x1 x2 x3 x4 st; exact ww_none
  | succ i ih => intro x0 x1 x2 x3 x4 st; exact t_X4_mark_3_b B fu (b_X4_mark_3 fu i) ih x0 x1 x2 x3 x4 st
def f_X4_mark (fu : Nat) (th : Nat) (p1 : Int32) (p2 : Int32) (p3 : Int32) (st : St) : Option (St) :=
  b_X4_mark_3 fu fu th p1 p2 p3 0  st
set_option maxHeartbeats 4000000 in
set_option maxRecDepth 100000 in
theorem t_X4_mark {X : CX} {res : St} (B : BV X cX4_mark RX4 5 1 NN none res) (fu : Nat) (th : Nat) (p1 : Int32) (p2 : Int32) (p3 : Int32) (st : St) : WW X res NN 0 [(0, .ref (x_b X + th)), (1, .int p1), (2, .int p2), (3, .int p3)] [] st (f_X4_mark fu th p1 p2 p3 st) := by
  have hX := B.1
  have hL := B.2.1
  unfold f_X4_mark
  refine ww_iconst (v := 0) hX rfl dX4_mark_0 ?_
  refine ww_istore (lv' := [(4, .int 0), (0, .ref (x_b X + th)), (1, .int p1), (2, .int p2), (3, .int p3)]) hX hL dX4_mark_1 (by decide) rfl ?_
  exact ww_sub [1, 2, 3, 4, 0] rfl (t_X4_mark_3 B fu fu th p1 p2 p3 0  st)
theorem c_X4_mark (G : GX) (l : Launch) (fu : Nat) (th : Nat) (p1 : Int32) (p2 : Int32) (p3 : Int32) (st : St) : MV G NN l yX4_mark cX4_mark 5 none 1 [.ref (G.2.2.1 + th), .int p1, .int p2, .int p3] st (f_X4_mark fu th p1 p2 p3 st) := mkV (by decide) (Nat.le_of_ble_eq_true rfl) (fun X res hl hG B => by subst hl; subst hG; exact t_X4_mark B fu th p1 p2 p3 st)
/-! StageHouse$Box.keep(III)V -/
def f_X2_keep (fu : Nat) (th : Nat) (p1 : Int32) (p2 : Int32) (p3 : Int32) (st : St) : Option (St) :=
  ck (¬ gR st th 2 = 0) <|
  ck ((kd th).1 = 2) <|
  bd (gR st th 2) fun o1 =>
  ck ((kd o1).1 = 100 ∧ inb p1 (kd o1).2) <|
  bd (sI st o1 (ix p1) p2) fun s2 =>
  ck (¬ gR s2 th 3 = 0) <|
  ck ((kd th).1 = 2) <|
  bd (gR s2 th 3) fun o3 =>
  ck ((kd o3).1 = 100 ∧ inb p1 (kd o3).2) <|
  bd (sI s2 o3 (ix p1) p3) fun s4 =>
  ck ((kd th).1 = 2) <|
  ck ((kd th).1 = 2) <|
  bd (sI s4 th 11 ((gI s4 th 11) + 1)) fun s5 =>
  ck (¬ gR s5 th 0 = 0) <|
  ck ((kd th).1 = 2) <|
  bd (gR s5 th 0) fun o6 =>
  ck ((kd o6).1 = 4) <|
  cv (f_X4_mark fu o6 p2 p3 1 s5) fun s7 =>
  some s7
set_option maxHeartbeats 4000000 in
set_option maxRecDepth 100000 in
theorem t_X2_keep {X : CX} {res : St} (B : BV X cX2_keep RX2 4 2 NN none res) (fu : Nat) (th : Nat) (p1 : Int32) (p2 : Int32) (p3 : Int32) (st : St) : WW X res NN 0 [(0, .ref (x_b X + th)), (1, .int p1), (2, .int p2), (3, .int p3)] [] st (f_X2_keep fu th p1 p2 p3 st) := by
  have hX := B.1
  have hL := B.2.1
  unfold f_X2_keep
  refine ww_aload_n hX 0 rfl dX2_keep_0 rfl ?_
  refine ww_getR hX f_X2_11 (Or.inr ⟨_, rfl⟩) dX2_keep_1 ?_
  refine ww_bdR (fun o1 => ?_)
  refine ww_iload_n hX 1 rfl dX2_keep_4 rfl ?_
  refine ww_iload_n hX 2 rfl dX2_keep_5 rfl ?_
  refine ww_iastc hX k_iast dX2_keep_6 ?_
  refine ww_bds (fun s2 => ?_)
  refine ww_aload_n hX 0 rfl dX2_keep_7 rfl ?_
  refine ww_getR hX f_X2_15 (Or.inr ⟨_, rfl⟩) dX2_keep_8 ?_
  refine ww_bdR (fun o3 => ?_)
  refine ww_pc (b := 11) rfl ?_
  refine ww_iload_n hX 1 rfl dX2_keep_11 rfl ?_
  refine ww_iload_n hX 3 rfl dX2_keep_12 rfl ?_
  refine ww_iastc hX k_iast dX2_keep_13 ?_
  refine ww_bds (fun s4 => ?_)
  refine ww_aload_n hX 0 rfl dX2_keep_14 rfl ?_
  refine ww_dup hX rfl dX2_keep_15 ?_
  refine ww_getI hX f_X2_47 (Or.inl rfl) dX2_keep_16 ?_
  refine ww_iconst (v := 1) hX rfl dX2_keep_19 ?_
  refine ww_iadd hX dX2_keep_20 ?_
  refine ww_pc (b := 21) rfl ?_
  refine ww_putI hX f_X2_47 rfl dX2_keep_21 ?_
  refine ww_bds (fun s5 => ?_)
  refine ww_aload_n hX 0 rfl dX2_keep_24 rfl ?_
  refine ww_getR hX f_X2_39 (Or.inl ⟨_, rfl⟩) dX2_keep_25 ?_
  refine ww_bdR (fun o6 => ?_)
  refine ww_iload_n hX 2 rfl dX2_keep_28 rfl ?_
  refine ww_iload_n hX 3 rfl dX2_keep_29 rfl ?_
  refine ww_iconst (v := 1) hX rfl dX2_keep_30 ?_
  refine ww_callVV (As := [.int p2, .int p3, .int 1]) (rest := []) (o := o6) hX (Rk.of B.2.2.1 B.2.2.2.1 (by decide) (by decide)) g_X2_53 g_X2_53.in (fun _ => c_X4_mark (x_G X) (x_l X) fu o6 p2 p3 1 s5) rfl rfl (Nat.le_of_ble_eq_true rfl) dX2_keep_31 (fun s7 => ?_)
  exact ww_vret B dX2_keep_34
theorem c_X2_keep (G : GX) (l : Launch) (fu : Nat) (th : Nat) (p1 : Int32) (p2 : Int32) (p3 : Int32) (st : St) : MV G NN l yX2_keep cX2_keep 4 none 2 [.ref (G.2.2.1 + th), .int p1, .int p2, .int p3] st (f_X2_keep fu th p1 p2 p3 st) := mkV (by decide) (Nat.le_of_ble_eq_true rfl) (fun X res hl hG B => by subst hl; subst hG; exact t_X2_keep B fu th p1 p2 p3 st)
/-! StageHouse$Box.describe(IIII)V -/
def f_X2_describe (fu : Nat) (th : Nat) (p1 : Int32) (p2 : Int32) (p3 : Int32) (p4 : Int32) (st : St) : Option (St) :=
  ck (¬ gR st th 4 = 0) <|
  ck ((kd th).1 = 2) <|
  bd (gR st th 4) fun o1 =>
  ck ((kd o1).1 = 100 ∧ inb p1 (kd o1).2) <|
  bd (sI st o1 (ix p1) p2) fun s2 =>
  ck (¬ gR s2 th 5 = 0) <|
  ck ((kd th).1 = 2) <|
  bd (gR s2 th 5) fun o3 =>
  ck ((kd o3).1 = 100 ∧ inb p1 (kd o3).2) <|
  bd (sI s2 o3 (ix p1) p3) fun s4 =>
  ck (¬ gR s4 th 6 = 0) <|
  ck ((kd th).1 = 2) <|
  bd (gR s4 th 6) fun o5 =>
  ck ((kd o5).1 = 100 ∧ inb p1 (kd o5).2) <|
  bd (sI s4 o5 (ix p1) p4) fun s6 =>
  some s6
set_option maxHeartbeats 4000000 in
set_option maxRecDepth 100000 in
theorem t_X2_describe {X : CX} {res : St} (B : BV X cX2_describe RX2 5 1 NN none res) (fu : Nat) (th : Nat) (p1 : Int32) (p2 : Int32) (p3 : Int32) (p4 : Int32) (st : St) : WW X res NN 0 [(0, .ref (x_b X + th)), (1, .int p1), (2, .int p2), (3, .int p3), (4, .int p4)] [] st (f_X2_describe fu th p1 p2 p3 p4 st) := by
  have hX := B.1
  have hL := B.2.1
  unfold f_X2_describe
  refine ww_aload_n hX 0 rfl dX2_describe_0 rfl ?_
  refine ww_getR hX f_X2_18 (Or.inr ⟨_, rfl⟩) dX2_describe_1 ?_
  refine ww_bdR (fun o1 => ?_)
  refine ww_iload_n hX 1 rfl dX2_describe_4 rfl ?_
  refine ww_iload_n hX 2 rfl dX2_describe_5 rfl ?_
  refine ww_iastc hX k_iast dX2_describe_6 ?_
  refine ww_bds (fun s2 => ?_)
  refine ww_aload_n hX 0 rfl dX2_describe_7 rfl ?_
  refine ww_getR hX f_X2_21 (Or.inr ⟨_, rfl⟩) dX2_describe_8 ?_
  refine ww_bdR (fun o3 => ?_)
  refine ww_pc (b := 11) rfl ?_
  refine ww_iload_n hX 1 rfl dX2_describe_11 rfl ?_
  refine ww_iload_n hX 3 rfl dX2_describe_12 rfl ?_
  refine ww_iastc hX k_iast dX2_describe_13 ?_
  refine ww_bds (fun s4 => ?_)
  refine ww_aload_n hX 0 rfl dX2_describe_14 rfl ?_
  refine ww_getR hX f_X2_24 (Or.inr ⟨_, rfl⟩) dX2_describe_15 ?_
  refine ww_bdR (fun o5 => ?_)
  refine ww_iload_n hX 1 rfl dX2_describe_18 rfl ?_
  refine ww_iload hX 4 rfl dX2_describe_19 ?_
  refine ww_iastc hX k_iast dX2_describe_21 ?_
  refine ww_bds (fun s6 => ?_)
  refine ww_pc (b := 22) rfl ?_
  exact ww_vret B dX2_describe_22
theorem c_X2_describe (G : GX) (l : Launch) (fu : Nat) (th : Nat) (p1 : Int32) (p2 : Int32) (p3 : Int32) (p4 : Int32) (st : St) : MV G NN l yX2_describe cX2_describe 5 none 1 [.ref (G.2.2.1 + th), .int p1, .int p2, .int p3, .int p4] st (f_X2_describe fu th p1 p2 p3 p4 st) := mkV (by decide) (Nat.le_of_ble_eq_true rfl) (fun X res hl hG B => by subst hl; subst hG; exact t_X2_describe B fu th p1 p2 p3 p4 st)
/-! StageHouse$Box.drop(I)V -/
def f_X2_drop (fu : Nat) (th : Nat) (p1 : Int32) (st : St) : Option (St) :=
  ck (¬ gR st th 0 = 0) <|
  ck ((kd th).1 = 2) <|
  bd (gR st th 0) fun o1 =>
  ck (¬ gR st th 2 = 0) <|
  ck ((kd th).1 = 2) <|
  bd (gR st th 2) fun o2 =>
  ck ((kd o2).1 = 100 ∧ inb p1 (kd o2).2) <|
  ck (¬ gR st th 3 = 0) <|
  ck ((kd th).1 = 2) <|
  bd (gR st th 3) fun o3 =>
  ck ((kd o3).1 = 100 ∧ inb p1 (kd o3).2) <|
  ck ((kd o1).1 = 4) <|
  cv (f_X4_mark fu o1 (gI st o2 (ix p1)) (gI st o3 (ix p1)) 0 st) fun s4 =>
  ck (¬ gR s4 th 3 = 0) <|
  ck ((kd th).1 = 2) <|
  bd (gR s4 th 3) fun o5 =>
  ck ((kd o5).1 = 100 ∧ inb p1 (kd o5).2) <|
  bd (sI s4 o5 (ix p1) 0) fun s6 =>
  ck ((kd th).1 = 2) <|
  ck ((kd th).1 = 2) <|
  bd (sI s6 th 11 ((gI s6 th 11) - 1)) fun s7 =>
  some s7
set_option maxHeartbeats 4000000 in
set_option maxRecDepth 100000 in
theorem t_X2_drop {X : CX} {res : St} (B : BV X cX2_drop RX2 2 2 NN none res) (fu : Nat) (th : Nat) (p1 : Int32) (st : St) : WW X res NN 0 [(0, .ref (x_b X + th)), (1, .int p1)] [] st (f_X2_drop fu th p1 st) := by
  have hX := B.1
  have hL := B.2.1
  unfold f_X2_drop
  refine ww_aload_n hX 0 rfl dX2_drop_0 rfl ?_
  refine ww_getR hX f_X2_39 (Or.inl ⟨_, rfl⟩) dX2_drop_1 ?_
  refine ww_bdR (fun o1 => ?_)
  refine ww_aload_n hX 0 rfl dX2_drop_4 rfl ?_
  refine ww_getR hX f_X2_11 (Or.inr ⟨_, rfl⟩) dX2_drop_5 ?_
  refine ww_bdR (fun o2 => ?_)
  refine ww_iload_n hX 1 rfl dX2_drop_8 rfl ?_
  refine ww_ialdc hX k_iald dX2_drop_9 ?_
  refine ww_aload_n hX 0 rfl dX2_drop_10 rfl ?_
  refine ww_pc (b := 11) rfl ?_
  refine ww_getR hX f_X2_15 (Or.inr ⟨_, rfl⟩) dX2_drop_11 ?_
  refine ww_bdR (fun o3 => ?_)
  refine ww_iload_n hX 1 rfl dX2_drop_14 rfl ?_
  refine ww_ialdc hX k_iald dX2_drop_15 ?_
  refine ww_iconst (v := 0) hX rfl dX2_drop_16 ?_
  refine ww_callVV (As := [.int (gI st o2 (ix p1)), .int (gI st o3 (ix p1)), .int 0]) (rest := []) (o := o1) hX (Rk.of B.2.2.1 B.2.2.2.1 (by decide) (by decide)) g_X2_53 g_X2_53.in (fun _ => c_X4_mark (x_G X) (x_l X) fu o1 (gI st o2 (ix p1)) (gI st o3 (ix p1)) 0 st) rfl rfl (Nat.le_of_ble_eq_true rfl) dX2_drop_17 (fun s4 => ?_)
  refine ww_aload_n hX 0 rfl dX2_drop_20 rfl ?_
  refine ww_getR hX f_X2_15 (Or.inr ⟨_, rfl⟩) dX2_drop_21 ?_
  refine ww_bdR (fun o5 => ?_)
  refine ww_iload_n hX 1 rfl dX2_drop_24 rfl ?_
  refine ww_pc (b := 25) rfl ?_
  refine ww_iconst (v := 0) hX rfl dX2_drop_25 ?_
  refine ww_iastc hX k_iast dX2_drop_26 ?_
  refine ww_bds (fun s6 => ?_)
  refine ww_aload_n hX 0 rfl dX2_drop_27 rfl ?_
  refine ww_dup hX rfl dX2_drop_28 ?_
  refine ww_getI hX f_X2_47 (Or.inl rfl) dX2_drop_29 ?_
  refine ww_iconst (v := 1) hX rfl dX2_drop_32 ?_
  refine ww_isub hX dX2_drop_33 ?_
  refine ww_putI hX f_X2_47 rfl dX2_drop_34 ?_
  refine ww_bds (fun s7 => ?_)
  refine ww_pc (b := 37) rfl ?_
  exact ww_vret B dX2_drop_37
theorem c_X2_drop (G : GX) (l : Launch) (fu : Nat) (th : Nat) (p1 : Int32) (st : St) : MV G NN l yX2_drop cX2_drop 2 none 2 [.ref (G.2.2.1 + th), .int p1] st (f_X2_drop fu th p1 st) := mkV (by decide) (Nat.le_of_ble_eq_true rfl) (fun X res hl hG B => by subst hl; subst hG; exact t_X2_drop B fu th p1 st)
/-! StageHouse$Box.expire(I)V -/
def b_X2_expire_45 (fu : Nat)   (st : St) : Option (St) :=
  some st
set_option maxHeartbeats 4000000 in
set_option maxRecDepth 100000 in
theorem t_X2_expire_45 {X : CX} {res : St} (B : BV X cX2_expire RX2 3 3 NN none res) (fu : Nat)   (st : St) : WW X res NN 45 [] [] st (b_X2_expire_45 fu  st) := by
  have hX := B.1
  have hL := B.2.1
  unfold b_X2_expire_45
  exact ww_vret B dX2_expire_45
def b_X2_expire_39 (fu : Nat) (k_2 : Nat → Int32 → Int32 → St → Option (St)) (x0 : Nat) (x1 : Int32) (x2 : Int32)  (st : St) : Option (St) :=
  bd (x2 + 1) fun v2 =>
  k_2 x0 x1 v2  st
set_option maxHeartbeats 4000000 in
set_option maxRecDepth 100000 in
theorem t_X2_expire_39 {X : CX} {res : St} (B : BV X cX2_expire RX2 3 3 NN none res) (fu : Nat) (k_2 : Nat → Int32 → Int32 → St → Option (St)) (h_2 : ∀ (x0 : Nat) (x1 : Int32) (x2 : Int32)  (st : St), WW X res NN 2 [(0, .ref (x_b X + x0)), (1, .int x1), (2, .int x2)] [] st (k_2 x0 x1 x2 st)) (x0 : Nat) (x1 : Int32) (x2 : Int32)  (st : St) : WW X res NN 39 [(0, .ref (x_b X + x0)), (1, .int x1), (2, .int x2)] [] st (b_X2_expire_39 fu k_2 x0 x1 x2 st) := by
  have hX := B.1
  have hL := B.2.1
  unfold b_X2_expire_39
  refine ww_iincb (lv' := fun v2 => [(2, .int v2), (0, .ref (x_b X + x0)), (1, .int x1)]) (c := 1) hX hL 2 rfl dX2_expire_39 rfl (by decide) (fun _ => rfl) (fun v2 => ?_)
  refine ww_goto (tgt := 2) hX dX2_expire_42 (by decide) ?_
  exact ww_sub [1, 2, 0] rfl (h_2 x0 x1 v2  st)
def b_X2_expire_2_b (fu : Nat) (k_2 : Nat → Int32 → Int32 → St → Option (St)) (x0 : Nat) (x1 : Int32) (x2 : Int32)  (st : St) : Option (St) :=
  if 60 ≤ x2 then (
  b_X2_expire_45 fu   st)
  else (
  ck ((kd x0).1 = 2) <|
  if (gI st x0 11) ≤ 0 then (
  b_X2_expire_45 fu   st)
  else (
  ck (¬ gR st x0 3 = 0) <|
  ck ((kd x0).1 = 2) <|
  bd (gR st x0 3) fun o1 =>
  ck ((kd o1).1 = 100 ∧ inb x2 (kd o1).2) <|
  if (gI st o1 (ix x2)) ≤ 0 then (
  b_X2_expire_39 fu k_2 x0 x1 x2  st)
  else (
  ck (¬ gR st x0 6 = 0) <|
  ck ((kd x0).1 = 2) <|
  bd (gR st x0 6) fun o3 =>
  ck ((kd o3).1 = 100 ∧ inb x2 (kd o3).2) <|
  if x1 < (gI st o3 (ix x2)) then (
  b_X2_expire_39 fu k_2 x0 x1 x2  st)
  else (
  ck ((kd x0).1 = 2) <|
  cv (f_X2_drop fu x0 x2 st) fun s4 =>
  b_X2_expire_39 fu k_2 x0 x1 x2  s4))))
set_option maxHeartbeats 4000000 in
set_option maxRecDepth 100000 in
theorem t_X2_expire_2_b {X : CX} {res : St} (B : BV X cX2_expire RX2 3 3 NN none res) (fu : Nat) (k_2 : Nat → Int32 → Int32 → St → Option (St)) (h_2 : ∀ (x0 : Nat) (x1 : Int32) (x2 : Int32)  (st : St), WW X res NN 2 [(0, .ref (x_b X + x0)), (1, .int x1), (2, .int x2)] [] st (k_2 x0 x1 x2 st)) (x0 : Nat) (x1 : Int32) (x2 : Int32)  (st : St) : WW X res NN 2 [(0, .ref (x_b X + x0)), (1, .int x1), (2, .int x2)] [] st (b_X2_expire_2_b fu k_2 x0 x1 x2 st) := by
  have hX := B.1
  have hL := B.2.1
  unfold b_X2_expire_2_b
  refine ww_iload_n hX 2 rfl dX2_expire_2 rfl ?_
  refine ww_bipush (v := 60) hX rfl dX2_expire_3 ?_
  refine ww_icmp_ge (tgt := 45) hX dX2_expire_5 (by decide) ?_ ?_
  · exact ww_sub [] rfl (t_X2_expire_45 B fu   st)
  · refine ww_aload_n hX 0 rfl dX2_expire_8 rfl ?_
    refine ww_getI hX f_X2_47 (Or.inl rfl) dX2_expire_9 ?_
    refine ww_if_le (tgt := 45) hX dX2_expire_12 (by decide) ?_ ?_
    · exact ww_sub [] rfl (t_X2_expire_45 B fu   st)
    · refine ww_aload_n hX 0 rfl dX2_expire_15 rfl ?_
      refine ww_getR hX f_X2_15 (Or.inr ⟨_, rfl⟩) dX2_expire_16 ?_
      refine ww_bdR (fun o1 => ?_)
      refine ww_iload_n hX 2 rfl dX2_expire_19 rfl ?_
      refine ww_ialdc hX k_iald dX2_expire_20 ?_
      refine ww_if_le (tgt := 39) hX dX2_expire_21 (by decide) ?_ ?_
      · exact t_X2_expire_39 B fu k_2 h_2 x0 x1 x2  st
      · refine ww_aload_n hX 0 rfl dX2_expire_24 rfl ?_
        refine ww_getR hX f_X2_24 (Or.inr ⟨_, rfl⟩) dX2_expire_25 ?_
        refine ww_bdR (fun o3 => ?_)
        refine ww_iload_n hX 2 rfl dX2_expire_28 rfl ?_
        refine ww_ialdc hX k_iald dX2_expire_29 ?_
        refine ww_iload_n hX 1 rfl dX2_expire_30 rfl ?_
        refine ww_icmp_gt (tgt := 39) hX dX2_expire_31 (by decide) ?_ ?_
        · exact t_X2_expire_39 B fu k_2 h_2 x0 x1 x2  st
        · refine ww_aload_n hX 0 rfl dX2_expire_34 rfl ?_
          refine ww_iload_n hX 2 rfl dX2_expire_35 rfl ?_
          refine ww_callVV (As := [.int x2]) (rest := []) (o := x0) hX (Rk.of B.2.2.1 B.2.2.2.1 (by decide) (by decide)) g_X2_57 g_X2_57.in (fun _ => c_X2_drop (x_G X) (x_l X) fu x0 x2 st) rfl rfl (Nat.le_of_ble_eq_true rfl) dX2_expire_36 (fun s4 => ?_)
          exact t_X2_expire_39 B fu k_2 h_2 x0 x1 x2  s4
def b_X2_expire_2 (fu : Nat) : Nat → Nat → Int32 → Int32 → St → Option (St)
  | 0, _, _, _, _ => none
  | i + 1, x0, x1, x2, st => b_X2_expire_2_b fu (b_X2_expire_2 fu i) x0 x1 x2 st
theorem t_X2_expire_2 {X : CX} {res : St} (B : BV X cX2_expire RX2 3 3 NN none res) (fu : Nat) : ∀ (i : Nat) (x0 : Nat) (x1 : Int32) (x2 : Int32)  (st : St), WW X res NN 2 [(0, .ref (x_b X + x0)), (1, .int x1), (2, .int x2)] [] st (b_X2_expire_2 fu i x0 x1 x2 st) := by
  intro i
  induction i with
  | zero => intro x0 x1 x2 st; exact ww_none
  | succ i ih => intro x0 x1 x2 st; exact t_X2_expire_2_b B fu (b_X2_expire_2 fu i) ih x0 x1 x2 st
def f_X2_expire (fu : Nat) (th : Nat) (p1 : Int32) (st : St) : Option (St) :=
  b_X2_expire_2 fu fu th p1 0  st
set_option maxHeartbeats 4000000 in
set_option maxRecDepth 100000 in
theorem t_X2_expire {X : CX} {res : St} (B : BV X cX2_expire RX2 3 3 NN none res) (fu : Nat) (th : Nat) (p1 : Int32) (st : St) : WW X res NN 0 [(0, .ref (x_b X + th)), (1, .int p1)] [] st (f_X2_expire fu th p1 st) := by
  have hX := B.1
  have hL := B.2.1
  unfold f_X2_expire
  refine ww_iconst (v := 0) hX rfl dX2_expire_0 ?_
  refine ww_istore_n (lv' := [(2, .int 0), (0, .ref (x_b X + th)), (1, .int p1)]) hX hL dX2_expire_1 rfl (by decide) rfl ?_
  exact ww_sub [1, 2, 0] rfl (t_X2_expire_2 B fu fu th p1 0  st)
theorem c_X2_expire (G : GX) (l : Launch) (fu : Nat) (th : Nat) (p1 : Int32) (st : St) : MV G NN l yX2_expire cX2_expire 3 none 3 [.ref (G.2.2.1 + th), .int p1] st (f_X2_expire fu th p1 st) := mkV (by decide) (Nat.le_of_ble_eq_true rfl) (fun X res hl hG B => by subst hl; subst hG; exact t_X2_expire B fu th p1 st)
/-! StageHouse$Prices.changed(IIII)I -/
def f_X6_changed (fu : Nat) (p0 : Int32) (p1 : Int32) (p2 : Int32) (p3 : Int32) (st : St) : Option (Int32 × St) :=
  if p1 = 37 then (
  ck (¬ 200 = 0) <|
  some ((((2 * p0) * p2) + 100) / 200, st))
  else if p1 = 43 then (
  some (p0 + p2, st))
  else if p1 = 45 then (
  ca (f_J9_max_7cf53 fu 0 (p0 - p2) st) fun r1 s2 =>
  some (r1, s2))
  else (
  some (p2 * p3, st))
set_option maxHeartbeats 4000000 in
set_option maxRecDepth 100000 in
theorem t_X6_changed {X : CX} {res : Int32 × St} (B : BI X cX6_changed RX6 4 2 NN (some .int) res) (fu : Nat) (p0 : Int32) (p1 : Int32) (p2 : Int32) (p3 : Int32) (st : St) : WW X res NN 0 [(0, .int p0), (1, .int p1), (2, .int p2), (3, .int p3)] [] st (f_X6_changed fu p0 p1 p2 p3 st) := by
  have hX := B.1
  have hL := B.2.1
  unfold f_X6_changed
  refine ww_iload_n hX 1 rfl dX6_changed_0 rfl ?_
  refine ww_if (fun c1_0 => ?_) (fun c1_0 => ?_)
  · refine ww_lsw (off := 35) (tgt := 36) hX dX6_changed_1 (by decide) (by rw [c1_0]; rfl) (by decide) ?_
    refine ww_iconst (v := 2) hX rfl dX6_changed_36 ?_
    refine ww_iload_n hX 0 rfl dX6_changed_37 rfl ?_
    refine ww_imul hX dX6_changed_38 ?_
    refine ww_iload_n hX 2 rfl dX6_changed_39 rfl ?_
    refine ww_imul hX dX6_changed_40 ?_
    refine ww_bipush (v := 100) hX rfl dX6_changed_41 ?_
    refine ww_iadd hX dX6_changed_43 ?_
    refine ww_pc (b := 44) rfl ?_
    refine ww_sipush (v := 200) hX rfl dX6_changed_44 ?_
    refine ww_idiv hX dX6_changed_47 ?_
    exact ww_iret B dX6_changed_48
  refine ww_if (fun c1_1 => ?_) (fun c1_1 => ?_)
  · refine ww_lsw (off := 56) (tgt := 57) hX dX6_changed_1 (by decide) (by rw [c1_1]; rfl) (by decide) ?_
    refine ww_iload_n hX 0 rfl dX6_changed_57 rfl ?_
    refine ww_iload_n hX 2 rfl dX6_changed_58 rfl ?_
    refine ww_iadd hX dX6_changed_59 ?_
    exact ww_iret B dX6_changed_60
  refine ww_if (fun c1_2 => ?_) (fun c1_2 => ?_)
  · refine ww_lsw (off := 48) (tgt := 49) hX dX6_changed_1 (by decide) (by rw [c1_2]; rfl) (by decide) ?_
    refine ww_iconst (v := 0) hX rfl dX6_changed_49 ?_
    refine ww_iload_n hX 0 rfl dX6_changed_50 rfl ?_
    refine ww_iload_n hX 2 rfl dX6_changed_51 rfl ?_
    refine ww_isub hX dX6_changed_52 ?_
    refine ww_callSI (As := [.int 0, .int (p0 - p2)]) (rest := []) hX (Rk.of B.2.2.1 B.2.2.2.1 (by decide) (by decide)) g_X6_81 (c_J9_max_7cf53 (x_G X) (x_l X) fu 0 (p0 - p2) st) rfl rfl (Nat.le_of_ble_eq_true rfl) dX6_changed_53 (fun r1 s2 => ?_)
    exact ww_iret B dX6_changed_56
  refine ww_lsw (off := 60) (tgt := 61) hX dX6_changed_1 (by decide) (by have z0 : p1.toInt ≠ 37 := fun q => c1_0 (Int32.toInt_inj.mp (q.trans (by decide))); have z1 : p1.toInt ≠ 43 := fun q => c1_1 (Int32.toInt_inj.mp (q.trans (by decide))); have z2 : p1.toInt ≠ 45 := fun q => c1_2 (Int32.toInt_inj.mp (q.trans (by decide))); show Op.lookupswitch.offset [(37, 35), (43, 56), (45, 48)] 60 p1.toInt = 60; rw [Op.lookupswitch.offset_cons, if_neg (Ne.symm z0), Op.lookupswitch.offset_cons, if_neg (Ne.symm z1), Op.lookupswitch.offset_cons, if_neg (Ne.symm z2), Op.lookupswitch.offset_nil]) (by decide) ?_
  refine ww_iload_n hX 2 rfl dX6_changed_61 rfl ?_
  refine ww_iload_n hX 3 rfl dX6_changed_62 rfl ?_
  refine ww_imul hX dX6_changed_63 ?_
  exact ww_iret B dX6_changed_64
theorem c_X6_changed (G : GX) (l : Launch) (fu : Nat) (p0 : Int32) (p1 : Int32) (p2 : Int32) (p3 : Int32) (st : St) : MI G NN l yX6_changed cX6_changed 4 (some .int) 2 [.int p0, .int p1, .int p2, .int p3] st (f_X6_changed fu p0 p1 p2 p3 st) := mkI (by decide) (Nat.le_of_ble_eq_true rfl) (fun X res hl hG B => by subst hl; subst hG; exact t_X6_changed B fu p0 p1 p2 p3 st)
/-! StageHouse$Prices.priceOf(IIIII)I -/
def b_X6_priceOf_146 (fu : Nat) (x6 : Int32)  (st : St) : Option (Int32 × St) :=
  some (x6, st)
set_option maxHeartbeats 4000000 in
set_option maxRecDepth 100000 in
theorem t_X6_priceOf_146 {X : CX} {res : Int32 × St} (B : BI X cX6_priceOf RX6 10 3 NN (some .int) res) (fu : Nat) (x6 : Int32)  (st : St) : WW X res NN 146 [(6, .int x6)] [] st (b_X6_priceOf_146 fu x6 st) := by
  have hX := B.1
  have hL := B.2.1
  unfold b_X6_priceOf_146
  refine ww_iload hX 0 rfl dX6_priceOf_146 ?_
  exact ww_iret B dX6_priceOf_148
def b_X6_priceOf_140 (fu : Nat) (k_14 : Nat → Int32 → Int32 → Int32 → Int32 → Int32 → Int32 → St → Option (Int32 × St)) (x0 : Nat) (x1 : Int32) (x2 : Int32) (x3 : Int32) (x4 : Int32) (x6 : Int32) (x7 : Int32)  (st : St) : Option (Int32 × St) :=
  bd (x7 + 1) fun v5 =>
  k_14 x0 x1 x2 x3 x4 x6 v5  st
set_option maxHeartbeats 4000000 in
set_option maxRecDepth 100000 in
theorem t_X6_priceOf_140 {X : CX} {res : Int32 × St} (B : BI X cX6_priceOf RX6 10 3 NN (some .int) res) (fu : Nat) (k_14 : Nat → Int32 → Int32 → Int32 → Int32 → Int32 → Int32 → St → Option (Int32 × St)) (h_14 : ∀ (x0 : Nat) (x1 : Int32) (x2 : Int32) (x3 : Int32) (x4 : Int32) (x6 : Int32) (x7 : Int32)  (st : St), WW X res NN 14 [(0, .ref (x_b X + x0)), (1, .int x1), (2, .int x2), (3, .int x3), (4, .int x4), (6, .int x6), (7, .int x7)] [] st (k_14 x0 x1 x2 x3 x4 x6 x7 st)) (x0 : Nat) (x1 : Int32) (x2 : Int32) (x3 : Int32) (x4 : Int32) (x6 : Int32) (x7 : Int32)  (st : St) : WW X res NN 140 [(0, .ref (x_b X + x0)), (1, .int x1), (2, .int x2), (3, .int x3), (4, .int x4), (6, .int x6), (7, .int x7)] [] st (b_X6_priceOf_140 fu k_14 x0 x1 x2 x3 x4 x6 x7 st) := by
  have hX := B.1
  have hL := B.2.1
  unfold b_X6_priceOf_140
  refine ww_iincb (lv' := fun v5 => [(7, .int v5), (0, .ref (x_b X + x0)), (1, .int x1), (2, .int x2), (3, .int x3), (4, .int x4), (6, .int x6)]) (c := 1) hX hL 6 rfl dX6_priceOf_140 rfl (by decide) (fun _ => rfl) (fun v5 => ?_)
  refine ww_goto (tgt := 14) hX dX6_priceOf_143 (by decide) ?_
  exact ww_sub [1, 2, 3, 4, 5, 6, 0] rfl (h_14 x0 x1 x2 x3 x4 x6 v5  st)
def b_X6_priceOf_102 (fu : Nat) (k_14 : Nat → Int32 → Int32 → Int32 → Int32 → Int32 → Int32 → St → Option (Int32 × St)) (x0 : Nat) (x1 : Int32) (x2 : Int32) (x3 : Int32) (x4 : Int32) (x6 : Int32) (x7 : Int32) (x8 : Int32) (y0 : Int32) (st : St) : Option (Int32 × St) :=
  if y0 = 0 then (
  b_X6_priceOf_140 fu k_14 x0 x1 x2 x3 x4 x6 x7  st)
  else (
  ck (¬ gR st x0 0 = 0) <|
  ck ((kd x0).1 = 6) <|
  bd (gR st x0 0) fun o6 =>
  ck ((kd o6).1 = 100 ∧ inb (x8 + 4) (kd o6).2) <|
  ck (¬ gR st x0 0 = 0) <|
  ck ((kd x0).1 = 6) <|
  bd (gR st x0 0) fun o7 =>
  ck ((kd o7).1 = 100 ∧ inb (x8 + 5) (kd o7).2) <|
  ca (f_X6_changed fu x6 (gI st o6 (ix (x8 + 4))) (gI st o7 (ix (x8 + 5))) x2 st) fun r8 s9 =>
  ca (f_J9_min_7cf53 fu 1000000 r8 s9) fun r10 s11 =>
  b_X6_priceOf_140 fu k_14 x0 x1 x2 x3 x4 r10 x7  s11)
set_option maxHeartbeats 4000000 in
set_option maxRecDepth 100000 in
theorem t_X6_priceOf_102 {X : CX} {res : Int32 × St} (B : BI X cX6_priceOf RX6 10 3 NN (some .int) res) (fu : Nat) (k_14 : Nat → Int32 → Int32 → Int32 → Int32 → Int32 → Int32 → St → Option (Int32 × St)) (h_14 : ∀ (x0 : Nat) (x1 : Int32) (x2 : Int32) (x3 : Int32) (x4 : Int32) (x6 : Int32) (x7 : Int32)  (st : St), WW X res NN 14 [(0, .ref (x_b X + x0)), (1, .int x1), (2, .int x2), (3, .int x3), (4, .int x4), (6, .int x6), (7, .int x7)] [] st (k_14 x0 x1 x2 x3 x4 x6 x7 st)) (x0 : Nat) (x1 : Int32) (x2 : Int32) (x3 : Int32) (x4 : Int32) (x6 : Int32) (x7 : Int32) (x8 : Int32) (y0 : Int32) (st : St) : WW X res NN 102 [(0, .ref (x_b X + x0)), (1, .int x1), (2, .int x2), (3, .int x3), (4, .int x4), (6, .int x6), (7, .int x7), (8, .int x8)] [.int y0] st (b_X6_priceOf_102 fu k_14 x0 x1 x2 x3 x4 x6 x7 x8 y0 st) := by
  have hX := B.1
  have hL := B.2.1
  unfold b_X6_priceOf_102
  refine ww_istore (lv' := [(9, .int y0), (0, .ref (x_b X + x0)), (1, .int x1), (2, .int x2), (3, .int x3), (4, .int x4), (6, .int x6), (7, .int x7), (8, .int x8)]) hX hL dX6_priceOf_102 (by decide) rfl ?_
  refine ww_iload hX 0 rfl dX6_priceOf_104 ?_
  refine ww_if_eq (tgt := 140) hX dX6_priceOf_106 (by decide) ?_ ?_
  · exact ww_sub [1, 2, 3, 4, 5, 6, 7] rfl (t_X6_priceOf_140 B fu k_14 h_14 x0 x1 x2 x3 x4 x6 x7  st)
  · refine ww_ldc (v := 1000000) hX k_X6_93 dX6_priceOf_109 ?_
    refine ww_iload hX 6 rfl dX6_priceOf_111 ?_
    refine ww_aload_n hX 1 rfl dX6_priceOf_113 rfl ?_
    refine ww_getR hX f_X6_11 (Or.inr ⟨_, rfl⟩) dX6_priceOf_114 ?_
    refine ww_bdR (fun o6 => ?_)
    refine ww_iload hX 8 rfl dX6_priceOf_117 ?_
    refine ww_iconst (v := 4) hX rfl dX6_priceOf_119 ?_
    refine ww_iadd hX dX6_priceOf_120 ?_
    refine ww_pc (b := 121) rfl ?_
    refine ww_ialdc hX k_iald dX6_priceOf_121 ?_
    refine ww_aload_n hX 1 rfl dX6_priceOf_122 rfl ?_
    refine ww_getR hX f_X6_11 (Or.inr ⟨_, rfl⟩) dX6_priceOf_123 ?_
    refine ww_bdR (fun o7 => ?_)
    refine ww_iload hX 8 rfl dX6_priceOf_126 ?_
    refine ww_iconst (v := 5) hX rfl dX6_priceOf_128 ?_
    refine ww_iadd hX dX6_priceOf_129 ?_
    refine ww_ialdc hX k_iald dX6_priceOf_130 ?_
    refine ww_iload_n hX 3 rfl dX6_priceOf_131 rfl ?_
    refine ww_pc (b := 132) rfl ?_
    refine ww_callSI (As := [.int x6, .int (gI st o6 (ix (x8 + 4))), .int (gI st o7 (ix (x8 + 5))), .int x2]) (rest := [.int 1000000]) hX (Rk.of B.2.2.1 B.2.2.2.1 (by decide) (by decide)) g_X6_97 (c_X6_changed (x_G X) (x_l X) fu x6 (gI st o6 (ix (x8 + 4))) (gI st o7 (ix (x8 + 5))) x2 st) rfl rfl (Nat.le_of_ble_eq_true rfl) dX6_priceOf_132 (fun r8 s9 => ?_)
    refine ww_callSI (As := [.int 1000000, .int r8]) (rest := []) hX (Rk.of B.2.2.1 B.2.2.2.1 (by decide) (by decide)) g_X6_94 (c_J9_min_7cf53 (x_G X) (x_l X) fu 1000000 r8 s9) rfl rfl (Nat.le_of_ble_eq_true rfl) dX6_priceOf_135 (fun r10 s11 => ?_)
    refine ww_istore (lv' := [(6, .int r10), (9, .int y0), (0, .ref (x_b X + x0)), (1, .int x1), (2, .int x2), (3, .int x3), (4, .int x4), (7, .int x7), (8, .int x8)]) hX hL dX6_priceOf_138 (by decide) rfl ?_
    exact ww_sub [2, 3, 4, 5, 6, 0, 7] rfl (t_X6_priceOf_140 B fu k_14 h_14 x0 x1 x2 x3 x4 r10 x7  s11)
def b_X6_priceOf_101 (fu : Nat) (k_14 : Nat → Int32 → Int32 → Int32 → Int32 → Int32 → Int32 → St → Option (Int32 × St)) (x0 : Nat) (x1 : Int32) (x2 : Int32) (x3 : Int32) (x4 : Int32) (x6 : Int32) (x7 : Int32) (x8 : Int32)  (st : St) : Option (Int32 × St) :=
  b_X6_priceOf_102 fu k_14 x0 x1 x2 x3 x4 x6 x7 x8 0 st
set_option maxHeartbeats 4000000 in
set_option maxRecDepth 100000 in
theorem t_X6_priceOf_101 {X : CX} {res : Int32 × St} (B : BI X cX6_priceOf RX6 10 3 NN (some .int) res) (fu : Nat) (k_14 : Nat → Int32 → Int32 → Int32 → Int32 → Int32 → Int32 → St → Option (Int32 × St)) (h_14 : ∀ (x0 : Nat) (x1 : Int32) (x2 : Int32) (x3 : Int32) (x4 : Int32) (x6 : Int32) (x7 : Int32)  (st : St), WW X res NN 14 [(0, .ref (x_b X + x0)), (1, .int x1), (2, .int x2), (3, .int x3), (4, .int x4), (6, .int x6), (7, .int x7)] [] st (k_14 x0 x1 x2 x3 x4 x6 x7 st)) (x0 : Nat) (x1 : Int32) (x2 : Int32) (x3 : Int32) (x4 : Int32) (x6 : Int32) (x7 : Int32) (x8 : Int32)  (st : St) : WW X res NN 101 [(0, .ref (x_b X + x0)), (1, .int x1), (2, .int x2), (3, .int x3), (4, .int x4), (6, .int x6), (7, .int x7), (8, .int x8)] [] st (b_X6_priceOf_101 fu k_14 x0 x1 x2 x3 x4 x6 x7 x8 st) := by
  have hX := B.1
  have hL := B.2.1
  unfold b_X6_priceOf_101
  refine ww_iconst (v := 0) hX rfl dX6_priceOf_101 ?_
  exact t_X6_priceOf_102 B fu k_14 h_14 x0 x1 x2 x3 x4 x6 x7 x8 0 st
def b_X6_priceOf_14_b (fu : Nat) (k_14 : Nat → Int32 → Int32 → Int32 → Int32 → Int32 → Int32 → St → Option (Int32 × St)) (x0 : Nat) (x1 : Int32) (x2 : Int32) (x3 : Int32) (x4 : Int32) (x6 : Int32) (x7 : Int32)  (st : St) : Option (Int32 × St) :=
  ck ((kd x0).1 = 6) <|
  if (gI st x0 2) ≤ x7 then (
  b_X6_priceOf_146 fu x6  st)
  else (
  if 20 ≤ x7 then (
  b_X6_priceOf_146 fu x6  st)
  else (
  bd (x7 * 6) fun v3 =>
  ck (¬ gR st x0 0 = 0) <|
  ck ((kd x0).1 = 6) <|
  bd (gR st x0 0) fun o4 =>
  ck ((kd o4).1 = 100 ∧ inb v3 (kd o4).2) <|
  if x2 < (gI st o4 (ix v3)) then (
  b_X6_priceOf_101 fu k_14 x0 x1 x2 x3 x4 x6 x7 v3  st)
  else (
  ck (¬ gR st x0 0 = 0) <|
  ck ((kd x0).1 = 6) <|
  bd (gR st x0 0) fun o12 =>
  ck ((kd o12).1 = 100 ∧ inb (v3 + 1) (kd o12).2) <|
  if (((gI st o12 (ix (v3 + 1))) >>> (x3 &&& 31)) &&& 1) = 0 then (
  b_X6_priceOf_101 fu k_14 x0 x1 x2 x3 x4 x6 x7 v3  st)
  else (
  ck (¬ gR st x0 0 = 0) <|
  ck ((kd x0).1 = 6) <|
  bd (gR st x0 0) fun o13 =>
  ck ((kd o13).1 = 100 ∧ inb (v3 + 2) (kd o13).2) <|
  if (((gI st o13 (ix (v3 + 2))) >>> (x4 &&& 31)) &&& 1) = 0 then (
  b_X6_priceOf_101 fu k_14 x0 x1 x2 x3 x4 x6 x7 v3  st)
  else (
  ck (¬ gR st x0 0 = 0) <|
  ck ((kd x0).1 = 6) <|
  bd (gR st x0 0) fun o14 =>
  ck ((kd o14).1 = 100 ∧ inb (v3 + 3) (kd o14).2) <|
  if (((gI st o14 (ix (v3 + 3))) >>> (x1 &&& 31)) &&& 1) = 0 then (
  b_X6_priceOf_101 fu k_14 x0 x1 x2 x3 x4 x6 x7 v3  st)
  else (
  b_X6_priceOf_102 fu k_14 x0 x1 x2 x3 x4 x6 x7 v3 1 st))))))
set_option maxHeartbeats 4000000 in
set_option maxRecDepth 100000 in
theorem t_X6_priceOf_14_b {X : CX} {res : Int32 × St} (B : BI X cX6_priceOf RX6 10 3 NN (some .int) res) (fu : Nat) (k_14 : Nat → Int32 → Int32 → Int32 → Int32 → Int32 → Int32 → St → Option (Int32 × St)) (h_14 : ∀ (x0 : Nat) (x1 : Int32) (x2 : Int32) (x3 : Int32) (x4 : Int32) (x6 : Int32) (x7 : Int32)  (st : St), WW X res NN 14 [(0, .ref (x_b X + x0)), (1, .int x1), (2, .int x2), (3, .int x3), (4, .int x4), (6, .int x6), (7, .int x7)] [] st (k_14 x0 x1 x2 x3 x4 x6 x7 st)) (x0 : Nat) (x1 : Int32) (x2 : Int32) (x3 : Int32) (x4 : Int32) (x6 : Int32) (x7 : Int32)  (st : St) : WW X res NN 14 [(0, .ref (x_b X + x0)), (1, .int x1), (2, .int x2), (3, .int x3), (4, .int x4), (6, .int x6), (7, .int x7)] [] st (b_X6_priceOf_14_b fu k_14 x0 x1 x2 x3 x4 x6 x7 st) := by
  have hX := B.1
  have hL := B.2.1
  unfold b_X6_priceOf_14_b
  refine ww_iload hX 6 rfl dX6_priceOf_14 ?_
  refine ww_aload_n hX 0 rfl dX6_priceOf_16 rfl ?_
  refine ww_getI hX f_X6_46 (Or.inl rfl) dX6_priceOf_17 ?_
  refine ww_icmp_ge (tgt := 146) hX dX6_priceOf_20 (by decide) ?_ ?_
  · exact ww_sub [5] rfl (t_X6_priceOf_146 B fu x6  st)
  · refine ww_iload hX 6 rfl dX6_priceOf_23 ?_
    refine ww_bipush (v := 20) hX rfl dX6_priceOf_25 ?_
    refine ww_icmp_ge (tgt := 146) hX dX6_priceOf_27 (by decide) ?_ ?_
    · exact ww_sub [5] rfl (t_X6_priceOf_146 B fu x6  st)
    · refine ww_iload hX 6 rfl dX6_priceOf_30 ?_
      refine ww_bipush (v := 6) hX rfl dX6_priceOf_32 ?_
      refine ww_imul hX dX6_priceOf_34 ?_
      refine ww_bdi (fun v3 => ?_)
      refine ww_istore (lv' := [(8, .int v3), (0, .ref (x_b X + x0)), (1, .int x1), (2, .int x2), (3, .int x3), (4, .int x4), (6, .int x6), (7, .int x7)]) hX hL dX6_priceOf_35 (by decide) rfl ?_
      refine ww_iload_n hX 3 rfl dX6_priceOf_37 rfl ?_
      refine ww_aload_n hX 1 rfl dX6_priceOf_38 rfl ?_
      refine ww_getR hX f_X6_11 (Or.inr ⟨_, rfl⟩) dX6_priceOf_39 ?_
      refine ww_bdR (fun o4 => ?_)
      refine ww_pc (b := 42) rfl ?_
      refine ww_iload hX 0 rfl dX6_priceOf_42 ?_
      refine ww_ialdc hX k_iald dX6_priceOf_44 ?_
      refine ww_icmp_lt (tgt := 101) hX dX6_priceOf_45 (by decide) ?_ ?_
      · exact ww_sub [1, 2, 3, 4, 5, 6, 7, 0] rfl (t_X6_priceOf_101 B fu k_14 h_14 x0 x1 x2 x3 x4 x6 x7 v3  st)
      · refine ww_aload_n hX 1 rfl dX6_priceOf_48 rfl ?_
        refine ww_getR hX f_X6_11 (Or.inr ⟨_, rfl⟩) dX6_priceOf_49 ?_
        refine ww_bdR (fun o12 => ?_)
        refine ww_iload hX 0 rfl dX6_priceOf_52 ?_
        refine ww_iconst (v := 1) hX rfl dX6_priceOf_54 ?_
        refine ww_iadd hX dX6_priceOf_55 ?_
        refine ww_ialdc hX k_iald dX6_priceOf_56 ?_
        refine ww_iload_n hX 4 rfl dX6_priceOf_57 rfl ?_
        refine ww_pc (b := 58) rfl ?_
        refine ww_ishr hX dX6_priceOf_58 ?_
        refine ww_iconst (v := 1) hX rfl dX6_priceOf_59 ?_
        refine ww_iand hX dX6_priceOf_60 ?_
        refine ww_if_eq (tgt := 101) hX dX6_priceOf_61 (by decide) ?_ ?_
        · exact ww_sub [1, 2, 3, 4, 5, 6, 7, 0] rfl (t_X6_priceOf_101 B fu k_14 h_14 x0 x1 x2 x3 x4 x6 x7 v3  st)
        · refine ww_aload_n hX 1 rfl dX6_priceOf_64 rfl ?_
          refine ww_getR hX f_X6_11 (Or.inr ⟨_, rfl⟩) dX6_priceOf_65 ?_
          refine ww_bdR (fun o13 => ?_)
          refine ww_iload hX 0 rfl dX6_priceOf_68 ?_
          refine ww_iconst (v := 2) hX rfl dX6_priceOf_70 ?_
          refine ww_iadd hX dX6_priceOf_71 ?_
          refine ww_ialdc hX k_iald dX6_priceOf_72 ?_
          refine ww_iload hX 5 rfl dX6_priceOf_73 ?_
          refine ww_pc (b := 75) rfl ?_
          refine ww_ishr hX dX6_priceOf_75 ?_
          refine ww_iconst (v := 1) hX rfl dX6_priceOf_76 ?_
          refine ww_iand hX dX6_priceOf_77 ?_
          refine ww_if_eq (tgt := 101) hX dX6_priceOf_78 (by decide) ?_ ?_
          · exact ww_sub [1, 2, 3, 4, 5, 6, 7, 0] rfl (t_X6_priceOf_101 B fu k_14 h_14 x0 x1 x2 x3 x4 x6 x7 v3  st)
          · refine ww_aload_n hX 1 rfl dX6_priceOf_81 rfl ?_
            refine ww_getR hX f_X6_11 (Or.inr ⟨_, rfl⟩) dX6_priceOf_82 ?_
            refine ww_bdR (fun o14 => ?_)
            refine ww_iload hX 0 rfl dX6_priceOf_85 ?_
            refine ww_iconst (v := 3) hX rfl dX6_priceOf_87 ?_
            refine ww_iadd hX dX6_priceOf_88 ?_
            refine ww_ialdc hX k_iald dX6_priceOf_89 ?_
            refine ww_iload_n hX 2 rfl dX6_priceOf_90 rfl ?_
            refine ww_pc (b := 91) rfl ?_
            refine ww_ishr hX dX6_priceOf_91 ?_
            refine ww_iconst (v := 1) hX rfl dX6_priceOf_92 ?_
            refine ww_iand hX dX6_priceOf_93 ?_
            refine ww_if_eq (tgt := 101) hX dX6_priceOf_94 (by decide) ?_ ?_
            · exact ww_sub [1, 2, 3, 4, 5, 6, 7, 0] rfl (t_X6_priceOf_101 B fu k_14 h_14 x0 x1 x2 x3 x4 x6 x7 v3  st)
            · refine ww_iconst (v := 1) hX rfl dX6_priceOf_97 ?_
              refine ww_goto (tgt := 102) hX dX6_priceOf_98 (by decide) ?_
              exact ww_sub [1, 2, 3, 4, 5, 6, 7, 0] rfl (t_X6_priceOf_102 B fu k_14 h_14 x0 x1 x2 x3 x4 x6 x7 v3 1 st)
def b_X6_priceOf_14 (fu : Nat) : Nat → Nat → Int32 → Int32 → Int32 → Int32 → Int32 → Int32 → St → Option (Int32 × St)
  | 0, _, _, _, _, _, _, _, _ => none
  | i + 1, x0, x1, x2, x3, x4, x6, x7, st => b_X6_priceOf_14_b fu (b_X6_priceOf_14 fu i) x0 x1 x2 x3 x4 x6 x7 st
theorem t_X6_priceOf_14 {X : CX} {res : Int32 × St} (B : BI X cX6_priceOf RX6 10 3 NN (some .int) res) (fu : Nat) : ∀ (i : Nat) (x0 : Nat) (x1 : Int32) (x2 : Int32) (x3 : Int32) (x4 : Int32) (x6 : Int32) (x7 : Int32)  (st : St), WW X res NN 14 [(0, .ref (x_b X + x0)), (1, .int x1), (2, .int x2), (3, .int x3), (4, .int x4), (6, .int x6), (7, .int x7)] [] st (b_X6_priceOf_14 fu i x0 x1 x2 x3 x4 x6 x7 st) := by
  intro i
  induction i with
  | zero => intro x0 x1 x2 x3 x4 x6 x7 st; exact ww_none
  | succ i ih => intro x0 x1 x2 x3 x4 x6 x7 st; exact t_X6_priceOf_14_b B fu (b_X6_priceOf_14 fu i) ih x0 x1 x2 x3 x4 x6 x7 st
def f_X6_priceOf (fu : Nat) (th : Nat) (p1 : Int32) (p2 : Int32) (p3 : Int32) (p4 : Int32) (p5 : Int32) (st : St) : Option (Int32 × St) :=
  ca (f_J9_min_7cf53 fu 1000000 (p2 * p5) st) fun r1 s2 =>
  b_X6_priceOf_14 fu fu th p1 p2 p3 p4 r1 0  s2
set_option maxHeartbeats 4000000 in
set_option maxRecDepth 100000 in
theorem t_X6_priceOf {X : CX} {res : Int32 × St} (B : BI X cX6_priceOf RX6 10 3 NN (some .int) res) (fu : Nat) (th : Nat) (p1 : Int32) (p2 : Int32) (p3 : Int32) (p4 : Int32) (p5 : Int32) (st : St) : WW X res NN 0 [(0, .ref (x_b X + th)), (1, .int p1), (2, .int p2), (3, .int p3), (4, .int p4), (5, .int p5)] [] st (f_X6_priceOf fu th p1 p2 p3 p4 p5 st) := by
  have hX := B.1
  have hL := B.2.1
  unfold f_X6_priceOf
  refine ww_ldc (v := 1000000) hX k_X6_93 dX6_priceOf_0 ?_
  refine ww_iload_n hX 2 rfl dX6_priceOf_2 rfl ?_
  refine ww_iload hX 5 rfl dX6_priceOf_3 ?_
  refine ww_imul hX dX6_priceOf_5 ?_
  refine ww_callSI (As := [.int 1000000, .int (p2 * p5)]) (rest := []) hX (Rk.of B.2.2.1 B.2.2.2.1 (by decide) (by decide)) g_X6_94 (c_J9_min_7cf53 (x_G X) (x_l X) fu 1000000 (p2 * p5) st) rfl rfl (Nat.le_of_ble_eq_true rfl) dX6_priceOf_6 (fun r1 s2 => ?_)
  refine ww_istore (lv' := [(6, .int r1), (0, .ref (x_b X + th)), (1, .int p1), (2, .int p2), (3, .int p3), (4, .int p4), (5, .int p5)]) hX hL dX6_priceOf_9 (by decide) rfl ?_
  refine ww_iconst (v := 0) hX rfl dX6_priceOf_11 ?_
  refine ww_pc (b := 12) rfl ?_
  refine ww_istore (lv' := [(7, .int 0), (6, .int r1), (0, .ref (x_b X + th)), (1, .int p1), (2, .int p2), (3, .int p3), (4, .int p4), (5, .int p5)]) hX hL dX6_priceOf_12 (by decide) rfl ?_
  exact ww_sub [2, 3, 4, 5, 6, 1, 0] rfl (t_X6_priceOf_14 B fu fu th p1 p2 p3 p4 r1 0  s2)
theorem c_X6_priceOf (G : GX) (l : Launch) (fu : Nat) (th : Nat) (p1 : Int32) (p2 : Int32) (p3 : Int32) (p4 : Int32) (p5 : Int32) (st : St) : MI G NN l yX6_priceOf cX6_priceOf 10 (some .int) 3 [.ref (G.2.2.1 + th), .int p1, .int p2, .int p3, .int p4, .int p5] st (f_X6_priceOf fu th p1 p2 p3 p4 p5 st) := mkI (by decide) (Nat.le_of_ble_eq_true rfl) (fun X res hl hG B => by subst hl; subst hG; exact t_X6_priceOf B fu th p1 p2 p3 p4 p5 st)
/-! StageHouse$Box.price(I)I -/
def f_X2_price (fu : Nat) (th : Nat) (p1 : Int32) (st : St) : Option (Int32 × St) :=
  ck (¬ gR st th 0 = 0) <|
  ck ((kd th).1 = 2) <|
  bd (gR st th 0) fun o1 =>
  ck (¬ gR st o1 1 = 0) <|
  ck ((kd o1).1 = 4) <|
  bd (gR st o1 1) fun o2 =>
  ck (¬ gR st th 2 = 0) <|
  ck ((kd th).1 = 2) <|
  bd (gR st th 2) fun o3 =>
  ck ((kd o3).1 = 100 ∧ inb p1 (kd o3).2) <|
  ck (¬ 30 = 0) <|
  ck ((kd o2).1 = 100 ∧ inb ((gI st o3 (ix p1)) / 30) (kd o2).2) <|
  bd (gI st o2 (ix ((gI st o3 (ix p1)) / 30))) fun v4 =>
  ck (¬ gR st th 1 = 0) <|
  ck ((kd th).1 = 2) <|
  bd (gR st th 1) fun o5 =>
  ck (¬ gR st th 3 = 0) <|
  ck ((kd th).1 = 2) <|
  bd (gR st th 3) fun o6 =>
  ck ((kd o6).1 = 100 ∧ inb p1 (kd o6).2) <|
  ck (¬ gR st th 4 = 0) <|
  ck ((kd th).1 = 2) <|
  bd (gR st th 4) fun o7 =>
  ck ((kd o7).1 = 100 ∧ inb p1 (kd o7).2) <|
  ck (¬ gR st th 5 = 0) <|
  ck ((kd th).1 = 2) <|
  bd (gR st th 5) fun o8 =>
  ck ((kd o8).1 = 100 ∧ inb p1 (kd o8).2) <|
  ck (¬ gR st th 0 = 0) <|
  ck ((kd th).1 = 2) <|
  bd (gR st th 0) fun o9 =>
  ck (¬ gR st o9 0 = 0) <|
  ck ((kd o9).1 = 4) <|
  bd (gR st o9 0) fun o10 =>
  ck ((kd o10).1 = 100 ∧ inb v4 (kd o10).2) <|
  ck ((kd o5).1 = 6) <|
  ca (f_X6_priceOf fu o5 v4 (gI st o6 (ix p1)) (gI st o7 (ix p1)) (gI st o8 (ix p1)) (gI st o10 (ix v4)) st) fun r11 s12 =>
  some (r11, s12)
set_option maxHeartbeats 4000000 in
set_option maxRecDepth 100000 in
theorem t_X2_price {X : CX} {res : Int32 × St} (B : BI X cX2_price RX2 3 4 NN (some .int) res) (fu : Nat) (th : Nat) (p1 : Int32) (st : St) : WW X res NN 0 [(0, .ref (x_b X + th)), (1, .int p1)] [] st (f_X2_price fu th p1 st) := by
  have hX := B.1
  have hL := B.2.1
  unfold f_X2_price
  refine ww_aload_n hX 0 rfl dX2_price_0 rfl ?_
  refine ww_getR hX f_X2_39 (Or.inl ⟨_, rfl⟩) dX2_price_1 ?_
  refine ww_bdR (fun o1 => ?_)
  refine ww_getR hX f_X2_61 (Or.inr ⟨_, rfl⟩) dX2_price_4 ?_
  refine ww_bdR (fun o2 => ?_)
  refine ww_aload_n hX 0 rfl dX2_price_7 rfl ?_
  refine ww_getR hX f_X2_11 (Or.inr ⟨_, rfl⟩) dX2_price_8 ?_
  refine ww_bdR (fun o3 => ?_)
  refine ww_iload_n hX 1 rfl dX2_price_11 rfl ?_
  refine ww_ialdc hX k_iald dX2_price_12 ?_
  refine ww_pc (b := 13) rfl ?_
  refine ww_bipush (v := 30) hX rfl dX2_price_13 ?_
  refine ww_idiv hX dX2_price_15 ?_
  refine ww_ialdc hX k_iald dX2_price_16 ?_
  refine ww_bdi (fun v4 => ?_)
  refine ww_istore_n (lv' := [(2, .int v4), (0, .ref (x_b X + th)), (1, .int p1)]) hX hL dX2_price_17 rfl (by decide) rfl ?_
  refine ww_aload_n hX 1 rfl dX2_price_18 rfl ?_
  refine ww_getR hX f_X2_43 (Or.inl ⟨_, rfl⟩) dX2_price_19 ?_
  refine ww_bdR (fun o5 => ?_)
  refine ww_iload_n hX 0 rfl dX2_price_22 rfl ?_
  refine ww_aload_n hX 1 rfl dX2_price_23 rfl ?_
  refine ww_pc (b := 24) rfl ?_
  refine ww_getR hX f_X2_15 (Or.inr ⟨_, rfl⟩) dX2_price_24 ?_
  refine ww_bdR (fun o6 => ?_)
  refine ww_iload_n hX 2 rfl dX2_price_27 rfl ?_
  refine ww_ialdc hX k_iald dX2_price_28 ?_
  refine ww_aload_n hX 1 rfl dX2_price_29 rfl ?_
  refine ww_getR hX f_X2_18 (Or.inr ⟨_, rfl⟩) dX2_price_30 ?_
  refine ww_bdR (fun o7 => ?_)
  refine ww_iload_n hX 2 rfl dX2_price_33 rfl ?_
  refine ww_ialdc hX k_iald dX2_price_34 ?_
  refine ww_aload_n hX 1 rfl dX2_price_35 rfl ?_
  refine ww_pc (b := 36) rfl ?_
  refine ww_getR hX f_X2_21 (Or.inr ⟨_, rfl⟩) dX2_price_36 ?_
  refine ww_bdR (fun o8 => ?_)
  refine ww_iload_n hX 2 rfl dX2_price_39 rfl ?_
  refine ww_ialdc hX k_iald dX2_price_40 ?_
  refine ww_aload_n hX 1 rfl dX2_price_41 rfl ?_
  refine ww_getR hX f_X2_39 (Or.inl ⟨_, rfl⟩) dX2_price_42 ?_
  refine ww_bdR (fun o9 => ?_)
  refine ww_getR hX f_X2_64 (Or.inr ⟨_, rfl⟩) dX2_price_45 ?_
  refine ww_bdR (fun o10 => ?_)
  refine ww_iload_n hX 0 rfl dX2_price_48 rfl ?_
  refine ww_ialdc hX k_iald dX2_price_49 ?_
  refine ww_pc (b := 50) rfl ?_
  refine ww_callVI (As := [.int v4, .int (gI st o6 (ix p1)), .int (gI st o7 (ix p1)), .int (gI st o8 (ix p1)), .int (gI st o10 (ix v4))]) (rest := []) (o := o5) hX (Rk.of B.2.2.1 B.2.2.2.1 (by decide) (by decide)) g_X2_66 g_X2_66.in (fun _ => c_X6_priceOf (x_G X) (x_l X) fu o5 v4 (gI st o6 (ix p1)) (gI st o7 (ix p1)) (gI st o8 (ix p1)) (gI st o10 (ix v4)) st) rfl rfl (Nat.le_of_ble_eq_true rfl) dX2_price_50 (fun r11 s12 => ?_)
  exact ww_iret B dX2_price_53
theorem c_X2_price (G : GX) (l : Launch) (fu : Nat) (th : Nat) (p1 : Int32) (st : St) : MI G NN l yX2_price cX2_price 3 (some .int) 4 [.ref (G.2.2.1 + th), .int p1] st (f_X2_price fu th p1 st) := mkI (by decide) (Nat.le_of_ble_eq_true rfl) (fun X res hl hG B => by subst hl; subst hG; exact t_X2_price B fu th p1 st)
/-! StageHouse$Box.tellHold(II)I -/
def f_X2_tellHold (fu : Nat) (th : Nat) (p1 : Int32) (p2 : Int32) (st : St) : Option (Int32 × St) :=
  if p2 = 0 then (
  ck (¬ gR st th 2 = 0) <|
  ck ((kd th).1 = 2) <|
  bd (gR st th 2) fun o1 =>
  ck ((kd o1).1 = 100 ∧ inb p1 (kd o1).2) <|
  ck (¬ 30 = 0) <|
  some ((gI st o1 (ix p1)) / 30, st))
  else if p2 = 1 then (
  ck (¬ gR st th 2 = 0) <|
  ck ((kd th).1 = 2) <|
  bd (gR st th 2) fun o2 =>
  ck ((kd o2).1 = 100 ∧ inb p1 (kd o2).2) <|
  ck (¬ 30 = 0) <|
  some ((gI st o2 (ix p1)) - (gI st o2 (ix p1)) / 30 * 30, st))
  else if p2 = 2 then (
  ck (¬ gR st th 3 = 0) <|
  ck ((kd th).1 = 2) <|
  bd (gR st th 3) fun o3 =>
  ck ((kd o3).1 = 100 ∧ inb p1 (kd o3).2) <|
  some (gI st o3 (ix p1), st))
  else if p2 = 3 then (
  ck ((kd th).1 = 2) <|
  ca (f_X2_price fu th p1 st) fun r4 s5 =>
  some (r4, s5))
  else if p2 = 4 then (
  ck (¬ gR st th 6 = 0) <|
  ck ((kd th).1 = 2) <|
  bd (gR st th 6) fun o6 =>
  ck ((kd o6).1 = 100 ∧ inb p1 (kd o6).2) <|
  some (gI st o6 (ix p1), st))
  else (
  some ((-1), st))
set_option maxHeartbeats 4000000 in
set_option maxRecDepth 100000 in
theorem t_X2_tellHold {X : CX} {res : Int32 × St} (B : BI X cX2_tellHold RX2 3 5 NN (some .int) res) (fu : Nat) (th : Nat) (p1 : Int32) (p2 : Int32) (st : St) : WW X res NN 0 [(0, .ref (x_b X + th)), (1, .int p1), (2, .int p2)] [] st (f_X2_tellHold fu th p1 p2 st) := by
  have hX := B.1
  have hL := B.2.1
  unfold f_X2_tellHold
  refine ww_iload_n hX 2 rfl dX2_tellHold_0 rfl ?_
  refine ww_if (fun c1_0 => ?_) (fun c1_0 => ?_)
  · refine ww_tsw (off := 35) (tgt := 36) hX dX2_tellHold_1 (by rw [c1_0]; decide) (by rw [c1_0]; decide) (by rw [c1_0]; rfl) (by decide) ?_
    refine ww_aload_n hX 0 rfl dX2_tellHold_36 rfl ?_
    refine ww_getR hX f_X2_11 (Or.inr ⟨_, rfl⟩) dX2_tellHold_37 ?_
    refine ww_bdR (fun o1 => ?_)
    refine ww_iload_n hX 1 rfl dX2_tellHold_40 rfl ?_
    refine ww_ialdc hX k_iald dX2_tellHold_41 ?_
    refine ww_bipush (v := 30) hX rfl dX2_tellHold_42 ?_
    refine ww_idiv hX dX2_tellHold_44 ?_
    exact ww_iret B dX2_tellHold_45
  refine ww_if (fun c1_1 => ?_) (fun c1_1 => ?_)
  · refine ww_tsw (off := 45) (tgt := 46) hX dX2_tellHold_1 (by rw [c1_1]; decide) (by rw [c1_1]; decide) (by rw [c1_1]; rfl) (by decide) ?_
    refine ww_aload_n hX 0 rfl dX2_tellHold_46 rfl ?_
    refine ww_getR hX f_X2_11 (Or.inr ⟨_, rfl⟩) dX2_tellHold_47 ?_
    refine ww_bdR (fun o2 => ?_)
    refine ww_iload_n hX 1 rfl dX2_tellHold_50 rfl ?_
    refine ww_ialdc hX k_iald dX2_tellHold_51 ?_
    refine ww_bipush (v := 30) hX rfl dX2_tellHold_52 ?_
    refine ww_irem hX dX2_tellHold_54 ?_
    exact ww_iret B dX2_tellHold_55
  refine ww_if (fun c1_2 => ?_) (fun c1_2 => ?_)
  · refine ww_tsw (off := 55) (tgt := 56) hX dX2_tellHold_1 (by rw [c1_2]; decide) (by rw [c1_2]; decide) (by rw [c1_2]; rfl) (by decide) ?_
    refine ww_aload_n hX 0 rfl dX2_tellHold_56 rfl ?_
    refine ww_getR hX f_X2_15 (Or.inr ⟨_, rfl⟩) dX2_tellHold_57 ?_
    refine ww_bdR (fun o3 => ?_)
    refine ww_iload_n hX 1 rfl dX2_tellHold_60 rfl ?_
    refine ww_ialdc hX k_iald dX2_tellHold_61 ?_
    exact ww_iret B dX2_tellHold_62
  refine ww_if (fun c1_3 => ?_) (fun c1_3 => ?_)
  · refine ww_tsw (off := 62) (tgt := 63) hX dX2_tellHold_1 (by rw [c1_3]; decide) (by rw [c1_3]; decide) (by rw [c1_3]; rfl) (by decide) ?_
    refine ww_aload_n hX 0 rfl dX2_tellHold_63 rfl ?_
    refine ww_iload_n hX 1 rfl dX2_tellHold_64 rfl ?_
    refine ww_callVI (As := [.int p1]) (rest := []) (o := th) hX (Rk.of B.2.2.1 B.2.2.2.1 (by decide) (by decide)) g_X2_72 g_X2_72.in (fun _ => c_X2_price (x_G X) (x_l X) fu th p1 st) rfl rfl (Nat.le_of_ble_eq_true rfl) dX2_tellHold_65 (fun r4 s5 => ?_)
    exact ww_iret B dX2_tellHold_68
  refine ww_if (fun c1_4 => ?_) (fun c1_4 => ?_)
  · refine ww_tsw (off := 68) (tgt := 69) hX dX2_tellHold_1 (by rw [c1_4]; decide) (by rw [c1_4]; decide) (by rw [c1_4]; rfl) (by decide) ?_
    refine ww_aload_n hX 0 rfl dX2_tellHold_69 rfl ?_
    refine ww_getR hX f_X2_24 (Or.inr ⟨_, rfl⟩) dX2_tellHold_70 ?_
    refine ww_bdR (fun o6 => ?_)
    refine ww_iload_n hX 1 rfl dX2_tellHold_73 rfl ?_
    refine ww_ialdc hX k_iald dX2_tellHold_74 ?_
    exact ww_iret B dX2_tellHold_75
  refine ww_tswd (tgt := 76) hX dX2_tellHold_1 (by have z0 : p2.toInt ≠ 0 := fun q => c1_0 (Int32.toInt_inj.mp (q.trans (by decide))); have z1 : p2.toInt ≠ 1 := fun q => c1_1 (Int32.toInt_inj.mp (q.trans (by decide))); have z2 : p2.toInt ≠ 2 := fun q => c1_2 (Int32.toInt_inj.mp (q.trans (by decide))); have z3 : p2.toInt ≠ 3 := fun q => c1_3 (Int32.toInt_inj.mp (q.trans (by decide))); have z4 : p2.toInt ≠ 4 := fun q => c1_4 (Int32.toInt_inj.mp (q.trans (by decide))); omega) (by decide) ?_
  refine ww_iconst (v := (-1)) hX rfl dX2_tellHold_76 ?_
  exact ww_iret B dX2_tellHold_77
theorem c_X2_tellHold (G : GX) (l : Launch) (fu : Nat) (th : Nat) (p1 : Int32) (p2 : Int32) (st : St) : MI G NN l yX2_tellHold cX2_tellHold 3 (some .int) 5 [.ref (G.2.2.1 + th), .int p1, .int p2] st (f_X2_tellHold fu th p1 p2 st) := mkI (by decide) (Nat.le_of_ble_eq_true rfl) (fun X res hl hG B => by subst hl; subst hG; exact t_X2_tellHold B fu th p1 p2 st)
/-! StageHouse$Box.sell(II)I -/
def f_X2_sell (fu : Nat) (th : Nat) (p1 : Int32) (p2 : Int32) (st : St) : Option (Int32 × St) :=
  ck ((kd th).1 = 2) <|
  bd (gI st th 12) fun v1 =>
  if v1 < 300 then (
  ck (¬ gR st th 7 = 0) <|
  ck ((kd th).1 = 2) <|
  bd (gR st th 7) fun o2 =>
  ck (¬ gR st th 2 = 0) <|
  ck ((kd th).1 = 2) <|
  bd (gR st th 2) fun o3 =>
  ck ((kd o3).1 = 100 ∧ inb p1 (kd o3).2) <|
  ck ((kd o2).1 = 100 ∧ inb v1 (kd o2).2) <|
  bd (sI st o2 (ix v1) (gI st o3 (ix p1))) fun s4 =>
  ck (¬ gR s4 th 8 = 0) <|
  ck ((kd th).1 = 2) <|
  bd (gR s4 th 8) fun o5 =>
  ck (¬ gR s4 th 3 = 0) <|
  ck ((kd th).1 = 2) <|
  bd (gR s4 th 3) fun o6 =>
  ck ((kd o6).1 = 100 ∧ inb p1 (kd o6).2) <|
  ck ((kd o5).1 = 100 ∧ inb v1 (kd o5).2) <|
  bd (sI s4 o5 (ix v1) (gI s4 o6 (ix p1))) fun s7 =>
  ck (¬ gR s7 th 9 = 0) <|
  ck ((kd th).1 = 2) <|
  bd (gR s7 th 9) fun o8 =>
  ck ((kd o8).1 = 100 ∧ inb v1 (kd o8).2) <|
  bd (sI s7 o8 (ix v1) p2) fun s9 =>
  ck (¬ gR s9 th 10 = 0) <|
  ck ((kd th).1 = 2) <|
  bd (gR s9 th 10) fun o10 =>
  ck ((kd o10).1 = 100 ∧ inb v1 (kd o10).2) <|
  bd (sI s9 o10 (ix v1) 0) fun s11 =>
  ck ((kd th).1 = 2) <|
  ck ((kd th).1 = 2) <|
  bd (sI s11 th 12 ((gI s11 th 12) + 1)) fun s12 =>
  ck ((kd th).1 = 2) <|
  ck ((kd th).1 = 2) <|
  bd (sI s12 th 14 ((gI s12 th 14) + p2)) fun s13 =>
  ck ((kd th).1 = 2) <|
  ck (¬ gR s13 th 3 = 0) <|
  ck ((kd th).1 = 2) <|
  bd (gR s13 th 3) fun o14 =>
  ck ((kd o14).1 = 100 ∧ inb p1 (kd o14).2) <|
  ck ((kd th).1 = 2) <|
  bd (sI s13 th 15 ((gI s13 th 15) + (gI s13 o14 (ix p1)))) fun s15 =>
  ck ((kd th).1 = 2) <|
  cv (f_X2_drop fu th p1 s15) fun s16 =>
  ck (¬ gR s16 th 0 = 0) <|
  ck ((kd th).1 = 2) <|
  bd (gR s16 th 0) fun o17 =>
  ck (¬ gR s16 th 7 = 0) <|
  ck ((kd th).1 = 2) <|
  bd (gR s16 th 7) fun o18 =>
  ck ((kd o18).1 = 100 ∧ inb v1 (kd o18).2) <|
  ck (¬ gR s16 th 8 = 0) <|
  ck ((kd th).1 = 2) <|
  bd (gR s16 th 8) fun o19 =>
  ck ((kd o19).1 = 100 ∧ inb v1 (kd o19).2) <|
  ck ((kd o17).1 = 4) <|
  cv (f_X4_mark fu o17 (gI s16 o18 (ix v1)) (gI s16 o19 (ix v1)) 2 s16) fun s20 =>
  some (v1, s20))
  else (
  some ((-1), st))
set_option maxHeartbeats 4000000 in
set_option maxRecDepth 100000 in
theorem t_X2_sell {X : CX} {res : Int32 × St} (B : BI X cX2_sell RX2 4 3 NN (some .int) res) (fu : Nat) (th : Nat) (p1 : Int32) (p2 : Int32) (st : St) : WW X res NN 0 [(0, .ref (x_b X + th)), (1, .int p1), (2, .int p2)] [] st (f_X2_sell fu th p1 p2 st) := by
  have hX := B.1
  have hL := B.2.1
  unfold f_X2_sell
  refine ww_aload_n hX 0 rfl dX2_sell_0 rfl ?_
  refine ww_getI hX f_X2_76 (Or.inl rfl) dX2_sell_1 ?_
  refine ww_bdi (fun v1 => ?_)
  refine ww_istore_n (lv' := [(3, .int v1), (0, .ref (x_b X + th)), (1, .int p1), (2, .int p2)]) hX hL dX2_sell_4 rfl (by decide) rfl ?_
  refine ww_iload_n hX 0 rfl dX2_sell_5 rfl ?_
  refine ww_sipush (v := 300) hX rfl dX2_sell_6 ?_
  refine ww_icmp_lt (tgt := 14) hX dX2_sell_9 (by decide) ?_ ?_
  · refine ww_aload_n hX 1 rfl dX2_sell_14 rfl ?_
    refine ww_getR hX f_X2_27 (Or.inr ⟨_, rfl⟩) dX2_sell_15 ?_
    refine ww_bdR (fun o2 => ?_)
    refine ww_iload_n hX 0 rfl dX2_sell_18 rfl ?_
    refine ww_aload_n hX 1 rfl dX2_sell_19 rfl ?_
    refine ww_getR hX f_X2_11 (Or.inr ⟨_, rfl⟩) dX2_sell_20 ?_
    refine ww_bdR (fun o3 => ?_)
    refine ww_iload_n hX 2 rfl dX2_sell_23 rfl ?_
    refine ww_ialdc hX k_iald dX2_sell_24 ?_
    refine ww_pc (b := 25) rfl ?_
    refine ww_iastc hX k_iast dX2_sell_25 ?_
    refine ww_bds (fun s4 => ?_)
    refine ww_aload_n hX 1 rfl dX2_sell_26 rfl ?_
    refine ww_getR hX f_X2_30 (Or.inr ⟨_, rfl⟩) dX2_sell_27 ?_
    refine ww_bdR (fun o5 => ?_)
    refine ww_iload_n hX 0 rfl dX2_sell_30 rfl ?_
    refine ww_aload_n hX 1 rfl dX2_sell_31 rfl ?_
    refine ww_getR hX f_X2_15 (Or.inr ⟨_, rfl⟩) dX2_sell_32 ?_
    refine ww_bdR (fun o6 => ?_)
    refine ww_iload_n hX 2 rfl dX2_sell_35 rfl ?_
    refine ww_ialdc hX k_iald dX2_sell_36 ?_
    refine ww_pc (b := 37) rfl ?_
    refine ww_iastc hX k_iast dX2_sell_37 ?_
    refine ww_bds (fun s7 => ?_)
    refine ww_aload_n hX 1 rfl dX2_sell_38 rfl ?_
    refine ww_getR hX f_X2_33 (Or.inr ⟨_, rfl⟩) dX2_sell_39 ?_
    refine ww_bdR (fun o8 => ?_)
    refine ww_iload_n hX 0 rfl dX2_sell_42 rfl ?_
    refine ww_iload_n hX 3 rfl dX2_sell_43 rfl ?_
    refine ww_iastc hX k_iast dX2_sell_44 ?_
    refine ww_bds (fun s9 => ?_)
    refine ww_aload_n hX 1 rfl dX2_sell_45 rfl ?_
    refine ww_getR hX f_X2_36 (Or.inr ⟨_, rfl⟩) dX2_sell_46 ?_
    refine ww_bdR (fun o10 => ?_)
    refine ww_pc (b := 49) rfl ?_
    refine ww_iload_n hX 0 rfl dX2_sell_49 rfl ?_
    refine ww_iconst (v := 0) hX rfl dX2_sell_50 ?_
    refine ww_iastc hX k_iast dX2_sell_51 ?_
    refine ww_bds (fun s11 => ?_)
    refine ww_aload_n hX 1 rfl dX2_sell_52 rfl ?_
    refine ww_dup hX rfl dX2_sell_53 ?_
    refine ww_getI hX f_X2_76 (Or.inl rfl) dX2_sell_54 ?_
    refine ww_iconst (v := 1) hX rfl dX2_sell_57 ?_
    refine ww_iadd hX dX2_sell_58 ?_
    refine ww_pc (b := 59) rfl ?_
    refine ww_putI hX f_X2_76 rfl dX2_sell_59 ?_
    refine ww_bds (fun s12 => ?_)
    refine ww_aload_n hX 1 rfl dX2_sell_62 rfl ?_
    refine ww_dup hX rfl dX2_sell_63 ?_
    refine ww_getI hX f_X2_79 (Or.inl rfl) dX2_sell_64 ?_
    refine ww_iload_n hX 3 rfl dX2_sell_67 rfl ?_
    refine ww_iadd hX dX2_sell_68 ?_
    refine ww_putI hX f_X2_79 rfl dX2_sell_69 ?_
    refine ww_bds (fun s13 => ?_)
    refine ww_aload_n hX 1 rfl dX2_sell_72 rfl ?_
    refine ww_pc (b := 73) rfl ?_
    refine ww_dup hX rfl dX2_sell_73 ?_
    refine ww_getI hX f_X2_82 (Or.inl rfl) dX2_sell_74 ?_
    refine ww_aload_n hX 1 rfl dX2_sell_77 rfl ?_
    refine ww_getR hX f_X2_15 (Or.inr ⟨_, rfl⟩) dX2_sell_78 ?_
    refine ww_bdR (fun o14 => ?_)
    refine ww_iload_n hX 2 rfl dX2_sell_81 rfl ?_
    refine ww_ialdc hX k_iald dX2_sell_82 ?_
    refine ww_iadd hX dX2_sell_83 ?_
    refine ww_putI hX f_X2_82 rfl dX2_sell_84 ?_
    refine ww_bds (fun s15 => ?_)
    refine ww_pc (b := 87) rfl ?_
    refine ww_aload_n hX 1 rfl dX2_sell_87 rfl ?_
    refine ww_iload_n hX 2 rfl dX2_sell_88 rfl ?_
    refine ww_callVV (As := [.int p1]) (rest := []) (o := th) hX (Rk.of B.2.2.1 B.2.2.2.1 (by decide) (by decide)) g_X2_57 g_X2_57.in (fun _ => c_X2_drop (x_G X) (x_l X) fu th p1 s15) rfl rfl (Nat.le_of_ble_eq_true rfl) dX2_sell_89 (fun s16 => ?_)
    refine ww_aload_n hX 1 rfl dX2_sell_92 rfl ?_
    refine ww_getR hX f_X2_39 (Or.inl ⟨_, rfl⟩) dX2_sell_93 ?_
    refine ww_bdR (fun o17 => ?_)
    refine ww_aload_n hX 1 rfl dX2_sell_96 rfl ?_
    refine ww_getR hX f_X2_27 (Or.inr ⟨_, rfl⟩) dX2_sell_97 ?_
    refine ww_bdR (fun o18 => ?_)
    refine ww_iload_n hX 0 rfl dX2_sell_100 rfl ?_
    refine ww_pc (b := 101) rfl ?_
    refine ww_ialdc hX k_iald dX2_sell_101 ?_
    refine ww_aload_n hX 1 rfl dX2_sell_102 rfl ?_
    refine ww_getR hX f_X2_30 (Or.inr ⟨_, rfl⟩) dX2_sell_103 ?_
    refine ww_bdR (fun o19 => ?_)
    refine ww_iload_n hX 0 rfl dX2_sell_106 rfl ?_
    refine ww_ialdc hX k_iald dX2_sell_107 ?_
    refine ww_iconst (v := 2) hX rfl dX2_sell_108 ?_
    refine ww_callVV (As := [.int (gI s16 o18 (ix v1)), .int (gI s16 o19 (ix v1)), .int 2]) (rest := []) (o := o17) hX (Rk.of B.2.2.1 B.2.2.2.1 (by decide) (by decide)) g_X2_53 g_X2_53.in (fun _ => c_X4_mark (x_G X) (x_l X) fu o17 (gI s16 o18 (ix v1)) (gI s16 o19 (ix v1)) 2 s16) rfl rfl (Nat.le_of_ble_eq_true rfl) dX2_sell_109 (fun s20 => ?_)
    refine ww_iload_n hX 0 rfl dX2_sell_112 rfl ?_
    refine ww_pc (b := 113) rfl ?_
    exact ww_iret B dX2_sell_113
  · refine ww_iconst (v := (-1)) hX rfl dX2_sell_12 ?_
    exact ww_iret B dX2_sell_13
theorem c_X2_sell (G : GX) (l : Launch) (fu : Nat) (th : Nat) (p1 : Int32) (p2 : Int32) (st : St) : MI G NN l yX2_sell cX2_sell 4 (some .int) 3 [.ref (G.2.2.1 + th), .int p1, .int p2] st (f_X2_sell fu th p1 p2 st) := mkI (by decide) (Nat.le_of_ble_eq_true rfl) (fun X res hl hG B => by subst hl; subst hG; exact t_X2_sell B fu th p1 p2 st)
/-! StageHouse$Box.isOpen(I)Z -/
def b_X2_isOpen_33 (fu : Nat)  (y0 : Int32) (st : St) : Option (Int32 × St) :=
  ck (isb y0) (some (y0, st))
set_option maxHeartbeats 4000000 in
set_option maxRecDepth 100000 in
theorem t_X2_isOpen_33 {X : CX} {res : Int32 × St} (B : BI X cX2_isOpen RX2 2 1 NN (some .boolean) res) (fu : Nat)  (y0 : Int32) (st : St) : WW X res NN 33 [] [.int y0] st (b_X2_isOpen_33 fu y0 st) := by
  have hX := B.1
  have hL := B.2.1
  unfold b_X2_isOpen_33
  exact ww_zret B dX2_isOpen_33
def b_X2_isOpen_32 (fu : Nat)   (st : St) : Option (Int32 × St) :=
  b_X2_isOpen_33 fu  0 st
set_option maxHeartbeats 4000000 in
set_option maxRecDepth 100000 in
theorem t_X2_isOpen_32 {X : CX} {res : Int32 × St} (B : BI X cX2_isOpen RX2 2 1 NN (some .boolean) res) (fu : Nat)   (st : St) : WW X res NN 32 [] [] st (b_X2_isOpen_32 fu  st) := by
  have hX := B.1
  have hL := B.2.1
  unfold b_X2_isOpen_32
  refine ww_iconst (v := 0) hX rfl dX2_isOpen_32 ?_
  exact t_X2_isOpen_33 B fu  0 st
def f_X2_isOpen (fu : Nat) (th : Nat) (p1 : Int32) (st : St) : Option (Int32 × St) :=
  if p1 < 0 then (
  b_X2_isOpen_32 fu   st)
  else (
  ck ((kd th).1 = 2) <|
  if (gI st th 12) ≤ p1 then (
  b_X2_isOpen_32 fu   st)
  else (
  if 300 ≤ p1 then (
  b_X2_isOpen_32 fu   st)
  else (
  ck (¬ gR st th 10 = 0) <|
  ck ((kd th).1 = 2) <|
  bd (gR st th 10) fun o1 =>
  ck ((kd o1).1 = 100 ∧ inb p1 (kd o1).2) <|
  if (gI st o1 (ix p1)) = 0 then (
  b_X2_isOpen_33 fu  1 st)
  else (
  b_X2_isOpen_32 fu   st))))
set_option maxHeartbeats 4000000 in
set_option maxRecDepth 100000 in
theorem t_X2_isOpen {X : CX} {res : Int32 × St} (B : BI X cX2_isOpen RX2 2 1 NN (some .boolean) res) (fu : Nat) (th : Nat) (p1 : Int32) (st : St) : WW X res NN 0 [(0, .ref (x_b X + th)), (1, .int p1)] [] st (f_X2_isOpen fu th p1 st) := by
  have hX := B.1
  have hL := B.2.1
  unfold f_X2_isOpen
  refine ww_iload_n hX 1 rfl dX2_isOpen_0 rfl ?_
  refine ww_if_lt (tgt := 32) hX dX2_isOpen_1 (by decide) ?_ ?_
  · exact ww_sub [] rfl (t_X2_isOpen_32 B fu   st)
  · refine ww_iload_n hX 1 rfl dX2_isOpen_4 rfl ?_
    refine ww_aload_n hX 0 rfl dX2_isOpen_5 rfl ?_
    refine ww_getI hX f_X2_76 (Or.inl rfl) dX2_isOpen_6 ?_
    refine ww_icmp_ge (tgt := 32) hX dX2_isOpen_9 (by decide) ?_ ?_
    · exact ww_sub [] rfl (t_X2_isOpen_32 B fu   st)
    · refine ww_iload_n hX 1 rfl dX2_isOpen_12 rfl ?_
      refine ww_sipush (v := 300) hX rfl dX2_isOpen_13 ?_
      refine ww_icmp_ge (tgt := 32) hX dX2_isOpen_16 (by decide) ?_ ?_
      · exact ww_sub [] rfl (t_X2_isOpen_32 B fu   st)
      · refine ww_aload_n hX 0 rfl dX2_isOpen_19 rfl ?_
        refine ww_getR hX f_X2_36 (Or.inr ⟨_, rfl⟩) dX2_isOpen_20 ?_
        refine ww_bdR (fun o1 => ?_)
        refine ww_iload_n hX 1 rfl dX2_isOpen_23 rfl ?_
        refine ww_ialdc hX k_iald dX2_isOpen_24 ?_
        refine ww_if_ne (tgt := 32) hX dX2_isOpen_25 (by decide) ?_ ?_
        · exact ww_sub [] rfl (t_X2_isOpen_32 B fu   st)
        · refine ww_iconst (v := 1) hX rfl dX2_isOpen_28 ?_
          refine ww_goto (tgt := 33) hX dX2_isOpen_29 (by decide) ?_
          exact ww_sub [] rfl (t_X2_isOpen_33 B fu  1 st)
theorem c_X2_isOpen (G : GX) (l : Launch) (fu : Nat) (th : Nat) (p1 : Int32) (st : St) : MI G NN l yX2_isOpen cX2_isOpen 2 (some .boolean) 1 [.ref (G.2.2.1 + th), .int p1] st (f_X2_isOpen fu th p1 st) := mkI (by decide) (Nat.le_of_ble_eq_true rfl) (fun X res hl hG B => by subst hl; subst hG; exact t_X2_isOpen B fu th p1 st)
/-! StageHouse$Box.refund(I)I -/
def f_X2_refund (fu : Nat) (th : Nat) (p1 : Int32) (st : St) : Option (Int32 × St) :=
  ck (¬ gR st th 10 = 0) <|
  ck ((kd th).1 = 2) <|
  bd (gR st th 10) fun o1 =>
  ck ((kd o1).1 = 100 ∧ inb p1 (kd o1).2) <|
  bd (sI st o1 (ix p1) 2) fun s2 =>
  ck ((kd th).1 = 2) <|
  ck ((kd th).1 = 2) <|
  bd (sI s2 th 13 ((gI s2 th 13) + 1)) fun s3 =>
  ck ((kd th).1 = 2) <|
  ck (¬ gR s3 th 9 = 0) <|
  ck ((kd th).1 = 2) <|
  bd (gR s3 th 9) fun o4 =>
  ck ((kd o4).1 = 100 ∧ inb p1 (kd o4).2) <|
  ck ((kd th).1 = 2) <|
  bd (sI s3 th 14 ((gI s3 th 14) - (gI s3 o4 (ix p1)))) fun s5 =>
  ck ((kd th).1 = 2) <|
  ck (¬ gR s5 th 8 = 0) <|
  ck ((kd th).1 = 2) <|
  bd (gR s5 th 8) fun o6 =>
  ck ((kd o6).1 = 100 ∧ inb p1 (kd o6).2) <|
  ck ((kd th).1 = 2) <|
  bd (sI s5 th 15 ((gI s5 th 15) - (gI s5 o6 (ix p1)))) fun s7 =>
  ck (¬ gR s7 th 0 = 0) <|
  ck ((kd th).1 = 2) <|
  bd (gR s7 th 0) fun o8 =>
  ck (¬ gR s7 th 7 = 0) <|
  ck ((kd th).1 = 2) <|
  bd (gR s7 th 7) fun o9 =>
  ck ((kd o9).1 = 100 ∧ inb p1 (kd o9).2) <|
  ck (¬ gR s7 th 8 = 0) <|
  ck ((kd th).1 = 2) <|
  bd (gR s7 th 8) fun o10 =>
  ck ((kd o10).1 = 100 ∧ inb p1 (kd o10).2) <|
  ck ((kd o8).1 = 4) <|
  cv (f_X4_mark fu o8 (gI s7 o9 (ix p1)) (gI s7 o10 (ix p1)) 0 s7) fun s11 =>
  ck (¬ gR s11 th 9 = 0) <|
  ck ((kd th).1 = 2) <|
  bd (gR s11 th 9) fun o12 =>
  ck ((kd o12).1 = 100 ∧ inb p1 (kd o12).2) <|
  some (gI s11 o12 (ix p1), s11)
set_option maxHeartbeats 4000000 in
set_option maxRecDepth 100000 in
theorem t_X2_refund {X : CX} {res : Int32 × St} (B : BI X cX2_refund RX2 2 2 NN (some .int) res) (fu : Nat) (th : Nat) (p1 : Int32) (st : St) : WW X res NN 0 [(0, .ref (x_b X + th)), (1, .int p1)] [] st (f_X2_refund fu th p1 st) := by
  have hX := B.1
  have hL := B.2.1
  unfold f_X2_refund
  refine ww_aload_n hX 0 rfl dX2_refund_0 rfl ?_
  refine ww_getR hX f_X2_36 (Or.inr ⟨_, rfl⟩) dX2_refund_1 ?_
  refine ww_bdR (fun o1 => ?_)
  refine ww_iload_n hX 1 rfl dX2_refund_4 rfl ?_
  refine ww_iconst (v := 2) hX rfl dX2_refund_5 ?_
  refine ww_iastc hX k_iast dX2_refund_6 ?_
  refine ww_bds (fun s2 => ?_)
  refine ww_aload_n hX 0 rfl dX2_refund_7 rfl ?_
  refine ww_dup hX rfl dX2_refund_8 ?_
  refine ww_pc (b := 9) rfl ?_
  refine ww_getI hX f_X2_85 (Or.inl rfl) dX2_refund_9 ?_
  refine ww_iconst (v := 1) hX rfl dX2_refund_12 ?_
  refine ww_iadd hX dX2_refund_13 ?_
  refine ww_putI hX f_X2_85 rfl dX2_refund_14 ?_
  refine ww_bds (fun s3 => ?_)
  refine ww_aload_n hX 0 rfl dX2_refund_17 rfl ?_
  refine ww_dup hX rfl dX2_refund_18 ?_
  refine ww_getI hX f_X2_79 (Or.inl rfl) dX2_refund_19 ?_
  refine ww_aload_n hX 0 rfl dX2_refund_22 rfl ?_
  refine ww_pc (b := 23) rfl ?_
  refine ww_getR hX f_X2_33 (Or.inr ⟨_, rfl⟩) dX2_refund_23 ?_
  refine ww_bdR (fun o4 => ?_)
  refine ww_iload_n hX 1 rfl dX2_refund_26 rfl ?_
  refine ww_ialdc hX k_iald dX2_refund_27 ?_
  refine ww_isub hX dX2_refund_28 ?_
  refine ww_putI hX f_X2_79 rfl dX2_refund_29 ?_
  refine ww_bds (fun s5 => ?_)
  refine ww_aload_n hX 0 rfl dX2_refund_32 rfl ?_
  refine ww_dup hX rfl dX2_refund_33 ?_
  refine ww_getI hX f_X2_82 (Or.inl rfl) dX2_refund_34 ?_
  refine ww_pc (b := 37) rfl ?_
  refine ww_aload_n hX 0 rfl dX2_refund_37 rfl ?_
  refine ww_getR hX f_X2_30 (Or.inr ⟨_, rfl⟩) dX2_refund_38 ?_
  refine ww_bdR (fun o6 => ?_)
  refine ww_iload_n hX 1 rfl dX2_refund_41 rfl ?_
  refine ww_ialdc hX k_iald dX2_refund_42 ?_
  refine ww_isub hX dX2_refund_43 ?_
  refine ww_putI hX f_X2_82 rfl dX2_refund_44 ?_
  refine ww_bds (fun s7 => ?_)
  refine ww_aload_n hX 0 rfl dX2_refund_47 rfl ?_
  refine ww_getR hX f_X2_39 (Or.inl ⟨_, rfl⟩) dX2_refund_48 ?_
  refine ww_bdR (fun o8 => ?_)
  refine ww_pc (b := 51) rfl ?_
  refine ww_aload_n hX 0 rfl dX2_refund_51 rfl ?_
  refine ww_getR hX f_X2_27 (Or.inr ⟨_, rfl⟩) dX2_refund_52 ?_
  refine ww_bdR (fun o9 => ?_)
  refine ww_iload_n hX 1 rfl dX2_refund_55 rfl ?_
  refine ww_ialdc hX k_iald dX2_refund_56 ?_
  refine ww_aload_n hX 0 rfl dX2_refund_57 rfl ?_
  refine ww_getR hX f_X2_30 (Or.inr ⟨_, rfl⟩) dX2_refund_58 ?_
  refine ww_bdR (fun o10 => ?_)
  refine ww_iload_n hX 1 rfl dX2_refund_61 rfl ?_
  refine ww_ialdc hX k_iald dX2_refund_62 ?_
  refine ww_pc (b := 63) rfl ?_
  refine ww_iconst (v := 0) hX rfl dX2_refund_63 ?_
  refine ww_callVV (As := [.int (gI s7 o9 (ix p1)), .int (gI s7 o10 (ix p1)), .int 0]) (rest := []) (o := o8) hX (Rk.of B.2.2.1 B.2.2.2.1 (by decide) (by decide)) g_X2_53 g_X2_53.in (fun _ => c_X4_mark (x_G X) (x_l X) fu o8 (gI s7 o9 (ix p1)) (gI s7 o10 (ix p1)) 0 s7) rfl rfl (Nat.le_of_ble_eq_true rfl) dX2_refund_64 (fun s11 => ?_)
  refine ww_aload_n hX 0 rfl dX2_refund_67 rfl ?_
  refine ww_getR hX f_X2_33 (Or.inr ⟨_, rfl⟩) dX2_refund_68 ?_
  refine ww_bdR (fun o12 => ?_)
  refine ww_iload_n hX 1 rfl dX2_refund_71 rfl ?_
  refine ww_ialdc hX k_iald dX2_refund_72 ?_
  exact ww_iret B dX2_refund_73
theorem c_X2_refund (G : GX) (l : Launch) (fu : Nat) (th : Nat) (p1 : Int32) (st : St) : MI G NN l yX2_refund cX2_refund 2 (some .int) 2 [.ref (G.2.2.1 + th), .int p1] st (f_X2_refund fu th p1 st) := mkI (by decide) (Nat.le_of_ble_eq_true rfl) (fun X res hl hG B => by subst hl; subst hG; exact t_X2_refund B fu th p1 st)
/-! StageHouse$Box.(lets in)(I)I -/
def f_X2_letIn (fu : Nat) (th : Nat) (p1 : Int32) (st : St) : Option (Int32 × St) :=
  ck (¬ gR st th 10 = 0) <|
  ck ((kd th).1 = 2) <|
  bd (gR st th 10) fun o1 =>
  ck ((kd o1).1 = 100 ∧ inb p1 (kd o1).2) <|
  bd (sI st o1 (ix p1) 1) fun s2 =>
  ck ((kd th).1 = 2) <|
  ck (¬ gR s2 th 8 = 0) <|
  ck ((kd th).1 = 2) <|
  bd (gR s2 th 8) fun o3 =>
  ck ((kd o3).1 = 100 ∧ inb p1 (kd o3).2) <|
  ck ((kd th).1 = 2) <|
  bd (sI s2 th 16 ((gI s2 th 16) + (gI s2 o3 (ix p1)))) fun s4 =>
  ck (¬ gR s4 th 8 = 0) <|
  ck ((kd th).1 = 2) <|
  bd (gR s4 th 8) fun o5 =>
  ck ((kd o5).1 = 100 ∧ inb p1 (kd o5).2) <|
  some (gI s4 o5 (ix p1), s4)
set_option maxHeartbeats 4000000 in
set_option maxRecDepth 100000 in
theorem t_X2_letIn {X : CX} {res : Int32 × St} (B : BI X cX2_letIn RX2 2 1 NN (some .int) res) (fu : Nat) (th : Nat) (p1 : Int32) (st : St) : WW X res NN 0 [(0, .ref (x_b X + th)), (1, .int p1)] [] st (f_X2_letIn fu th p1 st) := by
  have hX := B.1
  have hL := B.2.1
  unfold f_X2_letIn
  refine ww_aload_n hX 0 rfl dX2_letIn_0 rfl ?_
  refine ww_getR hX f_X2_36 (Or.inr ⟨_, rfl⟩) dX2_letIn_1 ?_
  refine ww_bdR (fun o1 => ?_)
  refine ww_iload_n hX 1 rfl dX2_letIn_4 rfl ?_
  refine ww_iconst (v := 1) hX rfl dX2_letIn_5 ?_
  refine ww_iastc hX k_iast dX2_letIn_6 ?_
  refine ww_bds (fun s2 => ?_)
  refine ww_aload_n hX 0 rfl dX2_letIn_7 rfl ?_
  refine ww_dup hX rfl dX2_letIn_8 ?_
  refine ww_pc (b := 9) rfl ?_
  refine ww_getI hX f_X2_88 (Or.inl rfl) dX2_letIn_9 ?_
  refine ww_aload_n hX 0 rfl dX2_letIn_12 rfl ?_
  refine ww_getR hX f_X2_30 (Or.inr ⟨_, rfl⟩) dX2_letIn_13 ?_
  refine ww_bdR (fun o3 => ?_)
  refine ww_iload_n hX 1 rfl dX2_letIn_16 rfl ?_
  refine ww_ialdc hX k_iald dX2_letIn_17 ?_
  refine ww_iadd hX dX2_letIn_18 ?_
  refine ww_putI hX f_X2_88 rfl dX2_letIn_19 ?_
  refine ww_bds (fun s4 => ?_)
  refine ww_aload_n hX 0 rfl dX2_letIn_22 rfl ?_
  refine ww_pc (b := 23) rfl ?_
  refine ww_getR hX f_X2_30 (Or.inr ⟨_, rfl⟩) dX2_letIn_23 ?_
  refine ww_bdR (fun o5 => ?_)
  refine ww_iload_n hX 1 rfl dX2_letIn_26 rfl ?_
  refine ww_ialdc hX k_iald dX2_letIn_27 ?_
  exact ww_iret B dX2_letIn_28
theorem c_X2_letIn (G : GX) (l : Launch) (fu : Nat) (th : Nat) (p1 : Int32) (st : St) : MI G NN l yX2_letIn cX2_letIn 2 (some .int) 1 [.ref (G.2.2.1 + th), .int p1] st (f_X2_letIn fu th p1 st) := mkI (by decide) (Nat.le_of_ble_eq_true rfl) (fun X res hl hG B => by subst hl; subst hG; exact t_X2_letIn B fu th p1 st)
/-! StageHouse$CueList.ownName()I -/
def b_X3_ownName_37 (fu : Nat)  (y0 : Int32) (st : St) : Option (Int32 × St) :=
  some (y0, st)
set_option maxHeartbeats 4000000 in
set_option maxRecDepth 100000 in
theorem t_X3_ownName_37 {X : CX} {res : Int32 × St} (B : BI X cX3_ownName RX3 1 1 NN (some .int) res) (fu : Nat)  (y0 : Int32) (st : St) : WW X res NN 37 [] [.int y0] st (b_X3_ownName_37 fu y0 st) := by
  have hX := B.1
  have hL := B.2.1
  unfold b_X3_ownName_37
  exact ww_iret B dX3_ownName_37
def b_X3_ownName_36 (fu : Nat)   (st : St) : Option (Int32 × St) :=
  b_X3_ownName_37 fu  0 st
set_option maxHeartbeats 4000000 in
set_option maxRecDepth 100000 in
theorem t_X3_ownName_36 {X : CX} {res : Int32 × St} (B : BI X cX3_ownName RX3 1 1 NN (some .int) res) (fu : Nat)   (st : St) : WW X res NN 36 [] [] st (b_X3_ownName_36 fu  st) := by
  have hX := B.1
  have hL := B.2.1
  unfold b_X3_ownName_36
  refine ww_iconst (v := 0) hX rfl dX3_ownName_36 ?_
  exact t_X3_ownName_37 B fu  0 st
def f_X3_ownName (fu : Nat) (th : Nat) (st : St) : Option (Int32 × St) :=
  ck ((kd th).1 = 3) <|
  if (gI st th 5) < 0 then (
  b_X3_ownName_36 fu   st)
  else (
  ck ((kd th).1 = 3) <|
  ck (¬ gR st th 0 = 0) <|
  ck ((kd th).1 = 3) <|
  bd (gR st th 0) fun o1 =>
  ck ((kd o1).1 = 8) <|
  if (gI st o1 12) ≤ (gI st th 5) then (
  b_X3_ownName_36 fu   st)
  else (
  ck (¬ gR st th 0 = 0) <|
  ck ((kd th).1 = 3) <|
  bd (gR st th 0) fun o2 =>
  ck (¬ gR st o2 0 = 0) <|
  ck ((kd o2).1 = 8) <|
  bd (gR st o2 0) fun o3 =>
  ck ((kd th).1 = 3) <|
  ck ((kd o3).1 = 100 ∧ inb (gI st th 5) (kd o3).2) <|
  b_X3_ownName_37 fu  (gI st o3 (ix (gI st th 5))) st))
set_option maxHeartbeats 4000000 in
set_option maxRecDepth 100000 in
theorem t_X3_ownName {X : CX} {res : Int32 × St} (B : BI X cX3_ownName RX3 1 1 NN (some .int) res) (fu : Nat) (th : Nat) (st : St) : WW X res NN 0 [(0, .ref (x_b X + th))] [] st (f_X3_ownName fu th st) := by
  have hX := B.1
  have hL := B.2.1
  unfold f_X3_ownName
  refine ww_aload_n hX 0 rfl dX3_ownName_0 rfl ?_
  refine ww_getI hX f_X3_31 (Or.inl rfl) dX3_ownName_1 ?_
  refine ww_if_lt (tgt := 36) hX dX3_ownName_4 (by decide) ?_ ?_
  · exact ww_sub [] rfl (t_X3_ownName_36 B fu   st)
  · refine ww_aload_n hX 0 rfl dX3_ownName_7 rfl ?_
    refine ww_getI hX f_X3_31 (Or.inl rfl) dX3_ownName_8 ?_
    refine ww_aload_n hX 0 rfl dX3_ownName_11 rfl ?_
    refine ww_getR hX f_X3_12 (Or.inl ⟨_, rfl⟩) dX3_ownName_12 ?_
    refine ww_bdR (fun o1 => ?_)
    refine ww_getI hX f_X3_51 (Or.inl rfl) dX3_ownName_15 ?_
    refine ww_icmp_ge (tgt := 36) hX dX3_ownName_18 (by decide) ?_ ?_
    · exact ww_sub [] rfl (t_X3_ownName_36 B fu   st)
    · refine ww_aload_n hX 0 rfl dX3_ownName_21 rfl ?_
      refine ww_getR hX f_X3_12 (Or.inl ⟨_, rfl⟩) dX3_ownName_22 ?_
      refine ww_bdR (fun o2 => ?_)
      refine ww_getR hX f_X3_54 (Or.inr ⟨_, rfl⟩) dX3_ownName_25 ?_
      refine ww_bdR (fun o3 => ?_)
      refine ww_aload_n hX 0 rfl dX3_ownName_28 rfl ?_
      refine ww_getI hX f_X3_31 (Or.inl rfl) dX3_ownName_29 ?_
      refine ww_ialdc hX k_iald dX3_ownName_32 ?_
      refine ww_goto (tgt := 37) hX dX3_ownName_33 (by decide) ?_
      exact ww_sub [] rfl (t_X3_ownName_37 B fu  (gI st o3 (ix (gI st th 5))) st)
theorem c_X3_ownName (G : GX) (l : Launch) (fu : Nat) (th : Nat) (st : St) : MI G NN l yX3_ownName cX3_ownName 1 (some .int) 1 [.ref (G.2.2.1 + th)] st (f_X3_ownName fu th st) := mkI (by decide) (Nat.le_of_ble_eq_true rfl) (fun X res hl hG B => by subst hl; subst hG; exact t_X3_ownName B fu th st)
/-! StageHouse$CueList.moving(I)I -/
def b_X3_moving_28 (fu : Nat) (k_4 : Nat → Int32 → Int32 → Int32 → St → Option (Int32 × St)) (x0 : Nat) (x1 : Int32) (x2 : Int32) (x3 : Int32)  (st : St) : Option (Int32 × St) :=
  bd (x3 + 1) fun v4 =>
  k_4 x0 x1 x2 v4  st
set_option maxHeartbeats 4000000 in
set_option maxRecDepth 100000 in
theorem t_X3_moving_28 {X : CX} {res : Int32 × St} (B : BI X cX3_moving RX3 4 3 NN (some .int) res) (fu : Nat) (k_4 : Nat → Int32 → Int32 → Int32 → St → Option (Int32 × St)) (h_4 : ∀ (x0 : Nat) (x1 : Int32) (x2 : Int32) (x3 : Int32)  (st : St), WW X res NN 4 [(0, .ref (x_b X + x0)), (1, .int x1), (2, .int x2), (3, .int x3)] [] st (k_4 x0 x1 x2 x3 st)) (x0 : Nat) (x1 : Int32) (x2 : Int32) (x3 : Int32)  (st : St) : WW X res NN 28 [(0, .ref (x_b X + x0)), (1, .int x1), (2, .int x2), (3, .int x3)] [] st (b_X3_moving_28 fu k_4 x0 x1 x2 x3 st) := by
  have hX := B.1
  have hL := B.2.1
  unfold b_X3_moving_28
  refine ww_iincb (lv' := fun v4 => [(3, .int v4), (0, .ref (x_b X + x0)), (1, .int x1), (2, .int x2)]) (c := 1) hX hL 3 rfl dX3_moving_28 rfl (by decide) (fun _ => rfl) (fun v4 => ?_)
  refine ww_goto (tgt := 4) hX dX3_moving_31 (by decide) ?_
  exact ww_sub [1, 2, 3, 0] rfl (h_4 x0 x1 x2 v4  st)
def b_X3_moving_4_b (fu : Nat) (k_4 : Nat → Int32 → Int32 → Int32 → St → Option (Int32 × St)) (x0 : Nat) (x1 : Int32) (x2 : Int32) (x3 : Int32)  (st : St) : Option (Int32 × St) :=
  if 64 ≤ x3 then (
  some (x2, st))
  else (
  ck ((kd x0).1 = 3) <|
  ca (f_X3_levelAt fu x0 x3 x1 st) fun r1 s2 =>
  ck (¬ gR s2 x0 1 = 0) <|
  ck ((kd x0).1 = 3) <|
  bd (gR s2 x0 1) fun o3 =>
  ck ((kd o3).1 = 100 ∧ inb x3 (kd o3).2) <|
  if r1 = (gI s2 o3 (ix x3)) then (
  b_X3_moving_28 fu k_4 x0 x1 x2 x3  s2)
  else (
  bd (x2 + 1) fun v5 =>
  b_X3_moving_28 fu k_4 x0 x1 v5 x3  s2))
set_option maxHeartbeats 4000000 in
set_option maxRecDepth 100000 in
theorem t_X3_moving_4_b {X : CX} {res : Int32 × St} (B : BI X cX3_moving RX3 4 3 NN (some .int) res) (fu : Nat) (k_4 : Nat → Int32 → Int32 → Int32 → St → Option (Int32 × St)) (h_4 : ∀ (x0 : Nat) (x1 : Int32) (x2 : Int32) (x3 : Int32)  (st : St), WW X res NN 4 [(0, .ref (x_b X + x0)), (1, .int x1), (2, .int x2), (3, .int x3)] [] st (k_4 x0 x1 x2 x3 st)) (x0 : Nat) (x1 : Int32) (x2 : Int32) (x3 : Int32)  (st : St) : WW X res NN 4 [(0, .ref (x_b X + x0)), (1, .int x1), (2, .int x2), (3, .int x3)] [] st (b_X3_moving_4_b fu k_4 x0 x1 x2 x3 st) := by
  have hX := B.1
  have hL := B.2.1
  unfold b_X3_moving_4_b
  refine ww_iload_n hX 3 rfl dX3_moving_4 rfl ?_
  refine ww_bipush (v := 64) hX rfl dX3_moving_5 ?_
  refine ww_icmp_ge (tgt := 34) hX dX3_moving_7 (by decide) ?_ ?_
  · refine ww_iload_n hX 2 rfl dX3_moving_34 rfl ?_
    exact ww_iret B dX3_moving_35
  · refine ww_aload_n hX 0 rfl dX3_moving_10 rfl ?_
    refine ww_iload_n hX 3 rfl dX3_moving_11 rfl ?_
    refine ww_iload_n hX 1 rfl dX3_moving_12 rfl ?_
    refine ww_callVI (As := [.int x3, .int x1]) (rest := []) (o := x0) hX (Rk.of B.2.2.1 B.2.2.2.1 (by decide) (by decide)) g_X3_67 g_X3_67.in (fun _ => c_X3_levelAt (x_G X) (x_l X) fu x0 x3 x1 st) rfl rfl (Nat.le_of_ble_eq_true rfl) dX3_moving_13 (fun r1 s2 => ?_)
    refine ww_aload_n hX 0 rfl dX3_moving_16 rfl ?_
    refine ww_getR hX f_X3_18 (Or.inr ⟨_, rfl⟩) dX3_moving_17 ?_
    refine ww_bdR (fun o3 => ?_)
    refine ww_iload_n hX 3 rfl dX3_moving_20 rfl ?_
    refine ww_pc (b := 21) rfl ?_
    refine ww_ialdc hX k_iald dX3_moving_21 ?_
    refine ww_icmp_eq (tgt := 28) hX dX3_moving_22 (by decide) ?_ ?_
    · exact t_X3_moving_28 B fu k_4 h_4 x0 x1 x2 x3  s2
    · refine ww_iincb (lv' := fun v5 => [(2, .int v5), (0, .ref (x_b X + x0)), (1, .int x1), (3, .int x3)]) (c := 1) hX hL 2 rfl dX3_moving_25 rfl (by decide) (fun _ => rfl) (fun v5 => ?_)
      exact ww_sub [1, 2, 0, 3] rfl (t_X3_moving_28 B fu k_4 h_4 x0 x1 v5 x3  s2)
def b_X3_moving_4 (fu : Nat) : Nat → Nat → Int32 → Int32 → Int32 → St → Option (Int32 × St)
  | 0, _, _, _, _, _ => none
  | i + 1, x0, x1, x2, x3, st => b_X3_moving_4_b fu (b_X3_moving_4 fu i) x0 x1 x2 x3 st
theorem t_X3_moving_4 {X : CX} {res : Int32 × St} (B : BI X cX3_moving RX3 4 3 NN (some .int) res) (fu : Nat) : ∀ (i : Nat) (x0 : Nat) (x1 : Int32) (x2 : Int32) (x3 : Int32)  (st : St), WW X res NN 4 [(0, .ref (x_b X + x0)), (1, .int x1), (2, .int x2), (3, .int x3)] [] st (b_X3_moving_4 fu i x0 x1 x2 x3 st) := by
  intro i
  induction i with
  | zero => intro x0 x1 x2 x3 st; exact ww_none
  | succ i ih => intro x0 x1 x2 x3 st; exact t_X3_moving_4_b B fu (b_X3_moving_4 fu i) ih x0 x1 x2 x3 st
def f_X3_moving (fu : Nat) (th : Nat) (p1 : Int32) (st : St) : Option (Int32 × St) :=
  b_X3_moving_4 fu fu th p1 0 0  st
set_option maxHeartbeats 4000000 in
set_option maxRecDepth 100000 in
theorem t_X3_moving {X : CX} {res : Int32 × St} (B : BI X cX3_moving RX3 4 3 NN (some .int) res) (fu : Nat) (th : Nat) (p1 : Int32) (st : St) : WW X res NN 0 [(0, .ref (x_b X + th)), (1, .int p1)] [] st (f_X3_moving fu th p1 st) := by
  have hX := B.1
  have hL := B.2.1
  unfold f_X3_moving
  refine ww_iconst (v := 0) hX rfl dX3_moving_0 ?_
  refine ww_istore_n (lv' := [(2, .int 0), (0, .ref (x_b X + th)), (1, .int p1)]) hX hL dX3_moving_1 rfl (by decide) rfl ?_
  refine ww_iconst (v := 0) hX rfl dX3_moving_2 ?_
  refine ww_istore_n (lv' := [(3, .int 0), (2, .int 0), (0, .ref (x_b X + th)), (1, .int p1)]) hX hL dX3_moving_3 rfl (by decide) rfl ?_
  exact ww_sub [2, 3, 1, 0] rfl (t_X3_moving_4 B fu fu th p1 0 0  st)
theorem c_X3_moving (G : GX) (l : Launch) (fu : Nat) (th : Nat) (p1 : Int32) (st : St) : MI G NN l yX3_moving cX3_moving 4 (some .int) 3 [.ref (G.2.2.1 + th), .int p1] st (f_X3_moving fu th p1 st) := mkI (by decide) (Nat.le_of_ble_eq_true rfl) (fun X res hl hG B => by subst hl; subst hG; exact t_X3_moving B fu th p1 st)
