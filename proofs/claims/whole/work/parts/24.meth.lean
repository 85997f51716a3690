/-! StageHouse$Script.readChannels(LStageHouse$Tape;)J -/
def b_X8_readChannels_82 (fu : Nat) (x1 : Int64)  (st : St) : Option (Int64 × St) :=
  some (x1, st)
set_option maxHeartbeats 4000000 in
set_option maxRecDepth 100000 in
theorem t_X8_readChannels_82 {X : CX} {res : Int64 × St} (B : BL X cX8_readChannels RX8 6 7 NN (some .long) res) (fu : Nat) (x1 : Int64)  (st : St) : WW X res NN 82 [(1, .long x1)] [] st (b_X8_readChannels_82 fu x1 st) := by
  have hX := B.1
  have hL := B.2.1
  unfold b_X8_readChannels_82
  refine ww_lload_n hX 0 rfl dX8_readChannels_82 rfl ?_
  exact ww_lret B dX8_readChannels_83
def b_X8_readChannels_42 (fu : Nat) (k_4 : Nat → Int64 → Int32 → St → Option (Int64 × St)) (x0 : Nat) (x1 : Int64) (x3 : Int32) (x4 : Int32) (y0 : Int32) (st : St) : Option (Int64 × St) :=
  bd (x1 ||| ((((-1 : Int64).toUInt64 >>> ((63 - (y0 - x4)).toInt64.toUInt64 &&& Int64.toUInt64 63)).toInt64) <<< ((x4 - 1).toInt64 &&& 63))) fun v5 =>
  ck ((kd x0).1 = 9) <|
  ca (f_X9_takes fu x0 44 st) fun r6 s7 =>
  if r6 = 0 then (
  b_X8_readChannels_82 fu v5  s7)
  else (
  bd (x3 + 1) fun v8 =>
  k_4 x0 v5 v8  s7)
set_option maxHeartbeats 4000000 in
set_option maxRecDepth 100000 in
theorem t_X8_readChannels_42 {X : CX} {res : Int64 × St} (B : BL X cX8_readChannels RX8 6 7 NN (some .long) res) (fu : Nat) (k_4 : Nat → Int64 → Int32 → St → Option (Int64 × St)) (h_4 : ∀ (x0 : Nat) (x1 : Int64) (x3 : Int32)  (st : St), WW X res NN 4 [(0, .ref (x_b X + x0)), (1, .long x1), (3, .int x3)] [] st (k_4 x0 x1 x3 st)) (x0 : Nat) (x1 : Int64) (x3 : Int32) (x4 : Int32) (y0 : Int32) (st : St) : WW X res NN 42 [(0, .ref (x_b X + x0)), (1, .long x1), (3, .int x3), (4, .int x4)] [.int y0] st (b_X8_readChannels_42 fu k_4 x0 x1 x3 x4 y0 st) := by
  have hX := B.1
  have hL := B.2.1
  unfold b_X8_readChannels_42
  refine ww_istore (lv' := [(5, .int y0), (0, .ref (x_b X + x0)), (1, .long x1), (3, .int x3), (4, .int x4)]) hX hL dX8_readChannels_42 (by decide) rfl ?_
  refine ww_lload_n hX 2 rfl dX8_readChannels_44 rfl ?_
  refine ww_ldc2 (v := (-1)) hX k_X8_167 dX8_readChannels_45 ?_
  refine ww_bipush (v := 63) hX rfl dX8_readChannels_48 ?_
  refine ww_iload hX 0 rfl dX8_readChannels_50 ?_
  refine ww_iload hX 4 rfl dX8_readChannels_52 ?_
  refine ww_isub hX dX8_readChannels_54 ?_
  refine ww_pc (b := 55) rfl ?_
  refine ww_isub hX dX8_readChannels_55 ?_
  refine ww_lushr hX dX8_readChannels_56 ?_
  refine ww_iload hX 4 rfl dX8_readChannels_57 ?_
  refine ww_iconst (v := 1) hX rfl dX8_readChannels_59 ?_
  refine ww_isub hX dX8_readChannels_60 ?_
  refine ww_lshl hX dX8_readChannels_61 ?_
  refine ww_lor hX dX8_readChannels_62 ?_
  refine ww_bdl (fun v5 => ?_)
  refine ww_lstore_n (lv' := [(1, .long v5), (5, .int y0), (0, .ref (x_b X + x0)), (3, .int x3), (4, .int x4)]) hX hL dX8_readChannels_63 rfl (by decide) rfl ?_
  refine ww_pc (b := 64) rfl ?_
  refine ww_aload_n hX 2 rfl dX8_readChannels_64 rfl ?_
  refine ww_bipush (v := 44) hX rfl dX8_readChannels_65 ?_
  refine ww_callVI (As := [.int 44]) (rest := []) (o := x0) hX (Rk.of B.2.2.1 B.2.2.2.1 (by decide) (by decide)) g_X8_102 g_X8_102.in (fun _ => c_X9_takes (x_G X) (x_l X) fu x0 44 st) rfl rfl (Nat.le_of_ble_eq_true rfl) dX8_readChannels_67 (fun r6 s7 => ?_)
  refine ww_if_ne (tgt := 76) hX dX8_readChannels_70 (by decide) ?_ ?_
  · refine ww_iincb (lv' := fun v8 => [(3, .int v8), (1, .long v5), (5, .int y0), (0, .ref (x_b X + x0)), (4, .int x4)]) (c := 1) hX hL 3 rfl dX8_readChannels_76 rfl (by decide) (fun _ => rfl) (fun v8 => ?_)
    refine ww_goto (tgt := 4) hX dX8_readChannels_79 (by decide) ?_
    exact ww_sub [3, 1, 0] rfl (h_4 x0 v5 v8  s7)
  · refine ww_goto (tgt := 82) hX dX8_readChannels_73 (by decide) ?_
    exact ww_sub [0] rfl (t_X8_readChannels_82 B fu v5  s7)
def b_X8_readChannels_4_b (fu : Nat) (k_4 : Nat → Int64 → Int32 → St → Option (Int64 × St)) (x0 : Nat) (x1 : Int64) (x3 : Int32)  (st : St) : Option (Int64 × St) :=
  if 4000 ≤ x3 then (
  b_X8_readChannels_82 fu x1  st)
  else (
  ck ((kd x0).1 = 9) <|
  ca (f_X9_number fu x0 1 64 st) fun r1 s2 =>
  ck ((kd x0).1 = 9) <|
  ca (f_X9_takes fu x0 45 s2) fun r3 s4 =>
  if r3 = 0 then (
  b_X8_readChannels_42 fu k_4 x0 x1 x3 r1 r1 s4)
  else (
  ck ((kd x0).1 = 9) <|
  ca (f_X9_number fu x0 r1 64 s4) fun r9 s10 =>
  b_X8_readChannels_42 fu k_4 x0 x1 x3 r1 r9 s10))
set_option maxHeartbeats 4000000 in
set_option maxRecDepth 100000 in
theorem t_X8_readChannels_4_b {X : CX} {res : Int64 × St} (B : BL X cX8_readChannels RX8 6 7 NN (some .long) res) (fu : Nat) (k_4 : Nat → Int64 → Int32 → St → Option (Int64 × St)) (h_4 : ∀ (x0 : Nat) (x1 : Int64) (x3 : Int32)  (st : St), WW X res NN 4 [(0, .ref (x_b X + x0)), (1, .long x1), (3, .int x3)] [] st (k_4 x0 x1 x3 st)) (x0 : Nat) (x1 : Int64) (x3 : Int32)  (st : St) : WW X res NN 4 [(0, .ref (x_b X + x0)), (1, .long x1), (3, .int x3)] [] st (b_X8_readChannels_4_b fu k_4 x0 x1 x3 st) := by
  have hX := B.1
  have hL := B.2.1
  unfold b_X8_readChannels_4_b
  refine ww_iload_n hX 2 rfl dX8_readChannels_4 rfl ?_
  refine ww_sipush (v := 4000) hX rfl dX8_readChannels_5 ?_
  refine ww_icmp_ge (tgt := 82) hX dX8_readChannels_8 (by decide) ?_ ?_
  · exact ww_sub [1] rfl (t_X8_readChannels_82 B fu x1  st)
  · refine ww_aload_n hX 0 rfl dX8_readChannels_11 rfl ?_
    refine ww_iconst (v := 1) hX rfl dX8_readChannels_12 ?_
    refine ww_bipush (v := 64) hX rfl dX8_readChannels_13 ?_
    refine ww_callVI (As := [.int 1, .int 64]) (rest := []) (o := x0) hX (Rk.of B.2.2.1 B.2.2.2.1 (by decide) (by decide)) g_X8_98 g_X8_98.in (fun _ => c_X9_number (x_G X) (x_l X) fu x0 1 64 st) rfl rfl (Nat.le_of_ble_eq_true rfl) dX8_readChannels_15 (fun r1 s2 => ?_)
    refine ww_istore (lv' := [(4, .int r1), (0, .ref (x_b X + x0)), (1, .long x1), (3, .int x3)]) hX hL dX8_readChannels_18 (by decide) rfl ?_
    refine ww_aload_n hX 1 rfl dX8_readChannels_20 rfl ?_
    refine ww_bipush (v := 45) hX rfl dX8_readChannels_21 ?_
    refine ww_pc (b := 23) rfl ?_
    refine ww_callVI (As := [.int 45]) (rest := []) (o := x0) hX (Rk.of B.2.2.1 B.2.2.2.1 (by decide) (by decide)) g_X8_102 g_X8_102.in (fun _ => c_X9_takes (x_G X) (x_l X) fu x0 45 s2) rfl rfl (Nat.le_of_ble_eq_true rfl) dX8_readChannels_23 (fun r3 s4 => ?_)
    refine ww_if_eq (tgt := 40) hX dX8_readChannels_26 (by decide) ?_ ?_
    · refine ww_iload hX 0 rfl dX8_readChannels_40 ?_
      exact ww_sub [1, 2, 3, 0] rfl (t_X8_readChannels_42 B fu k_4 h_4 x0 x1 x3 r1 r1 s4)
    · refine ww_aload_n hX 1 rfl dX8_readChannels_29 rfl ?_
      refine ww_iload hX 0 rfl dX8_readChannels_30 ?_
      refine ww_bipush (v := 64) hX rfl dX8_readChannels_32 ?_
      refine ww_callVI (As := [.int r1, .int 64]) (rest := []) (o := x0) hX (Rk.of B.2.2.1 B.2.2.2.1 (by decide) (by decide)) g_X8_98 g_X8_98.in (fun _ => c_X9_number (x_G X) (x_l X) fu x0 r1 64 s4) rfl rfl (Nat.le_of_ble_eq_true rfl) dX8_readChannels_34 (fun r9 s10 => ?_)
      refine ww_goto (tgt := 42) hX dX8_readChannels_37 (by decide) ?_
      exact ww_sub [1, 2, 3, 0] rfl (t_X8_readChannels_42 B fu k_4 h_4 x0 x1 x3 r1 r9 s10)
def b_X8_readChannels_4 (fu : Nat) : Nat → Nat → Int64 → Int32 → St → Option (Int64 × St)
  | 0, _, _, _, _ => none
  | i + 1, x0, x1, x3, st => b_X8_readChannels_4_b fu (b_X8_readChannels_4 fu i) x0 x1 x3 st
theorem t_X8_readChannels_4 {X : CX} {res : Int64 × St} (B : BL X cX8_readChannels RX8 6 7 NN (some .long) res) (fu : Nat) : ∀ (i : Nat) (x0 : Nat) (x1 : Int64) (x3 : Int32)  (st : St), WW X res NN 4 [(0, .ref (x_b X + x0)), (1, .long x1), (3, .int x3)] [] st (b_X8_readChannels_4 fu i x0 x1 x3 st) := by
  intro i
  induction i with
  | zero => intro x0 x1 x3 st; exact ww_none
  | succ i ih => intro x0 x1 x3 st; exact t_X8_readChannels_4_b B fu (b_X8_readChannels_4 fu i) ih x0 x1 x3 st
def f_X8_readChannels (fu : Nat) (p0 : Nat) (st : St) : Option (Int64 × St) :=
  b_X8_readChannels_4 fu fu p0 0 0  st
set_option maxHeartbeats 4000000 in
set_option maxRecDepth 100000 in
theorem t_X8_readChannels {X : CX} {res : Int64 × St} (B : BL X cX8_readChannels RX8 6 7 NN (some .long) res) (fu : Nat) (p0 : Nat) (st : St) : WW X res NN 0 [(0, .ref (x_b X + p0))] [] st (f_X8_readChannels fu p0 st) := by
  have hX := B.1
  have hL := B.2.1
  unfold f_X8_readChannels
  refine ww_lconst (v := 0) hX rfl dX8_readChannels_0 ?_
  refine ww_lstore_n (lv' := [(1, .long 0), (0, .ref (x_b X + p0))]) hX hL dX8_readChannels_1 rfl (by decide) rfl ?_
  refine ww_iconst (v := 0) hX rfl dX8_readChannels_2 ?_
  refine ww_istore_n (lv' := [(3, .int 0), (1, .long 0), (0, .ref (x_b X + p0))]) hX hL dX8_readChannels_3 rfl (by decide) rfl ?_
  exact ww_sub [2, 1, 0] rfl (t_X8_readChannels_4 B fu fu p0 0 0  st)
theorem c_X8_readChannels (G : GX) (l : Launch) (fu : Nat) (p0 : Nat) (st : St) : ML G NN l yX8_readChannels cX8_readChannels 6 (some .long) 7 [.ref (G.2.2.1 + p0)] st (f_X8_readChannels fu p0 st) := mkL (by decide) (Nat.le_of_ble_eq_true rfl) (fun X res hl hG B => by subst hl; subst hG; exact t_X8_readChannels B fu p0 st)
/-! StageHouse$Script.readName(LStageHouse$Tape;)I -/
def b_X8_readName_34 (fu : Nat)  (y0 : Int32) (st : St) : Option (Int32 × St) :=
  some (y0, st)
set_option maxHeartbeats 4000000 in
set_option maxRecDepth 100000 in
theorem t_X8_readName_34 {X : CX} {res : Int32 × St} (B : BI X cX8_readName RX8 3 7 NN (some .int) res) (fu : Nat)  (y0 : Int32) (st : St) : WW X res NN 34 [] [.int y0] st (b_X8_readName_34 fu y0 st) := by
  have hX := B.1
  have hL := B.2.1
  unfold b_X8_readName_34
  exact ww_iret B dX8_readName_34
def f_X8_readName (fu : Nat) (th : Nat) (p1 : Nat) (st : St) : Option (Int32 × St) :=
  ck ((kd p1).1 = 9) <|
  ca (f_X9_number fu p1 1 999 st) fun r1 s2 =>
  bd (100 * r1) fun v3 =>
  ck ((kd p1).1 = 9) <|
  ca (f_X9_takes fu p1 46 s2) fun r4 s5 =>
  if r4 = 0 then (
  b_X8_readName_34 fu  v3 s5)
  else (
  ck ((kd p1).1 = 9) <|
  ca (f_X9_number fu p1 1 99 s5) fun r6 s7 =>
  b_X8_readName_34 fu  (v3 + r6) s7)
set_option maxHeartbeats 4000000 in
set_option maxRecDepth 100000 in
theorem t_X8_readName {X : CX} {res : Int32 × St} (B : BI X cX8_readName RX8 3 7 NN (some .int) res) (fu : Nat) (th : Nat) (p1 : Nat) (st : St) : WW X res NN 0 [(0, .ref (x_b X + th)), (1, .ref (x_b X + p1))] [] st (f_X8_readName fu th p1 st) := by
  have hX := B.1
  have hL := B.2.1
  unfold f_X8_readName
  refine ww_bipush (v := 100) hX rfl dX8_readName_0 ?_
  refine ww_aload_n hX 1 rfl dX8_readName_2 rfl ?_
  refine ww_iconst (v := 1) hX rfl dX8_readName_3 ?_
  refine ww_sipush (v := 999) hX rfl dX8_readName_4 ?_
  refine ww_callVI (As := [.int 1, .int 999]) (rest := [.int 100]) (o := p1) hX (Rk.of B.2.2.1 B.2.2.2.1 (by decide) (by decide)) g_X8_98 g_X8_98.in (fun _ => c_X9_number (x_G X) (x_l X) fu p1 1 999 st) rfl rfl (Nat.le_of_ble_eq_true rfl) dX8_readName_7 (fun r1 s2 => ?_)
  refine ww_imul hX dX8_readName_10 ?_
  refine ww_bdi (fun v3 => ?_)
  refine ww_istore_n (lv' := [(2, .int v3), (0, .ref (x_b X + th)), (1, .ref (x_b X + p1))]) hX hL dX8_readName_11 rfl (by decide) rfl ?_
  refine ww_pc (b := 12) rfl ?_
  refine ww_aload_n hX 2 rfl dX8_readName_12 rfl ?_
  refine ww_bipush (v := 46) hX rfl dX8_readName_13 ?_
  refine ww_callVI (As := [.int 46]) (rest := []) (o := p1) hX (Rk.of B.2.2.1 B.2.2.2.1 (by decide) (by decide)) g_X8_102 g_X8_102.in (fun _ => c_X9_takes (x_G X) (x_l X) fu p1 46 s2) rfl rfl (Nat.le_of_ble_eq_true rfl) dX8_readName_15 (fun r4 s5 => ?_)
  refine ww_if_eq (tgt := 33) hX dX8_readName_18 (by decide) ?_ ?_
  · refine ww_iload_n hX 0 rfl dX8_readName_33 rfl ?_
    exact ww_sub [] rfl (t_X8_readName_34 B fu  v3 s5)
  · refine ww_iload_n hX 0 rfl dX8_readName_21 rfl ?_
    refine ww_aload_n hX 2 rfl dX8_readName_22 rfl ?_
    refine ww_iconst (v := 1) hX rfl dX8_readName_23 ?_
    refine ww_bipush (v := 99) hX rfl dX8_readName_24 ?_
    refine ww_callVI (As := [.int 1, .int 99]) (rest := [.int v3]) (o := p1) hX (Rk.of B.2.2.1 B.2.2.2.1 (by decide) (by decide)) g_X8_98 g_X8_98.in (fun _ => c_X9_number (x_G X) (x_l X) fu p1 1 99 s5) rfl rfl (Nat.le_of_ble_eq_true rfl) dX8_readName_26 (fun r6 s7 => ?_)
    refine ww_iadd hX dX8_readName_29 ?_
    refine ww_goto (tgt := 34) hX dX8_readName_30 (by decide) ?_
    exact ww_sub [] rfl (t_X8_readName_34 B fu  (v3 + r6) s7)
theorem c_X8_readName (G : GX) (l : Launch) (fu : Nat) (th : Nat) (p1 : Nat) (st : St) : MI G NN l yX8_readName cX8_readName 3 (some .int) 7 [.ref (G.2.2.1 + th), .ref (G.2.2.1 + p1)] st (f_X8_readName fu th p1 st) := mkI (by decide) (Nat.le_of_ble_eq_true rfl) (fun X res hl hG B => by subst hl; subst hG; exact t_X8_readName B fu th p1 st)
/-! StageHouse$Script.readAct(LStageHouse$Tape;)V -/
def b_X8_readAct_29 (fu : Nat) (x1 : Nat) (y0 : Nat) (y1 : Int32) (st : St) : Option (St) :=
  ck ((kd x1).1 = 9) <|
  ck ((kd y0).1 = 9) <|
  cv (f_X9_fail fu y0 y1 (gI st x1 3) st) fun s3 =>
  some s3
set_option maxHeartbeats 4000000 in
set_option maxRecDepth 100000 in
theorem t_X8_readAct_29 {X : CX} {res : St} (B : BV X cX8_readAct RX8 3 8 NN none res) (fu : Nat) (x1 : Nat) (y0 : Nat) (y1 : Int32) (st : St) : WW X res NN 29 [(1, .ref (x_b X + x1))] [.int y1, .ref (x_b X + y0)] st (b_X8_readAct_29 fu x1 y0 y1 st) := by
  have hX := B.1
  have hL := B.2.1
  unfold b_X8_readAct_29
  refine ww_aload_n hX 0 rfl dX8_readAct_29 rfl ?_
  refine ww_getI hX f_X8_81 (Or.inl rfl) dX8_readAct_30 ?_
  refine ww_callVV (As := [.int y1, .int (gI st x1 3)]) (rest := []) (o := y0) hX (Rk.of B.2.2.1 B.2.2.2.1 (by decide) (by decide)) g_X8_84 g_X8_84.in (fun _ => c_X9_fail (x_G X) (x_l X) fu y0 y1 (gI st x1 3) st) rfl rfl (Nat.le_of_ble_eq_true rfl) dX8_readAct_33 (fun s3 => ?_)
  exact ww_vret B dX8_readAct_36
def b_X8_readAct_19 (fu : Nat) (x1 : Nat) (x2 : Int32)  (st : St) : Option (St) :=
  if 0 ≤ x2 then (
  b_X8_readAct_29 fu x1 x1 2 st)
  else (
  b_X8_readAct_29 fu x1 x1 1 st)
set_option maxHeartbeats 4000000 in
set_option maxRecDepth 100000 in
theorem t_X8_readAct_19 {X : CX} {res : St} (B : BV X cX8_readAct RX8 3 8 NN none res) (fu : Nat) (x1 : Nat) (x2 : Int32)  (st : St) : WW X res NN 19 [(1, .ref (x_b X + x1)), (2, .int x2)] [] st (b_X8_readAct_19 fu x1 x2 st) := by
  have hX := B.1
  have hL := B.2.1
  unfold b_X8_readAct_19
  refine ww_aload_n hX 0 rfl dX8_readAct_19 rfl ?_
  refine ww_iload_n hX 1 rfl dX8_readAct_20 rfl ?_
  refine ww_if_ge (tgt := 28) hX dX8_readAct_21 (by decide) ?_ ?_
  · refine ww_iconst (v := 2) hX rfl dX8_readAct_28 ?_
    exact ww_sub [0] rfl (t_X8_readAct_29 B fu x1 x1 2 st)
  · refine ww_iconst (v := 1) hX rfl dX8_readAct_24 ?_
    refine ww_goto (tgt := 29) hX dX8_readAct_25 (by decide) ?_
    exact ww_sub [0] rfl (t_X8_readAct_29 B fu x1 x1 1 st)
def b_X8_readAct_214 (fu : Nat) (x0 : Nat)  (st : St) : Option (St) :=
  ck ((kd x0).1 = 8) <|
  ck ((kd x0).1 = 8) <|
  bd (sI st x0 13 ((gI st x0 13) + 1)) fun s20 =>
  some s20
set_option maxHeartbeats 4000000 in
set_option maxRecDepth 100000 in
theorem t_X8_readAct_214 {X : CX} {res : St} (B : BV X cX8_readAct RX8 3 8 NN none res) (fu : Nat) (x0 : Nat)  (st : St) : WW X res NN 214 [(0, .ref (x_b X + x0))] [] st (b_X8_readAct_214 fu x0 st) := by
  have hX := B.1
  have hL := B.2.1
  unfold b_X8_readAct_214
  refine ww_aload_n hX 0 rfl dX8_readAct_214 rfl ?_
  refine ww_dup hX rfl dX8_readAct_215 ?_
  refine ww_getI hX f_X8_53 (Or.inl rfl) dX8_readAct_216 ?_
  refine ww_iconst (v := 1) hX rfl dX8_readAct_219 ?_
  refine ww_iadd hX dX8_readAct_220 ?_
  refine ww_putI hX f_X8_53 rfl dX8_readAct_221 ?_
  refine ww_bds (fun s20 => ?_)
  exact ww_vret B dX8_readAct_224
def b_X8_readAct_97 (fu : Nat) (x0 : Nat) (x1 : Nat) (x2 : Int32) (y0 : Nat) (y1 : Int32) (y2 : Int32) (st : St) : Option (St) :=
  ck ((kd y0).1 = 100 ∧ inb y1 (kd y0).2) <|
  bd (sI st y0 (ix y1) y2) fun s14 =>
  if x2 = 0 then (
  ck ((kd x1).1 = 9) <|
  cv (f_X9_needWord fu x1 15 s14) fun s15 =>
  ck (¬ gR s15 x0 10 = 0) <|
  ck ((kd x0).1 = 8) <|
  bd (gR s15 x0 10) fun o16 =>
  ck ((kd x0).1 = 8) <|
  ck ((kd x1).1 = 9) <|
  ca (f_X9_number fu x1 0 255 s15) fun r17 s18 =>
  ck ((kd o16).1 = 100 ∧ inb (gI s15 x0 13) (kd o16).2) <|
  bd (sI s18 o16 (ix (gI s15 x0 13)) r17) fun s19 =>
  b_X8_readAct_214 fu x0  s19)
  else if x2 = 1 then (
  ck ((kd x1).1 = 9) <|
  cv (f_X9_needWord fu x1 14 s14) fun s21 =>
  ck (¬ gR s21 x0 10 = 0) <|
  ck ((kd x0).1 = 8) <|
  bd (gR s21 x0 10) fun o22 =>
  ck ((kd x0).1 = 8) <|
  ck ((kd x1).1 = 9) <|
  ca (f_X9_number fu x1 0 99999 s21) fun r23 s24 =>
  ck ((kd o22).1 = 100 ∧ inb (gI s21 x0 13) (kd o22).2) <|
  bd (sI s24 o22 (ix (gI s21 x0 13)) r23) fun s25 =>
  b_X8_readAct_214 fu x0  s25)
  else if x2 = 2 then (
  ck (¬ gR s14 x0 10 = 0) <|
  ck ((kd x0).1 = 8) <|
  bd (gR s14 x0 10) fun o26 =>
  ck ((kd x0).1 = 8) <|
  ck ((kd o26).1 = 100 ∧ inb (gI s14 x0 13) (kd o26).2) <|
  bd (sI s14 o26 (ix (gI s14 x0 13)) 0) fun s27 =>
  b_X8_readAct_214 fu x0  s27)
  else if x2 = 3 then (
  ck (¬ gR s14 x0 10 = 0) <|
  ck ((kd x0).1 = 8) <|
  bd (gR s14 x0 10) fun o28 =>
  ck ((kd x0).1 = 8) <|
  ck ((kd o28).1 = 100 ∧ inb (gI s14 x0 13) (kd o28).2) <|
  bd (sI s14 o28 (ix (gI s14 x0 13)) 0) fun s29 =>
  b_X8_readAct_214 fu x0  s29)
  else if x2 = 4 then (
  ck (¬ gR s14 x0 10 = 0) <|
  ck ((kd x0).1 = 8) <|
  bd (gR s14 x0 10) fun o30 =>
  ck ((kd x0).1 = 8) <|
  ck ((kd x0).1 = 8) <|
  ca (f_X8_readName fu x0 x1 s14) fun r31 s32 =>
  ck ((kd o30).1 = 100 ∧ inb (gI s14 x0 13) (kd o30).2) <|
  bd (sI s32 o30 (ix (gI s14 x0 13)) r31) fun s33 =>
  b_X8_readAct_214 fu x0  s33)
  else if x2 = 5 then (
  ck ((kd x1).1 = 9) <|
  cv (f_X9_needWord fu x1 15 s14) fun s34 =>
  ck (¬ gR s34 x0 10 = 0) <|
  ck ((kd x0).1 = 8) <|
  bd (gR s34 x0 10) fun o35 =>
  ck ((kd x0).1 = 8) <|
  ck ((kd x1).1 = 9) <|
  ca (f_X9_number fu x1 0 255 s34) fun r36 s37 =>
  ck ((kd o35).1 = 100 ∧ inb (gI s34 x0 13) (kd o35).2) <|
  bd (sI s37 o35 (ix (gI s34 x0 13)) r36) fun s38 =>
  b_X8_readAct_214 fu x0  s38)
  else (
  ck (¬ gR s14 x0 10 = 0) <|
  ck ((kd x0).1 = 8) <|
  bd (gR s14 x0 10) fun o39 =>
  ck ((kd x0).1 = 8) <|
  ck ((kd o39).1 = 100 ∧ inb (gI s14 x0 13) (kd o39).2) <|
  bd (sI s14 o39 (ix (gI s14 x0 13)) 0) fun s40 =>
  b_X8_readAct_214 fu x0  s40)
set_option maxHeartbeats 4000000 in
set_option maxRecDepth 100000 in
theorem t_X8_readAct_97 {X : CX} {res : St} (B : BV X cX8_readAct RX8 3 8 NN none res) (fu : Nat) (x0 : Nat) (x1 : Nat) (x2 : Int32) (y0 : Nat) (y1 : Int32) (y2 : Int32) (st : St) : WW X res NN 97 [(0, .ref (x_b X + x0)), (1, .ref (x_b X + x1)), (2, .int x2)] [.int y2, .int y1, .ref (x_b X + y0)] st (b_X8_readAct_97 fu x0 x1 x2 y0 y1 y2 st) := by
  have hX := B.1
  have hL := B.2.1
  unfold b_X8_readAct_97
  refine ww_iastc hX k_iast dX8_readAct_97 ?_
  refine ww_bds (fun s14 => ?_)
  refine ww_iload_n hX 2 rfl dX8_readAct_98 rfl ?_
  refine ww_if (fun c99_0 => ?_) (fun c99_0 => ?_)
  · refine ww_tsw (off := 79) (tgt := 178) hX dX8_readAct_99 (by rw [c99_0]; decide) (by rw [c99_0]; decide) (by rw [c99_0]; rfl) (by decide) ?_
    refine ww_aload_n hX 1 rfl dX8_readAct_178 rfl ?_
    refine ww_ldcS (q := 15) hX rfl dX8_readAct_179 ?_
    refine ww_callVV (As := [.ref ((x_K X).1 15)]) (rest := []) (o := x1) hX (Rk.of B.2.2.1 B.2.2.2.1 (by decide) (by decide)) g_X8_148 g_X8_148.in (fun _ => c_X9_needWord (x_G X) (x_l X) fu x1 15 s14) rfl rfl (Nat.le_of_ble_eq_true rfl) dX8_readAct_181 (fun s15 => ?_)
    refine ww_aload_n hX 0 rfl dX8_readAct_184 rfl ?_
    refine ww_getR hX f_X8_42 (Or.inr ⟨_, rfl⟩) dX8_readAct_185 ?_
    refine ww_bdR (fun o16 => ?_)
    refine ww_aload_n hX 0 rfl dX8_readAct_188 rfl ?_
    refine ww_getI hX f_X8_53 (Or.inl rfl) dX8_readAct_189 ?_
    refine ww_pc (b := 192) rfl ?_
    refine ww_aload_n hX 1 rfl dX8_readAct_192 rfl ?_
    refine ww_iconst (v := 0) hX rfl dX8_readAct_193 ?_
    refine ww_sipush (v := 255) hX rfl dX8_readAct_194 ?_
    refine ww_callVI (As := [.int 0, .int 255]) (rest := [.int (gI s15 x0 13), .ref (x_b X + o16)]) (o := x1) hX (Rk.of B.2.2.1 B.2.2.2.1 (by decide) (by decide)) g_X8_98 g_X8_98.in (fun _ => c_X9_number (x_G X) (x_l X) fu x1 0 255 s15) rfl rfl (Nat.le_of_ble_eq_true rfl) dX8_readAct_197 (fun r17 s18 => ?_)
    refine ww_iastc hX k_iast dX8_readAct_200 ?_
    refine ww_bds (fun s19 => ?_)
    refine ww_goto (tgt := 214) hX dX8_readAct_201 (by decide) ?_
    exact ww_sub [0] rfl (t_X8_readAct_214 B fu x0  s19)
  refine ww_if (fun c99_1 => ?_) (fun c99_1 => ?_)
  · refine ww_tsw (off := 37) (tgt := 136) hX dX8_readAct_99 (by rw [c99_1]; decide) (by rw [c99_1]; decide) (by rw [c99_1]; rfl) (by decide) ?_
    refine ww_aload_n hX 1 rfl dX8_readAct_136 rfl ?_
    refine ww_ldcS (q := 14) hX rfl dX8_readAct_137 ?_
    refine ww_callVV (As := [.ref ((x_K X).1 14)]) (rest := []) (o := x1) hX (Rk.of B.2.2.1 B.2.2.2.1 (by decide) (by decide)) g_X8_148 g_X8_148.in (fun _ => c_X9_needWord (x_G X) (x_l X) fu x1 14 s14) rfl rfl (Nat.le_of_ble_eq_true rfl) dX8_readAct_139 (fun s21 => ?_)
    refine ww_aload_n hX 0 rfl dX8_readAct_142 rfl ?_
    refine ww_getR hX f_X8_42 (Or.inr ⟨_, rfl⟩) dX8_readAct_143 ?_
    refine ww_bdR (fun o22 => ?_)
    refine ww_aload_n hX 0 rfl dX8_readAct_146 rfl ?_
    refine ww_getI hX f_X8_53 (Or.inl rfl) dX8_readAct_147 ?_
    refine ww_pc (b := 150) rfl ?_
    refine ww_aload_n hX 1 rfl dX8_readAct_150 rfl ?_
    refine ww_iconst (v := 0) hX rfl dX8_readAct_151 ?_
    refine ww_ldc (v := 99999) hX k_X8_152 dX8_readAct_152 ?_
    refine ww_callVI (As := [.int 0, .int 99999]) (rest := [.int (gI s21 x0 13), .ref (x_b X + o22)]) (o := x1) hX (Rk.of B.2.2.1 B.2.2.2.1 (by decide) (by decide)) g_X8_98 g_X8_98.in (fun _ => c_X9_number (x_G X) (x_l X) fu x1 0 99999 s21) rfl rfl (Nat.le_of_ble_eq_true rfl) dX8_readAct_154 (fun r23 s24 => ?_)
    refine ww_iastc hX k_iast dX8_readAct_157 ?_
    refine ww_bds (fun s25 => ?_)
    refine ww_goto (tgt := 214) hX dX8_readAct_158 (by decide) ?_
    exact ww_sub [0] rfl (t_X8_readAct_214 B fu x0  s25)
  refine ww_if (fun c99_2 => ?_) (fun c99_2 => ?_)
  · refine ww_tsw (off := 105) (tgt := 204) hX dX8_readAct_99 (by rw [c99_2]; decide) (by rw [c99_2]; decide) (by rw [c99_2]; rfl) (by decide) ?_
    refine ww_aload_n hX 0 rfl dX8_readAct_204 rfl ?_
    refine ww_getR hX f_X8_42 (Or.inr ⟨_, rfl⟩) dX8_readAct_205 ?_
    refine ww_bdR (fun o26 => ?_)
    refine ww_aload_n hX 0 rfl dX8_readAct_208 rfl ?_
    refine ww_getI hX f_X8_53 (Or.inl rfl) dX8_readAct_209 ?_
    refine ww_iconst (v := 0) hX rfl dX8_readAct_212 ?_
    refine ww_iastc hX k_iast dX8_readAct_213 ?_
    refine ww_bds (fun s27 => ?_)
    exact ww_sub [0] rfl (t_X8_readAct_214 B fu x0  s27)
  refine ww_if (fun c99_3 => ?_) (fun c99_3 => ?_)
  · refine ww_tsw (off := 105) (tgt := 204) hX dX8_readAct_99 (by rw [c99_3]; decide) (by rw [c99_3]; decide) (by rw [c99_3]; rfl) (by decide) ?_
    refine ww_aload_n hX 0 rfl dX8_readAct_204 rfl ?_
    refine ww_getR hX f_X8_42 (Or.inr ⟨_, rfl⟩) dX8_readAct_205 ?_
    refine ww_bdR (fun o28 => ?_)
    refine ww_aload_n hX 0 rfl dX8_readAct_208 rfl ?_
    refine ww_getI hX f_X8_53 (Or.inl rfl) dX8_readAct_209 ?_
    refine ww_iconst (v := 0) hX rfl dX8_readAct_212 ?_
    refine ww_iastc hX k_iast dX8_readAct_213 ?_
    refine ww_bds (fun s29 => ?_)
    exact ww_sub [0] rfl (t_X8_readAct_214 B fu x0  s29)
  refine ww_if (fun c99_4 => ?_) (fun c99_4 => ?_)
  · refine ww_tsw (off := 62) (tgt := 161) hX dX8_readAct_99 (by rw [c99_4]; decide) (by rw [c99_4]; decide) (by rw [c99_4]; rfl) (by decide) ?_
    refine ww_aload_n hX 0 rfl dX8_readAct_161 rfl ?_
    refine ww_getR hX f_X8_42 (Or.inr ⟨_, rfl⟩) dX8_readAct_162 ?_
    refine ww_bdR (fun o30 => ?_)
    refine ww_aload_n hX 0 rfl dX8_readAct_165 rfl ?_
    refine ww_getI hX f_X8_53 (Or.inl rfl) dX8_readAct_166 ?_
    refine ww_aload_n hX 0 rfl dX8_readAct_169 rfl ?_
    refine ww_aload_n hX 1 rfl dX8_readAct_170 rfl ?_
    refine ww_callVI (As := [.ref (x_b X + x1)]) (rest := [.int (gI s14 x0 13), .ref (x_b X + o30)]) (o := x0) hX (Rk.of B.2.2.1 B.2.2.2.1 (by decide) (by decide)) g_X8_94 g_X8_94.in (fun _ => c_X8_readName (x_G X) (x_l X) fu x0 x1 s14) rfl rfl (Nat.le_of_ble_eq_true rfl) dX8_readAct_171 (fun r31 s32 => ?_)
    refine ww_pc (b := 174) rfl ?_
    refine ww_iastc hX k_iast dX8_readAct_174 ?_
    refine ww_bds (fun s33 => ?_)
    refine ww_goto (tgt := 214) hX dX8_readAct_175 (by decide) ?_
    exact ww_sub [0] rfl (t_X8_readAct_214 B fu x0  s33)
  refine ww_if (fun c99_5 => ?_) (fun c99_5 => ?_)
  · refine ww_tsw (off := 79) (tgt := 178) hX dX8_readAct_99 (by rw [c99_5]; decide) (by rw [c99_5]; decide) (by rw [c99_5]; rfl) (by decide) ?_
    refine ww_aload_n hX 1 rfl dX8_readAct_178 rfl ?_
    refine ww_ldcS (q := 15) hX rfl dX8_readAct_179 ?_
    refine ww_callVV (As := [.ref ((x_K X).1 15)]) (rest := []) (o := x1) hX (Rk.of B.2.2.1 B.2.2.2.1 (by decide) (by decide)) g_X8_148 g_X8_148.in (fun _ => c_X9_needWord (x_G X) (x_l X) fu x1 15 s14) rfl rfl (Nat.le_of_ble_eq_true rfl) dX8_readAct_181 (fun s34 => ?_)
    refine ww_aload_n hX 0 rfl dX8_readAct_184 rfl ?_
    refine ww_getR hX f_X8_42 (Or.inr ⟨_, rfl⟩) dX8_readAct_185 ?_
    refine ww_bdR (fun o35 => ?_)
    refine ww_aload_n hX 0 rfl dX8_readAct_188 rfl ?_
    refine ww_getI hX f_X8_53 (Or.inl rfl) dX8_readAct_189 ?_
    refine ww_pc (b := 192) rfl ?_
    refine ww_aload_n hX 1 rfl dX8_readAct_192 rfl ?_
    refine ww_iconst (v := 0) hX rfl dX8_readAct_193 ?_
    refine ww_sipush (v := 255) hX rfl dX8_readAct_194 ?_
    refine ww_callVI (As := [.int 0, .int 255]) (rest := [.int (gI s34 x0 13), .ref (x_b X + o35)]) (o := x1) hX (Rk.of B.2.2.1 B.2.2.2.1 (by decide) (by decide)) g_X8_98 g_X8_98.in (fun _ => c_X9_number (x_G X) (x_l X) fu x1 0 255 s34) rfl rfl (Nat.le_of_ble_eq_true rfl) dX8_readAct_197 (fun r36 s37 => ?_)
    refine ww_iastc hX k_iast dX8_readAct_200 ?_
    refine ww_bds (fun s38 => ?_)
    refine ww_goto (tgt := 214) hX dX8_readAct_201 (by decide) ?_
    exact ww_sub [0] rfl (t_X8_readAct_214 B fu x0  s38)
  refine ww_tswd (tgt := 204) hX dX8_readAct_99 (by have z0 : x2.toInt ≠ 0 := fun q => c99_0 (Int32.toInt_inj.mp (q.trans (by decide))); have z1 : x2.toInt ≠ 1 := fun q => c99_1 (Int32.toInt_inj.mp (q.trans (by decide))); have z2 : x2.toInt ≠ 2 := fun q => c99_2 (Int32.toInt_inj.mp (q.trans (by decide))); have z3 : x2.toInt ≠ 3 := fun q => c99_3 (Int32.toInt_inj.mp (q.trans (by decide))); have z4 : x2.toInt ≠ 4 := fun q => c99_4 (Int32.toInt_inj.mp (q.trans (by decide))); have z5 : x2.toInt ≠ 5 := fun q => c99_5 (Int32.toInt_inj.mp (q.trans (by decide))); omega) (by decide) ?_
  refine ww_aload_n hX 0 rfl dX8_readAct_204 rfl ?_
  refine ww_getR hX f_X8_42 (Or.inr ⟨_, rfl⟩) dX8_readAct_205 ?_
  refine ww_bdR (fun o39 => ?_)
  refine ww_aload_n hX 0 rfl dX8_readAct_208 rfl ?_
  refine ww_getI hX f_X8_53 (Or.inl rfl) dX8_readAct_209 ?_
  refine ww_iconst (v := 0) hX rfl dX8_readAct_212 ?_
  refine ww_iastc hX k_iast dX8_readAct_213 ?_
  refine ww_bds (fun s40 => ?_)
  exact ww_sub [0] rfl (t_X8_readAct_214 B fu x0  s40)
def b_X8_readAct_71 (fu : Nat) (x0 : Nat) (x1 : Nat) (x2 : Int32) (y0 : Nat) (y1 : Int32) (y2 : Int64) (st : St) : Option (St) :=
  ck ((kd y0).1 = 103 ∧ inb y1 (kd y0).2) <|
  bd (sL st y0 (ix y1) y2) fun s8 =>
  ck (¬ gR s8 x0 9 = 0) <|
  ck ((kd x0).1 = 8) <|
  bd (gR s8 x0 9) fun o9 =>
  ck ((kd x0).1 = 8) <|
  if x2 = 0 then (
  b_X8_readAct_97 fu x0 x1 x2 o9 (gI s8 x0 13) 0 s8)
  else (
  ca (f_X8_mostOf fu x2 s8) fun r10 s11 =>
  ck ((kd x1).1 = 9) <|
  ca (f_X9_number fu x1 0 r10 s11) fun r12 s13 =>
  b_X8_readAct_97 fu x0 x1 x2 o9 (gI s8 x0 13) r12 s13)
set_option maxHeartbeats 4000000 in
set_option maxRecDepth 100000 in
theorem t_X8_readAct_71 {X : CX} {res : St} (B : BV X cX8_readAct RX8 3 8 NN none res) (fu : Nat) (x0 : Nat) (x1 : Nat) (x2 : Int32) (y0 : Nat) (y1 : Int32) (y2 : Int64) (st : St) : WW X res NN 71 [(0, .ref (x_b X + x0)), (1, .ref (x_b X + x1)), (2, .int x2)] [.long y2, .int y1, .ref (x_b X + y0)] st (b_X8_readAct_71 fu x0 x1 x2 y0 y1 y2 st) := by
  have hX := B.1
  have hL := B.2.1
  unfold b_X8_readAct_71
  refine ww_lastc hX k_last dX8_readAct_71 ?_
  refine ww_bds (fun s8 => ?_)
  refine ww_aload_n hX 0 rfl dX8_readAct_72 rfl ?_
  refine ww_getR hX f_X8_39 (Or.inr ⟨_, rfl⟩) dX8_readAct_73 ?_
  refine ww_bdR (fun o9 => ?_)
  refine ww_aload_n hX 0 rfl dX8_readAct_76 rfl ?_
  refine ww_getI hX f_X8_53 (Or.inl rfl) dX8_readAct_77 ?_
  refine ww_iload_n hX 2 rfl dX8_readAct_80 rfl ?_
  refine ww_if_ne (tgt := 88) hX dX8_readAct_81 (by decide) ?_ ?_
  · refine ww_aload_n hX 1 rfl dX8_readAct_88 rfl ?_
    refine ww_iconst (v := 0) hX rfl dX8_readAct_89 ?_
    refine ww_iload_n hX 2 rfl dX8_readAct_90 rfl ?_
    refine ww_callSI (As := [.int x2]) (rest := [.int 0, .ref (x_b X + x1), .int (gI s8 x0 13), .ref (x_b X + o9)]) hX (Rk.of B.2.2.1 B.2.2.2.1 (by decide) (by decide)) g_X8_142 (c_X8_mostOf (x_G X) (x_l X) fu x2 s8) rfl rfl (Nat.le_of_ble_eq_true rfl) dX8_readAct_91 (fun r10 s11 => ?_)
    refine ww_callVI (As := [.int 0, .int r10]) (rest := [.int (gI s8 x0 13), .ref (x_b X + o9)]) (o := x1) hX (Rk.of B.2.2.1 B.2.2.2.1 (by decide) (by decide)) g_X8_98 g_X8_98.in (fun _ => c_X9_number (x_G X) (x_l X) fu x1 0 r10 s11) rfl rfl (Nat.le_of_ble_eq_true rfl) dX8_readAct_94 (fun r12 s13 => ?_)
    exact t_X8_readAct_97 B fu x0 x1 x2 o9 (gI s8 x0 13) r12 s13
  · refine ww_iconst (v := 0) hX rfl dX8_readAct_84 ?_
    refine ww_goto (tgt := 97) hX dX8_readAct_85 (by decide) ?_
    exact t_X8_readAct_97 B fu x0 x1 x2 o9 (gI s8 x0 13) 0 s8
def f_X8_readAct (fu : Nat) (th : Nat) (p1 : Nat) (st : St) : Option (St) :=
  ca (f_X8_kindAt fu p1 st) fun r1 s2 =>
  if r1 < 0 then (
  b_X8_readAct_19 fu p1 r1  s2)
  else (
  ck ((kd th).1 = 8) <|
  if (gI s2 th 13) < 300 then (
  ck ((kd p1).1 = 9) <|
  cv (f_X9_next fu p1 s2) fun s4 =>
  ck (¬ gR s4 th 8 = 0) <|
  ck ((kd th).1 = 8) <|
  bd (gR s4 th 8) fun o5 =>
  ck ((kd th).1 = 8) <|
  ck ((kd o5).1 = 100 ∧ inb (gI s4 th 13) (kd o5).2) <|
  bd (sI s4 o5 (ix (gI s4 th 13)) r1) fun s6 =>
  ck (¬ gR s6 th 11 = 0) <|
  ck ((kd th).1 = 8) <|
  bd (gR s6 th 11) fun o7 =>
  ck ((kd th).1 = 8) <|
  if r1 = 0 then (
  ca (f_X8_readChannels fu p1 s6) fun r41 s42 =>
  b_X8_readAct_71 fu th p1 r1 o7 (gI s6 th 13) r41 s42)
  else (
  b_X8_readAct_71 fu th p1 r1 o7 (gI s6 th 13) 0 s6))
  else (
  b_X8_readAct_19 fu p1 r1  s2))
set_option maxHeartbeats 4000000 in
set_option maxRecDepth 100000 in
theorem t_X8_readAct {X : CX} {res : St} (B : BV X cX8_readAct RX8 3 8 NN none res) (fu : Nat) (th : Nat) (p1 : Nat) (st : St) : WW X res NN 0 [(0, .ref (x_b X + th)), (1, .ref (x_b X + p1))] [] st (f_X8_readAct fu th p1 st) := by
  have hX := B.1
  have hL := B.2.1
  unfold f_X8_readAct
  refine ww_aload_n hX 1 rfl dX8_readAct_0 rfl ?_
  refine ww_callSI (As := [.ref (x_b X + p1)]) (rest := []) hX (Rk.of B.2.2.1 B.2.2.2.1 (by decide) (by decide)) g_X8_135 (c_X8_kindAt (x_G X) (x_l X) fu p1 st) rfl rfl (Nat.le_of_ble_eq_true rfl) dX8_readAct_1 (fun r1 s2 => ?_)
  refine ww_istore_n (lv' := [(2, .int r1), (0, .ref (x_b X + th)), (1, .ref (x_b X + p1))]) hX hL dX8_readAct_4 rfl (by decide) rfl ?_
  refine ww_iload_n hX 0 rfl dX8_readAct_5 rfl ?_
  refine ww_if_lt (tgt := 19) hX dX8_readAct_6 (by decide) ?_ ?_
  · exact ww_sub [2, 0] rfl (t_X8_readAct_19 B fu p1 r1  s2)
  · refine ww_aload_n hX 1 rfl dX8_readAct_9 rfl ?_
    refine ww_getI hX f_X8_53 (Or.inl rfl) dX8_readAct_10 ?_
    refine ww_sipush (v := 300) hX rfl dX8_readAct_13 ?_
    refine ww_icmp_lt (tgt := 37) hX dX8_readAct_16 (by decide) ?_ ?_
    · refine ww_aload_n hX 2 rfl dX8_readAct_37 rfl ?_
      refine ww_callVV (As := []) (rest := []) (o := p1) hX (Rk.of B.2.2.1 B.2.2.2.1 (by decide) (by decide)) g_X8_91 g_X8_91.in (fun _ => c_X9_next (x_G X) (x_l X) fu p1 s2) rfl rfl (Nat.le_of_ble_eq_true rfl) dX8_readAct_38 (fun s4 => ?_)
      refine ww_aload_n hX 1 rfl dX8_readAct_41 rfl ?_
      refine ww_getR hX f_X8_36 (Or.inr ⟨_, rfl⟩) dX8_readAct_42 ?_
      refine ww_bdR (fun o5 => ?_)
      refine ww_aload_n hX 1 rfl dX8_readAct_45 rfl ?_
      refine ww_getI hX f_X8_53 (Or.inl rfl) dX8_readAct_46 ?_
      refine ww_iload_n hX 0 rfl dX8_readAct_49 rfl ?_
      refine ww_pc (b := 50) rfl ?_
      refine ww_iastc hX k_iast dX8_readAct_50 ?_
      refine ww_bds (fun s6 => ?_)
      refine ww_aload_n hX 1 rfl dX8_readAct_51 rfl ?_
      refine ww_getR hX f_X8_45 (Or.inr ⟨_, rfl⟩) dX8_readAct_52 ?_
      refine ww_bdR (fun o7 => ?_)
      refine ww_aload_n hX 1 rfl dX8_readAct_55 rfl ?_
      refine ww_getI hX f_X8_53 (Or.inl rfl) dX8_readAct_56 ?_
      refine ww_iload_n hX 0 rfl dX8_readAct_59 rfl ?_
      refine ww_if_ne (tgt := 70) hX dX8_readAct_60 (by decide) ?_ ?_
      · refine ww_lconst (v := 0) hX rfl dX8_readAct_70 ?_
        exact ww_sub [1, 2, 0] rfl (t_X8_readAct_71 B fu th p1 r1 o7 (gI s6 th 13) 0 s6)
      · refine ww_aload_n hX 2 rfl dX8_readAct_63 rfl ?_
        refine ww_callSL (As := [.ref (x_b X + p1)]) (rest := [.int (gI s6 th 13), .ref (x_b X + o7)]) hX (Rk.of B.2.2.1 B.2.2.2.1 (by decide) (by decide)) g_X8_138 (c_X8_readChannels (x_G X) (x_l X) fu p1 s6) rfl rfl (Nat.le_of_ble_eq_true rfl) dX8_readAct_64 (fun r41 s42 => ?_)
        refine ww_goto (tgt := 71) hX dX8_readAct_67 (by decide) ?_
        exact ww_sub [1, 2, 0] rfl (t_X8_readAct_71 B fu th p1 r1 o7 (gI s6 th 13) r41 s42)
    · exact ww_sub [2, 0] rfl (t_X8_readAct_19 B fu p1 r1  s2)
theorem c_X8_readAct (G : GX) (l : Launch) (fu : Nat) (th : Nat) (p1 : Nat) (st : St) : MV G NN l yX8_readAct cX8_readAct 3 none 8 [.ref (G.2.2.1 + th), .ref (G.2.2.1 + p1)] st (f_X8_readAct fu th p1 st) := mkV (by decide) (Nat.le_of_ble_eq_true rfl) (fun X res hl hG B => by subst hl; subst hG; exact t_X8_readAct B fu th p1 st)
/-! StageHouse$Script.readBody(LStageHouse$Tape;)V -/
def b_X8_readBody_93 (fu : Nat)   (st : St) : Option (St) :=
  some st
set_option maxHeartbeats 4000000 in
set_option maxRecDepth 100000 in
theorem t_X8_readBody_93 {X : CX} {res : St} (B : BV X cX8_readBody RX8 3 9 NN none res) (fu : Nat)   (st : St) : WW X res NN 93 [] [] st (b_X8_readBody_93 fu  st) := by
  have hX := B.1
  have hL := B.2.1
  unfold b_X8_readBody_93
  exact ww_vret B dX8_readBody_93
def b_X8_readBody_48 (fu : Nat) (x0 : Nat) (x1 : Nat)  (st : St) : Option (St) :=
  ck ((kd x1).1 = 9) <|
  cv (f_X9_need fu x1 125 st) fun s2 =>
  ck ((kd x1).1 = 9) <|
  if (gI s2 x1 8) = 0 then (
  ck ((kd x0).1 = 8) <|
  if 60 ≤ (gI s2 x0 12) then (
  b_X8_readBody_93 fu   s2)
  else (
  ck ((kd x0).1 = 8) <|
  ck ((kd x0).1 = 8) <|
  bd (sI s2 x0 12 ((gI s2 x0 12) + 1)) fun s3 =>
  ck (¬ gR s3 x0 7 = 0) <|
  ck ((kd x0).1 = 8) <|
  bd (gR s3 x0 7) fun o4 =>
  ck ((kd x0).1 = 8) <|
  ck ((kd x0).1 = 8) <|
  ck ((kd o4).1 = 100 ∧ inb (gI s3 x0 12) (kd o4).2) <|
  bd (sI s3 o4 (ix (gI s3 x0 12)) (gI s3 x0 13)) fun s5 =>
  b_X8_readBody_93 fu   s5))
  else (
  b_X8_readBody_93 fu   s2)
set_option maxHeartbeats 4000000 in
set_option maxRecDepth 100000 in
theorem t_X8_readBody_48 {X : CX} {res : St} (B : BV X cX8_readBody RX8 3 9 NN none res) (fu : Nat) (x0 : Nat) (x1 : Nat)  (st : St) : WW X res NN 48 [(0, .ref (x_b X + x0)), (1, .ref (x_b X + x1))] [] st (b_X8_readBody_48 fu x0 x1 st) := by
  have hX := B.1
  have hL := B.2.1
  unfold b_X8_readBody_48
  refine ww_aload_n hX 1 rfl dX8_readBody_48 rfl ?_
  refine ww_bipush (v := 125) hX rfl dX8_readBody_49 ?_
  refine ww_callVV (As := [.int 125]) (rest := []) (o := x1) hX (Rk.of B.2.2.1 B.2.2.2.1 (by decide) (by decide)) g_X8_125 g_X8_125.in (fun _ => c_X9_need (x_G X) (x_l X) fu x1 125 st) rfl rfl (Nat.le_of_ble_eq_true rfl) dX8_readBody_51 (fun s2 => ?_)
  refine ww_aload_n hX 1 rfl dX8_readBody_54 rfl ?_
  refine ww_getI hX f_X8_88 (Or.inl rfl) dX8_readBody_55 ?_
  refine ww_if_ne (tgt := 93) hX dX8_readBody_58 (by decide) ?_ ?_
  · exact ww_sub [] rfl (t_X8_readBody_93 B fu   s2)
  · refine ww_aload_n hX 0 rfl dX8_readBody_61 rfl ?_
    refine ww_getI hX f_X8_49 (Or.inl rfl) dX8_readBody_62 ?_
    refine ww_bipush (v := 60) hX rfl dX8_readBody_65 ?_
    refine ww_icmp_ge (tgt := 93) hX dX8_readBody_67 (by decide) ?_ ?_
    · exact ww_sub [] rfl (t_X8_readBody_93 B fu   s2)
    · refine ww_aload_n hX 0 rfl dX8_readBody_70 rfl ?_
      refine ww_dup hX rfl dX8_readBody_71 ?_
      refine ww_getI hX f_X8_49 (Or.inl rfl) dX8_readBody_72 ?_
      refine ww_iconst (v := 1) hX rfl dX8_readBody_75 ?_
      refine ww_iadd hX dX8_readBody_76 ?_
      refine ww_putI hX f_X8_49 rfl dX8_readBody_77 ?_
      refine ww_bds (fun s3 => ?_)
      refine ww_aload_n hX 0 rfl dX8_readBody_80 rfl ?_
      refine ww_pc (b := 81) rfl ?_
      refine ww_getR hX f_X8_33 (Or.inr ⟨_, rfl⟩) dX8_readBody_81 ?_
      refine ww_bdR (fun o4 => ?_)
      refine ww_aload_n hX 0 rfl dX8_readBody_84 rfl ?_
      refine ww_getI hX f_X8_49 (Or.inl rfl) dX8_readBody_85 ?_
      refine ww_aload_n hX 0 rfl dX8_readBody_88 rfl ?_
      refine ww_getI hX f_X8_53 (Or.inl rfl) dX8_readBody_89 ?_
      refine ww_iastc hX k_iast dX8_readBody_92 ?_
      refine ww_bds (fun s5 => ?_)
      exact ww_sub [] rfl (t_X8_readBody_93 B fu   s5)
def b_X8_readBody_8_b (fu : Nat) (k_8 : Nat → Nat → Int32 → St → Option (St)) (x0 : Nat) (x1 : Nat) (x2 : Int32)  (st : St) : Option (St) :=
  if 300 < x2 then (
  b_X8_readBody_48 fu x0 x1  st)
  else (
  ck ((kd x1).1 = 9) <|
  if (gI st x1 8) = 0 then (
  ck ((kd x1).1 = 9) <|
  ca (f_X9_isSign fu x1 125 st) fun r6 s7 =>
  if r6 = 0 then (
  ck ((kd x0).1 = 8) <|
  cv (f_X8_readAct fu x0 x1 s7) fun s8 =>
  ck ((kd x1).1 = 9) <|
  cv (f_X9_need fu x1 59 s8) fun s9 =>
  bd (x2 + 1) fun v10 =>
  k_8 x0 x1 v10  s9)
  else (
  b_X8_readBody_48 fu x0 x1  s7))
  else (
  b_X8_readBody_48 fu x0 x1  st))
set_option maxHeartbeats 4000000 in
set_option maxRecDepth 100000 in
theorem t_X8_readBody_8_b {X : CX} {res : St} (B : BV X cX8_readBody RX8 3 9 NN none res) (fu : Nat) (k_8 : Nat → Nat → Int32 → St → Option (St)) (h_8 : ∀ (x0 : Nat) (x1 : Nat) (x2 : Int32)  (st : St), WW X res NN 8 [(0, .ref (x_b X + x0)), (1, .ref (x_b X + x1)), (2, .int x2)] [] st (k_8 x0 x1 x2 st)) (x0 : Nat) (x1 : Nat) (x2 : Int32)  (st : St) : WW X res NN 8 [(0, .ref (x_b X + x0)), (1, .ref (x_b X + x1)), (2, .int x2)] [] st (b_X8_readBody_8_b fu k_8 x0 x1 x2 st) := by
  have hX := B.1
  have hL := B.2.1
  unfold b_X8_readBody_8_b
  refine ww_iload_n hX 2 rfl dX8_readBody_8 rfl ?_
  refine ww_sipush (v := 300) hX rfl dX8_readBody_9 ?_
  refine ww_icmp_gt (tgt := 48) hX dX8_readBody_12 (by decide) ?_ ?_
  · exact ww_sub [0, 1] rfl (t_X8_readBody_48 B fu x0 x1  st)
  · refine ww_aload_n hX 1 rfl dX8_readBody_15 rfl ?_
    refine ww_getI hX f_X8_88 (Or.inl rfl) dX8_readBody_16 ?_
    refine ww_if_ne (tgt := 48) hX dX8_readBody_19 (by decide) ?_ ?_
    · exact ww_sub [0, 1] rfl (t_X8_readBody_48 B fu x0 x1  st)
    · refine ww_aload_n hX 1 rfl dX8_readBody_22 rfl ?_
      refine ww_bipush (v := 125) hX rfl dX8_readBody_23 ?_
      refine ww_callVI (As := [.int 125]) (rest := []) (o := x1) hX (Rk.of B.2.2.1 B.2.2.2.1 (by decide) (by decide)) g_X8_129 g_X8_129.in (fun _ => c_X9_isSign (x_G X) (x_l X) fu x1 125 st) rfl rfl (Nat.le_of_ble_eq_true rfl) dX8_readBody_25 (fun r6 s7 => ?_)
      refine ww_if_ne (tgt := 48) hX dX8_readBody_28 (by decide) ?_ ?_
      · exact ww_sub [0, 1] rfl (t_X8_readBody_48 B fu x0 x1  s7)
      · refine ww_aload_n hX 0 rfl dX8_readBody_31 rfl ?_
        refine ww_aload_n hX 1 rfl dX8_readBody_32 rfl ?_
        refine ww_callVV (As := [.ref (x_b X + x1)]) (rest := []) (o := x0) hX (Rk.of B.2.2.1 B.2.2.2.1 (by decide) (by decide)) g_X8_132 g_X8_132.in (fun _ => c_X8_readAct (x_G X) (x_l X) fu x0 x1 s7) rfl rfl (Nat.le_of_ble_eq_true rfl) dX8_readBody_33 (fun s8 => ?_)
        refine ww_aload_n hX 1 rfl dX8_readBody_36 rfl ?_
        refine ww_bipush (v := 59) hX rfl dX8_readBody_37 ?_
        refine ww_callVV (As := [.int 59]) (rest := []) (o := x1) hX (Rk.of B.2.2.1 B.2.2.2.1 (by decide) (by decide)) g_X8_125 g_X8_125.in (fun _ => c_X9_need (x_G X) (x_l X) fu x1 59 s8) rfl rfl (Nat.le_of_ble_eq_true rfl) dX8_readBody_39 (fun s9 => ?_)
        refine ww_iincb (lv' := fun v10 => [(2, .int v10), (0, .ref (x_b X + x0)), (1, .ref (x_b X + x1))]) (c := 1) hX hL 2 rfl dX8_readBody_42 rfl (by decide) (fun _ => rfl) (fun v10 => ?_)
        refine ww_pc (b := 45) rfl ?_
        refine ww_goto (tgt := 8) hX dX8_readBody_45 (by decide) ?_
        exact ww_sub [1, 2, 0] rfl (h_8 x0 x1 v10  s9)
def b_X8_readBody_8 (fu : Nat) : Nat → Nat → Nat → Int32 → St → Option (St)
  | 0, _, _, _, _ => none
  | i + 1, x0, x1, x2, st => b_X8_readBody_8_b fu (b_X8_readBody_8 fu i) x0 x1 x2 st
theorem t_X8_readBody_8 {X : CX} {res : St} (B : BV X cX8_readBody RX8 3 9 NN none res) (fu : Nat) : ∀ (i : Nat) (x0 : Nat) (x1 : Nat) (x2 : Int32)  (st : St), WW X res NN 8 [(0, .ref (x_b X + x0)), (1, .ref (x_b X + x1)), (2, .int x2)] [] st (b_X8_readBody_8 fu i x0 x1 x2 st) := by
  intro i
  induction i with
  | zero => intro x0 x1 x2 st; exact ww_none
  | succ i ih => intro x0 x1 x2 st; exact t_X8_readBody_8_b B fu (b_X8_readBody_8 fu i) ih x0 x1 x2 st
def f_X8_readBody (fu : Nat) (th : Nat) (p1 : Nat) (st : St) : Option (St) :=
  ck ((kd p1).1 = 9) <|
  cv (f_X9_need fu p1 123 st) fun s1 =>
  b_X8_readBody_8 fu fu th p1 0  s1
set_option maxHeartbeats 4000000 in
set_option maxRecDepth 100000 in
theorem t_X8_readBody {X : CX} {res : St} (B : BV X cX8_readBody RX8 3 9 NN none res) (fu : Nat) (th : Nat) (p1 : Nat) (st : St) : WW X res NN 0 [(0, .ref (x_b X + th)), (1, .ref (x_b X + p1))] [] st (f_X8_readBody fu th p1 st) := by
  have hX := B.1
  have hL := B.2.1
  unfold f_X8_readBody
  refine ww_aload_n hX 1 rfl dX8_readBody_0 rfl ?_
  refine ww_bipush (v := 123) hX rfl dX8_readBody_1 ?_
  refine ww_callVV (As := [.int 123]) (rest := []) (o := p1) hX (Rk.of B.2.2.1 B.2.2.2.1 (by decide) (by decide)) g_X8_125 g_X8_125.in (fun _ => c_X9_need (x_G X) (x_l X) fu p1 123 st) rfl rfl (Nat.le_of_ble_eq_true rfl) dX8_readBody_3 (fun s1 => ?_)
  refine ww_iconst (v := 0) hX rfl dX8_readBody_6 ?_
  refine ww_istore_n (lv' := [(2, .int 0), (0, .ref (x_b X + th)), (1, .ref (x_b X + p1))]) hX hL dX8_readBody_7 rfl (by decide) rfl ?_
  exact ww_sub [1, 2, 0] rfl (t_X8_readBody_8 B fu fu th p1 0  s1)
theorem c_X8_readBody (G : GX) (l : Launch) (fu : Nat) (th : Nat) (p1 : Nat) (st : St) : MV G NN l yX8_readBody cX8_readBody 3 none 9 [.ref (G.2.2.1 + th), .ref (G.2.2.1 + p1)] st (f_X8_readBody fu th p1 st) := mkV (by decide) (Nat.le_of_ble_eq_true rfl) (fun X res hl hG B => by subst hl; subst hG; exact t_X8_readBody B fu th p1 st)
/-! StageHouse$Script.readHead(LStageHouse$Tape;)V -/
def b_X8_readHead_55 (fu : Nat)   (st : St) : Option (St) :=
  some st
set_option maxHeartbeats 4000000 in
set_option maxRecDepth 100000 in
theorem t_X8_readHead_55 {X : CX} {res : St} (B : BV X cX8_readHead RX8 4 8 NN none res) (fu : Nat)   (st : St) : WW X res NN 55 [] [] st (b_X8_readHead_55 fu  st) := by
  have hX := B.1
  have hL := B.2.1
  unfold b_X8_readHead_55
  exact ww_vret B dX8_readHead_55
def b_X8_readHead_196 (fu : Nat)  (y0 : Nat) (y1 : Int32) (y2 : Int32) (st : St) : Option (St) :=
  ck ((kd y0).1 = 100 ∧ inb y1 (kd y0).2) <|
  bd (sI st y0 (ix y1) y2) fun s20 =>
  some s20
set_option maxHeartbeats 4000000 in
set_option maxRecDepth 100000 in
theorem t_X8_readHead_196 {X : CX} {res : St} (B : BV X cX8_readHead RX8 4 8 NN none res) (fu : Nat)  (y0 : Nat) (y1 : Int32) (y2 : Int32) (st : St) : WW X res NN 196 [] [.int y2, .int y1, .ref (x_b X + y0)] st (b_X8_readHead_196 fu y0 y1 y2 st) := by
  have hX := B.1
  have hL := B.2.1
  unfold b_X8_readHead_196
  refine ww_iastc hX k_iast dX8_readHead_196 ?_
  refine ww_bds (fun s20 => ?_)
  exact ww_vret B dX8_readHead_197
def b_X8_readHead_106 (fu : Nat) (x0 : Nat) (x3 : Int32)  (st : St) : Option (St) :=
  ck (¬ gR st x0 0 = 0) <|
  ck ((kd x0).1 = 8) <|
  bd (gR st x0 0) fun o7 =>
  ck ((kd x0).1 = 8) <|
  ck ((kd o7).1 = 100 ∧ inb (gI st x0 12) (kd o7).2) <|
  bd (sI st o7 (ix (gI st x0 12)) x3) fun s8 =>
  ck (¬ gR s8 x0 1 = 0) <|
  ck ((kd x0).1 = 8) <|
  bd (gR s8 x0 1) fun o9 =>
  ck ((kd x0).1 = 8) <|
  ck ((kd o9).1 = 100 ∧ inb (gI s8 x0 12) (kd o9).2) <|
  bd (sI s8 o9 (ix (gI s8 x0 12)) 0) fun s10 =>
  ck (¬ gR s10 x0 2 = 0) <|
  ck ((kd x0).1 = 8) <|
  bd (gR s10 x0 2) fun o11 =>
  ck ((kd x0).1 = 8) <|
  ck ((kd o11).1 = 100 ∧ inb (gI s10 x0 12) (kd o11).2) <|
  bd (sI s10 o11 (ix (gI s10 x0 12)) 0) fun s12 =>
  ck (¬ gR s12 x0 3 = 0) <|
  ck ((kd x0).1 = 8) <|
  bd (gR s12 x0 3) fun o13 =>
  ck ((kd x0).1 = 8) <|
  ck ((kd o13).1 = 100 ∧ inb (gI s12 x0 12) (kd o13).2) <|
  bd (sI s12 o13 (ix (gI s12 x0 12)) 0) fun s14 =>
  ck (¬ gR s14 x0 4 = 0) <|
  ck ((kd x0).1 = 8) <|
  bd (gR s14 x0 4) fun o15 =>
  ck ((kd x0).1 = 8) <|
  ck ((kd o15).1 = 100 ∧ inb (gI s14 x0 12) (kd o15).2) <|
  bd (sI s14 o15 (ix (gI s14 x0 12)) 0) fun s16 =>
  ck (¬ gR s16 x0 5 = 0) <|
  ck ((kd x0).1 = 8) <|
  bd (gR s16 x0 5) fun o17 =>
  ck ((kd x0).1 = 8) <|
  ck ((kd o17).1 = 100 ∧ inb (gI s16 x0 12) (kd o17).2) <|
  bd (sI s16 o17 (ix (gI s16 x0 12)) 0) fun s18 =>
  ck (¬ gR s18 x0 6 = 0) <|
  ck ((kd x0).1 = 8) <|
  bd (gR s18 x0 6) fun o19 =>
  ck ((kd x0).1 = 8) <|
  ck ((kd x0).1 = 8) <|
  if (gI s18 x0 12) ≤ 0 then (
  b_X8_readHead_196 fu  o19 (gI s18 x0 12) 0 s18)
  else (
  ck (¬ gR s18 x0 6 = 0) <|
  ck ((kd x0).1 = 8) <|
  bd (gR s18 x0 6) fun o21 =>
  ck ((kd x0).1 = 8) <|
  ck ((kd o21).1 = 100 ∧ inb ((gI s18 x0 12) - 1) (kd o21).2) <|
  b_X8_readHead_196 fu  o19 (gI s18 x0 12) (gI s18 o21 (ix ((gI s18 x0 12) - 1))) s18)
set_option maxHeartbeats 4000000 in
set_option maxRecDepth 100000 in
theorem t_X8_readHead_106 {X : CX} {res : St} (B : BV X cX8_readHead RX8 4 8 NN none res) (fu : Nat) (x0 : Nat) (x3 : Int32)  (st : St) : WW X res NN 106 [(0, .ref (x_b X + x0)), (3, .int x3)] [] st (b_X8_readHead_106 fu x0 x3 st) := by
  have hX := B.1
  have hL := B.2.1
  unfold b_X8_readHead_106
  refine ww_aload_n hX 0 rfl dX8_readHead_106 rfl ?_
  refine ww_getR hX f_X8_11 (Or.inr ⟨_, rfl⟩) dX8_readHead_107 ?_
  refine ww_bdR (fun o7 => ?_)
  refine ww_aload_n hX 0 rfl dX8_readHead_110 rfl ?_
  refine ww_getI hX f_X8_49 (Or.inl rfl) dX8_readHead_111 ?_
  refine ww_iload_n hX 1 rfl dX8_readHead_114 rfl ?_
  refine ww_iastc hX k_iast dX8_readHead_115 ?_
  refine ww_bds (fun s8 => ?_)
  refine ww_aload_n hX 0 rfl dX8_readHead_116 rfl ?_
  refine ww_pc (b := 117) rfl ?_
  refine ww_getR hX f_X8_15 (Or.inr ⟨_, rfl⟩) dX8_readHead_117 ?_
  refine ww_bdR (fun o9 => ?_)
  refine ww_aload_n hX 0 rfl dX8_readHead_120 rfl ?_
  refine ww_getI hX f_X8_49 (Or.inl rfl) dX8_readHead_121 ?_
  refine ww_iconst (v := 0) hX rfl dX8_readHead_124 ?_
  refine ww_iastc hX k_iast dX8_readHead_125 ?_
  refine ww_bds (fun s10 => ?_)
  refine ww_aload_n hX 0 rfl dX8_readHead_126 rfl ?_
  refine ww_getR hX f_X8_18 (Or.inr ⟨_, rfl⟩) dX8_readHead_127 ?_
  refine ww_bdR (fun o11 => ?_)
  refine ww_aload_n hX 0 rfl dX8_readHead_130 rfl ?_
  refine ww_pc (b := 131) rfl ?_
  refine ww_getI hX f_X8_49 (Or.inl rfl) dX8_readHead_131 ?_
  refine ww_iconst (v := 0) hX rfl dX8_readHead_134 ?_
  refine ww_iastc hX k_iast dX8_readHead_135 ?_
  refine ww_bds (fun s12 => ?_)
  refine ww_aload_n hX 0 rfl dX8_readHead_136 rfl ?_
  refine ww_getR hX f_X8_21 (Or.inr ⟨_, rfl⟩) dX8_readHead_137 ?_
  refine ww_bdR (fun o13 => ?_)
  refine ww_aload_n hX 0 rfl dX8_readHead_140 rfl ?_
  refine ww_getI hX f_X8_49 (Or.inl rfl) dX8_readHead_141 ?_
  refine ww_iconst (v := 0) hX rfl dX8_readHead_144 ?_
  refine ww_pc (b := 145) rfl ?_
  refine ww_iastc hX k_iast dX8_readHead_145 ?_
  refine ww_bds (fun s14 => ?_)
  refine ww_aload_n hX 0 rfl dX8_readHead_146 rfl ?_
  refine ww_getR hX f_X8_24 (Or.inr ⟨_, rfl⟩) dX8_readHead_147 ?_
  refine ww_bdR (fun o15 => ?_)
  refine ww_aload_n hX 0 rfl dX8_readHead_150 rfl ?_
  refine ww_getI hX f_X8_49 (Or.inl rfl) dX8_readHead_151 ?_
  refine ww_iconst (v := 0) hX rfl dX8_readHead_154 ?_
  refine ww_iastc hX k_iast dX8_readHead_155 ?_
  refine ww_bds (fun s16 => ?_)
  refine ww_aload_n hX 0 rfl dX8_readHead_156 rfl ?_
  refine ww_pc (b := 157) rfl ?_
  refine ww_getR hX f_X8_27 (Or.inr ⟨_, rfl⟩) dX8_readHead_157 ?_
  refine ww_bdR (fun o17 => ?_)
  refine ww_aload_n hX 0 rfl dX8_readHead_160 rfl ?_
  refine ww_getI hX f_X8_49 (Or.inl rfl) dX8_readHead_161 ?_
  refine ww_iconst (v := 0) hX rfl dX8_readHead_164 ?_
  refine ww_iastc hX k_iast dX8_readHead_165 ?_
  refine ww_bds (fun s18 => ?_)
  refine ww_aload_n hX 0 rfl dX8_readHead_166 rfl ?_
  refine ww_getR hX f_X8_30 (Or.inr ⟨_, rfl⟩) dX8_readHead_167 ?_
  refine ww_bdR (fun o19 => ?_)
  refine ww_aload_n hX 0 rfl dX8_readHead_170 rfl ?_
  refine ww_pc (b := 171) rfl ?_
  refine ww_getI hX f_X8_49 (Or.inl rfl) dX8_readHead_171 ?_
  refine ww_aload_n hX 0 rfl dX8_readHead_174 rfl ?_
  refine ww_getI hX f_X8_49 (Or.inl rfl) dX8_readHead_175 ?_
  refine ww_if_le (tgt := 195) hX dX8_readHead_178 (by decide) ?_ ?_
  · refine ww_iconst (v := 0) hX rfl dX8_readHead_195 ?_
    exact ww_sub [] rfl (t_X8_readHead_196 B fu  o19 (gI s18 x0 12) 0 s18)
  · refine ww_aload_n hX 0 rfl dX8_readHead_181 rfl ?_
    refine ww_getR hX f_X8_30 (Or.inr ⟨_, rfl⟩) dX8_readHead_182 ?_
    refine ww_bdR (fun o21 => ?_)
    refine ww_aload_n hX 0 rfl dX8_readHead_185 rfl ?_
    refine ww_getI hX f_X8_49 (Or.inl rfl) dX8_readHead_186 ?_
    refine ww_iconst (v := 1) hX rfl dX8_readHead_189 ?_
    refine ww_isub hX dX8_readHead_190 ?_
    refine ww_ialdc hX k_iald dX8_readHead_191 ?_
    refine ww_pc (b := 192) rfl ?_
    refine ww_goto (tgt := 196) hX dX8_readHead_192 (by decide) ?_
    exact ww_sub [] rfl (t_X8_readHead_196 B fu  o19 (gI s18 x0 12) (gI s18 o21 (ix ((gI s18 x0 12) - 1))) s18)
def b_X8_readHead_39 (fu : Nat) (x0 : Nat) (x1 : Nat)  (st : St) : Option (St) :=
  ck ((kd x1).1 = 9) <|
  if (gI st x1 8) = 0 then (
  ck ((kd x0).1 = 8) <|
  if (gI st x0 12) < 60 then (
  ck ((kd x1).1 = 9) <|
  cv (f_X9_next fu x1 st) fun s3 =>
  ck ((kd x1).1 = 9) <|
  bd (gI s3 x1 3) fun v4 =>
  ck ((kd x0).1 = 8) <|
  ca (f_X8_readName fu x0 x1 s3) fun r5 s6 =>
  ck ((kd x1).1 = 9) <|
  if (gI s6 x1 8) = 0 then (
  ck ((kd x0).1 = 8) <|
  if (gI s6 x0 12) ≤ 0 then (
  b_X8_readHead_106 fu x0 r5  s6)
  else (
  ck (¬ gR s6 x0 0 = 0) <|
  ck ((kd x0).1 = 8) <|
  bd (gR s6 x0 0) fun o22 =>
  ck ((kd x0).1 = 8) <|
  ck ((kd o22).1 = 100 ∧ inb ((gI s6 x0 12) - 1) (kd o22).2) <|
  if (gI s6 o22 (ix ((gI s6 x0 12) - 1))) < r5 then (
  b_X8_readHead_106 fu x0 r5  s6)
  else (
  ck ((kd x1).1 = 9) <|
  cv (f_X9_fail fu x1 3 v4 s6) fun s23 =>
  b_X8_readHead_106 fu x0 r5  s23)))
  else (
  b_X8_readHead_106 fu x0 r5  s6))
  else (
  b_X8_readHead_55 fu   st))
  else (
  b_X8_readHead_55 fu   st)
set_option maxHeartbeats 4000000 in
set_option maxRecDepth 100000 in
theorem t_X8_readHead_39 {X : CX} {res : St} (B : BV X cX8_readHead RX8 4 8 NN none res) (fu : Nat) (x0 : Nat) (x1 : Nat)  (st : St) : WW X res NN 39 [(0, .ref (x_b X + x0)), (1, .ref (x_b X + x1))] [] st (b_X8_readHead_39 fu x0 x1 st) := by
  have hX := B.1
  have hL := B.2.1
  unfold b_X8_readHead_39
  refine ww_aload_n hX 1 rfl dX8_readHead_39 rfl ?_
  refine ww_getI hX f_X8_88 (Or.inl rfl) dX8_readHead_40 ?_
  refine ww_if_ne (tgt := 55) hX dX8_readHead_43 (by decide) ?_ ?_
  · exact ww_sub [] rfl (t_X8_readHead_55 B fu   st)
  · refine ww_aload_n hX 0 rfl dX8_readHead_46 rfl ?_
    refine ww_getI hX f_X8_49 (Or.inl rfl) dX8_readHead_47 ?_
    refine ww_bipush (v := 60) hX rfl dX8_readHead_50 ?_
    refine ww_icmp_lt (tgt := 56) hX dX8_readHead_52 (by decide) ?_ ?_
    · refine ww_aload_n hX 1 rfl dX8_readHead_56 rfl ?_
      refine ww_callVV (As := []) (rest := []) (o := x1) hX (Rk.of B.2.2.1 B.2.2.2.1 (by decide) (by decide)) g_X8_91 g_X8_91.in (fun _ => c_X9_next (x_G X) (x_l X) fu x1 st) rfl rfl (Nat.le_of_ble_eq_true rfl) dX8_readHead_57 (fun s3 => ?_)
      refine ww_aload_n hX 1 rfl dX8_readHead_60 rfl ?_
      refine ww_getI hX f_X8_81 (Or.inl rfl) dX8_readHead_61 ?_
      refine ww_bdi (fun v4 => ?_)
      refine ww_istore_n (lv' := [(2, .int v4), (0, .ref (x_b X + x0)), (1, .ref (x_b X + x1))]) hX hL dX8_readHead_64 rfl (by decide) rfl ?_
      refine ww_aload_n hX 1 rfl dX8_readHead_65 rfl ?_
      refine ww_aload_n hX 2 rfl dX8_readHead_66 rfl ?_
      refine ww_pc (b := 67) rfl ?_
      refine ww_callVI (As := [.ref (x_b X + x1)]) (rest := []) (o := x0) hX (Rk.of B.2.2.1 B.2.2.2.1 (by decide) (by decide)) g_X8_94 g_X8_94.in (fun _ => c_X8_readName (x_G X) (x_l X) fu x0 x1 s3) rfl rfl (Nat.le_of_ble_eq_true rfl) dX8_readHead_67 (fun r5 s6 => ?_)
      refine ww_istore_n (lv' := [(3, .int r5), (2, .int v4), (0, .ref (x_b X + x0)), (1, .ref (x_b X + x1))]) hX hL dX8_readHead_70 rfl (by decide) rfl ?_
      refine ww_aload_n hX 3 rfl dX8_readHead_71 rfl ?_
      refine ww_getI hX f_X8_88 (Or.inl rfl) dX8_readHead_72 ?_
      refine ww_if_ne (tgt := 106) hX dX8_readHead_75 (by decide) ?_ ?_
      · exact ww_sub [2, 0] rfl (t_X8_readHead_106 B fu x0 r5  s6)
      · refine ww_aload_n hX 2 rfl dX8_readHead_78 rfl ?_
        refine ww_getI hX f_X8_49 (Or.inl rfl) dX8_readHead_79 ?_
        refine ww_if_le (tgt := 106) hX dX8_readHead_82 (by decide) ?_ ?_
        · exact ww_sub [2, 0] rfl (t_X8_readHead_106 B fu x0 r5  s6)
        · refine ww_iload_n hX 0 rfl dX8_readHead_85 rfl ?_
          refine ww_aload_n hX 2 rfl dX8_readHead_86 rfl ?_
          refine ww_getR hX f_X8_11 (Or.inr ⟨_, rfl⟩) dX8_readHead_87 ?_
          refine ww_bdR (fun o22 => ?_)
          refine ww_aload_n hX 2 rfl dX8_readHead_90 rfl ?_
          refine ww_getI hX f_X8_49 (Or.inl rfl) dX8_readHead_91 ?_
          refine ww_iconst (v := 1) hX rfl dX8_readHead_94 ?_
          refine ww_isub hX dX8_readHead_95 ?_
          refine ww_pc (b := 96) rfl ?_
          refine ww_ialdc hX k_iald dX8_readHead_96 ?_
          refine ww_icmp_gt (tgt := 106) hX dX8_readHead_97 (by decide) ?_ ?_
          · exact ww_sub [2, 0] rfl (t_X8_readHead_106 B fu x0 r5  s6)
          · refine ww_aload_n hX 3 rfl dX8_readHead_100 rfl ?_
            refine ww_iconst (v := 3) hX rfl dX8_readHead_101 ?_
            refine ww_iload_n hX 1 rfl dX8_readHead_102 rfl ?_
            refine ww_callVV (As := [.int 3, .int v4]) (rest := []) (o := x1) hX (Rk.of B.2.2.1 B.2.2.2.1 (by decide) (by decide)) g_X8_84 g_X8_84.in (fun _ => c_X9_fail (x_G X) (x_l X) fu x1 3 v4 s6) rfl rfl (Nat.le_of_ble_eq_true rfl) dX8_readHead_103 (fun s23 => ?_)
            exact ww_sub [2, 0] rfl (t_X8_readHead_106 B fu x0 r5  s23)
    · exact ww_sub [] rfl (t_X8_readHead_55 B fu   st)
def f_X8_readHead (fu : Nat) (th : Nat) (p1 : Nat) (st : St) : Option (St) :=
  ck ((kd p1).1 = 9) <|
  ca (f_X9_isWord fu p1 1 st) fun r1 s2 =>
  if r1 = 0 then (
  ck ((kd p1).1 = 9) <|
  ck ((kd p1).1 = 9) <|
  cv (f_X9_fail fu p1 1 (gI s2 p1 3) s2) fun s25 =>
  b_X8_readHead_39 fu th p1  s25)
  else (
  ck ((kd th).1 = 8) <|
  if (gI s2 th 12) < 60 then (
  b_X8_readHead_39 fu th p1  s2)
  else (
  ck ((kd p1).1 = 9) <|
  ck ((kd p1).1 = 9) <|
  cv (f_X9_fail fu p1 2 (gI s2 p1 3) s2) fun s24 =>
  b_X8_readHead_39 fu th p1  s24))
set_option maxHeartbeats 4000000 in
set_option maxRecDepth 100000 in
theorem t_X8_readHead {X : CX} {res : St} (B : BV X cX8_readHead RX8 4 8 NN none res) (fu : Nat) (th : Nat) (p1 : Nat) (st : St) : WW X res NN 0 [(0, .ref (x_b X + th)), (1, .ref (x_b X + p1))] [] st (f_X8_readHead fu th p1 st) := by
  have hX := B.1
  have hL := B.2.1
  unfold f_X8_readHead
  refine ww_aload_n hX 1 rfl dX8_readHead_0 rfl ?_
  refine ww_ldcS (q := 1) hX rfl dX8_readHead_1 ?_
  refine ww_callVI (As := [.ref ((x_K X).1 1)]) (rest := []) (o := p1) hX (Rk.of B.2.2.1 B.2.2.2.1 (by decide) (by decide)) g_X8_77 g_X8_77.in (fun _ => c_X9_isWord (x_G X) (x_l X) fu p1 1 st) rfl rfl (Nat.le_of_ble_eq_true rfl) dX8_readHead_3 (fun r1 s2 => ?_)
  refine ww_if_ne (tgt := 21) hX dX8_readHead_6 (by decide) ?_ ?_
  · refine ww_aload_n hX 0 rfl dX8_readHead_21 rfl ?_
    refine ww_getI hX f_X8_49 (Or.inl rfl) dX8_readHead_22 ?_
    refine ww_bipush (v := 60) hX rfl dX8_readHead_25 ?_
    refine ww_icmp_lt (tgt := 39) hX dX8_readHead_27 (by decide) ?_ ?_
    · exact t_X8_readHead_39 B fu th p1  s2
    · refine ww_aload_n hX 1 rfl dX8_readHead_30 rfl ?_
      refine ww_iconst (v := 2) hX rfl dX8_readHead_31 ?_
      refine ww_aload_n hX 1 rfl dX8_readHead_32 rfl ?_
      refine ww_getI hX f_X8_81 (Or.inl rfl) dX8_readHead_33 ?_
      refine ww_callVV (As := [.int 2, .int (gI s2 p1 3)]) (rest := []) (o := p1) hX (Rk.of B.2.2.1 B.2.2.2.1 (by decide) (by decide)) g_X8_84 g_X8_84.in (fun _ => c_X9_fail (x_G X) (x_l X) fu p1 2 (gI s2 p1 3) s2) rfl rfl (Nat.le_of_ble_eq_true rfl) dX8_readHead_36 (fun s24 => ?_)
      exact t_X8_readHead_39 B fu th p1  s24
  · refine ww_aload_n hX 1 rfl dX8_readHead_9 rfl ?_
    refine ww_iconst (v := 1) hX rfl dX8_readHead_10 ?_
    refine ww_aload_n hX 1 rfl dX8_readHead_11 rfl ?_
    refine ww_getI hX f_X8_81 (Or.inl rfl) dX8_readHead_12 ?_
    refine ww_callVV (As := [.int 1, .int (gI s2 p1 3)]) (rest := []) (o := p1) hX (Rk.of B.2.2.1 B.2.2.2.1 (by decide) (by decide)) g_X8_84 g_X8_84.in (fun _ => c_X9_fail (x_G X) (x_l X) fu p1 1 (gI s2 p1 3) s2) rfl rfl (Nat.le_of_ble_eq_true rfl) dX8_readHead_15 (fun s25 => ?_)
    refine ww_goto (tgt := 39) hX dX8_readHead_18 (by decide) ?_
    exact t_X8_readHead_39 B fu th p1  s25
theorem c_X8_readHead (G : GX) (l : Launch) (fu : Nat) (th : Nat) (p1 : Nat) (st : St) : MV G NN l yX8_readHead cX8_readHead 4 none 8 [.ref (G.2.2.1 + th), .ref (G.2.2.1 + p1)] st (f_X8_readHead fu th p1 st) := mkV (by decide) (Nat.le_of_ble_eq_true rfl) (fun X res hl hG B => by subst hl; subst hG; exact t_X8_readHead B fu th p1 st)
/-! StageHouse$Script.optionAt(LStageHouse$Tape;)I -/
def b_X8_optionAt_69 (fu : Nat)  (y0 : Int32) (st : St) : Option (Int32 × St) :=
  some (y0, st)
set_option maxHeartbeats 4000000 in
set_option maxRecDepth 100000 in
theorem t_X8_optionAt_69 {X : CX} {res : Int32 × St} (B : BI X cX8_optionAt RX8 1 6 NN (some .int) res) (fu : Nat)  (y0 : Int32) (st : St) : WW X res NN 69 [] [.int y0] st (b_X8_optionAt_69 fu y0 st) := by
  have hX := B.1
  have hL := B.2.1
  unfold b_X8_optionAt_69
  exact ww_iret B dX8_optionAt_69
def f_X8_optionAt (fu : Nat) (p0 : Nat) (st : St) : Option (Int32 × St) :=
  ck ((kd p0).1 = 9) <|
  ca (f_X9_isWord fu p0 2 st) fun r1 s2 =>
  if r1 = 0 then (
  ck ((kd p0).1 = 9) <|
  ca (f_X9_isWord fu p0 3 s2) fun r3 s4 =>
  if r3 = 0 then (
  ck ((kd p0).1 = 9) <|
  ca (f_X9_isWord fu p0 4 s4) fun r5 s6 =>
  if r5 = 0 then (
  ck ((kd p0).1 = 9) <|
  ca (f_X9_isWord fu p0 5 s6) fun r7 s8 =>
  if r7 = 0 then (
  ck ((kd p0).1 = 9) <|
  ca (f_X9_isWord fu p0 6 s8) fun r9 s10 =>
  if r9 = 0 then (
  ck ((kd p0).1 = 9) <|
  ca (f_X9_isWord fu p0 7 s10) fun r11 s12 =>
  if r11 = 0 then (
  b_X8_optionAt_69 fu  ((-1)) s12)
  else (
  b_X8_optionAt_69 fu  5 s12))
  else (
  some (4, s10)))
  else (
  some (3, s8)))
  else (
  some (2, s6)))
  else (
  some (1, s4)))
  else (
  some (0, s2))
set_option maxHeartbeats 4000000 in
set_option maxRecDepth 100000 in
theorem t_X8_optionAt {X : CX} {res : Int32 × St} (B : BI X cX8_optionAt RX8 1 6 NN (some .int) res) (fu : Nat) (p0 : Nat) (st : St) : WW X res NN 0 [(0, .ref (x_b X + p0))] [] st (f_X8_optionAt fu p0 st) := by
  have hX := B.1
  have hL := B.2.1
  unfold f_X8_optionAt
  refine ww_aload_n hX 0 rfl dX8_optionAt_0 rfl ?_
  refine ww_ldcS (q := 2) hX rfl dX8_optionAt_1 ?_
  refine ww_callVI (As := [.ref ((x_K X).1 2)]) (rest := []) (o := p0) hX (Rk.of B.2.2.1 B.2.2.2.1 (by decide) (by decide)) g_X8_77 g_X8_77.in (fun _ => c_X9_isWord (x_G X) (x_l X) fu p0 2 st) rfl rfl (Nat.le_of_ble_eq_true rfl) dX8_optionAt_3 (fun r1 s2 => ?_)
  refine ww_if_eq (tgt := 11) hX dX8_optionAt_6 (by decide) ?_ ?_
  · refine ww_aload_n hX 0 rfl dX8_optionAt_11 rfl ?_
    refine ww_ldcS (q := 3) hX rfl dX8_optionAt_12 ?_
    refine ww_callVI (As := [.ref ((x_K X).1 3)]) (rest := []) (o := p0) hX (Rk.of B.2.2.1 B.2.2.2.1 (by decide) (by decide)) g_X8_77 g_X8_77.in (fun _ => c_X9_isWord (x_G X) (x_l X) fu p0 3 s2) rfl rfl (Nat.le_of_ble_eq_true rfl) dX8_optionAt_14 (fun r3 s4 => ?_)
    refine ww_if_eq (tgt := 22) hX dX8_optionAt_17 (by decide) ?_ ?_
    · refine ww_aload_n hX 0 rfl dX8_optionAt_22 rfl ?_
      refine ww_ldcS (q := 4) hX rfl dX8_optionAt_23 ?_
      refine ww_callVI (As := [.ref ((x_K X).1 4)]) (rest := []) (o := p0) hX (Rk.of B.2.2.1 B.2.2.2.1 (by decide) (by decide)) g_X8_77 g_X8_77.in (fun _ => c_X9_isWord (x_G X) (x_l X) fu p0 4 s4) rfl rfl (Nat.le_of_ble_eq_true rfl) dX8_optionAt_25 (fun r5 s6 => ?_)
      refine ww_if_eq (tgt := 33) hX dX8_optionAt_28 (by decide) ?_ ?_
      · refine ww_aload_n hX 0 rfl dX8_optionAt_33 rfl ?_
        refine ww_ldcS (q := 5) hX rfl dX8_optionAt_34 ?_
        refine ww_callVI (As := [.ref ((x_K X).1 5)]) (rest := []) (o := p0) hX (Rk.of B.2.2.1 B.2.2.2.1 (by decide) (by decide)) g_X8_77 g_X8_77.in (fun _ => c_X9_isWord (x_G X) (x_l X) fu p0 5 s6) rfl rfl (Nat.le_of_ble_eq_true rfl) dX8_optionAt_36 (fun r7 s8 => ?_)
        refine ww_if_eq (tgt := 44) hX dX8_optionAt_39 (by decide) ?_ ?_
        · refine ww_aload_n hX 0 rfl dX8_optionAt_44 rfl ?_
          refine ww_ldcS (q := 6) hX rfl dX8_optionAt_45 ?_
          refine ww_callVI (As := [.ref ((x_K X).1 6)]) (rest := []) (o := p0) hX (Rk.of B.2.2.1 B.2.2.2.1 (by decide) (by decide)) g_X8_77 g_X8_77.in (fun _ => c_X9_isWord (x_G X) (x_l X) fu p0 6 s8) rfl rfl (Nat.le_of_ble_eq_true rfl) dX8_optionAt_47 (fun r9 s10 => ?_)
          refine ww_if_eq (tgt := 55) hX dX8_optionAt_50 (by decide) ?_ ?_
          · refine ww_aload_n hX 0 rfl dX8_optionAt_55 rfl ?_
            refine ww_ldcS (q := 7) hX rfl dX8_optionAt_56 ?_
            refine ww_callVI (As := [.ref ((x_K X).1 7)]) (rest := []) (o := p0) hX (Rk.of B.2.2.1 B.2.2.2.1 (by decide) (by decide)) g_X8_77 g_X8_77.in (fun _ => c_X9_isWord (x_G X) (x_l X) fu p0 7 s10) rfl rfl (Nat.le_of_ble_eq_true rfl) dX8_optionAt_58 (fun r11 s12 => ?_)
            refine ww_if_eq (tgt := 68) hX dX8_optionAt_61 (by decide) ?_ ?_
            · refine ww_iconst (v := (-1)) hX rfl dX8_optionAt_68 ?_
              exact ww_sub [] rfl (t_X8_optionAt_69 B fu  ((-1)) s12)
            · refine ww_iconst (v := 5) hX rfl dX8_optionAt_64 ?_
              refine ww_goto (tgt := 69) hX dX8_optionAt_65 (by decide) ?_
              exact ww_sub [] rfl (t_X8_optionAt_69 B fu  5 s12)
          · refine ww_iconst (v := 4) hX rfl dX8_optionAt_53 ?_
            exact ww_iret B dX8_optionAt_54
        · refine ww_iconst (v := 3) hX rfl dX8_optionAt_42 ?_
          exact ww_iret B dX8_optionAt_43
      · refine ww_iconst (v := 2) hX rfl dX8_optionAt_31 ?_
        exact ww_iret B dX8_optionAt_32
    · refine ww_iconst (v := 1) hX rfl dX8_optionAt_20 ?_
      exact ww_iret B dX8_optionAt_21
  · refine ww_iconst (v := 0) hX rfl dX8_optionAt_9 ?_
    exact ww_iret B dX8_optionAt_10
theorem c_X8_optionAt (G : GX) (l : Launch) (fu : Nat) (p0 : Nat) (st : St) : MI G NN l yX8_optionAt cX8_optionAt 1 (some .int) 6 [.ref (G.2.2.1 + p0)] st (f_X8_optionAt fu p0 st) := mkI (by decide) (Nat.le_of_ble_eq_true rfl) (fun X res hl hG B => by subst hl; subst hG; exact t_X8_optionAt B fu p0 st)
/-! StageHouse$Script.readOption(LStageHouse$Tape;I)V -/
def b_X8_readOption_154 (fu : Nat)   (st : St) : Option (St) :=
  some st
set_option maxHeartbeats 4000000 in
set_option maxRecDepth 100000 in
theorem t_X8_readOption_154 {X : CX} {res : St} (B : BV X cX8_readOption RX8 3 8 NN none res) (fu : Nat)   (st : St) : WW X res NN 154 [] [] st (b_X8_readOption_154 fu  st) := by
  have hX := B.1
  have hL := B.2.1
  unfold b_X8_readOption_154
  exact ww_vret B dX8_readOption_154
def f_X8_readOption (fu : Nat) (th : Nat) (p1 : Nat) (p2 : Int32) (st : St) : Option (St) :=
  ck ((kd th).1 = 8) <|
  if (gI st th 12) < 60 then (
  if p2 = 0 then (
  ck (¬ gR st th 1 = 0) <|
  ck ((kd th).1 = 8) <|
  bd (gR st th 1) fun o1 =>
  ck ((kd th).1 = 8) <|
  ck ((kd p1).1 = 9) <|
  ca (f_X9_number fu p1 0 9999 st) fun r2 s3 =>
  ck ((kd o1).1 = 100 ∧ inb (gI st th 12) (kd o1).2) <|
  bd (sI s3 o1 (ix (gI st th 12)) r2) fun s4 =>
  b_X8_readOption_154 fu   s4)
  else if p2 = 1 then (
  ck (¬ gR st th 2 = 0) <|
  ck ((kd th).1 = 8) <|
  bd (gR st th 2) fun o5 =>
  ck ((kd th).1 = 8) <|
  ck ((kd p1).1 = 9) <|
  ca (f_X9_number fu p1 0 9999 st) fun r6 s7 =>
  ck ((kd o5).1 = 100 ∧ inb (gI st th 12) (kd o5).2) <|
  bd (sI s7 o5 (ix (gI st th 12)) r6) fun s8 =>
  b_X8_readOption_154 fu   s8)
  else if p2 = 2 then (
  ck (¬ gR st th 3 = 0) <|
  ck ((kd th).1 = 8) <|
  bd (gR st th 3) fun o9 =>
  ck ((kd th).1 = 8) <|
  ck ((kd p1).1 = 9) <|
  ca (f_X9_number fu p1 0 9999 st) fun r10 s11 =>
  ck ((kd o9).1 = 100 ∧ inb (gI st th 12) (kd o9).2) <|
  bd (sI s11 o9 (ix (gI st th 12)) r10) fun s12 =>
  b_X8_readOption_154 fu   s12)
  else if p2 = 3 then (
  ck (¬ gR st th 4 = 0) <|
  ck ((kd th).1 = 8) <|
  bd (gR st th 4) fun o13 =>
  ck ((kd th).1 = 8) <|
  ck ((kd p1).1 = 9) <|
  ca (f_X9_number fu p1 1 9999 st) fun r14 s15 =>
  ck ((kd o13).1 = 100 ∧ inb (gI st th 12) (kd o13).2) <|
  bd (sI s15 o13 (ix (gI st th 12)) r14) fun s16 =>
  b_X8_readOption_154 fu   s16)
  else if p2 = 4 then (
  ck (¬ gR st th 6 = 0) <|
  ck ((kd th).1 = 8) <|
  bd (gR st th 6) fun o17 =>
  ck ((kd th).1 = 8) <|
  ck ((kd th).1 = 8) <|
  ck ((kd o17).1 = 100 ∧ inb (gI st th 12) (kd o17).2) <|
  bd (sI st o17 (ix (gI st th 12)) (gI st th 13)) fun s18 =>
  b_X8_readOption_154 fu   s18)
  else (
  ck (¬ gR st th 5 = 0) <|
  ck ((kd th).1 = 8) <|
  bd (gR st th 5) fun o19 =>
  ck ((kd th).1 = 8) <|
  ck ((kd th).1 = 8) <|
  ca (f_X8_readName fu th p1 st) fun r20 s21 =>
  ck ((kd o19).1 = 100 ∧ inb (gI st th 12) (kd o19).2) <|
  bd (sI s21 o19 (ix (gI st th 12)) r20) fun s22 =>
  b_X8_readOption_154 fu   s22))
  else (
  some st)
set_option maxHeartbeats 4000000 in
set_option maxRecDepth 100000 in
theorem t_X8_readOption {X : CX} {res : St} (B : BV X cX8_readOption RX8 3 8 NN none res) (fu : Nat) (th : Nat) (p1 : Nat) (p2 : Int32) (st : St) : WW X res NN 0 [(0, .ref (x_b X + th)), (1, .ref (x_b X + p1)), (2, .int p2)] [] st (f_X8_readOption fu th p1 p2 st) := by
  have hX := B.1
  have hL := B.2.1
  unfold f_X8_readOption
  refine ww_aload_n hX 0 rfl dX8_readOption_0 rfl ?_
  refine ww_getI hX f_X8_49 (Or.inl rfl) dX8_readOption_1 ?_
  refine ww_bipush (v := 60) hX rfl dX8_readOption_4 ?_
  refine ww_icmp_lt (tgt := 10) hX dX8_readOption_6 (by decide) ?_ ?_
  · refine ww_iload_n hX 2 rfl dX8_readOption_10 rfl ?_
    refine ww_if (fun c11_0 => ?_) (fun c11_0 => ?_)
    · refine ww_tsw (off := 33) (tgt := 44) hX dX8_readOption_11 (by rw [c11_0]; decide) (by rw [c11_0]; decide) (by rw [c11_0]; rfl) (by decide) ?_
      refine ww_aload_n hX 0 rfl dX8_readOption_44 rfl ?_
      refine ww_getR hX f_X8_15 (Or.inr ⟨_, rfl⟩) dX8_readOption_45 ?_
      refine ww_bdR (fun o1 => ?_)
      refine ww_aload_n hX 0 rfl dX8_readOption_48 rfl ?_
      refine ww_getI hX f_X8_49 (Or.inl rfl) dX8_readOption_49 ?_
      refine ww_aload_n hX 1 rfl dX8_readOption_52 rfl ?_
      refine ww_iconst (v := 0) hX rfl dX8_readOption_53 ?_
      refine ww_sipush (v := 9999) hX rfl dX8_readOption_54 ?_
      refine ww_pc (b := 57) rfl ?_
      refine ww_callVI (As := [.int 0, .int 9999]) (rest := [.int (gI st th 12), .ref (x_b X + o1)]) (o := p1) hX (Rk.of B.2.2.1 B.2.2.2.1 (by decide) (by decide)) g_X8_98 g_X8_98.in (fun _ => c_X9_number (x_G X) (x_l X) fu p1 0 9999 st) rfl rfl (Nat.le_of_ble_eq_true rfl) dX8_readOption_57 (fun r2 s3 => ?_)
      refine ww_iastc hX k_iast dX8_readOption_60 ?_
      refine ww_bds (fun s4 => ?_)
      refine ww_goto (tgt := 154) hX dX8_readOption_61 (by decide) ?_
      exact ww_sub [] rfl (t_X8_readOption_154 B fu   s4)
    refine ww_if (fun c11_1 => ?_) (fun c11_1 => ?_)
    · refine ww_tsw (off := 53) (tgt := 64) hX dX8_readOption_11 (by rw [c11_1]; decide) (by rw [c11_1]; decide) (by rw [c11_1]; rfl) (by decide) ?_
      refine ww_aload_n hX 0 rfl dX8_readOption_64 rfl ?_
      refine ww_getR hX f_X8_18 (Or.inr ⟨_, rfl⟩) dX8_readOption_65 ?_
      refine ww_bdR (fun o5 => ?_)
      refine ww_aload_n hX 0 rfl dX8_readOption_68 rfl ?_
      refine ww_getI hX f_X8_49 (Or.inl rfl) dX8_readOption_69 ?_
      refine ww_aload_n hX 1 rfl dX8_readOption_72 rfl ?_
      refine ww_iconst (v := 0) hX rfl dX8_readOption_73 ?_
      refine ww_sipush (v := 9999) hX rfl dX8_readOption_74 ?_
      refine ww_pc (b := 77) rfl ?_
      refine ww_callVI (As := [.int 0, .int 9999]) (rest := [.int (gI st th 12), .ref (x_b X + o5)]) (o := p1) hX (Rk.of B.2.2.1 B.2.2.2.1 (by decide) (by decide)) g_X8_98 g_X8_98.in (fun _ => c_X9_number (x_G X) (x_l X) fu p1 0 9999 st) rfl rfl (Nat.le_of_ble_eq_true rfl) dX8_readOption_77 (fun r6 s7 => ?_)
      refine ww_iastc hX k_iast dX8_readOption_80 ?_
      refine ww_bds (fun s8 => ?_)
      refine ww_goto (tgt := 154) hX dX8_readOption_81 (by decide) ?_
      exact ww_sub [] rfl (t_X8_readOption_154 B fu   s8)
    refine ww_if (fun c11_2 => ?_) (fun c11_2 => ?_)
    · refine ww_tsw (off := 73) (tgt := 84) hX dX8_readOption_11 (by rw [c11_2]; decide) (by rw [c11_2]; decide) (by rw [c11_2]; rfl) (by decide) ?_
      refine ww_aload_n hX 0 rfl dX8_readOption_84 rfl ?_
      refine ww_getR hX f_X8_21 (Or.inr ⟨_, rfl⟩) dX8_readOption_85 ?_
      refine ww_bdR (fun o9 => ?_)
      refine ww_aload_n hX 0 rfl dX8_readOption_88 rfl ?_
      refine ww_getI hX f_X8_49 (Or.inl rfl) dX8_readOption_89 ?_
      refine ww_aload_n hX 1 rfl dX8_readOption_92 rfl ?_
      refine ww_iconst (v := 0) hX rfl dX8_readOption_93 ?_
      refine ww_sipush (v := 9999) hX rfl dX8_readOption_94 ?_
      refine ww_pc (b := 97) rfl ?_
      refine ww_callVI (As := [.int 0, .int 9999]) (rest := [.int (gI st th 12), .ref (x_b X + o9)]) (o := p1) hX (Rk.of B.2.2.1 B.2.2.2.1 (by decide) (by decide)) g_X8_98 g_X8_98.in (fun _ => c_X9_number (x_G X) (x_l X) fu p1 0 9999 st) rfl rfl (Nat.le_of_ble_eq_true rfl) dX8_readOption_97 (fun r10 s11 => ?_)
      refine ww_iastc hX k_iast dX8_readOption_100 ?_
      refine ww_bds (fun s12 => ?_)
      refine ww_goto (tgt := 154) hX dX8_readOption_101 (by decide) ?_
      exact ww_sub [] rfl (t_X8_readOption_154 B fu   s12)
    refine ww_if (fun c11_3 => ?_) (fun c11_3 => ?_)
    · refine ww_tsw (off := 93) (tgt := 104) hX dX8_readOption_11 (by rw [c11_3]; decide) (by rw [c11_3]; decide) (by rw [c11_3]; rfl) (by decide) ?_
      refine ww_aload_n hX 0 rfl dX8_readOption_104 rfl ?_
      refine ww_getR hX f_X8_24 (Or.inr ⟨_, rfl⟩) dX8_readOption_105 ?_
      refine ww_bdR (fun o13 => ?_)
      refine ww_aload_n hX 0 rfl dX8_readOption_108 rfl ?_
      refine ww_getI hX f_X8_49 (Or.inl rfl) dX8_readOption_109 ?_
      refine ww_aload_n hX 1 rfl dX8_readOption_112 rfl ?_
      refine ww_iconst (v := 1) hX rfl dX8_readOption_113 ?_
      refine ww_sipush (v := 9999) hX rfl dX8_readOption_114 ?_
      refine ww_pc (b := 117) rfl ?_
      refine ww_callVI (As := [.int 1, .int 9999]) (rest := [.int (gI st th 12), .ref (x_b X + o13)]) (o := p1) hX (Rk.of B.2.2.1 B.2.2.2.1 (by decide) (by decide)) g_X8_98 g_X8_98.in (fun _ => c_X9_number (x_G X) (x_l X) fu p1 1 9999 st) rfl rfl (Nat.le_of_ble_eq_true rfl) dX8_readOption_117 (fun r14 s15 => ?_)
      refine ww_iastc hX k_iast dX8_readOption_120 ?_
      refine ww_bds (fun s16 => ?_)
      refine ww_goto (tgt := 154) hX dX8_readOption_121 (by decide) ?_
      exact ww_sub [] rfl (t_X8_readOption_154 B fu   s16)
    refine ww_if (fun c11_4 => ?_) (fun c11_4 => ?_)
    · refine ww_tsw (off := 113) (tgt := 124) hX dX8_readOption_11 (by rw [c11_4]; decide) (by rw [c11_4]; decide) (by rw [c11_4]; rfl) (by decide) ?_
      refine ww_aload_n hX 0 rfl dX8_readOption_124 rfl ?_
      refine ww_getR hX f_X8_30 (Or.inr ⟨_, rfl⟩) dX8_readOption_125 ?_
      refine ww_bdR (fun o17 => ?_)
      refine ww_aload_n hX 0 rfl dX8_readOption_128 rfl ?_
      refine ww_getI hX f_X8_49 (Or.inl rfl) dX8_readOption_129 ?_
      refine ww_aload_n hX 0 rfl dX8_readOption_132 rfl ?_
      refine ww_getI hX f_X8_53 (Or.inl rfl) dX8_readOption_133 ?_
      refine ww_iastc hX k_iast dX8_readOption_136 ?_
      refine ww_bds (fun s18 => ?_)
      refine ww_pc (b := 137) rfl ?_
      refine ww_goto (tgt := 154) hX dX8_readOption_137 (by decide) ?_
      exact ww_sub [] rfl (t_X8_readOption_154 B fu   s18)
    refine ww_tswd (tgt := 140) hX dX8_readOption_11 (by have z0 : p2.toInt ≠ 0 := fun q => c11_0 (Int32.toInt_inj.mp (q.trans (by decide))); have z1 : p2.toInt ≠ 1 := fun q => c11_1 (Int32.toInt_inj.mp (q.trans (by decide))); have z2 : p2.toInt ≠ 2 := fun q => c11_2 (Int32.toInt_inj.mp (q.trans (by decide))); have z3 : p2.toInt ≠ 3 := fun q => c11_3 (Int32.toInt_inj.mp (q.trans (by decide))); have z4 : p2.toInt ≠ 4 := fun q => c11_4 (Int32.toInt_inj.mp (q.trans (by decide))); omega) (by decide) ?_
    refine ww_aload_n hX 0 rfl dX8_readOption_140 rfl ?_
    refine ww_getR hX f_X8_27 (Or.inr ⟨_, rfl⟩) dX8_readOption_141 ?_
    refine ww_bdR (fun o19 => ?_)
    refine ww_aload_n hX 0 rfl dX8_readOption_144 rfl ?_
    refine ww_getI hX f_X8_49 (Or.inl rfl) dX8_readOption_145 ?_
    refine ww_aload_n hX 0 rfl dX8_readOption_148 rfl ?_
    refine ww_aload_n hX 1 rfl dX8_readOption_149 rfl ?_
    refine ww_callVI (As := [.ref (x_b X + p1)]) (rest := [.int (gI st th 12), .ref (x_b X + o19)]) (o := th) hX (Rk.of B.2.2.1 B.2.2.2.1 (by decide) (by decide)) g_X8_94 g_X8_94.in (fun _ => c_X8_readName (x_G X) (x_l X) fu th p1 st) rfl rfl (Nat.le_of_ble_eq_true rfl) dX8_readOption_150 (fun r20 s21 => ?_)
    refine ww_pc (b := 153) rfl ?_
    refine ww_iastc hX k_iast dX8_readOption_153 ?_
    refine ww_bds (fun s22 => ?_)
    exact ww_sub [] rfl (t_X8_readOption_154 B fu   s22)
  · exact ww_vret B dX8_readOption_9
theorem c_X8_readOption (G : GX) (l : Launch) (fu : Nat) (th : Nat) (p1 : Nat) (p2 : Int32) (st : St) : MV G NN l yX8_readOption cX8_readOption 3 none 8 [.ref (G.2.2.1 + th), .ref (G.2.2.1 + p1), .int p2] st (f_X8_readOption fu th p1 p2 st) := mkV (by decide) (Nat.le_of_ble_eq_true rfl) (fun X res hl hG B => by subst hl; subst hG; exact t_X8_readOption B fu th p1 p2 st)
/-! StageHouse$Script.readOptions(LStageHouse$Tape;)V -/
def b_X8_readOptions_72 (fu : Nat)   (st : St) : Option (St) :=
  some st
set_option maxHeartbeats 4000000 in
set_option maxRecDepth 100000 in
theorem t_X8_readOptions_72 {X : CX} {res : St} (B : BV X cX8_readOptions RX8 5 9 NN none res) (fu : Nat)   (st : St) : WW X res NN 72 [] [] st (b_X8_readOptions_72 fu  st) := by
  have hX := B.1
  have hL := B.2.1
  unfold b_X8_readOptions_72
  exact ww_vret B dX8_readOptions_72
def b_X8_readOptions_4_b (fu : Nat) (k_4 : Nat → Nat → Int32 → Int32 → St → Option (St)) (x0 : Nat) (x1 : Nat) (x2 : Int32) (x3 : Int32)  (st : St) : Option (St) :=
  if 7 ≤ x3 then (
  b_X8_readOptions_72 fu   st)
  else (
  ck ((kd x1).1 = 9) <|
  if (gI st x1 8) = 0 then (
  ca (f_X8_optionAt fu x1 st) fun r1 s2 =>
  if 0 ≤ r1 then (
  if ((x2 >>> (r1 &&& 31)) &&& 1) = 0 then (
  bd (x2 ||| (1 <<< (r1 &&& 31))) fun v3 =>
  ck ((kd x1).1 = 9) <|
  cv (f_X9_next fu x1 s2) fun s4 =>
  ck ((kd x0).1 = 8) <|
  cv (f_X8_readOption fu x0 x1 r1 s4) fun s5 =>
  bd (x3 + 1) fun v6 =>
  k_4 x0 x1 v3 v6  s5)
  else (
  ck ((kd x1).1 = 9) <|
  ck ((kd x1).1 = 9) <|
  cv (f_X9_fail fu x1 3 (gI s2 x1 3) s2) fun s7 =>
  some s7))
  else (
  some s2))
  else (
  b_X8_readOptions_72 fu   st))
set_option maxHeartbeats 4000000 in
set_option maxRecDepth 100000 in
theorem t_X8_readOptions_4_b {X : CX} {res : St} (B : BV X cX8_readOptions RX8 5 9 NN none res) (fu : Nat) (k_4 : Nat → Nat → Int32 → Int32 → St → Option (St)) (h_4 : ∀ (x0 : Nat) (x1 : Nat) (x2 : Int32) (x3 : Int32)  (st : St), WW X res NN 4 [(0, .ref (x_b X + x0)), (1, .ref (x_b X + x1)), (2, .int x2), (3, .int x3)] [] st (k_4 x0 x1 x2 x3 st)) (x0 : Nat) (x1 : Nat) (x2 : Int32) (x3 : Int32)  (st : St) : WW X res NN 4 [(0, .ref (x_b X + x0)), (1, .ref (x_b X + x1)), (2, .int x2), (3, .int x3)] [] st (b_X8_readOptions_4_b fu k_4 x0 x1 x2 x3 st) := by
  have hX := B.1
  have hL := B.2.1
  unfold b_X8_readOptions_4_b
  refine ww_iload_n hX 3 rfl dX8_readOptions_4 rfl ?_
  refine ww_bipush (v := 7) hX rfl dX8_readOptions_5 ?_
  refine ww_icmp_ge (tgt := 72) hX dX8_readOptions_7 (by decide) ?_ ?_
  · exact ww_sub [] rfl (t_X8_readOptions_72 B fu   st)
  · refine ww_aload_n hX 1 rfl dX8_readOptions_10 rfl ?_
    refine ww_getI hX f_X8_88 (Or.inl rfl) dX8_readOptions_11 ?_
    refine ww_if_ne (tgt := 72) hX dX8_readOptions_14 (by decide) ?_ ?_
    · exact ww_sub [] rfl (t_X8_readOptions_72 B fu   st)
    · refine ww_aload_n hX 1 rfl dX8_readOptions_17 rfl ?_
      refine ww_callSI (As := [.ref (x_b X + x1)]) (rest := []) hX (Rk.of B.2.2.1 B.2.2.2.1 (by decide) (by decide)) g_X8_106 (c_X8_optionAt (x_G X) (x_l X) fu x1 st) rfl rfl (Nat.le_of_ble_eq_true rfl) dX8_readOptions_18 (fun r1 s2 => ?_)
      refine ww_istore (lv' := [(4, .int r1), (0, .ref (x_b X + x0)), (1, .ref (x_b X + x1)), (2, .int x2), (3, .int x3)]) hX hL dX8_readOptions_21 (by decide) rfl ?_
      refine ww_iload hX 0 rfl dX8_readOptions_23 ?_
      refine ww_if_ge (tgt := 29) hX dX8_readOptions_25 (by decide) ?_ ?_
      · refine ww_iload_n hX 3 rfl dX8_readOptions_29 rfl ?_
        refine ww_iload hX 0 rfl dX8_readOptions_30 ?_
        refine ww_ishr hX dX8_readOptions_32 ?_
        refine ww_iconst (v := 1) hX rfl dX8_readOptions_33 ?_
        refine ww_iand hX dX8_readOptions_34 ?_
        refine ww_if_eq (tgt := 48) hX dX8_readOptions_35 (by decide) ?_ ?_
        · refine ww_iload_n hX 3 rfl dX8_readOptions_48 rfl ?_
          refine ww_iconst (v := 1) hX rfl dX8_readOptions_49 ?_
          refine ww_iload hX 0 rfl dX8_readOptions_50 ?_
          refine ww_ishl hX dX8_readOptions_52 ?_
          refine ww_ior hX dX8_readOptions_53 ?_
          refine ww_bdi (fun v3 => ?_)
          refine ww_istore_n (lv' := [(2, .int v3), (4, .int r1), (0, .ref (x_b X + x0)), (1, .ref (x_b X + x1)), (3, .int x3)]) hX hL dX8_readOptions_54 rfl (by decide) rfl ?_
          refine ww_aload_n hX 3 rfl dX8_readOptions_55 rfl ?_
          refine ww_pc (b := 56) rfl ?_
          refine ww_callVV (As := []) (rest := []) (o := x1) hX (Rk.of B.2.2.1 B.2.2.2.1 (by decide) (by decide)) g_X8_91 g_X8_91.in (fun _ => c_X9_next (x_G X) (x_l X) fu x1 s2) rfl rfl (Nat.le_of_ble_eq_true rfl) dX8_readOptions_56 (fun s4 => ?_)
          refine ww_aload_n hX 2 rfl dX8_readOptions_59 rfl ?_
          refine ww_aload_n hX 3 rfl dX8_readOptions_60 rfl ?_
          refine ww_iload hX 1 rfl dX8_readOptions_61 ?_
          refine ww_callVV (As := [.ref (x_b X + x1), .int r1]) (rest := []) (o := x0) hX (Rk.of B.2.2.1 B.2.2.2.1 (by decide) (by decide)) g_X8_109 g_X8_109.in (fun _ => c_X8_readOption (x_G X) (x_l X) fu x0 x1 r1 s4) rfl rfl (Nat.le_of_ble_eq_true rfl) dX8_readOptions_63 (fun s5 => ?_)
          refine ww_iincb (lv' := fun v6 => [(3, .int v6), (2, .int v3), (4, .int r1), (0, .ref (x_b X + x0)), (1, .ref (x_b X + x1))]) (c := 1) hX hL 4 rfl dX8_readOptions_66 rfl (by decide) (fun _ => rfl) (fun v6 => ?_)
          refine ww_goto (tgt := 4) hX dX8_readOptions_69 (by decide) ?_
          exact ww_sub [3, 4, 1, 0] rfl (h_4 x0 x1 v3 v6  s5)
        · refine ww_aload_n hX 2 rfl dX8_readOptions_38 rfl ?_
          refine ww_iconst (v := 3) hX rfl dX8_readOptions_39 ?_
          refine ww_aload_n hX 2 rfl dX8_readOptions_40 rfl ?_
          refine ww_getI hX f_X8_81 (Or.inl rfl) dX8_readOptions_41 ?_
          refine ww_callVV (As := [.int 3, .int (gI s2 x1 3)]) (rest := []) (o := x1) hX (Rk.of B.2.2.1 B.2.2.2.1 (by decide) (by decide)) g_X8_84 g_X8_84.in (fun _ => c_X9_fail (x_G X) (x_l X) fu x1 3 (gI s2 x1 3) s2) rfl rfl (Nat.le_of_ble_eq_true rfl) dX8_readOptions_44 (fun s7 => ?_)
          exact ww_vret B dX8_readOptions_47
      · exact ww_vret B dX8_readOptions_28
def b_X8_readOptions_4 (fu : Nat) : Nat → Nat → Nat → Int32 → Int32 → St → Option (St)
  | 0, _, _, _, _, _ => none
  | i + 1, x0, x1, x2, x3, st => b_X8_readOptions_4_b fu (b_X8_readOptions_4 fu i) x0 x1 x2 x3 st
theorem t_X8_readOptions_4 {X : CX} {res : St} (B : BV X cX8_readOptions RX8 5 9 NN none res) (fu : Nat) : ∀ (i : Nat) (x0 : Nat) (x1 : Nat) (x2 : Int32) (x3 : Int32)  (st : St), WW X res NN 4 [(0, .ref (x_b X + x0)), (1, .ref (x_b X + x1)), (2, .int x2), (3, .int x3)] [] st (b_X8_readOptions_4 fu i x0 x1 x2 x3 st) := by
  intro i
  induction i with
  | zero => intro x0 x1 x2 x3 st; exact ww_none
  | succ i ih => intro x0 x1 x2 x3 st; exact t_X8_readOptions_4_b B fu (b_X8_readOptions_4 fu i) ih x0 x1 x2 x3 st
def f_X8_readOptions (fu : Nat) (th : Nat) (p1 : Nat) (st : St) : Option (St) :=
  b_X8_readOptions_4 fu fu th p1 0 0  st
set_option maxHeartbeats 4000000 in
set_option maxRecDepth 100000 in
theorem t_X8_readOptions {X : CX} {res : St} (B : BV X cX8_readOptions RX8 5 9 NN none res) (fu : Nat) (th : Nat) (p1 : Nat) (st : St) : WW X res NN 0 [(0, .ref (x_b X + th)), (1, .ref (x_b X + p1))] [] st (f_X8_readOptions fu th p1 st) := by
  have hX := B.1
  have hL := B.2.1
  unfold f_X8_readOptions
  refine ww_iconst (v := 0) hX rfl dX8_readOptions_0 ?_
  refine ww_istore_n (lv' := [(2, .int 0), (0, .ref (x_b X + th)), (1, .ref (x_b X + p1))]) hX hL dX8_readOptions_1 rfl (by decide) rfl ?_
  refine ww_iconst (v := 0) hX rfl dX8_readOptions_2 ?_
  refine ww_istore_n (lv' := [(3, .int 0), (2, .int 0), (0, .ref (x_b X + th)), (1, .ref (x_b X + p1))]) hX hL dX8_readOptions_3 rfl (by decide) rfl ?_
  exact ww_sub [2, 3, 1, 0] rfl (t_X8_readOptions_4 B fu fu th p1 0 0  st)
theorem c_X8_readOptions (G : GX) (l : Launch) (fu : Nat) (th : Nat) (p1 : Nat) (st : St) : MV G NN l yX8_readOptions cX8_readOptions 5 none 9 [.ref (G.2.2.1 + th), .ref (G.2.2.1 + p1)] st (f_X8_readOptions fu th p1 st) := mkV (by decide) (Nat.le_of_ble_eq_true rfl) (fun X res hl hG B => by subst hl; subst hG; exact t_X8_readOptions B fu th p1 st)
/-! StageHouse$Script.read(LStageHouse$Tape;)V -/
def b_X8_read_60 (fu : Nat)   (st : St) : Option (St) :=
  some st
set_option maxHeartbeats 4000000 in
set_option maxRecDepth 100000 in
theorem t_X8_read_60 {X : CX} {res : St} (B : BV X cX8_read RX8 3 10 NN none res) (fu : Nat)   (st : St) : WW X res NN 60 [] [] st (b_X8_read_60 fu  st) := by
  have hX := B.1
  have hL := B.2.1
  unfold b_X8_read_60
  exact ww_vret B dX8_read_60
def b_X8_read_26_b (fu : Nat) (k_26 : Nat → Nat → Int32 → St → Option (St)) (x0 : Nat) (x1 : Nat) (x2 : Int32)  (st : St) : Option (St) :=
  if 60 < x2 then (
  b_X8_read_60 fu   st)
  else (
  ck ((kd x1).1 = 9) <|
  if (gI st x1 2) = 0 then (
  b_X8_read_60 fu   st)
  else (
  ck ((kd x0).1 = 8) <|
  cv (f_X8_readHead fu x0 x1 st) fun s6 =>
  ck ((kd x0).1 = 8) <|
  cv (f_X8_readOptions fu x0 x1 s6) fun s7 =>
  ck ((kd x0).1 = 8) <|
  cv (f_X8_readBody fu x0 x1 s7) fun s8 =>
  bd (x2 + 1) fun v9 =>
  k_26 x0 x1 v9  s8))
set_option maxHeartbeats 4000000 in
set_option maxRecDepth 100000 in
theorem t_X8_read_26_b {X : CX} {res : St} (B : BV X cX8_read RX8 3 10 NN none res) (fu : Nat) (k_26 : Nat → Nat → Int32 → St → Option (St)) (h_26 : ∀ (x0 : Nat) (x1 : Nat) (x2 : Int32)  (st : St), WW X res NN 26 [(0, .ref (x_b X + x0)), (1, .ref (x_b X + x1)), (2, .int x2)] [] st (k_26 x0 x1 x2 st)) (x0 : Nat) (x1 : Nat) (x2 : Int32)  (st : St) : WW X res NN 26 [(0, .ref (x_b X + x0)), (1, .ref (x_b X + x1)), (2, .int x2)] [] st (b_X8_read_26_b fu k_26 x0 x1 x2 st) := by
  have hX := B.1
  have hL := B.2.1
  unfold b_X8_read_26_b
  refine ww_iload_n hX 2 rfl dX8_read_26 rfl ?_
  refine ww_bipush (v := 60) hX rfl dX8_read_27 ?_
  refine ww_icmp_gt (tgt := 60) hX dX8_read_29 (by decide) ?_ ?_
  · exact ww_sub [] rfl (t_X8_read_60 B fu   st)
  · refine ww_aload_n hX 1 rfl dX8_read_32 rfl ?_
    refine ww_getI hX f_X8_62 (Or.inl rfl) dX8_read_33 ?_
    refine ww_if_eq (tgt := 60) hX dX8_read_36 (by decide) ?_ ?_
    · exact ww_sub [] rfl (t_X8_read_60 B fu   st)
    · refine ww_aload_n hX 0 rfl dX8_read_39 rfl ?_
      refine ww_aload_n hX 1 rfl dX8_read_40 rfl ?_
      refine ww_callVV (As := [.ref (x_b X + x1)]) (rest := []) (o := x0) hX (Rk.of B.2.2.1 B.2.2.2.1 (by decide) (by decide)) g_X8_65 g_X8_65.in (fun _ => c_X8_readHead (x_G X) (x_l X) fu x0 x1 st) rfl rfl (Nat.le_of_ble_eq_true rfl) dX8_read_41 (fun s6 => ?_)
      refine ww_aload_n hX 0 rfl dX8_read_44 rfl ?_
      refine ww_aload_n hX 1 rfl dX8_read_45 rfl ?_
      refine ww_callVV (As := [.ref (x_b X + x1)]) (rest := []) (o := x0) hX (Rk.of B.2.2.1 B.2.2.2.1 (by decide) (by decide)) g_X8_69 g_X8_69.in (fun _ => c_X8_readOptions (x_G X) (x_l X) fu x0 x1 s6) rfl rfl (Nat.le_of_ble_eq_true rfl) dX8_read_46 (fun s7 => ?_)
      refine ww_aload_n hX 0 rfl dX8_read_49 rfl ?_
      refine ww_pc (b := 50) rfl ?_
      refine ww_aload_n hX 1 rfl dX8_read_50 rfl ?_
      refine ww_callVV (As := [.ref (x_b X + x1)]) (rest := []) (o := x0) hX (Rk.of B.2.2.1 B.2.2.2.1 (by decide) (by decide)) g_X8_72 g_X8_72.in (fun _ => c_X8_readBody (x_G X) (x_l X) fu x0 x1 s7) rfl rfl (Nat.le_of_ble_eq_true rfl) dX8_read_51 (fun s8 => ?_)
      refine ww_iincb (lv' := fun v9 => [(2, .int v9), (0, .ref (x_b X + x0)), (1, .ref (x_b X + x1))]) (c := 1) hX hL 2 rfl dX8_read_54 rfl (by decide) (fun _ => rfl) (fun v9 => ?_)
      refine ww_goto (tgt := 26) hX dX8_read_57 (by decide) ?_
      exact ww_sub [1, 2, 0] rfl (h_26 x0 x1 v9  s8)
def b_X8_read_26 (fu : Nat) : Nat → Nat → Nat → Int32 → St → Option (St)
  | 0, _, _, _, _ => none
  | i + 1, x0, x1, x2, st => b_X8_read_26_b fu (b_X8_read_26 fu i) x0 x1 x2 st
theorem t_X8_read_26 {X : CX} {res : St} (B : BV X cX8_read RX8 3 10 NN none res) (fu : Nat) : ∀ (i : Nat) (x0 : Nat) (x1 : Nat) (x2 : Int32)  (st : St), WW X res NN 26 [(0, .ref (x_b X + x0)), (1, .ref (x_b X + x1)), (2, .int x2)] [] st (b_X8_read_26 fu i x0 x1 x2 st) := by
  intro i
  induction i with
  | zero => intro x0 x1 x2 st; exact ww_none
  | succ i ih => intro x0 x1 x2 st; exact t_X8_read_26_b B fu (b_X8_read_26 fu i) ih x0 x1 x2 st
def f_X8_read (fu : Nat) (th : Nat) (p1 : Nat) (st : St) : Option (St) :=
  ck ((kd th).1 = 8) <|
  bd (sI st th 12 0) fun s1 =>
  ck ((kd th).1 = 8) <|
  bd (sI s1 th 13 0) fun s2 =>
  ck (¬ gR s2 th 7 = 0) <|
  ck ((kd th).1 = 8) <|
  bd (gR s2 th 7) fun o3 =>
  ck ((kd o3).1 = 100 ∧ inb 0 (kd o3).2) <|
  bd (sI s2 o3 (ix 0) 0) fun s4 =>
  ck ((kd p1).1 = 9) <|
  cv (f_X9_open fu p1 4000 s4) fun s5 =>
  b_X8_read_26 fu fu th p1 0  s5
set_option maxHeartbeats 4000000 in
set_option maxRecDepth 100000 in
theorem t_X8_read {X : CX} {res : St} (B : BV X cX8_read RX8 3 10 NN none res) (fu : Nat) (th : Nat) (p1 : Nat) (st : St) : WW X res NN 0 [(0, .ref (x_b X + th)), (1, .ref (x_b X + p1))] [] st (f_X8_read fu th p1 st) := by
  have hX := B.1
  have hL := B.2.1
  unfold f_X8_read
  refine ww_aload_n hX 0 rfl dX8_read_0 rfl ?_
  refine ww_iconst (v := 0) hX rfl dX8_read_1 ?_
  refine ww_putI hX f_X8_49 rfl dX8_read_2 ?_
  refine ww_bds (fun s1 => ?_)
  refine ww_aload_n hX 0 rfl dX8_read_5 rfl ?_
  refine ww_iconst (v := 0) hX rfl dX8_read_6 ?_
  refine ww_putI hX f_X8_53 rfl dX8_read_7 ?_
  refine ww_bds (fun s2 => ?_)
  refine ww_aload_n hX 0 rfl dX8_read_10 rfl ?_
  refine ww_pc (b := 11) rfl ?_
  refine ww_getR hX f_X8_33 (Or.inr ⟨_, rfl⟩) dX8_read_11 ?_
  refine ww_bdR (fun o3 => ?_)
  refine ww_iconst (v := 0) hX rfl dX8_read_14 ?_
  refine ww_iconst (v := 0) hX rfl dX8_read_15 ?_
  refine ww_iastc hX k_iast dX8_read_16 ?_
  refine ww_bds (fun s4 => ?_)
  refine ww_aload_n hX 1 rfl dX8_read_17 rfl ?_
  refine ww_sipush (v := 4000) hX rfl dX8_read_18 ?_
  refine ww_callVV (As := [.int 4000]) (rest := []) (o := p1) hX (Rk.of B.2.2.1 B.2.2.2.1 (by decide) (by decide)) g_X8_58 g_X8_58.in (fun _ => c_X9_open (x_G X) (x_l X) fu p1 4000 s4) rfl rfl (Nat.le_of_ble_eq_true rfl) dX8_read_21 (fun s5 => ?_)
  refine ww_iconst (v := 0) hX rfl dX8_read_24 ?_
  refine ww_pc (b := 25) rfl ?_
  refine ww_istore_n (lv' := [(2, .int 0), (0, .ref (x_b X + th)), (1, .ref (x_b X + p1))]) hX hL dX8_read_25 rfl (by decide) rfl ?_
  exact ww_sub [1, 2, 0] rfl (t_X8_read_26 B fu fu th p1 0  s5)
theorem c_X8_read (G : GX) (l : Launch) (fu : Nat) (th : Nat) (p1 : Nat) (st : St) : MV G NN l yX8_read cX8_read 3 none 10 [.ref (G.2.2.1 + th), .ref (G.2.2.1 + p1)] st (f_X8_read fu th p1 st) := mkV (by decide) (Nat.le_of_ble_eq_true rfl) (fun X res hl hG B => by subst hl; subst hG; exact t_X8_read B fu th p1 st)
/-! StageHouse$Script.tracked(II)I -/
def b_X8_tracked_12 (fu : Nat)   (st : St) : Option (Int32 × St) :=
  some (0, st)
set_option maxHeartbeats 4000000 in
set_option maxRecDepth 100000 in
theorem t_X8_tracked_12 {X : CX} {res : Int32 × St} (B : BI X cX8_tracked RX8 4 1 NN (some .int) res) (fu : Nat)   (st : St) : WW X res NN 12 [] [] st (b_X8_tracked_12 fu  st) := by
  have hX := B.1
  have hL := B.2.1
  unfold b_X8_tracked_12
  refine ww_iconst (v := 0) hX rfl dX8_tracked_12 ?_
  exact ww_iret B dX8_tracked_13
def b_X8_tracked_25_b (fu : Nat) (k_25 : Nat → Int32 → Int32 → Int32 → St → Option (Int32 × St)) (x0 : Nat) (x1 : Int32) (x2 : Int32) (x3 : Int32)  (st : St) : Option (Int32 × St) :=
  ck (¬ gR st x0 6 = 0) <|
  ck ((kd x0).1 = 8) <|
  bd (gR st x0 6) fun o3 =>
  ck ((kd o3).1 = 100 ∧ inb x1 (kd o3).2) <|
  if x3 < (gI st o3 (ix x1)) then (
  some (0, st))
  else (
  ck (¬ gR st x0 11 = 0) <|
  ck ((kd x0).1 = 8) <|
  bd (gR st x0 11) fun o4 =>
  ck ((kd o4).1 = 103 ∧ inb x3 (kd o4).2) <|
  if (lg_cmp ((((gL st o4 (ix x3)).toUInt64 >>> (x2.toInt64.toUInt64 &&& Int64.toUInt64 63)).toInt64) &&& 1) 0) = 0 then (
  bd (x3 + (-1)) fun v5 =>
  k_25 x0 x1 x2 v5  st)
  else (
  ck (¬ gR st x0 10 = 0) <|
  ck ((kd x0).1 = 8) <|
  bd (gR st x0 10) fun o6 =>
  ck ((kd o6).1 = 100 ∧ inb x3 (kd o6).2) <|
  some (gI st o6 (ix x3), st)))
set_option maxHeartbeats 4000000 in
set_option maxRecDepth 100000 in
theorem t_X8_tracked_25_b {X : CX} {res : Int32 × St} (B : BI X cX8_tracked RX8 4 1 NN (some .int) res) (fu : Nat) (k_25 : Nat → Int32 → Int32 → Int32 → St → Option (Int32 × St)) (h_25 : ∀ (x0 : Nat) (x1 : Int32) (x2 : Int32) (x3 : Int32)  (st : St), WW X res NN 25 [(0, .ref (x_b X + x0)), (1, .int x1), (2, .int x2), (3, .int x3)] [] st (k_25 x0 x1 x2 x3 st)) (x0 : Nat) (x1 : Int32) (x2 : Int32) (x3 : Int32)  (st : St) : WW X res NN 25 [(0, .ref (x_b X + x0)), (1, .int x1), (2, .int x2), (3, .int x3)] [] st (b_X8_tracked_25_b fu k_25 x0 x1 x2 x3 st) := by
  have hX := B.1
  have hL := B.2.1
  unfold b_X8_tracked_25_b
  refine ww_iload_n hX 3 rfl dX8_tracked_25 rfl ?_
  refine ww_aload_n hX 0 rfl dX8_tracked_26 rfl ?_
  refine ww_getR hX f_X8_30 (Or.inr ⟨_, rfl⟩) dX8_tracked_27 ?_
  refine ww_bdR (fun o3 => ?_)
  refine ww_iload_n hX 1 rfl dX8_tracked_30 rfl ?_
  refine ww_ialdc hX k_iald dX8_tracked_31 ?_
  refine ww_icmp_lt (tgt := 63) hX dX8_tracked_32 (by decide) ?_ ?_
  · refine ww_iconst (v := 0) hX rfl dX8_tracked_63 ?_
    exact ww_iret B dX8_tracked_64
  · refine ww_aload_n hX 0 rfl dX8_tracked_35 rfl ?_
    refine ww_getR hX f_X8_45 (Or.inr ⟨_, rfl⟩) dX8_tracked_36 ?_
    refine ww_bdR (fun o4 => ?_)
    refine ww_iload_n hX 3 rfl dX8_tracked_39 rfl ?_
    refine ww_laldc hX k_lald dX8_tracked_40 ?_
    refine ww_iload_n hX 2 rfl dX8_tracked_41 rfl ?_
    refine ww_lushr hX dX8_tracked_42 ?_
    refine ww_lconst (v := 1) hX rfl dX8_tracked_43 ?_
    refine ww_pc (b := 44) rfl ?_
    refine ww_land hX dX8_tracked_44 ?_
    refine ww_lconst (v := 0) hX rfl dX8_tracked_45 ?_
    refine ww_lcmp hX dX8_tracked_46 ?_
    refine ww_if_eq (tgt := 57) hX dX8_tracked_47 (by decide) ?_ ?_
    · refine ww_iincb (lv' := fun v5 => [(3, .int v5), (0, .ref (x_b X + x0)), (1, .int x1), (2, .int x2)]) (c := (-1)) hX hL 3 rfl dX8_tracked_57 rfl (by decide) (fun _ => rfl) (fun v5 => ?_)
      refine ww_goto (tgt := 25) hX dX8_tracked_60 (by decide) ?_
      exact ww_sub [1, 2, 3, 0] rfl (h_25 x0 x1 x2 v5  st)
    · refine ww_aload_n hX 0 rfl dX8_tracked_50 rfl ?_
      refine ww_getR hX f_X8_42 (Or.inr ⟨_, rfl⟩) dX8_tracked_51 ?_
      refine ww_bdR (fun o6 => ?_)
      refine ww_iload_n hX 3 rfl dX8_tracked_54 rfl ?_
      refine ww_ialdc hX k_iald dX8_tracked_55 ?_
      exact ww_iret B dX8_tracked_56
def b_X8_tracked_25 (fu : Nat) : Nat → Nat → Int32 → Int32 → Int32 → St → Option (Int32 × St)
  | 0, _, _, _, _, _ => none
  | i + 1, x0, x1, x2, x3, st => b_X8_tracked_25_b fu (b_X8_tracked_25 fu i) x0 x1 x2 x3 st
theorem t_X8_tracked_25 {X : CX} {res : Int32 × St} (B : BI X cX8_tracked RX8 4 1 NN (some .int) res) (fu : Nat) : ∀ (i : Nat) (x0 : Nat) (x1 : Int32) (x2 : Int32) (x3 : Int32)  (st : St), WW X res NN 25 [(0, .ref (x_b X + x0)), (1, .int x1), (2, .int x2), (3, .int x3)] [] st (b_X8_tracked_25 fu i x0 x1 x2 x3 st) := by
  intro i
  induction i with
  | zero => intro x0 x1 x2 x3 st; exact ww_none
  | succ i ih => intro x0 x1 x2 x3 st; exact t_X8_tracked_25_b B fu (b_X8_tracked_25 fu i) ih x0 x1 x2 x3 st
def f_X8_tracked (fu : Nat) (th : Nat) (p1 : Int32) (p2 : Int32) (st : St) : Option (Int32 × St) :=
  if p1 < 0 then (
  b_X8_tracked_12 fu   st)
  else (
  ck ((kd th).1 = 8) <|
  if p1 < (gI st th 12) then (
  ck (¬ gR st th 7 = 0) <|
  ck ((kd th).1 = 8) <|
  bd (gR st th 7) fun o1 =>
  ck ((kd o1).1 = 100 ∧ inb (p1 + 1) (kd o1).2) <|
  bd ((gI st o1 (ix (p1 + 1))) - 1) fun v2 =>
  b_X8_tracked_25 fu fu th p1 p2 v2  st)
  else (
  b_X8_tracked_12 fu   st))
set_option maxHeartbeats 4000000 in
set_option maxRecDepth 100000 in
theorem t_X8_tracked {X : CX} {res : Int32 × St} (B : BI X cX8_tracked RX8 4 1 NN (some .int) res) (fu : Nat) (th : Nat) (p1 : Int32) (p2 : Int32) (st : St) : WW X res NN 0 [(0, .ref (x_b X + th)), (1, .int p1), (2, .int p2)] [] st (f_X8_tracked fu th p1 p2 st) := by
  have hX := B.1
  have hL := B.2.1
  unfold f_X8_tracked
  refine ww_iload_n hX 1 rfl dX8_tracked_0 rfl ?_
  refine ww_if_lt (tgt := 12) hX dX8_tracked_1 (by decide) ?_ ?_
  · exact ww_sub [] rfl (t_X8_tracked_12 B fu   st)
  · refine ww_iload_n hX 1 rfl dX8_tracked_4 rfl ?_
    refine ww_aload_n hX 0 rfl dX8_tracked_5 rfl ?_
    refine ww_getI hX f_X8_49 (Or.inl rfl) dX8_tracked_6 ?_
    refine ww_icmp_lt (tgt := 14) hX dX8_tracked_9 (by decide) ?_ ?_
    · refine ww_aload_n hX 0 rfl dX8_tracked_14 rfl ?_
      refine ww_getR hX f_X8_33 (Or.inr ⟨_, rfl⟩) dX8_tracked_15 ?_
      refine ww_bdR (fun o1 => ?_)
      refine ww_iload_n hX 1 rfl dX8_tracked_18 rfl ?_
      refine ww_iconst (v := 1) hX rfl dX8_tracked_19 ?_
      refine ww_iadd hX dX8_tracked_20 ?_
      refine ww_ialdc hX k_iald dX8_tracked_21 ?_
      refine ww_iconst (v := 1) hX rfl dX8_tracked_22 ?_
      refine ww_pc (b := 23) rfl ?_
      refine ww_isub hX dX8_tracked_23 ?_
      refine ww_bdi (fun v2 => ?_)
      refine ww_istore_n (lv' := [(3, .int v2), (0, .ref (x_b X + th)), (1, .int p1), (2, .int p2)]) hX hL dX8_tracked_24 rfl (by decide) rfl ?_
      exact ww_sub [1, 2, 3, 0] rfl (t_X8_tracked_25 B fu fu th p1 p2 v2  st)
    · exact ww_sub [] rfl (t_X8_tracked_12 B fu   st)
theorem c_X8_tracked (G : GX) (l : Launch) (fu : Nat) (th : Nat) (p1 : Int32) (p2 : Int32) (st : St) : MI G NN l yX8_tracked cX8_tracked 4 (some .int) 1 [.ref (G.2.2.1 + th), .int p1, .int p2] st (f_X8_tracked fu th p1 p2 st) := mkI (by decide) (Nat.le_of_ble_eq_true rfl) (fun X res hl hG B => by subst hl; subst hG; exact t_X8_tracked B fu th p1 p2 st)
/-! StageHouse$Tape.hasRoom()Z -/
def b_X9_hasRoom_18 (fu : Nat)  (y0 : Int32) (st : St) : Option (Int32 × St) :=
  ck (isb y0) (some (y0, st))
set_option maxHeartbeats 4000000 in
set_option maxRecDepth 100000 in
theorem t_X9_hasRoom_18 {X : CX} {res : Int32 × St} (B : BI X cX9_hasRoom RX9 1 1 NN (some .boolean) res) (fu : Nat)  (y0 : Int32) (st : St) : WW X res NN 18 [] [.int y0] st (b_X9_hasRoom_18 fu y0 st) := by
  have hX := B.1
  have hL := B.2.1
  unfold b_X9_hasRoom_18
  exact ww_zret B dX9_hasRoom_18
def f_X9_hasRoom (fu : Nat) (th : Nat) (st : St) : Option (Int32 × St) :=
  ck ((kd th).1 = 9) <|
  if 4000 < ((gI st th 1) + 20) then (
  b_X9_hasRoom_18 fu  0 st)
  else (
  b_X9_hasRoom_18 fu  1 st)
set_option maxHeartbeats 4000000 in
set_option maxRecDepth 100000 in
theorem t_X9_hasRoom {X : CX} {res : Int32 × St} (B : BI X cX9_hasRoom RX9 1 1 NN (some .boolean) res) (fu : Nat) (th : Nat) (st : St) : WW X res NN 0 [(0, .ref (x_b X + th))] [] st (f_X9_hasRoom fu th st) := by
  have hX := B.1
  have hL := B.2.1
  unfold f_X9_hasRoom
  refine ww_aload_n hX 0 rfl dX9_hasRoom_0 rfl ?_
  refine ww_getI hX f_X9_15 (Or.inl rfl) dX9_hasRoom_1 ?_
  refine ww_bipush (v := 20) hX rfl dX9_hasRoom_4 ?_
  refine ww_iadd hX dX9_hasRoom_6 ?_
  refine ww_sipush (v := 4000) hX rfl dX9_hasRoom_7 ?_
  refine ww_icmp_gt (tgt := 17) hX dX9_hasRoom_10 (by decide) ?_ ?_
  · refine ww_iconst (v := 0) hX rfl dX9_hasRoom_17 ?_
    exact ww_sub [] rfl (t_X9_hasRoom_18 B fu  0 st)
  · refine ww_iconst (v := 1) hX rfl dX9_hasRoom_13 ?_
    refine ww_goto (tgt := 18) hX dX9_hasRoom_14 (by decide) ?_
    exact ww_sub [] rfl (t_X9_hasRoom_18 B fu  1 st)
theorem c_X9_hasRoom (G : GX) (l : Launch) (fu : Nat) (th : Nat) (st : St) : MI G NN l yX9_hasRoom cX9_hasRoom 1 (some .boolean) 1 [.ref (G.2.2.1 + th)] st (f_X9_hasRoom fu th st) := mkI (by decide) (Nat.le_of_ble_eq_true rfl) (fun X res hl hG B => by subst hl; subst hG; exact t_X9_hasRoom B fu th st)
/-! StageHouse$Tape.append(I)V -/
def b_X9_append_46 (fu : Nat)   (st : St) : Option (St) :=
  some st
set_option maxHeartbeats 4000000 in
set_option maxRecDepth 100000 in
theorem t_X9_append_46 {X : CX} {res : St} (B : BV X cX9_append RX9 3 1 NN none res) (fu : Nat)   (st : St) : WW X res NN 46 [] [] st (b_X9_append_46 fu  st) := by
  have hX := B.1
  have hL := B.2.1
  unfold b_X9_append_46
  exact ww_vret B dX9_append_46
def b_X9_append_3_b (fu : Nat) (k_3 : Nat → Int32 → Int32 → St → Option (St)) (x0 : Nat) (x1 : Int32) (x2 : Int32)  (st : St) : Option (St) :=
  if x2 < 0 then (
  b_X9_append_46 fu   st)
  else (
  ck ((kd x0).1 = 9) <|
  if 4000 ≤ (gI st x0 1) then (
  b_X9_append_46 fu   st)
  else (
  ck (¬ gR st x0 0 = 0) <|
  ck ((kd x0).1 = 9) <|
  bd (gR st x0 0) fun o1 =>
  ck ((kd x0).1 = 9) <|
  ck ((kd o1).1 = 101 ∧ inb (gI st x0 1) (kd o1).2) <|
  bd (sI st o1 (ix (gI st x0 1)) ((x1 >>> (x2 &&& 31)).toInt8.toInt32).toInt8.toInt32) fun s2 =>
  ck ((kd x0).1 = 9) <|
  ck ((kd x0).1 = 9) <|
  bd (sI s2 x0 1 ((gI s2 x0 1) + 1)) fun s3 =>
  bd (x2 + (-8)) fun v4 =>
  k_3 x0 x1 v4  s3))
set_option maxHeartbeats 4000000 in
set_option maxRecDepth 100000 in
theorem t_X9_append_3_b {X : CX} {res : St} (B : BV X cX9_append RX9 3 1 NN none res) (fu : Nat) (k_3 : Nat → Int32 → Int32 → St → Option (St)) (h_3 : ∀ (x0 : Nat) (x1 : Int32) (x2 : Int32)  (st : St), WW X res NN 3 [(0, .ref (x_b X + x0)), (1, .int x1), (2, .int x2)] [] st (k_3 x0 x1 x2 st)) (x0 : Nat) (x1 : Int32) (x2 : Int32)  (st : St) : WW X res NN 3 [(0, .ref (x_b X + x0)), (1, .int x1), (2, .int x2)] [] st (b_X9_append_3_b fu k_3 x0 x1 x2 st) := by
  have hX := B.1
  have hL := B.2.1
  unfold b_X9_append_3_b
  refine ww_iload_n hX 2 rfl dX9_append_3 rfl ?_
  refine ww_if_lt (tgt := 46) hX dX9_append_4 (by decide) ?_ ?_
  · exact ww_sub [] rfl (t_X9_append_46 B fu   st)
  · refine ww_aload_n hX 0 rfl dX9_append_7 rfl ?_
    refine ww_getI hX f_X9_15 (Or.inl rfl) dX9_append_8 ?_
    refine ww_sipush (v := 4000) hX rfl dX9_append_11 ?_
    refine ww_icmp_ge (tgt := 46) hX dX9_append_14 (by decide) ?_ ?_
    · exact ww_sub [] rfl (t_X9_append_46 B fu   st)
    · refine ww_aload_n hX 0 rfl dX9_append_17 rfl ?_
      refine ww_getR hX f_X9_11 (Or.inr ⟨_, rfl⟩) dX9_append_18 ?_
      refine ww_bdR (fun o1 => ?_)
      refine ww_aload_n hX 0 rfl dX9_append_21 rfl ?_
      refine ww_getI hX f_X9_15 (Or.inl rfl) dX9_append_22 ?_
      refine ww_iload_n hX 1 rfl dX9_append_25 rfl ?_
      refine ww_iload_n hX 2 rfl dX9_append_26 rfl ?_
      refine ww_ishr hX dX9_append_27 ?_
      refine ww_pc (b := 28) rfl ?_
      refine ww_i2b hX dX9_append_28 ?_
      refine ww_bastc hX k_bast dX9_append_29 ?_
      refine ww_bds (fun s2 => ?_)
      refine ww_aload_n hX 0 rfl dX9_append_30 rfl ?_
      refine ww_dup hX rfl dX9_append_31 ?_
      refine ww_getI hX f_X9_15 (Or.inl rfl) dX9_append_32 ?_
      refine ww_iconst (v := 1) hX rfl dX9_append_35 ?_
      refine ww_iadd hX dX9_append_36 ?_
      refine ww_putI hX f_X9_15 rfl dX9_append_37 ?_
      refine ww_bds (fun s3 => ?_)
      refine ww_pc (b := 40) rfl ?_
      refine ww_iincb (lv' := fun v4 => [(2, .int v4), (0, .ref (x_b X + x0)), (1, .int x1)]) (c := (-8)) hX hL 2 rfl dX9_append_40 rfl (by decide) (fun _ => rfl) (fun v4 => ?_)
      refine ww_goto (tgt := 3) hX dX9_append_43 (by decide) ?_
      exact ww_sub [1, 2, 0] rfl (h_3 x0 x1 v4  s3)
def b_X9_append_3 (fu : Nat) : Nat → Nat → Int32 → Int32 → St → Option (St)
  | 0, _, _, _, _ => none
  | i + 1, x0, x1, x2, st => b_X9_append_3_b fu (b_X9_append_3 fu i) x0 x1 x2 st
theorem t_X9_append_3 {X : CX} {res : St} (B : BV X cX9_append RX9 3 1 NN none res) (fu : Nat) : ∀ (i : Nat) (x0 : Nat) (x1 : Int32) (x2 : Int32)  (st : St), WW X res NN 3 [(0, .ref (x_b X + x0)), (1, .int x1), (2, .int x2)] [] st (b_X9_append_3 fu i x0 x1 x2 st) := by
  intro i
  induction i with
  | zero => intro x0 x1 x2 st; exact ww_none
  | succ i ih => intro x0 x1 x2 st; exact t_X9_append_3_b B fu (b_X9_append_3 fu i) ih x0 x1 x2 st
def f_X9_append (fu : Nat) (th : Nat) (p1 : Int32) (st : St) : Option (St) :=
  b_X9_append_3 fu fu th p1 24  st
set_option maxHeartbeats 4000000 in
set_option maxRecDepth 100000 in
theorem t_X9_append {X : CX} {res : St} (B : BV X cX9_append RX9 3 1 NN none res) (fu : Nat) (th : Nat) (p1 : Int32) (st : St) : WW X res NN 0 [(0, .ref (x_b X + th)), (1, .int p1)] [] st (f_X9_append fu th p1 st) := by
  have hX := B.1
  have hL := B.2.1
  unfold f_X9_append
  refine ww_bipush (v := 24) hX rfl dX9_append_0 ?_
  refine ww_istore_n (lv' := [(2, .int 24), (0, .ref (x_b X + th)), (1, .int p1)]) hX hL dX9_append_2 rfl (by decide) rfl ?_
  exact ww_sub [1, 2, 0] rfl (t_X9_append_3 B fu fu th p1 24  st)
theorem c_X9_append (G : GX) (l : Launch) (fu : Nat) (th : Nat) (p1 : Int32) (st : St) : MV G NN l yX9_append cX9_append 3 none 1 [.ref (G.2.2.1 + th), .int p1] st (f_X9_append fu th p1 st) := mkV (by decide) (Nat.le_of_ble_eq_true rfl) (fun X res hl hG B => by subst hl; subst hG; exact t_X9_append B fu th p1 st)
/-! StageHouse$Ways.note(II)V -/
def b_X10_note_40 (fu : Nat)   (st : St) : Option (St) :=
  some st
set_option maxHeartbeats 4000000 in
set_option maxRecDepth 100000 in
theorem t_X10_note_40 {X : CX} {res : St} (B : BV X cX10_note RX10 3 1 NN none res) (fu : Nat)   (st : St) : WW X res NN 40 [] [] st (b_X10_note_40 fu  st) := by
  have hX := B.1
  have hL := B.2.1
  unfold b_X10_note_40
  exact ww_vret B dX10_note_40
def f_X10_note (fu : Nat) (th : Nat) (p1 : Int32) (p2 : Int32) (st : St) : Option (St) :=
  ck (¬ gR st th 11 = 0) <|
  ck ((kd th).1 = 10) <|
  bd (gR st th 11) fun o1 =>
  ck ((kd o1).1 = 100 ∧ inb p1 (kd o1).2) <|
  if 40 ≤ (gI st o1 (ix p1)) then (
  b_X10_note_40 fu   st)
  else (
  ck (¬ gR st th 12 = 0) <|
  ck ((kd th).1 = 10) <|
  bd (gR st th 12) fun o2 =>
  ck (¬ gR st th 11 = 0) <|
  ck ((kd th).1 = 10) <|
  bd (gR st th 11) fun o3 =>
  ck ((kd o3).1 = 100 ∧ inb p1 (kd o3).2) <|
  ck ((kd o2).1 = 100 ∧ inb (((p1 * 2) * 20) + (gI st o3 (ix p1))) (kd o2).2) <|
  bd (sI st o2 (ix (((p1 * 2) * 20) + (gI st o3 (ix p1)))) p2) fun s4 =>
  ck (¬ gR s4 th 11 = 0) <|
  ck ((kd th).1 = 10) <|
  bd (gR s4 th 11) fun o5 =>
  ck ((kd o5).1 = 100 ∧ inb p1 (kd o5).2) <|
  ck ((kd o5).1 = 100 ∧ inb p1 (kd o5).2) <|
  bd (sI s4 o5 (ix p1) ((gI s4 o5 (ix p1)) + 1)) fun s6 =>
  b_X10_note_40 fu   s6)
set_option maxHeartbeats 4000000 in
set_option maxRecDepth 100000 in
theorem t_X10_note {X : CX} {res : St} (B : BV X cX10_note RX10 3 1 NN none res) (fu : Nat) (th : Nat) (p1 : Int32) (p2 : Int32) (st : St) : WW X res NN 0 [(0, .ref (x_b X + th)), (1, .int p1), (2, .int p2)] [] st (f_X10_note fu th p1 p2 st) := by
  have hX := B.1
  have hL := B.2.1
  unfold f_X10_note
  refine ww_aload_n hX 0 rfl dX10_note_0 rfl ?_
  refine ww_getR hX f_X10_45 (Or.inr ⟨_, rfl⟩) dX10_note_1 ?_
  refine ww_bdR (fun o1 => ?_)
  refine ww_iload_n hX 1 rfl dX10_note_4 rfl ?_
  refine ww_ialdc hX k_iald dX10_note_5 ?_
  refine ww_bipush (v := 40) hX rfl dX10_note_6 ?_
  refine ww_icmp_ge (tgt := 40) hX dX10_note_8 (by decide) ?_ ?_
  · exact ww_sub [] rfl (t_X10_note_40 B fu   st)
  · refine ww_aload_n hX 0 rfl dX10_note_11 rfl ?_
    refine ww_getR hX f_X10_48 (Or.inr ⟨_, rfl⟩) dX10_note_12 ?_
    refine ww_bdR (fun o2 => ?_)
    refine ww_iload_n hX 1 rfl dX10_note_15 rfl ?_
    refine ww_iconst (v := 2) hX rfl dX10_note_16 ?_
    refine ww_imul hX dX10_note_17 ?_
    refine ww_bipush (v := 20) hX rfl dX10_note_18 ?_
    refine ww_imul hX dX10_note_20 ?_
    refine ww_pc (b := 21) rfl ?_
    refine ww_aload_n hX 0 rfl dX10_note_21 rfl ?_
    refine ww_getR hX f_X10_45 (Or.inr ⟨_, rfl⟩) dX10_note_22 ?_
    refine ww_bdR (fun o3 => ?_)
    refine ww_iload_n hX 1 rfl dX10_note_25 rfl ?_
    refine ww_ialdc hX k_iald dX10_note_26 ?_
    refine ww_iadd hX dX10_note_27 ?_
    refine ww_iload_n hX 2 rfl dX10_note_28 rfl ?_
    refine ww_iastc hX k_iast dX10_note_29 ?_
    refine ww_bds (fun s4 => ?_)
    refine ww_aload_n hX 0 rfl dX10_note_30 rfl ?_
    refine ww_pc (b := 31) rfl ?_
    refine ww_getR hX f_X10_45 (Or.inr ⟨_, rfl⟩) dX10_note_31 ?_
    refine ww_bdR (fun o5 => ?_)
    refine ww_iload_n hX 1 rfl dX10_note_34 rfl ?_
    refine ww_dup2_11 hX rfl rfl dX10_note_35 ?_
    refine ww_ialdc hX k_iald dX10_note_36 ?_
    refine ww_iconst (v := 1) hX rfl dX10_note_37 ?_
    refine ww_iadd hX dX10_note_38 ?_
    refine ww_iastc hX k_iast dX10_note_39 ?_
    refine ww_bds (fun s6 => ?_)
    exact ww_sub [] rfl (t_X10_note_40 B fu   s6)
theorem c_X10_note (G : GX) (l : Launch) (fu : Nat) (th : Nat) (p1 : Int32) (p2 : Int32) (st : St) : MV G NN l yX10_note cX10_note 3 none 1 [.ref (G.2.2.1 + th), .int p1, .int p2] st (f_X10_note fu th p1 p2 st) := mkV (by decide) (Nat.le_of_ble_eq_true rfl) (fun X res hl hG B => by subst hl; subst hG; exact t_X10_note B fu th p1 p2 st)
/-! StageHouse$Ways.add(IIII)I -/
def f_X10_add (fu : Nat) (th : Nat) (p1 : Int32) (p2 : Int32) (p3 : Int32) (p4 : Int32) (st : St) : Option (Int32 × St) :=
  ck (¬ gR st th 0 = 0) <|
  ck ((kd th).1 = 10) <|
  bd (gR st th 0) fun o1 =>
  ck ((kd th).1 = 10) <|
  ck ((kd o1).1 = 100 ∧ inb (gI st th 13) (kd o1).2) <|
  bd (sI st o1 (ix (gI st th 13)) p1) fun s2 =>
  ck (¬ gR s2 th 1 = 0) <|
  ck ((kd th).1 = 10) <|
  bd (gR s2 th 1) fun o3 =>
  ck ((kd th).1 = 10) <|
  ck ((kd o3).1 = 100 ∧ inb (gI s2 th 13) (kd o3).2) <|
  bd (sI s2 o3 (ix (gI s2 th 13)) p2) fun s4 =>
  ck (¬ gR s4 th 2 = 0) <|
  ck ((kd th).1 = 10) <|
  bd (gR s4 th 2) fun o5 =>
  ck ((kd th).1 = 10) <|
  ck ((kd o5).1 = 100 ∧ inb (gI s4 th 13) (kd o5).2) <|
  bd (sI s4 o5 (ix (gI s4 th 13)) p3) fun s6 =>
  ck (¬ gR s6 th 3 = 0) <|
  ck ((kd th).1 = 10) <|
  bd (gR s6 th 3) fun o7 =>
  ck ((kd th).1 = 10) <|
  ck ((kd o7).1 = 100 ∧ inb (gI s6 th 13) (kd o7).2) <|
  bd (sI s6 o7 (ix (gI s6 th 13)) p4) fun s8 =>
  ck ((kd th).1 = 10) <|
  ck ((kd th).1 = 10) <|
  cv (f_X10_note fu th p1 (gI s8 th 13) s8) fun s9 =>
  ck ((kd th).1 = 10) <|
  ck ((kd th).1 = 10) <|
  cv (f_X10_note fu th p2 ((gI s9 th 13) + 20) s9) fun s10 =>
  ck ((kd th).1 = 10) <|
  ck ((kd th).1 = 10) <|
  bd (sI s10 th 13 ((gI s10 th 13) + 1)) fun s11 =>
  ck ((kd th).1 = 10) <|
  some ((gI s11 th 13) - 1, s11)
set_option maxHeartbeats 4000000 in
set_option maxRecDepth 100000 in
theorem t_X10_add {X : CX} {res : Int32 × St} (B : BI X cX10_add RX10 5 2 NN (some .int) res) (fu : Nat) (th : Nat) (p1 : Int32) (p2 : Int32) (p3 : Int32) (p4 : Int32) (st : St) : WW X res NN 0 [(0, .ref (x_b X + th)), (1, .int p1), (2, .int p2), (3, .int p3), (4, .int p4)] [] st (f_X10_add fu th p1 p2 p3 p4 st) := by
  have hX := B.1
  have hL := B.2.1
  unfold f_X10_add
  refine ww_aload_n hX 0 rfl dX10_add_0 rfl ?_
  refine ww_getR hX f_X10_11 (Or.inr ⟨_, rfl⟩) dX10_add_1 ?_
  refine ww_bdR (fun o1 => ?_)
  refine ww_aload_n hX 0 rfl dX10_add_4 rfl ?_
  refine ww_getI hX f_X10_51 (Or.inl rfl) dX10_add_5 ?_
  refine ww_iload_n hX 1 rfl dX10_add_8 rfl ?_
  refine ww_iastc hX k_iast dX10_add_9 ?_
  refine ww_bds (fun s2 => ?_)
  refine ww_aload_n hX 0 rfl dX10_add_10 rfl ?_
  refine ww_pc (b := 11) rfl ?_
  refine ww_getR hX f_X10_15 (Or.inr ⟨_, rfl⟩) dX10_add_11 ?_
  refine ww_bdR (fun o3 => ?_)
  refine ww_aload_n hX 0 rfl dX10_add_14 rfl ?_
  refine ww_getI hX f_X10_51 (Or.inl rfl) dX10_add_15 ?_
  refine ww_iload_n hX 2 rfl dX10_add_18 rfl ?_
  refine ww_iastc hX k_iast dX10_add_19 ?_
  refine ww_bds (fun s4 => ?_)
  refine ww_aload_n hX 0 rfl dX10_add_20 rfl ?_
  refine ww_getR hX f_X10_18 (Or.inr ⟨_, rfl⟩) dX10_add_21 ?_
  refine ww_bdR (fun o5 => ?_)
  refine ww_aload_n hX 0 rfl dX10_add_24 rfl ?_
  refine ww_pc (b := 25) rfl ?_
  refine ww_getI hX f_X10_51 (Or.inl rfl) dX10_add_25 ?_
  refine ww_iload_n hX 3 rfl dX10_add_28 rfl ?_
  refine ww_iastc hX k_iast dX10_add_29 ?_
  refine ww_bds (fun s6 => ?_)
  refine ww_aload_n hX 0 rfl dX10_add_30 rfl ?_
  refine ww_getR hX f_X10_21 (Or.inr ⟨_, rfl⟩) dX10_add_31 ?_
  refine ww_bdR (fun o7 => ?_)
  refine ww_aload_n hX 0 rfl dX10_add_34 rfl ?_
  refine ww_getI hX f_X10_51 (Or.inl rfl) dX10_add_35 ?_
  refine ww_iload hX 4 rfl dX10_add_38 ?_
  refine ww_pc (b := 40) rfl ?_
  refine ww_iastc hX k_iast dX10_add_40 ?_
  refine ww_bds (fun s8 => ?_)
  refine ww_aload_n hX 0 rfl dX10_add_41 rfl ?_
  refine ww_iload_n hX 1 rfl dX10_add_42 rfl ?_
  refine ww_aload_n hX 0 rfl dX10_add_43 rfl ?_
  refine ww_getI hX f_X10_51 (Or.inl rfl) dX10_add_44 ?_
  refine ww_callVV (As := [.int p1, .int (gI s8 th 13)]) (rest := []) (o := th) hX (Rk.of B.2.2.1 B.2.2.2.1 (by decide) (by decide)) g_X10_55 g_X10_55.in (fun _ => c_X10_note (x_G X) (x_l X) fu th p1 (gI s8 th 13) s8) rfl rfl (Nat.le_of_ble_eq_true rfl) dX10_add_47 (fun s9 => ?_)
  refine ww_aload_n hX 0 rfl dX10_add_50 rfl ?_
  refine ww_iload_n hX 2 rfl dX10_add_51 rfl ?_
  refine ww_pc (b := 52) rfl ?_
  refine ww_aload_n hX 0 rfl dX10_add_52 rfl ?_
  refine ww_getI hX f_X10_51 (Or.inl rfl) dX10_add_53 ?_
  refine ww_bipush (v := 20) hX rfl dX10_add_56 ?_
  refine ww_iadd hX dX10_add_58 ?_
  refine ww_callVV (As := [.int p2, .int ((gI s9 th 13) + 20)]) (rest := []) (o := th) hX (Rk.of B.2.2.1 B.2.2.2.1 (by decide) (by decide)) g_X10_55 g_X10_55.in (fun _ => c_X10_note (x_G X) (x_l X) fu th p2 ((gI s9 th 13) + 20) s9) rfl rfl (Nat.le_of_ble_eq_true rfl) dX10_add_59 (fun s10 => ?_)
  refine ww_aload_n hX 0 rfl dX10_add_62 rfl ?_
  refine ww_dup hX rfl dX10_add_63 ?_
  refine ww_getI hX f_X10_51 (Or.inl rfl) dX10_add_64 ?_
  refine ww_pc (b := 67) rfl ?_
  refine ww_iconst (v := 1) hX rfl dX10_add_67 ?_
  refine ww_iadd hX dX10_add_68 ?_
  refine ww_putI hX f_X10_51 rfl dX10_add_69 ?_
  refine ww_bds (fun s11 => ?_)
  refine ww_aload_n hX 0 rfl dX10_add_72 rfl ?_
  refine ww_getI hX f_X10_51 (Or.inl rfl) dX10_add_73 ?_
  refine ww_iconst (v := 1) hX rfl dX10_add_76 ?_
  refine ww_isub hX dX10_add_77 ?_
  exact ww_iret B dX10_add_78
theorem c_X10_add (G : GX) (l : Launch) (fu : Nat) (th : Nat) (p1 : Int32) (p2 : Int32) (p3 : Int32) (p4 : Int32) (st : St) : MI G NN l yX10_add cX10_add 5 (some .int) 2 [.ref (G.2.2.1 + th), .int p1, .int p2, .int p3, .int p4] st (f_X10_add fu th p1 p2 p3 p4 st) := mkI (by decide) (Nat.le_of_ble_eq_true rfl) (fun X res hl hG B => by subst hl; subst hG; exact t_X10_add B fu th p1 p2 p3 p4 st)
/-! StageHouse$Ways.clear()V -/
def f_X10_clear (fu : Nat) (th : Nat) (st : St) : Option (St) :=
  ck ((kd th).1 = 10) <|
  bd (sI st th 13 0) fun s1 =>
  ck (¬ gR s1 th 4 = 0) <|
  ck ((kd th).1 = 10) <|
  bd (gR s1 th 4) fun o2 =>
  cv (f_J7_fill_53178 fu o2 0 s1) fun s3 =>
  ck (¬ gR s3 th 11 = 0) <|
  ck ((kd th).1 = 10) <|
  bd (gR s3 th 11) fun o4 =>
  cv (f_J7_fill_53178 fu o4 0 s3) fun s5 =>
  some s5
set_option maxHeartbeats 4000000 in
set_option maxRecDepth 100000 in
theorem t_X10_clear {X : CX} {res : St} (B : BV X cX10_clear RX10 1 2 NN none res) (fu : Nat) (th : Nat) (st : St) : WW X res NN 0 [(0, .ref (x_b X + th))] [] st (f_X10_clear fu th st) := by
  have hX := B.1
  have hL := B.2.1
  unfold f_X10_clear
  refine ww_aload_n hX 0 rfl dX10_clear_0 rfl ?_
  refine ww_iconst (v := 0) hX rfl dX10_clear_1 ?_
  refine ww_putI hX f_X10_51 rfl dX10_clear_2 ?_
  refine ww_bds (fun s1 => ?_)
  refine ww_aload_n hX 0 rfl dX10_clear_5 rfl ?_
  refine ww_getR hX f_X10_24 (Or.inr ⟨_, rfl⟩) dX10_clear_6 ?_
  refine ww_bdR (fun o2 => ?_)
  refine ww_iconst (v := 0) hX rfl dX10_clear_9 ?_
  refine ww_callSV (As := [.ref (x_b X + o2), .int 0]) (rest := []) hX (Rk.of B.2.2.1 B.2.2.2.1 (by decide) (by decide)) g_X10_59 (c_J7_fill_53178 (x_G X) (x_l X) fu o2 0 s1) rfl rfl (Nat.le_of_ble_eq_true rfl) dX10_clear_10 (fun s3 => ?_)
  refine ww_pc (b := 13) rfl ?_
  refine ww_aload_n hX 0 rfl dX10_clear_13 rfl ?_
  refine ww_getR hX f_X10_45 (Or.inr ⟨_, rfl⟩) dX10_clear_14 ?_
  refine ww_bdR (fun o4 => ?_)
  refine ww_iconst (v := 0) hX rfl dX10_clear_17 ?_
  refine ww_callSV (As := [.ref (x_b X + o4), .int 0]) (rest := []) hX (Rk.of B.2.2.1 B.2.2.2.1 (by decide) (by decide)) g_X10_59 (c_J7_fill_53178 (x_G X) (x_l X) fu o4 0 s3) rfl rfl (Nat.le_of_ble_eq_true rfl) dX10_clear_18 (fun s5 => ?_)
  exact ww_vret B dX10_clear_21
theorem c_X10_clear (G : GX) (l : Launch) (fu : Nat) (th : Nat) (st : St) : MV G NN l yX10_clear cX10_clear 1 none 2 [.ref (G.2.2.1 + th)] st (f_X10_clear fu th st) := mkV (by decide) (Nat.le_of_ble_eq_true rfl) (fun X res hl hG B => by subst hl; subst hG; exact t_X10_clear B fu th st)
/-! StageHouse$Ways.endOf(III)I -/
def b_X10_endOf_210 (fu : Nat)  (y0 : Int32) (st : St) : Option (Int32 × St) :=
  some (y0, st)
set_option maxHeartbeats 4000000 in
set_option maxRecDepth 100000 in
theorem t_X10_endOf_210 {X : CX} {res : Int32 × St} (B : BI X cX10_endOf RX10 10 1 NN (some .int) res) (fu : Nat)  (y0 : Int32) (st : St) : WW X res NN 210 [] [.int y0] st (b_X10_endOf_210 fu y0 st) := by
  have hX := B.1
  have hL := B.2.1
  unfold b_X10_endOf_210
  exact ww_iret B dX10_endOf_210
def b_X10_endOf_209 (fu : Nat)   (st : St) : Option (Int32 × St) :=
  b_X10_endOf_210 fu  ((-1)) st
set_option maxHeartbeats 4000000 in
set_option maxRecDepth 100000 in
theorem t_X10_endOf_209 {X : CX} {res : Int32 × St} (B : BI X cX10_endOf RX10 10 1 NN (some .int) res) (fu : Nat)   (st : St) : WW X res NN 209 [] [] st (b_X10_endOf_209 fu  st) := by
  have hX := B.1
  have hL := B.2.1
  unfold b_X10_endOf_209
  refine ww_iconst (v := (-1)) hX rfl dX10_endOf_209 ?_
  exact t_X10_endOf_210 B fu  ((-1)) st
def b_X10_endOf_152 (fu : Nat)  (y0 : Int32) (st : St) : Option (Int32 × St) :=
  some (y0, st)
set_option maxHeartbeats 4000000 in
set_option maxRecDepth 100000 in
theorem t_X10_endOf_152 {X : CX} {res : Int32 × St} (B : BI X cX10_endOf RX10 10 1 NN (some .int) res) (fu : Nat)  (y0 : Int32) (st : St) : WW X res NN 152 [] [.int y0] st (b_X10_endOf_152 fu y0 st) := by
  have hX := B.1
  have hL := B.2.1
  unfold b_X10_endOf_152
  exact ww_iret B dX10_endOf_152
def b_X10_endOf_151 (fu : Nat)   (st : St) : Option (Int32 × St) :=
  b_X10_endOf_152 fu  ((-1)) st
set_option maxHeartbeats 4000000 in
set_option maxRecDepth 100000 in
theorem t_X10_endOf_151 {X : CX} {res : Int32 × St} (B : BI X cX10_endOf RX10 10 1 NN (some .int) res) (fu : Nat)   (st : St) : WW X res NN 151 [] [] st (b_X10_endOf_151 fu  st) := by
  have hX := B.1
  have hL := B.2.1
  unfold b_X10_endOf_151
  refine ww_iconst (v := (-1)) hX rfl dX10_endOf_151 ?_
  exact t_X10_endOf_152 B fu  ((-1)) st
def b_X10_endOf_70 (fu : Nat)  (y0 : Int32) (st : St) : Option (Int32 × St) :=
  some (y0, st)
set_option maxHeartbeats 4000000 in
set_option maxRecDepth 100000 in
theorem t_X10_endOf_70 {X : CX} {res : Int32 × St} (B : BI X cX10_endOf RX10 10 1 NN (some .int) res) (fu : Nat)  (y0 : Int32) (st : St) : WW X res NN 70 [] [.int y0] st (b_X10_endOf_70 fu y0 st) := by
  have hX := B.1
  have hL := B.2.1
  unfold b_X10_endOf_70
  exact ww_iret B dX10_endOf_70
def b_X10_endOf_69 (fu : Nat)   (st : St) : Option (Int32 × St) :=
  b_X10_endOf_70 fu  ((-1)) st
set_option maxHeartbeats 4000000 in
set_option maxRecDepth 100000 in
theorem t_X10_endOf_69 {X : CX} {res : Int32 × St} (B : BI X cX10_endOf RX10 10 1 NN (some .int) res) (fu : Nat)   (st : St) : WW X res NN 69 [] [] st (b_X10_endOf_69 fu  st) := by
  have hX := B.1
  have hL := B.2.1
  unfold b_X10_endOf_69
  refine ww_iconst (v := (-1)) hX rfl dX10_endOf_69 ?_
  exact t_X10_endOf_70 B fu  ((-1)) st
def b_X10_endOf_40 (fu : Nat)  (y0 : Int32) (st : St) : Option (Int32 × St) :=
  some (y0, st)
set_option maxHeartbeats 4000000 in
set_option maxRecDepth 100000 in
theorem t_X10_endOf_40 {X : CX} {res : Int32 × St} (B : BI X cX10_endOf RX10 10 1 NN (some .int) res) (fu : Nat)  (y0 : Int32) (st : St) : WW X res NN 40 [] [.int y0] st (b_X10_endOf_40 fu y0 st) := by
  have hX := B.1
  have hL := B.2.1
  unfold b_X10_endOf_40
  exact ww_iret B dX10_endOf_40
def f_X10_endOf (fu : Nat) (th : Nat) (p1 : Int32) (p2 : Int32) (p3 : Int32) (st : St) : Option (Int32 × St) :=
  ck (¬ 51 = 0) <|
  bd (p1 / 51) fun v1 =>
  ck (¬ 51 = 0) <|
  bd (p1 - p1 / 51 * 51) fun v2 =>
  ck (¬ gR st th 11 = 0) <|
  ck ((kd th).1 = 10) <|
  bd (gR st th 11) fun o3 =>
  ck ((kd o3).1 = 100 ∧ inb v1 (kd o3).2) <|
  bd (gI st o3 (ix v1)) fun v4 =>
  if p2 = v4 then (
  if p3 ≤ v2 then (
  b_X10_endOf_40 fu  ((-1)) st)
  else (
  b_X10_endOf_40 fu  (p1 + 1) st))
  else (
  if p2 ≤ v4 then (
  ck (¬ gR st th 12 = 0) <|
  ck ((kd th).1 = 10) <|
  bd (gR st th 12) fun o5 =>
  ck ((kd o5).1 = 100 ∧ inb (((v1 * 2) * 20) + p2) (kd o5).2) <|
  bd (gI st o5 (ix (((v1 * 2) * 20) + p2))) fun v6 =>
  if 20 ≤ v6 then (
  bd (v6 - 20) fun v7 =>
  ck (¬ gR st th 3 = 0) <|
  ck ((kd th).1 = 10) <|
  bd (gR st th 3) fun o8 =>
  ck ((kd o8).1 = 100 ∧ inb v7 (kd o8).2) <|
  bd (v2 - (gI st o8 (ix v7))) fun v9 =>
  if v9 < 0 then (
  b_X10_endOf_209 fu   st)
  else (
  ck (¬ gR st th 6 = 0) <|
  ck ((kd th).1 = 10) <|
  bd (gR st th 6) fun o10 =>
  ck ((kd o10).1 = 100 ∧ inb ((v7 * 51) + v9) (kd o10).2) <|
  if (gI st o10 (ix ((v7 * 51) + v9))) ≤ 0 then (
  b_X10_endOf_209 fu   st)
  else (
  ck (¬ gR st th 0 = 0) <|
  ck ((kd th).1 = 10) <|
  bd (gR st th 0) fun o11 =>
  ck ((kd o11).1 = 100 ∧ inb v7 (kd o11).2) <|
  b_X10_endOf_210 fu  (((gI st o11 (ix v7)) * 51) + v9) st)))
  else (
  ck (¬ gR st th 3 = 0) <|
  ck ((kd th).1 = 10) <|
  bd (gR st th 3) fun o12 =>
  ck ((kd o12).1 = 100 ∧ inb v6 (kd o12).2) <|
  bd (v2 + (gI st o12 (ix v6))) fun v13 =>
  if p3 < v13 then (
  b_X10_endOf_151 fu   st)
  else (
  ck (¬ gR st th 6 = 0) <|
  ck ((kd th).1 = 10) <|
  bd (gR st th 6) fun o14 =>
  ck ((kd o14).1 = 100 ∧ inb ((v6 * 51) + v2) (kd o14).2) <|
  ck (¬ gR st th 2 = 0) <|
  ck ((kd th).1 = 10) <|
  bd (gR st th 2) fun o15 =>
  ck ((kd o15).1 = 100 ∧ inb v6 (kd o15).2) <|
  if (gI st o15 (ix v6)) ≤ (gI st o14 (ix ((v6 * 51) + v2))) then (
  b_X10_endOf_151 fu   st)
  else (
  ck (¬ gR st th 1 = 0) <|
  ck ((kd th).1 = 10) <|
  bd (gR st th 1) fun o16 =>
  ck ((kd o16).1 = 100 ∧ inb v6 (kd o16).2) <|
  b_X10_endOf_152 fu  (((gI st o16 (ix v6)) * 51) + v13) st))))
  else (
  if v2 ≤ 0 then (
  b_X10_endOf_69 fu   st)
  else (
  ck (¬ gR st th 7 = 0) <|
  ck ((kd th).1 = 10) <|
  bd (gR st th 7) fun o17 =>
  ck ((kd o17).1 = 100 ∧ inb (p1 - 1) (kd o17).2) <|
  if (gI st o17 (ix (p1 - 1))) ≤ 0 then (
  b_X10_endOf_69 fu   st)
  else (
  b_X10_endOf_70 fu  (p1 - 1) st))))
set_option maxHeartbeats 4000000 in
set_option maxRecDepth 100000 in
theorem t_X10_endOf {X : CX} {res : Int32 × St} (B : BI X cX10_endOf RX10 10 1 NN (some .int) res) (fu : Nat) (th : Nat) (p1 : Int32) (p2 : Int32) (p3 : Int32) (st : St) : WW X res NN 0 [(0, .ref (x_b X + th)), (1, .int p1), (2, .int p2), (3, .int p3)] [] st (f_X10_endOf fu th p1 p2 p3 st) := by
  have hX := B.1
  have hL := B.2.1
  unfold f_X10_endOf
  refine ww_iload_n hX 1 rfl dX10_endOf_0 rfl ?_
  refine ww_bipush (v := 51) hX rfl dX10_endOf_1 ?_
  refine ww_idiv hX dX10_endOf_3 ?_
  refine ww_bdi (fun v1 => ?_)
  refine ww_istore (lv' := [(4, .int v1), (0, .ref (x_b X + th)), (1, .int p1), (2, .int p2), (3, .int p3)]) hX hL dX10_endOf_4 (by decide) rfl ?_
  refine ww_iload_n hX 2 rfl dX10_endOf_6 rfl ?_
  refine ww_bipush (v := 51) hX rfl dX10_endOf_7 ?_
  refine ww_irem hX dX10_endOf_9 ?_
  refine ww_pc (b := 10) rfl ?_
  refine ww_bdi (fun v2 => ?_)
  refine ww_istore (lv' := [(5, .int v2), (4, .int v1), (0, .ref (x_b X + th)), (1, .int p1), (2, .int p2), (3, .int p3)]) hX hL dX10_endOf_10 (by decide) rfl ?_
  refine ww_aload_n hX 2 rfl dX10_endOf_12 rfl ?_
  refine ww_getR hX f_X10_45 (Or.inr ⟨_, rfl⟩) dX10_endOf_13 ?_
  refine ww_bdR (fun o3 => ?_)
  refine ww_iload hX 1 rfl dX10_endOf_16 ?_
  refine ww_ialdc hX k_iald dX10_endOf_18 ?_
  refine ww_bdi (fun v4 => ?_)
  refine ww_istore (lv' := [(6, .int v4), (5, .int v2), (4, .int v1), (0, .ref (x_b X + th)), (1, .int p1), (2, .int p2), (3, .int p3)]) hX hL dX10_endOf_19 (by decide) rfl ?_
  refine ww_iload_n hX 5 rfl dX10_endOf_21 rfl ?_
  refine ww_iload hX 0 rfl dX10_endOf_22 ?_
  refine ww_pc (b := 24) rfl ?_
  refine ww_icmp_ne (tgt := 41) hX dX10_endOf_24 (by decide) ?_ ?_
  · refine ww_iload_n hX 5 rfl dX10_endOf_41 rfl ?_
    refine ww_iload hX 0 rfl dX10_endOf_42 ?_
    refine ww_icmp_le (tgt := 71) hX dX10_endOf_44 (by decide) ?_ ?_
    · refine ww_aload_n hX 3 rfl dX10_endOf_71 rfl ?_
      refine ww_getR hX f_X10_48 (Or.inr ⟨_, rfl⟩) dX10_endOf_72 ?_
      refine ww_bdR (fun o5 => ?_)
      refine ww_iload hX 2 rfl dX10_endOf_75 ?_
      refine ww_iconst (v := 2) hX rfl dX10_endOf_77 ?_
      refine ww_imul hX dX10_endOf_78 ?_
      refine ww_bipush (v := 20) hX rfl dX10_endOf_79 ?_
      refine ww_imul hX dX10_endOf_81 ?_
      refine ww_pc (b := 82) rfl ?_
      refine ww_iload_n hX 5 rfl dX10_endOf_82 rfl ?_
      refine ww_iadd hX dX10_endOf_83 ?_
      refine ww_ialdc hX k_iald dX10_endOf_84 ?_
      refine ww_bdi (fun v6 => ?_)
      refine ww_istore (lv' := [(7, .int v6), (6, .int v4), (5, .int v2), (4, .int v1), (0, .ref (x_b X + th)), (1, .int p1), (2, .int p2), (3, .int p3)]) hX hL dX10_endOf_85 (by decide) rfl ?_
      refine ww_iload hX 0 rfl dX10_endOf_87 ?_
      refine ww_bipush (v := 20) hX rfl dX10_endOf_89 ?_
      refine ww_icmp_ge (tgt := 153) hX dX10_endOf_91 (by decide) ?_ ?_
      · refine ww_iload hX 0 rfl dX10_endOf_153 ?_
        refine ww_bipush (v := 20) hX rfl dX10_endOf_155 ?_
        refine ww_isub hX dX10_endOf_157 ?_
        refine ww_bdi (fun v7 => ?_)
        refine ww_istore (lv' := [(8, .int v7), (7, .int v6), (6, .int v4), (5, .int v2), (4, .int v1), (0, .ref (x_b X + th)), (1, .int p1), (2, .int p2), (3, .int p3)]) hX hL dX10_endOf_158 (by decide) rfl ?_
        refine ww_iload hX 3 rfl dX10_endOf_160 ?_
        refine ww_aload_n hX 5 rfl dX10_endOf_162 rfl ?_
        refine ww_getR hX f_X10_21 (Or.inr ⟨_, rfl⟩) dX10_endOf_163 ?_
        refine ww_bdR (fun o8 => ?_)
        refine ww_pc (b := 166) rfl ?_
        refine ww_iload hX 0 rfl dX10_endOf_166 ?_
        refine ww_ialdc hX k_iald dX10_endOf_168 ?_
        refine ww_isub hX dX10_endOf_169 ?_
        refine ww_bdi (fun v9 => ?_)
        refine ww_istore (lv' := [(9, .int v9), (8, .int v7), (7, .int v6), (6, .int v4), (5, .int v2), (4, .int v1), (0, .ref (x_b X + th)), (1, .int p1), (2, .int p2), (3, .int p3)]) hX hL dX10_endOf_170 (by decide) rfl ?_
        refine ww_iload hX 0 rfl dX10_endOf_172 ?_
        refine ww_if_lt (tgt := 209) hX dX10_endOf_174 (by decide) ?_ ?_
        · exact ww_sub [] rfl (t_X10_endOf_209 B fu   st)
        · refine ww_aload_n hX 6 rfl dX10_endOf_177 rfl ?_
          refine ww_getR hX f_X10_30 (Or.inr ⟨_, rfl⟩) dX10_endOf_178 ?_
          refine ww_bdR (fun o10 => ?_)
          refine ww_iload hX 1 rfl dX10_endOf_181 ?_
          refine ww_bipush (v := 51) hX rfl dX10_endOf_183 ?_
          refine ww_imul hX dX10_endOf_185 ?_
          refine ww_iload hX 0 rfl dX10_endOf_186 ?_
          refine ww_iadd hX dX10_endOf_188 ?_
          refine ww_pc (b := 189) rfl ?_
          refine ww_ialdc hX k_iald dX10_endOf_189 ?_
          refine ww_if_le (tgt := 209) hX dX10_endOf_190 (by decide) ?_ ?_
          · exact ww_sub [] rfl (t_X10_endOf_209 B fu   st)
          · refine ww_aload_n hX 6 rfl dX10_endOf_193 rfl ?_
            refine ww_getR hX f_X10_11 (Or.inr ⟨_, rfl⟩) dX10_endOf_194 ?_
            refine ww_bdR (fun o11 => ?_)
            refine ww_iload hX 1 rfl dX10_endOf_197 ?_
            refine ww_ialdc hX k_iald dX10_endOf_199 ?_
            refine ww_bipush (v := 51) hX rfl dX10_endOf_200 ?_
            refine ww_imul hX dX10_endOf_202 ?_
            refine ww_iload hX 0 rfl dX10_endOf_203 ?_
            refine ww_pc (b := 205) rfl ?_
            refine ww_iadd hX dX10_endOf_205 ?_
            refine ww_goto (tgt := 210) hX dX10_endOf_206 (by decide) ?_
            exact ww_sub [] rfl (t_X10_endOf_210 B fu  (((gI st o11 (ix v7)) * 51) + v9) st)
      · refine ww_iload hX 2 rfl dX10_endOf_94 ?_
        refine ww_aload_n hX 4 rfl dX10_endOf_96 rfl ?_
        refine ww_getR hX f_X10_21 (Or.inr ⟨_, rfl⟩) dX10_endOf_97 ?_
        refine ww_bdR (fun o12 => ?_)
        refine ww_iload hX 0 rfl dX10_endOf_100 ?_
        refine ww_ialdc hX k_iald dX10_endOf_102 ?_
        refine ww_iadd hX dX10_endOf_103 ?_
        refine ww_bdi (fun v13 => ?_)
        refine ww_istore (lv' := [(8, .int v13), (7, .int v6), (6, .int v4), (5, .int v2), (4, .int v1), (0, .ref (x_b X + th)), (1, .int p1), (2, .int p2), (3, .int p3)]) hX hL dX10_endOf_104 (by decide) rfl ?_
        refine ww_pc (b := 106) rfl ?_
        refine ww_iload hX 0 rfl dX10_endOf_106 ?_
        refine ww_iload_n hX 8 rfl dX10_endOf_108 rfl ?_
        refine ww_icmp_gt (tgt := 151) hX dX10_endOf_109 (by decide) ?_ ?_
        · exact ww_sub [] rfl (t_X10_endOf_151 B fu   st)
        · refine ww_aload_n hX 5 rfl dX10_endOf_112 rfl ?_
          refine ww_getR hX f_X10_30 (Or.inr ⟨_, rfl⟩) dX10_endOf_113 ?_
          refine ww_bdR (fun o14 => ?_)
          refine ww_iload hX 1 rfl dX10_endOf_116 ?_
          refine ww_bipush (v := 51) hX rfl dX10_endOf_118 ?_
          refine ww_imul hX dX10_endOf_120 ?_
          refine ww_iload hX 3 rfl dX10_endOf_121 ?_
          refine ww_iadd hX dX10_endOf_123 ?_
          refine ww_pc (b := 124) rfl ?_
          refine ww_ialdc hX k_iald dX10_endOf_124 ?_
          refine ww_aload_n hX 5 rfl dX10_endOf_125 rfl ?_
          refine ww_getR hX f_X10_18 (Or.inr ⟨_, rfl⟩) dX10_endOf_126 ?_
          refine ww_bdR (fun o15 => ?_)
          refine ww_iload hX 1 rfl dX10_endOf_129 ?_
          refine ww_ialdc hX k_iald dX10_endOf_131 ?_
          refine ww_icmp_ge (tgt := 151) hX dX10_endOf_132 (by decide) ?_ ?_
          · exact ww_sub [] rfl (t_X10_endOf_151 B fu   st)
          · refine ww_aload_n hX 5 rfl dX10_endOf_135 rfl ?_
            refine ww_getR hX f_X10_15 (Or.inr ⟨_, rfl⟩) dX10_endOf_136 ?_
            refine ww_bdR (fun o16 => ?_)
            refine ww_iload hX 1 rfl dX10_endOf_139 ?_
            refine ww_ialdc hX k_iald dX10_endOf_141 ?_
            refine ww_bipush (v := 51) hX rfl dX10_endOf_142 ?_
            refine ww_imul hX dX10_endOf_144 ?_
            refine ww_iload hX 0 rfl dX10_endOf_145 ?_
            refine ww_pc (b := 147) rfl ?_
            refine ww_iadd hX dX10_endOf_147 ?_
            refine ww_goto (tgt := 152) hX dX10_endOf_148 (by decide) ?_
            exact ww_sub [] rfl (t_X10_endOf_152 B fu  (((gI st o16 (ix v6)) * 51) + v13) st)
    · refine ww_iload hX 1 rfl dX10_endOf_47 ?_
      refine ww_if_le (tgt := 69) hX dX10_endOf_49 (by decide) ?_ ?_
      · exact ww_sub [] rfl (t_X10_endOf_69 B fu   st)
      · refine ww_aload_n hX 3 rfl dX10_endOf_52 rfl ?_
        refine ww_getR hX f_X10_33 (Or.inr ⟨_, rfl⟩) dX10_endOf_53 ?_
        refine ww_bdR (fun o17 => ?_)
        refine ww_iload_n hX 4 rfl dX10_endOf_56 rfl ?_
        refine ww_iconst (v := 1) hX rfl dX10_endOf_57 ?_
        refine ww_isub hX dX10_endOf_58 ?_
        refine ww_ialdc hX k_iald dX10_endOf_59 ?_
        refine ww_if_le (tgt := 69) hX dX10_endOf_60 (by decide) ?_ ?_
        · exact ww_sub [] rfl (t_X10_endOf_69 B fu   st)
        · refine ww_iload_n hX 4 rfl dX10_endOf_63 rfl ?_
          refine ww_iconst (v := 1) hX rfl dX10_endOf_64 ?_
          refine ww_isub hX dX10_endOf_65 ?_
          refine ww_goto (tgt := 70) hX dX10_endOf_66 (by decide) ?_
          exact ww_sub [] rfl (t_X10_endOf_70 B fu  (p1 - 1) st)
  · refine ww_iload hX 1 rfl dX10_endOf_27 ?_
    refine ww_iload_n hX 6 rfl dX10_endOf_29 rfl ?_
    refine ww_icmp_ge (tgt := 39) hX dX10_endOf_30 (by decide) ?_ ?_
    · refine ww_iconst (v := (-1)) hX rfl dX10_endOf_39 ?_
      exact ww_sub [] rfl (t_X10_endOf_40 B fu  ((-1)) st)
    · refine ww_iload_n hX 4 rfl dX10_endOf_33 rfl ?_
      refine ww_iconst (v := 1) hX rfl dX10_endOf_34 ?_
      refine ww_iadd hX dX10_endOf_35 ?_
      refine ww_goto (tgt := 40) hX dX10_endOf_36 (by decide) ?_
      exact ww_sub [] rfl (t_X10_endOf_40 B fu  (p1 + 1) st)
theorem c_X10_endOf (G : GX) (l : Launch) (fu : Nat) (th : Nat) (p1 : Int32) (p2 : Int32) (p3 : Int32) (st : St) : MI G NN l yX10_endOf cX10_endOf 10 (some .int) 1 [.ref (G.2.2.1 + th), .int p1, .int p2, .int p3] st (f_X10_endOf fu th p1 p2 p3 st) := mkI (by decide) (Nat.le_of_ble_eq_true rfl) (fun X res hl hG B => by subst hl; subst hG; exact t_X10_endOf B fu th p1 p2 p3 st)
/-! StageHouse$Ways.layer(I)Z -/
def b_X10_layer_186 (fu : Nat) (k_66 : Nat → Int32 → Int32 → Int32 → Int32 → St → Option (Int32 × St)) (x0 : Nat) (x1 : Int32) (x2 : Int32) (x3 : Int32) (x4 : Int32)  (st : St) : Option (Int32 × St) :=
  bd (x4 + 1) fun v7 =>
  k_66 x0 x1 x2 x3 v7  st
set_option maxHeartbeats 4000000 in
set_option maxRecDepth 100000 in
theorem t_X10_layer_186 {X : CX} {res : Int32 × St} (B : BI X cX10_layer RX10 9 2 NN (some .boolean) res) (fu : Nat) (k_66 : Nat → Int32 → Int32 → Int32 → Int32 → St → Option (Int32 × St)) (h_66 : ∀ (x0 : Nat) (x1 : Int32) (x2 : Int32) (x3 : Int32) (x4 : Int32)  (st : St), WW X res NN 66 [(0, .ref (x_b X + x0)), (1, .int x1), (2, .int x2), (3, .int x3), (4, .int x4)] [] st (k_66 x0 x1 x2 x3 x4 st)) (x0 : Nat) (x1 : Int32) (x2 : Int32) (x3 : Int32) (x4 : Int32)  (st : St) : WW X res NN 186 [(0, .ref (x_b X + x0)), (1, .int x1), (2, .int x2), (3, .int x3), (4, .int x4)] [] st (b_X10_layer_186 fu k_66 x0 x1 x2 x3 x4 st) := by
  have hX := B.1
  have hL := B.2.1
  unfold b_X10_layer_186
  refine ww_iincb (lv' := fun v7 => [(4, .int v7), (0, .ref (x_b X + x0)), (1, .int x1), (2, .int x2), (3, .int x3)]) (c := 1) hX hL 4 rfl dX10_layer_186 rfl (by decide) (fun _ => rfl) (fun v7 => ?_)
  refine ww_goto (tgt := 66) hX dX10_layer_189 (by decide) ?_
  exact ww_sub [1, 2, 3, 4, 0] rfl (h_66 x0 x1 x2 x3 v7  st)
def b_X10_layer_180 (fu : Nat) (k_66 : Nat → Int32 → Int32 → Int32 → Int32 → St → Option (Int32 × St)) (k_113 : Nat → Int32 → Int32 → Int32 → Int32 → Int32 → Int32 → Int32 → St → Option (Int32 × St)) (x0 : Nat) (x1 : Int32) (x2 : Int32) (x3 : Int32) (x4 : Int32) (x5 : Int32) (x6 : Int32) (x7 : Int32)  (st : St) : Option (Int32 × St) :=
  bd (x7 + 1) fun v10 =>
  k_113 x0 x1 x2 x3 x4 x5 x6 v10  st
set_option maxHeartbeats 4000000 in
set_option maxRecDepth 100000 in
theorem t_X10_layer_180 {X : CX} {res : Int32 × St} (B : BI X cX10_layer RX10 9 2 NN (some .boolean) res) (fu : Nat) (k_66 : Nat → Int32 → Int32 → Int32 → Int32 → St → Option (Int32 × St)) (k_113 : Nat → Int32 → Int32 → Int32 → Int32 → Int32 → Int32 → Int32 → St → Option (Int32 × St)) (h_66 : ∀ (x0 : Nat) (x1 : Int32) (x2 : Int32) (x3 : Int32) (x4 : Int32)  (st : St), WW X res NN 66 [(0, .ref (x_b X + x0)), (1, .int x1), (2, .int x2), (3, .int x3), (4, .int x4)] [] st (k_66 x0 x1 x2 x3 x4 st)) (h_113 : ∀ (x0 : Nat) (x1 : Int32) (x2 : Int32) (x3 : Int32) (x4 : Int32) (x5 : Int32) (x6 : Int32) (x7 : Int32)  (st : St), WW X res NN 113 [(0, .ref (x_b X + x0)), (1, .int x1), (2, .int x2), (3, .int x3), (4, .int x4), (5, .int x5), (6, .int x6), (7, .int x7)] [] st (k_113 x0 x1 x2 x3 x4 x5 x6 x7 st)) (x0 : Nat) (x1 : Int32) (x2 : Int32) (x3 : Int32) (x4 : Int32) (x5 : Int32) (x6 : Int32) (x7 : Int32)  (st : St) : WW X res NN 180 [(0, .ref (x_b X + x0)), (1, .int x1), (2, .int x2), (3, .int x3), (4, .int x4), (5, .int x5), (6, .int x6), (7, .int x7)] [] st (b_X10_layer_180 fu k_66 k_113 x0 x1 x2 x3 x4 x5 x6 x7 st) := by
  have hX := B.1
  have hL := B.2.1
  unfold b_X10_layer_180
  refine ww_iincb (lv' := fun v10 => [(7, .int v10), (0, .ref (x_b X + x0)), (1, .int x1), (2, .int x2), (3, .int x3), (4, .int x4), (5, .int x5), (6, .int x6)]) (c := 1) hX hL 7 rfl dX10_layer_180 rfl (by decide) (fun _ => rfl) (fun v10 => ?_)
  refine ww_goto (tgt := 113) hX dX10_layer_183 (by decide) ?_
  exact ww_sub [1, 2, 3, 4, 5, 6, 7, 0] rfl (h_113 x0 x1 x2 x3 x4 x5 x6 v10  st)
def b_X10_layer_113_b (fu : Nat) (k_66 : Nat → Int32 → Int32 → Int32 → Int32 → St → Option (Int32 × St)) (k_113 : Nat → Int32 → Int32 → Int32 → Int32 → Int32 → Int32 → Int32 → St → Option (Int32 × St)) (x0 : Nat) (x1 : Int32) (x2 : Int32) (x3 : Int32) (x4 : Int32) (x5 : Int32) (x6 : Int32) (x7 : Int32)  (st : St) : Option (Int32 × St) :=
  if x6 ≤ x7 then (
  b_X10_layer_186 fu k_66 x0 x1 x2 x3 x4  st)
  else (
  ck ((kd x0).1 = 10) <|
  ca (f_X10_endOf fu x0 x5 x7 x1 st) fun r8 s9 =>
  if r8 < 0 then (
  b_X10_layer_180 fu k_66 k_113 x0 x1 x2 x3 x4 x5 x6 x7  s9)
  else (
  ck (¬ gR s9 x0 8 = 0) <|
  ck ((kd x0).1 = 10) <|
  bd (gR s9 x0 8) fun o11 =>
  ck ((kd o11).1 = 100 ∧ inb r8 (kd o11).2) <|
  if 0 ≤ (gI s9 o11 (ix r8)) then (
  b_X10_layer_180 fu k_66 k_113 x0 x1 x2 x3 x4 x5 x6 x7  s9)
  else (
  if 612 ≤ x3 then (
  b_X10_layer_180 fu k_66 k_113 x0 x1 x2 x3 x4 x5 x6 x7  s9)
  else (
  ck (¬ gR s9 x0 8 = 0) <|
  ck ((kd x0).1 = 10) <|
  bd (gR s9 x0 8) fun o12 =>
  ck (¬ gR s9 x0 8 = 0) <|
  ck ((kd x0).1 = 10) <|
  bd (gR s9 x0 8) fun o13 =>
  ck ((kd o13).1 = 100 ∧ inb x5 (kd o13).2) <|
  ck ((kd o12).1 = 100 ∧ inb r8 (kd o12).2) <|
  bd (sI s9 o12 (ix r8) ((gI s9 o13 (ix x5)) + 1)) fun s14 =>
  ck (¬ gR s14 x0 10 = 0) <|
  ck ((kd x0).1 = 10) <|
  bd (gR s14 x0 10) fun o15 =>
  ck ((kd o15).1 = 100 ∧ inb x3 (kd o15).2) <|
  bd (sI s14 o15 (ix x3) r8) fun s16 =>
  bd (x3 + 1) fun v17 =>
  b_X10_layer_180 fu k_66 k_113 x0 x1 x2 v17 x4 x5 x6 x7  s16))))
set_option maxHeartbeats 4000000 in
set_option maxRecDepth 100000 in
theorem t_X10_layer_113_b {X : CX} {res : Int32 × St} (B : BI X cX10_layer RX10 9 2 NN (some .boolean) res) (fu : Nat) (k_66 : Nat → Int32 → Int32 → Int32 → Int32 → St → Option (Int32 × St)) (k_113 : Nat → Int32 → Int32 → Int32 → Int32 → Int32 → Int32 → Int32 → St → Option (Int32 × St)) (h_66 : ∀ (x0 : Nat) (x1 : Int32) (x2 : Int32) (x3 : Int32) (x4 : Int32)  (st : St), WW X res NN 66 [(0, .ref (x_b X + x0)), (1, .int x1), (2, .int x2), (3, .int x3), (4, .int x4)] [] st (k_66 x0 x1 x2 x3 x4 st)) (h_113 : ∀ (x0 : Nat) (x1 : Int32) (x2 : Int32) (x3 : Int32) (x4 : Int32) (x5 : Int32) (x6 : Int32) (x7 : Int32)  (st : St), WW X res NN 113 [(0, .ref (x_b X + x0)), (1, .int x1), (2, .int x2), (3, .int x3), (4, .int x4), (5, .int x5), (6, .int x6), (7, .int x7)] [] st (k_113 x0 x1 x2 x3 x4 x5 x6 x7 st)) (x0 : Nat) (x1 : Int32) (x2 : Int32) (x3 : Int32) (x4 : Int32) (x5 : Int32) (x6 : Int32) (x7 : Int32)  (st : St) : WW X res NN 113 [(0, .ref (x_b X + x0)), (1, .int x1), (2, .int x2), (3, .int x3), (4, .int x4), (5, .int x5), (6, .int x6), (7, .int x7)] [] st (b_X10_layer_113_b fu k_66 k_113 x0 x1 x2 x3 x4 x5 x6 x7 st) := by
  have hX := B.1
  have hL := B.2.1
  unfold b_X10_layer_113_b
  refine ww_iload hX 7 rfl dX10_layer_113 ?_
  refine ww_iload hX 6 rfl dX10_layer_115 ?_
  refine ww_icmp_ge (tgt := 186) hX dX10_layer_117 (by decide) ?_ ?_
  · exact ww_sub [0, 1, 2, 3, 4] rfl (t_X10_layer_186 B fu k_66 h_66 x0 x1 x2 x3 x4  st)
  · refine ww_aload_n hX 0 rfl dX10_layer_120 rfl ?_
    refine ww_iload hX 5 rfl dX10_layer_121 ?_
    refine ww_iload hX 7 rfl dX10_layer_123 ?_
    refine ww_iload_n hX 1 rfl dX10_layer_125 rfl ?_
    refine ww_callVI (As := [.int x5, .int x7, .int x1]) (rest := []) (o := x0) hX (Rk.of B.2.2.1 B.2.2.2.1 (by decide) (by decide)) g_X10_97 g_X10_97.in (fun _ => c_X10_endOf (x_G X) (x_l X) fu x0 x5 x7 x1 st) rfl rfl (Nat.le_of_ble_eq_true rfl) dX10_layer_126 (fun r8 s9 => ?_)
    refine ww_istore (lv' := [(8, .int r8), (0, .ref (x_b X + x0)), (1, .int x1), (2, .int x2), (3, .int x3), (4, .int x4), (5, .int x5), (6, .int x6), (7, .int x7)]) hX hL dX10_layer_129 (by decide) rfl ?_
    refine ww_iload hX 0 rfl dX10_layer_131 ?_
    refine ww_pc (b := 133) rfl ?_
    refine ww_if_lt (tgt := 180) hX dX10_layer_133 (by decide) ?_ ?_
    · exact ww_sub [1, 2, 3, 4, 5, 6, 7, 8] rfl (t_X10_layer_180 B fu k_66 k_113 h_66 h_113 x0 x1 x2 x3 x4 x5 x6 x7  s9)
    · refine ww_aload_n hX 1 rfl dX10_layer_136 rfl ?_
      refine ww_getR hX f_X10_36 (Or.inr ⟨_, rfl⟩) dX10_layer_137 ?_
      refine ww_bdR (fun o11 => ?_)
      refine ww_iload hX 0 rfl dX10_layer_140 ?_
      refine ww_ialdc hX k_iald dX10_layer_142 ?_
      refine ww_if_ge (tgt := 180) hX dX10_layer_143 (by decide) ?_ ?_
      · exact ww_sub [1, 2, 3, 4, 5, 6, 7, 8] rfl (t_X10_layer_180 B fu k_66 k_113 h_66 h_113 x0 x1 x2 x3 x4 x5 x6 x7  s9)
      · refine ww_iload_n hX 4 rfl dX10_layer_146 rfl ?_
        refine ww_sipush (v := 612) hX rfl dX10_layer_147 ?_
        refine ww_icmp_ge (tgt := 180) hX dX10_layer_150 (by decide) ?_ ?_
        · exact ww_sub [1, 2, 3, 4, 5, 6, 7, 8] rfl (t_X10_layer_180 B fu k_66 k_113 h_66 h_113 x0 x1 x2 x3 x4 x5 x6 x7  s9)
        · refine ww_aload_n hX 1 rfl dX10_layer_153 rfl ?_
          refine ww_getR hX f_X10_36 (Or.inr ⟨_, rfl⟩) dX10_layer_154 ?_
          refine ww_bdR (fun o12 => ?_)
          refine ww_iload hX 0 rfl dX10_layer_157 ?_
          refine ww_aload_n hX 1 rfl dX10_layer_159 rfl ?_
          refine ww_getR hX f_X10_36 (Or.inr ⟨_, rfl⟩) dX10_layer_160 ?_
          refine ww_bdR (fun o13 => ?_)
          refine ww_iload hX 6 rfl dX10_layer_163 ?_
          refine ww_ialdc hX k_iald dX10_layer_165 ?_
          refine ww_pc (b := 166) rfl ?_
          refine ww_iconst (v := 1) hX rfl dX10_layer_166 ?_
          refine ww_iadd hX dX10_layer_167 ?_
          refine ww_iastc hX k_iast dX10_layer_168 ?_
          refine ww_bds (fun s14 => ?_)
          refine ww_aload_n hX 1 rfl dX10_layer_169 rfl ?_
          refine ww_getR hX f_X10_42 (Or.inr ⟨_, rfl⟩) dX10_layer_170 ?_
          refine ww_bdR (fun o15 => ?_)
          refine ww_iload_n hX 4 rfl dX10_layer_173 rfl ?_
          refine ww_iload hX 0 rfl dX10_layer_174 ?_
          refine ww_iastc hX k_iast dX10_layer_176 ?_
          refine ww_bds (fun s16 => ?_)
          refine ww_pc (b := 177) rfl ?_
          refine ww_iincb (lv' := fun v17 => [(3, .int v17), (8, .int r8), (0, .ref (x_b X + x0)), (1, .int x1), (2, .int x2), (4, .int x4), (5, .int x5), (6, .int x6), (7, .int x7)]) (c := 1) hX hL 4 rfl dX10_layer_177 rfl (by decide) (fun _ => rfl) (fun v17 => ?_)
          exact ww_sub [2, 3, 4, 0, 5, 6, 7, 8] rfl (t_X10_layer_180 B fu k_66 k_113 h_66 h_113 x0 x1 x2 v17 x4 x5 x6 x7  s16)
def b_X10_layer_113 (fu : Nat) (k_66 : Nat → Int32 → Int32 → Int32 → Int32 → St → Option (Int32 × St)) : Nat → Nat → Int32 → Int32 → Int32 → Int32 → Int32 → Int32 → Int32 → St → Option (Int32 × St)
  | 0, _, _, _, _, _, _, _, _, _ => none
  | i + 1, x0, x1, x2, x3, x4, x5, x6, x7, st => b_X10_layer_113_b fu k_66 (b_X10_layer_113 fu k_66 i) x0 x1 x2 x3 x4 x5 x6 x7 st
theorem t_X10_layer_113 {X : CX} {res : Int32 × St} (B : BI X cX10_layer RX10 9 2 NN (some .boolean) res) (fu : Nat) (k_66 : Nat → Int32 → Int32 → Int32 → Int32 → St → Option (Int32 × St)) (h_66 : ∀ (x0 : Nat) (x1 : Int32) (x2 : Int32) (x3 : Int32) (x4 : Int32)  (st : St), WW X res NN 66 [(0, .ref (x_b X + x0)), (1, .int x1), (2, .int x2), (3, .int x3), (4, .int x4)] [] st (k_66 x0 x1 x2 x3 x4 st)) : ∀ (i : Nat) (x0 : Nat) (x1 : Int32) (x2 : Int32) (x3 : Int32) (x4 : Int32) (x5 : Int32) (x6 : Int32) (x7 : Int32)  (st : St), WW X res NN 113 [(0, .ref (x_b X + x0)), (1, .int x1), (2, .int x2), (3, .int x3), (4, .int x4), (5, .int x5), (6, .int x6), (7, .int x7)] [] st (b_X10_layer_113 fu k_66 i x0 x1 x2 x3 x4 x5 x6 x7 st) := by
  intro i
  induction i with
  | zero => intro x0 x1 x2 x3 x4 x5 x6 x7 st; exact ww_none
  | succ i ih => intro x0 x1 x2 x3 x4 x5 x6 x7 st; exact t_X10_layer_113_b B fu k_66 (b_X10_layer_113 fu k_66 i) h_66 ih x0 x1 x2 x3 x4 x5 x6 x7 st
def b_X10_layer_66_b (fu : Nat) (k_66 : Nat → Int32 → Int32 → Int32 → Int32 → St → Option (Int32 × St)) (x0 : Nat) (x1 : Int32) (x2 : Int32) (x3 : Int32) (x4 : Int32)  (st : St) : Option (Int32 × St) :=
  if x3 ≤ x4 then (
  ck (isb x2) (some (x2, st)))
  else (
  ck (¬ gR st x0 10 = 0) <|
  ck ((kd x0).1 = 10) <|
  bd (gR st x0 10) fun o3 =>
  ck ((kd o3).1 = 100 ∧ inb x4 (kd o3).2) <|
  bd (gI st o3 (ix x4)) fun v4 =>
  ck (¬ 51 = 0) <|
  if (v4 / 51) = 11 then (
  b_X10_layer_186 fu k_66 x0 x1 1 x3 x4  st)
  else (
  ck (¬ gR st x0 11 = 0) <|
  ck ((kd x0).1 = 10) <|
  bd (gR st x0 11) fun o5 =>
  ck (¬ 51 = 0) <|
  ck ((kd o5).1 = 100 ∧ inb (v4 / 51) (kd o5).2) <|
  bd ((gI st o5 (ix (v4 / 51))) + 2) fun v6 =>
  b_X10_layer_113 fu k_66 fu x0 x1 x2 x3 x4 v4 v6 0  st))
set_option maxHeartbeats 4000000 in
set_option maxRecDepth 100000 in
theorem t_X10_layer_66_b {X : CX} {res : Int32 × St} (B : BI X cX10_layer RX10 9 2 NN (some .boolean) res) (fu : Nat) (k_66 : Nat → Int32 → Int32 → Int32 → Int32 → St → Option (Int32 × St)) (h_66 : ∀ (x0 : Nat) (x1 : Int32) (x2 : Int32) (x3 : Int32) (x4 : Int32)  (st : St), WW X res NN 66 [(0, .ref (x_b X + x0)), (1, .int x1), (2, .int x2), (3, .int x3), (4, .int x4)] [] st (k_66 x0 x1 x2 x3 x4 st)) (x0 : Nat) (x1 : Int32) (x2 : Int32) (x3 : Int32) (x4 : Int32)  (st : St) : WW X res NN 66 [(0, .ref (x_b X + x0)), (1, .int x1), (2, .int x2), (3, .int x3), (4, .int x4)] [] st (b_X10_layer_66_b fu k_66 x0 x1 x2 x3 x4 st) := by
  have hX := B.1
  have hL := B.2.1
  unfold b_X10_layer_66_b
  refine ww_iload hX 4 rfl dX10_layer_66 ?_
  refine ww_iload_n hX 3 rfl dX10_layer_68 rfl ?_
  refine ww_icmp_ge (tgt := 192) hX dX10_layer_69 (by decide) ?_ ?_
  · refine ww_iload_n hX 2 rfl dX10_layer_192 rfl ?_
    exact ww_zret B dX10_layer_193
  · refine ww_aload_n hX 0 rfl dX10_layer_72 rfl ?_
    refine ww_getR hX f_X10_42 (Or.inr ⟨_, rfl⟩) dX10_layer_73 ?_
    refine ww_bdR (fun o3 => ?_)
    refine ww_iload hX 4 rfl dX10_layer_76 ?_
    refine ww_ialdc hX k_iald dX10_layer_78 ?_
    refine ww_bdi (fun v4 => ?_)
    refine ww_istore (lv' := [(5, .int v4), (0, .ref (x_b X + x0)), (1, .int x1), (2, .int x2), (3, .int x3), (4, .int x4)]) hX hL dX10_layer_79 (by decide) rfl ?_
    refine ww_iload hX 0 rfl dX10_layer_81 ?_
    refine ww_bipush (v := 51) hX rfl dX10_layer_83 ?_
    refine ww_pc (b := 85) rfl ?_
    refine ww_idiv hX dX10_layer_85 ?_
    refine ww_bipush (v := 11) hX rfl dX10_layer_86 ?_
    refine ww_icmp_ne (tgt := 96) hX dX10_layer_88 (by decide) ?_ ?_
    · refine ww_aload_n hX 1 rfl dX10_layer_96 rfl ?_
      refine ww_getR hX f_X10_45 (Or.inr ⟨_, rfl⟩) dX10_layer_97 ?_
      refine ww_bdR (fun o5 => ?_)
      refine ww_iload hX 0 rfl dX10_layer_100 ?_
      refine ww_bipush (v := 51) hX rfl dX10_layer_102 ?_
      refine ww_idiv hX dX10_layer_104 ?_
      refine ww_ialdc hX k_iald dX10_layer_105 ?_
      refine ww_iconst (v := 2) hX rfl dX10_layer_106 ?_
      refine ww_pc (b := 107) rfl ?_
      refine ww_iadd hX dX10_layer_107 ?_
      refine ww_bdi (fun v6 => ?_)
      refine ww_istore (lv' := [(6, .int v6), (5, .int v4), (0, .ref (x_b X + x0)), (1, .int x1), (2, .int x2), (3, .int x3), (4, .int x4)]) hX hL dX10_layer_108 (by decide) rfl ?_
      refine ww_iconst (v := 0) hX rfl dX10_layer_110 ?_
      refine ww_istore (lv' := [(7, .int 0), (6, .int v6), (5, .int v4), (0, .ref (x_b X + x0)), (1, .int x1), (2, .int x2), (3, .int x3), (4, .int x4)]) hX hL dX10_layer_111 (by decide) rfl ?_
      exact ww_sub [3, 4, 5, 6, 7, 2, 1, 0] rfl (t_X10_layer_113 B fu k_66 h_66 fu x0 x1 x2 x3 x4 v4 v6 0  st)
    · refine ww_iconst (v := 1) hX rfl dX10_layer_91 ?_
      refine ww_istore_n (lv' := [(2, .int 1), (5, .int v4), (0, .ref (x_b X + x0)), (1, .int x1), (3, .int x3), (4, .int x4)]) hX hL dX10_layer_92 rfl (by decide) rfl ?_
      refine ww_goto (tgt := 186) hX dX10_layer_93 (by decide) ?_
      exact ww_sub [2, 3, 0, 4, 5] rfl (t_X10_layer_186 B fu k_66 h_66 x0 x1 1 x3 x4  st)
def b_X10_layer_66 (fu : Nat) : Nat → Nat → Int32 → Int32 → Int32 → Int32 → St → Option (Int32 × St)
  | 0, _, _, _, _, _, _ => none
  | i + 1, x0, x1, x2, x3, x4, st => b_X10_layer_66_b fu (b_X10_layer_66 fu i) x0 x1 x2 x3 x4 st
theorem t_X10_layer_66 {X : CX} {res : Int32 × St} (B : BI X cX10_layer RX10 9 2 NN (some .boolean) res) (fu : Nat) : ∀ (i : Nat) (x0 : Nat) (x1 : Int32) (x2 : Int32) (x3 : Int32) (x4 : Int32)  (st : St), WW X res NN 66 [(0, .ref (x_b X + x0)), (1, .int x1), (2, .int x2), (3, .int x3), (4, .int x4)] [] st (b_X10_layer_66 fu i x0 x1 x2 x3 x4 st) := by
  intro i
  induction i with
  | zero => intro x0 x1 x2 x3 x4 st; exact ww_none
  | succ i ih => intro x0 x1 x2 x3 x4 st; exact t_X10_layer_66_b B fu (b_X10_layer_66 fu i) ih x0 x1 x2 x3 x4 st
def b_X10_layer_57 (fu : Nat) (k_15 : Nat → Int32 → Int32 → Int32 → Int32 → St → Option (Int32 × St)) (x0 : Nat) (x1 : Int32) (x2 : Int32) (x3 : Int32) (x4 : Int32)  (st : St) : Option (Int32 × St) :=
  bd (x4 + 1) fun v19 =>
  k_15 x0 x1 x2 x3 v19  st
set_option maxHeartbeats 4000000 in
set_option maxRecDepth 100000 in
theorem t_X10_layer_57 {X : CX} {res : Int32 × St} (B : BI X cX10_layer RX10 9 2 NN (some .boolean) res) (fu : Nat) (k_15 : Nat → Int32 → Int32 → Int32 → Int32 → St → Option (Int32 × St)) (h_15 : ∀ (x0 : Nat) (x1 : Int32) (x2 : Int32) (x3 : Int32) (x4 : Int32)  (st : St), WW X res NN 15 [(0, .ref (x_b X + x0)), (1, .int x1), (2, .int x2), (3, .int x3), (4, .int x4)] [] st (k_15 x0 x1 x2 x3 x4 st)) (x0 : Nat) (x1 : Int32) (x2 : Int32) (x3 : Int32) (x4 : Int32)  (st : St) : WW X res NN 57 [(0, .ref (x_b X + x0)), (1, .int x1), (2, .int x2), (3, .int x3), (4, .int x4)] [] st (b_X10_layer_57 fu k_15 x0 x1 x2 x3 x4 st) := by
  have hX := B.1
  have hL := B.2.1
  unfold b_X10_layer_57
  refine ww_iincb (lv' := fun v19 => [(4, .int v19), (0, .ref (x_b X + x0)), (1, .int x1), (2, .int x2), (3, .int x3)]) (c := 1) hX hL 4 rfl dX10_layer_57 rfl (by decide) (fun _ => rfl) (fun v19 => ?_)
  refine ww_goto (tgt := 15) hX dX10_layer_60 (by decide) ?_
  exact ww_sub [1, 2, 3, 4, 0] rfl (h_15 x0 x1 x2 x3 v19  st)
def b_X10_layer_15_b (fu : Nat) (k_15 : Nat → Int32 → Int32 → Int32 → Int32 → St → Option (Int32 × St)) (x0 : Nat) (x1 : Int32) (x2 : Int32) (x3 : Int32) (x4 : Int32)  (st : St) : Option (Int32 × St) :=
  if 11 ≤ x4 then (
  b_X10_layer_66 fu fu x0 x1 x2 x3 0  st)
  else (
  ck (¬ gR st x0 5 = 0) <|
  ck ((kd x0).1 = 10) <|
  bd (gR st x0 5) fun o18 =>
  ck ((kd o18).1 = 100 ∧ inb x4 (kd o18).2) <|
  if (gI st o18 (ix x4)) ≤ 0 then (
  b_X10_layer_57 fu k_15 x0 x1 x2 x3 x4  st)
  else (
  ck (¬ gR st x0 8 = 0) <|
  ck ((kd x0).1 = 10) <|
  bd (gR st x0 8) fun o20 =>
  ck ((kd o20).1 = 100 ∧ inb (x4 * 51) (kd o20).2) <|
  bd (sI st o20 (ix (x4 * 51)) 0) fun s21 =>
  ck (¬ gR s21 x0 10 = 0) <|
  ck ((kd x0).1 = 10) <|
  bd (gR s21 x0 10) fun o22 =>
  ck ((kd o22).1 = 100 ∧ inb x3 (kd o22).2) <|
  bd (sI s21 o22 (ix x3) (x4 * 51)) fun s23 =>
  bd (x3 + 1) fun v24 =>
  b_X10_layer_57 fu k_15 x0 x1 x2 v24 x4  s23))
set_option maxHeartbeats 4000000 in
set_option maxRecDepth 100000 in
theorem t_X10_layer_15_b {X : CX} {res : Int32 × St} (B : BI X cX10_layer RX10 9 2 NN (some .boolean) res) (fu : Nat) (k_15 : Nat → Int32 → Int32 → Int32 → Int32 → St → Option (Int32 × St)) (h_15 : ∀ (x0 : Nat) (x1 : Int32) (x2 : Int32) (x3 : Int32) (x4 : Int32)  (st : St), WW X res NN 15 [(0, .ref (x_b X + x0)), (1, .int x1), (2, .int x2), (3, .int x3), (4, .int x4)] [] st (k_15 x0 x1 x2 x3 x4 st)) (x0 : Nat) (x1 : Int32) (x2 : Int32) (x3 : Int32) (x4 : Int32)  (st : St) : WW X res NN 15 [(0, .ref (x_b X + x0)), (1, .int x1), (2, .int x2), (3, .int x3), (4, .int x4)] [] st (b_X10_layer_15_b fu k_15 x0 x1 x2 x3 x4 st) := by
  have hX := B.1
  have hL := B.2.1
  unfold b_X10_layer_15_b
  refine ww_iload hX 4 rfl dX10_layer_15 ?_
  refine ww_bipush (v := 11) hX rfl dX10_layer_17 ?_
  refine ww_icmp_ge (tgt := 63) hX dX10_layer_19 (by decide) ?_ ?_
  · refine ww_iconst (v := 0) hX rfl dX10_layer_63 ?_
    refine ww_istore (lv' := [(4, .int 0), (0, .ref (x_b X + x0)), (1, .int x1), (2, .int x2), (3, .int x3)]) hX hL dX10_layer_64 (by decide) rfl ?_
    exact ww_sub [1, 2, 3, 4, 0] rfl (t_X10_layer_66 B fu fu x0 x1 x2 x3 0  st)
  · refine ww_aload_n hX 0 rfl dX10_layer_22 rfl ?_
    refine ww_getR hX f_X10_27 (Or.inr ⟨_, rfl⟩) dX10_layer_23 ?_
    refine ww_bdR (fun o18 => ?_)
    refine ww_iload hX 4 rfl dX10_layer_26 ?_
    refine ww_ialdc hX k_iald dX10_layer_28 ?_
    refine ww_if_le (tgt := 57) hX dX10_layer_29 (by decide) ?_ ?_
    · exact t_X10_layer_57 B fu k_15 h_15 x0 x1 x2 x3 x4  st
    · refine ww_aload_n hX 0 rfl dX10_layer_32 rfl ?_
      refine ww_getR hX f_X10_36 (Or.inr ⟨_, rfl⟩) dX10_layer_33 ?_
      refine ww_bdR (fun o20 => ?_)
      refine ww_iload hX 4 rfl dX10_layer_36 ?_
      refine ww_bipush (v := 51) hX rfl dX10_layer_38 ?_
      refine ww_imul hX dX10_layer_40 ?_
      refine ww_iconst (v := 0) hX rfl dX10_layer_41 ?_
      refine ww_iastc hX k_iast dX10_layer_42 ?_
      refine ww_bds (fun s21 => ?_)
      refine ww_pc (b := 43) rfl ?_
      refine ww_aload_n hX 0 rfl dX10_layer_43 rfl ?_
      refine ww_getR hX f_X10_42 (Or.inr ⟨_, rfl⟩) dX10_layer_44 ?_
      refine ww_bdR (fun o22 => ?_)
      refine ww_iload_n hX 3 rfl dX10_layer_47 rfl ?_
      refine ww_iload hX 4 rfl dX10_layer_48 ?_
      refine ww_bipush (v := 51) hX rfl dX10_layer_50 ?_
      refine ww_imul hX dX10_layer_52 ?_
      refine ww_iastc hX k_iast dX10_layer_53 ?_
      refine ww_bds (fun s23 => ?_)
      refine ww_iincb (lv' := fun v24 => [(3, .int v24), (0, .ref (x_b X + x0)), (1, .int x1), (2, .int x2), (4, .int x4)]) (c := 1) hX hL 3 rfl dX10_layer_54 rfl (by decide) (fun _ => rfl) (fun v24 => ?_)
      exact ww_sub [1, 2, 3, 0, 4] rfl (t_X10_layer_57 B fu k_15 h_15 x0 x1 x2 v24 x4  s23)
def b_X10_layer_15 (fu : Nat) : Nat → Nat → Int32 → Int32 → Int32 → Int32 → St → Option (Int32 × St)
  | 0, _, _, _, _, _, _ => none
  | i + 1, x0, x1, x2, x3, x4, st => b_X10_layer_15_b fu (b_X10_layer_15 fu i) x0 x1 x2 x3 x4 st
theorem t_X10_layer_15 {X : CX} {res : Int32 × St} (B : BI X cX10_layer RX10 9 2 NN (some .boolean) res) (fu : Nat) : ∀ (i : Nat) (x0 : Nat) (x1 : Int32) (x2 : Int32) (x3 : Int32) (x4 : Int32)  (st : St), WW X res NN 15 [(0, .ref (x_b X + x0)), (1, .int x1), (2, .int x2), (3, .int x3), (4, .int x4)] [] st (b_X10_layer_15 fu i x0 x1 x2 x3 x4 st) := by
  intro i
  induction i with
  | zero => intro x0 x1 x2 x3 x4 st; exact ww_none
  | succ i ih => intro x0 x1 x2 x3 x4 st; exact t_X10_layer_15_b B fu (b_X10_layer_15 fu i) ih x0 x1 x2 x3 x4 st
def f_X10_layer (fu : Nat) (th : Nat) (p1 : Int32) (st : St) : Option (Int32 × St) :=
  ck (¬ gR st th 8 = 0) <|
  ck ((kd th).1 = 10) <|
  bd (gR st th 8) fun o1 =>
  cv (f_J7_fill_53178 fu o1 ((-1)) st) fun s2 =>
  b_X10_layer_15 fu fu th p1 0 0 0  s2
set_option maxHeartbeats 4000000 in
set_option maxRecDepth 100000 in
theorem t_X10_layer {X : CX} {res : Int32 × St} (B : BI X cX10_layer RX10 9 2 NN (some .boolean) res) (fu : Nat) (th : Nat) (p1 : Int32) (st : St) : WW X res NN 0 [(0, .ref (x_b X + th)), (1, .int p1)] [] st (f_X10_layer fu th p1 st) := by
  have hX := B.1
  have hL := B.2.1
  unfold f_X10_layer
  refine ww_aload_n hX 0 rfl dX10_layer_0 rfl ?_
  refine ww_getR hX f_X10_36 (Or.inr ⟨_, rfl⟩) dX10_layer_1 ?_
  refine ww_bdR (fun o1 => ?_)
  refine ww_iconst (v := (-1)) hX rfl dX10_layer_4 ?_
  refine ww_callSV (As := [.ref (x_b X + o1), .int ((-1))]) (rest := []) hX (Rk.of B.2.2.1 B.2.2.2.1 (by decide) (by decide)) g_X10_59 (c_J7_fill_53178 (x_G X) (x_l X) fu o1 ((-1)) st) rfl rfl (Nat.le_of_ble_eq_true rfl) dX10_layer_5 (fun s2 => ?_)
  refine ww_iconst (v := 0) hX rfl dX10_layer_8 ?_
  refine ww_istore_n (lv' := [(2, .int 0), (0, .ref (x_b X + th)), (1, .int p1)]) hX hL dX10_layer_9 rfl (by decide) rfl ?_
  refine ww_iconst (v := 0) hX rfl dX10_layer_10 ?_
  refine ww_pc (b := 11) rfl ?_
  refine ww_istore_n (lv' := [(3, .int 0), (2, .int 0), (0, .ref (x_b X + th)), (1, .int p1)]) hX hL dX10_layer_11 rfl (by decide) rfl ?_
  refine ww_iconst (v := 0) hX rfl dX10_layer_12 ?_
  refine ww_istore (lv' := [(4, .int 0), (3, .int 0), (2, .int 0), (0, .ref (x_b X + th)), (1, .int p1)]) hX hL dX10_layer_13 (by decide) rfl ?_
  exact ww_sub [3, 4, 2, 1, 0] rfl (t_X10_layer_15 B fu fu th p1 0 0 0  s2)
theorem c_X10_layer (G : GX) (l : Launch) (fu : Nat) (th : Nat) (p1 : Int32) (st : St) : MI G NN l yX10_layer cX10_layer 9 (some .boolean) 2 [.ref (G.2.2.1 + th), .int p1] st (f_X10_layer fu th p1 st) := mkI (by decide) (Nat.le_of_ble_eq_true rfl) (fun X res hl hG B => by subst hl; subst hG; exact t_X10_layer B fu th p1 st)
/-! StageHouse$Ways.roomOf(II)I -/
def b_X10_roomOf_136 (fu : Nat)  (y0 : Int32) (st : St) : Option (Int32 × St) :=
  some (y0, st)
set_option maxHeartbeats 4000000 in
set_option maxRecDepth 100000 in
theorem t_X10_roomOf_136 {X : CX} {res : Int32 × St} (B : BI X cX10_roomOf RX10 7 1 NN (some .int) res) (fu : Nat)  (y0 : Int32) (st : St) : WW X res NN 136 [] [.int y0] st (b_X10_roomOf_136 fu y0 st) := by
  have hX := B.1
  have hL := B.2.1
  unfold b_X10_roomOf_136
  exact ww_iret B dX10_roomOf_136
def b_X10_roomOf_51 (fu : Nat)  (y0 : Int32) (st : St) : Option (Int32 × St) :=
  some (y0, st)
set_option maxHeartbeats 4000000 in
set_option maxRecDepth 100000 in
theorem t_X10_roomOf_51 {X : CX} {res : Int32 × St} (B : BI X cX10_roomOf RX10 7 1 NN (some .int) res) (fu : Nat)  (y0 : Int32) (st : St) : WW X res NN 51 [] [.int y0] st (b_X10_roomOf_51 fu y0 st) := by
  have hX := B.1
  have hL := B.2.1
  unfold b_X10_roomOf_51
  exact ww_iret B dX10_roomOf_51
def f_X10_roomOf (fu : Nat) (th : Nat) (p1 : Int32) (p2 : Int32) (st : St) : Option (Int32 × St) :=
  ck (¬ 51 = 0) <|
  bd (p1 / 51) fun v1 =>
  ck (¬ 51 = 0) <|
  bd (p1 - p1 / 51 * 51) fun v2 =>
  ck (¬ gR st th 11 = 0) <|
  ck ((kd th).1 = 10) <|
  bd (gR st th 11) fun o3 =>
  ck ((kd o3).1 = 100 ∧ inb v1 (kd o3).2) <|
  if p2 = (gI st o3 (ix v1)) then (
  some (1000000, st))
  else (
  ck (¬ gR st th 11 = 0) <|
  ck ((kd th).1 = 10) <|
  bd (gR st th 11) fun o4 =>
  ck ((kd o4).1 = 100 ∧ inb v1 (kd o4).2) <|
  if p2 ≤ (gI st o4 (ix v1)) then (
  ck (¬ gR st th 12 = 0) <|
  ck ((kd th).1 = 10) <|
  bd (gR st th 12) fun o5 =>
  ck ((kd o5).1 = 100 ∧ inb (((v1 * 2) * 20) + p2) (kd o5).2) <|
  bd (gI st o5 (ix (((v1 * 2) * 20) + p2))) fun v6 =>
  if 20 ≤ v6 then (
  ck (¬ gR st th 3 = 0) <|
  ck ((kd th).1 = 10) <|
  bd (gR st th 3) fun o7 =>
  ck ((kd o7).1 = 100 ∧ inb (v6 - 20) (kd o7).2) <|
  bd (v2 - (gI st o7 (ix (v6 - 20)))) fun v8 =>
  if v8 < 0 then (
  b_X10_roomOf_136 fu  0 st)
  else (
  ck (¬ gR st th 6 = 0) <|
  ck ((kd th).1 = 10) <|
  bd (gR st th 6) fun o9 =>
  ck ((kd o9).1 = 100 ∧ inb (((v6 - 20) * 51) + v8) (kd o9).2) <|
  b_X10_roomOf_136 fu  (gI st o9 (ix (((v6 - 20) * 51) + v8))) st))
  else (
  ck (¬ gR st th 2 = 0) <|
  ck ((kd th).1 = 10) <|
  bd (gR st th 2) fun o10 =>
  ck ((kd o10).1 = 100 ∧ inb v6 (kd o10).2) <|
  ck (¬ gR st th 6 = 0) <|
  ck ((kd th).1 = 10) <|
  bd (gR st th 6) fun o11 =>
  ck ((kd o11).1 = 100 ∧ inb ((v6 * 51) + v2) (kd o11).2) <|
  some ((gI st o10 (ix v6)) - (gI st o11 (ix ((v6 * 51) + v2))), st)))
  else (
  if v2 ≤ 0 then (
  b_X10_roomOf_51 fu  0 st)
  else (
  ck (¬ gR st th 7 = 0) <|
  ck ((kd th).1 = 10) <|
  bd (gR st th 7) fun o12 =>
  ck ((kd o12).1 = 100 ∧ inb (p1 - 1) (kd o12).2) <|
  b_X10_roomOf_51 fu  (gI st o12 (ix (p1 - 1))) st)))
set_option maxHeartbeats 4000000 in
set_option maxRecDepth 100000 in
theorem t_X10_roomOf {X : CX} {res : Int32 × St} (B : BI X cX10_roomOf RX10 7 1 NN (some .int) res) (fu : Nat) (th : Nat) (p1 : Int32) (p2 : Int32) (st : St) : WW X res NN 0 [(0, .ref (x_b X + th)), (1, .int p1), (2, .int p2)] [] st (f_X10_roomOf fu th p1 p2 st) := by
  have hX := B.1
  have hL := B.2.1
  unfold f_X10_roomOf
  refine ww_iload_n hX 1 rfl dX10_roomOf_0 rfl ?_
  refine ww_bipush (v := 51) hX rfl dX10_roomOf_1 ?_
  refine ww_idiv hX dX10_roomOf_3 ?_
  refine ww_bdi (fun v1 => ?_)
  refine ww_istore_n (lv' := [(3, .int v1), (0, .ref (x_b X + th)), (1, .int p1), (2, .int p2)]) hX hL dX10_roomOf_4 rfl (by decide) rfl ?_
  refine ww_iload_n hX 2 rfl dX10_roomOf_5 rfl ?_
  refine ww_bipush (v := 51) hX rfl dX10_roomOf_6 ?_
  refine ww_irem hX dX10_roomOf_8 ?_
  refine ww_pc (b := 9) rfl ?_
  refine ww_bdi (fun v2 => ?_)
  refine ww_istore (lv' := [(4, .int v2), (3, .int v1), (0, .ref (x_b X + th)), (1, .int p1), (2, .int p2)]) hX hL dX10_roomOf_9 (by decide) rfl ?_
  refine ww_iload_n hX 4 rfl dX10_roomOf_11 rfl ?_
  refine ww_aload_n hX 2 rfl dX10_roomOf_12 rfl ?_
  refine ww_getR hX f_X10_45 (Or.inr ⟨_, rfl⟩) dX10_roomOf_13 ?_
  refine ww_bdR (fun o3 => ?_)
  refine ww_iload_n hX 1 rfl dX10_roomOf_16 rfl ?_
  refine ww_ialdc hX k_iald dX10_roomOf_17 ?_
  refine ww_icmp_ne (tgt := 24) hX dX10_roomOf_18 (by decide) ?_ ?_
  · refine ww_iload_n hX 4 rfl dX10_roomOf_24 rfl ?_
    refine ww_aload_n hX 2 rfl dX10_roomOf_25 rfl ?_
    refine ww_getR hX f_X10_45 (Or.inr ⟨_, rfl⟩) dX10_roomOf_26 ?_
    refine ww_bdR (fun o4 => ?_)
    refine ww_iload_n hX 1 rfl dX10_roomOf_29 rfl ?_
    refine ww_ialdc hX k_iald dX10_roomOf_30 ?_
    refine ww_icmp_le (tgt := 52) hX dX10_roomOf_31 (by decide) ?_ ?_
    · refine ww_aload_n hX 2 rfl dX10_roomOf_52 rfl ?_
      refine ww_getR hX f_X10_48 (Or.inr ⟨_, rfl⟩) dX10_roomOf_53 ?_
      refine ww_bdR (fun o5 => ?_)
      refine ww_iload_n hX 1 rfl dX10_roomOf_56 rfl ?_
      refine ww_iconst (v := 2) hX rfl dX10_roomOf_57 ?_
      refine ww_imul hX dX10_roomOf_58 ?_
      refine ww_bipush (v := 20) hX rfl dX10_roomOf_59 ?_
      refine ww_imul hX dX10_roomOf_61 ?_
      refine ww_pc (b := 62) rfl ?_
      refine ww_iload_n hX 4 rfl dX10_roomOf_62 rfl ?_
      refine ww_iadd hX dX10_roomOf_63 ?_
      refine ww_ialdc hX k_iald dX10_roomOf_64 ?_
      refine ww_bdi (fun v6 => ?_)
      refine ww_istore (lv' := [(5, .int v6), (4, .int v2), (3, .int v1), (0, .ref (x_b X + th)), (1, .int p1), (2, .int p2)]) hX hL dX10_roomOf_65 (by decide) rfl ?_
      refine ww_iload hX 0 rfl dX10_roomOf_67 ?_
      refine ww_bipush (v := 20) hX rfl dX10_roomOf_69 ?_
      refine ww_icmp_ge (tgt := 96) hX dX10_roomOf_71 (by decide) ?_ ?_
      · refine ww_iload hX 1 rfl dX10_roomOf_96 ?_
        refine ww_aload_n hX 3 rfl dX10_roomOf_98 rfl ?_
        refine ww_getR hX f_X10_21 (Or.inr ⟨_, rfl⟩) dX10_roomOf_99 ?_
        refine ww_bdR (fun o7 => ?_)
        refine ww_iload hX 0 rfl dX10_roomOf_102 ?_
        refine ww_bipush (v := 20) hX rfl dX10_roomOf_104 ?_
        refine ww_isub hX dX10_roomOf_106 ?_
        refine ww_ialdc hX k_iald dX10_roomOf_107 ?_
        refine ww_pc (b := 108) rfl ?_
        refine ww_isub hX dX10_roomOf_108 ?_
        refine ww_bdi (fun v8 => ?_)
        refine ww_istore (lv' := [(6, .int v8), (5, .int v6), (4, .int v2), (3, .int v1), (0, .ref (x_b X + th)), (1, .int p1), (2, .int p2)]) hX hL dX10_roomOf_109 (by decide) rfl ?_
        refine ww_iload hX 0 rfl dX10_roomOf_111 ?_
        refine ww_if_lt (tgt := 135) hX dX10_roomOf_113 (by decide) ?_ ?_
        · refine ww_iconst (v := 0) hX rfl dX10_roomOf_135 ?_
          exact ww_sub [] rfl (t_X10_roomOf_136 B fu  0 st)
        · refine ww_aload_n hX 4 rfl dX10_roomOf_116 rfl ?_
          refine ww_getR hX f_X10_30 (Or.inr ⟨_, rfl⟩) dX10_roomOf_117 ?_
          refine ww_bdR (fun o9 => ?_)
          refine ww_iload hX 1 rfl dX10_roomOf_120 ?_
          refine ww_bipush (v := 20) hX rfl dX10_roomOf_122 ?_
          refine ww_isub hX dX10_roomOf_124 ?_
          refine ww_bipush (v := 51) hX rfl dX10_roomOf_125 ?_
          refine ww_imul hX dX10_roomOf_127 ?_
          refine ww_pc (b := 128) rfl ?_
          refine ww_iload hX 0 rfl dX10_roomOf_128 ?_
          refine ww_iadd hX dX10_roomOf_130 ?_
          refine ww_ialdc hX k_iald dX10_roomOf_131 ?_
          refine ww_goto (tgt := 136) hX dX10_roomOf_132 (by decide) ?_
          exact ww_sub [] rfl (t_X10_roomOf_136 B fu  (gI st o9 (ix (((v6 - 20) * 51) + v8))) st)
      · refine ww_aload_n hX 3 rfl dX10_roomOf_74 rfl ?_
        refine ww_getR hX f_X10_18 (Or.inr ⟨_, rfl⟩) dX10_roomOf_75 ?_
        refine ww_bdR (fun o10 => ?_)
        refine ww_iload hX 0 rfl dX10_roomOf_78 ?_
        refine ww_ialdc hX k_iald dX10_roomOf_80 ?_
        refine ww_aload_n hX 3 rfl dX10_roomOf_81 rfl ?_
        refine ww_getR hX f_X10_30 (Or.inr ⟨_, rfl⟩) dX10_roomOf_82 ?_
        refine ww_bdR (fun o11 => ?_)
        refine ww_iload hX 0 rfl dX10_roomOf_85 ?_
        refine ww_pc (b := 87) rfl ?_
        refine ww_bipush (v := 51) hX rfl dX10_roomOf_87 ?_
        refine ww_imul hX dX10_roomOf_89 ?_
        refine ww_iload hX 1 rfl dX10_roomOf_90 ?_
        refine ww_iadd hX dX10_roomOf_92 ?_
        refine ww_ialdc hX k_iald dX10_roomOf_93 ?_
        refine ww_isub hX dX10_roomOf_94 ?_
        exact ww_iret B dX10_roomOf_95
    · refine ww_iload hX 0 rfl dX10_roomOf_34 ?_
      refine ww_if_le (tgt := 50) hX dX10_roomOf_36 (by decide) ?_ ?_
      · refine ww_iconst (v := 0) hX rfl dX10_roomOf_50 ?_
        exact ww_sub [] rfl (t_X10_roomOf_51 B fu  0 st)
      · refine ww_aload_n hX 2 rfl dX10_roomOf_39 rfl ?_
        refine ww_getR hX f_X10_33 (Or.inr ⟨_, rfl⟩) dX10_roomOf_40 ?_
        refine ww_bdR (fun o12 => ?_)
        refine ww_iload_n hX 3 rfl dX10_roomOf_43 rfl ?_
        refine ww_iconst (v := 1) hX rfl dX10_roomOf_44 ?_
        refine ww_isub hX dX10_roomOf_45 ?_
        refine ww_ialdc hX k_iald dX10_roomOf_46 ?_
        refine ww_goto (tgt := 51) hX dX10_roomOf_47 (by decide) ?_
        exact ww_sub [] rfl (t_X10_roomOf_51 B fu  (gI st o12 (ix (p1 - 1))) st)
  · refine ww_ldc (v := 1000000) hX k_X10_73 dX10_roomOf_21 ?_
    exact ww_iret B dX10_roomOf_23
theorem c_X10_roomOf (G : GX) (l : Launch) (fu : Nat) (th : Nat) (p1 : Int32) (p2 : Int32) (st : St) : MI G NN l yX10_roomOf cX10_roomOf 7 (some .int) 1 [.ref (G.2.2.1 + th), .int p1, .int p2] st (f_X10_roomOf fu th p1 p2 st) := mkI (by decide) (Nat.le_of_ble_eq_true rfl) (fun X res hl hG B => by subst hl; subst hG; exact t_X10_roomOf B fu th p1 p2 st)
