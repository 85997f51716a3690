/-! StageHouseModel.level(II)I -/
def b_X12_level_29 (fu : Nat)  (y0 : Int32) (st : St) : Option (Int32 × St) :=
  some (y0, st)
set_option maxHeartbeats 4000000 in
set_option maxRecDepth 100000 in
theorem t_X12_level_29 {X : CX} {res : Int32 × St} (B : BI X cX12_level RX12 3 2 NN (some .int) res) (fu : Nat)  (y0 : Int32) (st : St) : WW X res NN 29 [] [.int y0] st (b_X12_level_29 fu y0 st) := by
  have hX := B.1
  have hL := B.2.1
  unfold b_X12_level_29
  exact ww_iret B dX12_level_29
def b_X12_level_28 (fu : Nat)   (st : St) : Option (Int32 × St) :=
  b_X12_level_29 fu  ((-1)) st
set_option maxHeartbeats 4000000 in
set_option maxRecDepth 100000 in
theorem t_X12_level_28 {X : CX} {res : Int32 × St} (B : BI X cX12_level RX12 3 2 NN (some .int) res) (fu : Nat)   (st : St) : WW X res NN 28 [] [] st (b_X12_level_28 fu  st) := by
  have hX := B.1
  have hL := B.2.1
  unfold b_X12_level_28
  refine ww_iconst (v := (-1)) hX rfl dX12_level_28 ?_
  exact t_X12_level_29 B fu  ((-1)) st
def f_X12_level (fu : Nat) (th : Nat) (p1 : Int32) (p2 : Int32) (st : St) : Option (Int32 × St) :=
  ca (f_X12_isList fu p1 st) fun r1 s2 =>
  if r1 = 0 then (
  b_X12_level_28 fu   s2)
  else (
  ca (f_X12_isChannel fu p2 s2) fun r3 s4 =>
  if r3 = 0 then (
  b_X12_level_28 fu   s4)
  else (
  ck (¬ gR s4 th 45 = 0) <|
  ck ((kd th).1 = 12) <|
  bd (gR s4 th 45) fun o5 =>
  ck ((kd o5).1 = 100 ∧ inb ((65 * p1) + p2) (kd o5).2) <|
  b_X12_level_29 fu  (gI s4 o5 (ix ((65 * p1) + p2))) s4))
set_option maxHeartbeats 4000000 in
set_option maxRecDepth 100000 in
theorem t_X12_level {X : CX} {res : Int32 × St} (B : BI X cX12_level RX12 3 2 NN (some .int) res) (fu : Nat) (th : Nat) (p1 : Int32) (p2 : Int32) (st : St) : WW X res NN 0 [(0, .ref (x_b X + th)), (1, .int p1), (2, .int p2)] [] st (f_X12_level fu th p1 p2 st) := by
  have hX := B.1
  have hL := B.2.1
  unfold f_X12_level
  refine ww_iload_n hX 1 rfl dX12_level_0 rfl ?_
  refine ww_callSI (As := [.int p1]) (rest := []) hX (Rk.of B.2.2.1 B.2.2.2.1 (by decide) (by decide)) g_X12_504 (c_X12_isList (x_G X) (x_l X) fu p1 st) rfl rfl (Nat.le_of_ble_eq_true rfl) dX12_level_1 (fun r1 s2 => ?_)
  refine ww_if_eq (tgt := 28) hX dX12_level_4 (by decide) ?_ ?_
  · exact ww_sub [] rfl (t_X12_level_28 B fu   s2)
  · refine ww_iload_n hX 2 rfl dX12_level_7 rfl ?_
    refine ww_callSI (As := [.int p2]) (rest := []) hX (Rk.of B.2.2.1 B.2.2.2.1 (by decide) (by decide)) g_X12_510 (c_X12_isChannel (x_G X) (x_l X) fu p2 s2) rfl rfl (Nat.le_of_ble_eq_true rfl) dX12_level_8 (fun r3 s4 => ?_)
    refine ww_if_eq (tgt := 28) hX dX12_level_11 (by decide) ?_ ?_
    · exact ww_sub [] rfl (t_X12_level_28 B fu   s4)
    · refine ww_aload_n hX 0 rfl dX12_level_14 rfl ?_
      refine ww_getR hX f_X12_121 (Or.inr ⟨_, rfl⟩) dX12_level_15 ?_
      refine ww_bdR (fun o5 => ?_)
      refine ww_bipush (v := 65) hX rfl dX12_level_18 ?_
      refine ww_iload_n hX 1 rfl dX12_level_20 rfl ?_
      refine ww_imul hX dX12_level_21 ?_
      refine ww_iload_n hX 2 rfl dX12_level_22 rfl ?_
      refine ww_iadd hX dX12_level_23 ?_
      refine ww_pc (b := 24) rfl ?_
      refine ww_ialdc hX k_iald dX12_level_24 ?_
      refine ww_goto (tgt := 29) hX dX12_level_25 (by decide) ?_
      exact ww_sub [] rfl (t_X12_level_29 B fu  (gI s4 o5 (ix ((65 * p1) + p2))) s4)
theorem c_X12_level (G : GX) (l : Launch) (fu : Nat) (th : Nat) (p1 : Int32) (p2 : Int32) (st : St) : MI G NN l yX12_level cX12_level 3 (some .int) 2 [.ref (G.2.2.1 + th), .int p1, .int p2] st (f_X12_level fu th p1 p2 st) := mkI (by decide) (Nat.le_of_ble_eq_true rfl) (fun X res hl hG B => by subst hl; subst hG; exact t_X12_level B fu th p1 p2 st)
/-! StageHouseModel.out(I)I -/
def b_X12_out_100 (fu : Nat) (k_51 : Nat → Int32 → Int64 → Int32 → St → Option (Int32 × St)) (x0 : Nat) (x1 : Int32) (x4 : Int32) (y0 : Int64) (st : St) : Option (Int32 × St) :=
  bd (x4 + 1) fun v7 =>
  k_51 x0 x1 y0 v7  st
set_option maxHeartbeats 4000000 in
set_option maxRecDepth 100000 in
theorem t_X12_out_100 {X : CX} {res : Int32 × St} (B : BI X cX12_out RX12 7 2 NN (some .int) res) (fu : Nat) (k_51 : Nat → Int32 → Int64 → Int32 → St → Option (Int32 × St)) (h_51 : ∀ (x0 : Nat) (x1 : Int32) (x2 : Int64) (x4 : Int32)  (st : St), WW X res NN 51 [(0, .ref (x_b X + x0)), (1, .int x1), (2, .long x2), (4, .int x4)] [] st (k_51 x0 x1 x2 x4 st)) (x0 : Nat) (x1 : Int32) (x4 : Int32) (y0 : Int64) (st : St) : WW X res NN 100 [(0, .ref (x_b X + x0)), (1, .int x1), (4, .int x4)] [.long y0] st (b_X12_out_100 fu k_51 x0 x1 x4 y0 st) := by
  have hX := B.1
  have hL := B.2.1
  unfold b_X12_out_100
  refine ww_lstore_n (lv' := [(2, .long y0), (0, .ref (x_b X + x0)), (1, .int x1), (4, .int x4)]) hX hL dX12_out_100 rfl (by decide) rfl ?_
  refine ww_iincb (lv' := fun v7 => [(4, .int v7), (2, .long y0), (0, .ref (x_b X + x0)), (1, .int x1)]) (c := 1) hX hL 3 rfl dX12_out_101 rfl (by decide) (fun _ => rfl) (fun v7 => ?_)
  refine ww_goto (tgt := 51) hX dX12_out_104 (by decide) ?_
  exact ww_sub [2, 3, 1, 0] rfl (h_51 x0 x1 y0 v7  st)
def b_X12_out_51_b (fu : Nat) (k_51 : Nat → Int32 → Int64 → Int32 → St → Option (Int32 × St)) (x0 : Nat) (x1 : Int32) (x2 : Int64) (x4 : Int32)  (st : St) : Option (Int32 × St) :=
  if 4 ≤ x4 then (
  some (x2.toInt32, st))
  else (
  ck (¬ gR st x0 45 = 0) <|
  ck ((kd x0).1 = 12) <|
  bd (gR st x0 45) fun o3 =>
  ck ((kd o3).1 = 100 ∧ inb ((65 * x4) + x1) (kd o3).2) <|
  ck (¬ gR st x0 44 = 0) <|
  ck ((kd x0).1 = 12) <|
  bd (gR st x0 44) fun o4 =>
  ck ((kd o4).1 = 100 ∧ inb x4 (kd o4).2) <|
  ca (f_X12_nearest fu (((gI st o3 (ix ((65 * x4) + x1))).toInt64) * ((gI st o4 (ix x4)).toInt64)) 255 st) fun r5 s6 =>
  if (lg_cmp r5 x2) ≤ 0 then (
  b_X12_out_100 fu k_51 x0 x1 x4 x2 s6)
  else (
  b_X12_out_100 fu k_51 x0 x1 x4 r5 s6))
set_option maxHeartbeats 4000000 in
set_option maxRecDepth 100000 in
theorem t_X12_out_51_b {X : CX} {res : Int32 × St} (B : BI X cX12_out RX12 7 2 NN (some .int) res) (fu : Nat) (k_51 : Nat → Int32 → Int64 → Int32 → St → Option (Int32 × St)) (h_51 : ∀ (x0 : Nat) (x1 : Int32) (x2 : Int64) (x4 : Int32)  (st : St), WW X res NN 51 [(0, .ref (x_b X + x0)), (1, .int x1), (2, .long x2), (4, .int x4)] [] st (k_51 x0 x1 x2 x4 st)) (x0 : Nat) (x1 : Int32) (x2 : Int64) (x4 : Int32)  (st : St) : WW X res NN 51 [(0, .ref (x_b X + x0)), (1, .int x1), (2, .long x2), (4, .int x4)] [] st (b_X12_out_51_b fu k_51 x0 x1 x2 x4 st) := by
  have hX := B.1
  have hL := B.2.1
  unfold b_X12_out_51_b
  refine ww_iload hX 3 rfl dX12_out_51 ?_
  refine ww_iconst (v := 4) hX rfl dX12_out_53 ?_
  refine ww_icmp_ge (tgt := 107) hX dX12_out_54 (by decide) ?_ ?_
  · refine ww_lload_n hX 2 rfl dX12_out_107 rfl ?_
    refine ww_l2i hX dX12_out_108 ?_
    exact ww_iret B dX12_out_109
  · refine ww_aload_n hX 0 rfl dX12_out_57 rfl ?_
    refine ww_getR hX f_X12_121 (Or.inr ⟨_, rfl⟩) dX12_out_58 ?_
    refine ww_bdR (fun o3 => ?_)
    refine ww_bipush (v := 65) hX rfl dX12_out_61 ?_
    refine ww_iload hX 3 rfl dX12_out_63 ?_
    refine ww_imul hX dX12_out_65 ?_
    refine ww_iload_n hX 1 rfl dX12_out_66 rfl ?_
    refine ww_iadd hX dX12_out_67 ?_
    refine ww_pc (b := 68) rfl ?_
    refine ww_ialdc hX k_iald dX12_out_68 ?_
    refine ww_i2l hX dX12_out_69 ?_
    refine ww_aload_n hX 0 rfl dX12_out_70 rfl ?_
    refine ww_getR hX f_X12_118 (Or.inr ⟨_, rfl⟩) dX12_out_71 ?_
    refine ww_bdR (fun o4 => ?_)
    refine ww_iload hX 3 rfl dX12_out_74 ?_
    refine ww_ialdc hX k_iald dX12_out_76 ?_
    refine ww_i2l hX dX12_out_77 ?_
    refine ww_lmul hX dX12_out_78 ?_
    refine ww_pc (b := 79) rfl ?_
    refine ww_ldc2 (v := 255) hX k_X12_519 dX12_out_79 ?_
    refine ww_callSL (As := [.long (((gI st o3 (ix ((65 * x4) + x1))).toInt64) * ((gI st o4 (ix x4)).toInt64)), .long 255]) (rest := []) hX (Rk.of B.2.2.1 B.2.2.2.1 (by decide) (by decide)) g_X12_521 (c_X12_nearest (x_G X) (x_l X) fu (((gI st o3 (ix ((65 * x4) + x1))).toInt64) * ((gI st o4 (ix x4)).toInt64)) 255 st) rfl rfl (Nat.le_of_ble_eq_true rfl) dX12_out_82 (fun r5 s6 => ?_)
    refine ww_lstore (lv' := [(5, .long r5), (0, .ref (x_b X + x0)), (1, .int x1), (2, .long x2), (4, .int x4)]) hX hL dX12_out_85 (by decide) rfl ?_
    refine ww_lload hX 0 rfl dX12_out_87 ?_
    refine ww_lload_n hX 3 rfl dX12_out_89 rfl ?_
    refine ww_lcmp hX dX12_out_90 ?_
    refine ww_if_le (tgt := 99) hX dX12_out_91 (by decide) ?_ ?_
    · refine ww_lload_n hX 3 rfl dX12_out_99 rfl ?_
      exact ww_sub [1, 2, 4] rfl (t_X12_out_100 B fu k_51 h_51 x0 x1 x4 x2 s6)
    · refine ww_lload hX 0 rfl dX12_out_94 ?_
      refine ww_goto (tgt := 100) hX dX12_out_96 (by decide) ?_
      exact ww_sub [1, 2, 4] rfl (t_X12_out_100 B fu k_51 h_51 x0 x1 x4 r5 s6)
def b_X12_out_51 (fu : Nat) : Nat → Nat → Int32 → Int64 → Int32 → St → Option (Int32 × St)
  | 0, _, _, _, _, _ => none
  | i + 1, x0, x1, x2, x4, st => b_X12_out_51_b fu (b_X12_out_51 fu i) x0 x1 x2 x4 st
theorem t_X12_out_51 {X : CX} {res : Int32 × St} (B : BI X cX12_out RX12 7 2 NN (some .int) res) (fu : Nat) : ∀ (i : Nat) (x0 : Nat) (x1 : Int32) (x2 : Int64) (x4 : Int32)  (st : St), WW X res NN 51 [(0, .ref (x_b X + x0)), (1, .int x1), (2, .long x2), (4, .int x4)] [] st (b_X12_out_51 fu i x0 x1 x2 x4 st) := by
  intro i
  induction i with
  | zero => intro x0 x1 x2 x4 st; exact ww_none
  | succ i ih => intro x0 x1 x2 x4 st; exact t_X12_out_51_b B fu (b_X12_out_51 fu i) ih x0 x1 x2 x4 st
def b_X12_out_45 (fu : Nat)  (y0 : Int32) (st : St) : Option (Int32 × St) :=
  some (y0, st)
set_option maxHeartbeats 4000000 in
set_option maxRecDepth 100000 in
theorem t_X12_out_45 {X : CX} {res : Int32 × St} (B : BI X cX12_out RX12 7 2 NN (some .int) res) (fu : Nat)  (y0 : Int32) (st : St) : WW X res NN 45 [] [.int y0] st (b_X12_out_45 fu y0 st) := by
  have hX := B.1
  have hL := B.2.1
  unfold b_X12_out_45
  exact ww_iret B dX12_out_45
def f_X12_out (fu : Nat) (th : Nat) (p1 : Int32) (st : St) : Option (Int32 × St) :=
  ca (f_X12_isChannel fu p1 st) fun r1 s2 =>
  if r1 = 0 then (
  some ((-1), s2))
  else (
  if p1 < 49 then (
  b_X12_out_51 fu fu th p1 0 0  s2)
  else (
  ck (¬ gR s2 th 50 = 0) <|
  ck ((kd th).1 = 12) <|
  bd (gR s2 th 50) fun o8 =>
  ck ((kd o8).1 = 100 ∧ inb p1 (kd o8).2) <|
  if (gI s2 o8 (ix p1)) = ((-1)) then (
  b_X12_out_45 fu  0 s2)
  else (
  ck (¬ gR s2 th 45 = 0) <|
  ck ((kd th).1 = 12) <|
  bd (gR s2 th 45) fun o9 =>
  ck (¬ gR s2 th 50 = 0) <|
  ck ((kd th).1 = 12) <|
  bd (gR s2 th 50) fun o10 =>
  ck ((kd o10).1 = 100 ∧ inb p1 (kd o10).2) <|
  ck ((kd o9).1 = 100 ∧ inb ((65 * (gI s2 o10 (ix p1))) + p1) (kd o9).2) <|
  b_X12_out_45 fu  (gI s2 o9 (ix ((65 * (gI s2 o10 (ix p1))) + p1))) s2)))
set_option maxHeartbeats 4000000 in
set_option maxRecDepth 100000 in
theorem t_X12_out {X : CX} {res : Int32 × St} (B : BI X cX12_out RX12 7 2 NN (some .int) res) (fu : Nat) (th : Nat) (p1 : Int32) (st : St) : WW X res NN 0 [(0, .ref (x_b X + th)), (1, .int p1)] [] st (f_X12_out fu th p1 st) := by
  have hX := B.1
  have hL := B.2.1
  unfold f_X12_out
  refine ww_iload_n hX 1 rfl dX12_out_0 rfl ?_
  refine ww_callSI (As := [.int p1]) (rest := []) hX (Rk.of B.2.2.1 B.2.2.2.1 (by decide) (by decide)) g_X12_510 (c_X12_isChannel (x_G X) (x_l X) fu p1 st) rfl rfl (Nat.le_of_ble_eq_true rfl) dX12_out_1 (fun r1 s2 => ?_)
  refine ww_if_ne (tgt := 9) hX dX12_out_4 (by decide) ?_ ?_
  · refine ww_iload_n hX 1 rfl dX12_out_9 rfl ?_
    refine ww_bipush (v := 49) hX rfl dX12_out_10 ?_
    refine ww_icmp_lt (tgt := 46) hX dX12_out_12 (by decide) ?_ ?_
    · refine ww_lconst (v := 0) hX rfl dX12_out_46 ?_
      refine ww_lstore_n (lv' := [(2, .long 0), (0, .ref (x_b X + th)), (1, .int p1)]) hX hL dX12_out_47 rfl (by decide) rfl ?_
      refine ww_iconst (v := 0) hX rfl dX12_out_48 ?_
      refine ww_istore (lv' := [(4, .int 0), (2, .long 0), (0, .ref (x_b X + th)), (1, .int p1)]) hX hL dX12_out_49 (by decide) rfl ?_
      exact ww_sub [2, 3, 1, 0] rfl (t_X12_out_51 B fu fu th p1 0 0  s2)
    · refine ww_aload_n hX 0 rfl dX12_out_15 rfl ?_
      refine ww_getR hX f_X12_136 (Or.inr ⟨_, rfl⟩) dX12_out_16 ?_
      refine ww_bdR (fun o8 => ?_)
      refine ww_iload_n hX 1 rfl dX12_out_19 rfl ?_
      refine ww_ialdc hX k_iald dX12_out_20 ?_
      refine ww_iconst (v := (-1)) hX rfl dX12_out_21 ?_
      refine ww_icmp_ne (tgt := 29) hX dX12_out_22 (by decide) ?_ ?_
      · refine ww_aload_n hX 0 rfl dX12_out_29 rfl ?_
        refine ww_getR hX f_X12_121 (Or.inr ⟨_, rfl⟩) dX12_out_30 ?_
        refine ww_bdR (fun o9 => ?_)
        refine ww_bipush (v := 65) hX rfl dX12_out_33 ?_
        refine ww_aload_n hX 0 rfl dX12_out_35 rfl ?_
        refine ww_getR hX f_X12_136 (Or.inr ⟨_, rfl⟩) dX12_out_36 ?_
        refine ww_bdR (fun o10 => ?_)
        refine ww_iload_n hX 1 rfl dX12_out_39 rfl ?_
        refine ww_ialdc hX k_iald dX12_out_40 ?_
        refine ww_pc (b := 41) rfl ?_
        refine ww_imul hX dX12_out_41 ?_
        refine ww_iload_n hX 1 rfl dX12_out_42 rfl ?_
        refine ww_iadd hX dX12_out_43 ?_
        refine ww_ialdc hX k_iald dX12_out_44 ?_
        exact ww_sub [] rfl (t_X12_out_45 B fu  (gI s2 o9 (ix ((65 * (gI s2 o10 (ix p1))) + p1))) s2)
      · refine ww_iconst (v := 0) hX rfl dX12_out_25 ?_
        refine ww_goto (tgt := 45) hX dX12_out_26 (by decide) ?_
        exact ww_sub [] rfl (t_X12_out_45 B fu  0 s2)
  · refine ww_iconst (v := (-1)) hX rfl dX12_out_7 ?_
    exact ww_iret B dX12_out_8
theorem c_X12_out (G : GX) (l : Launch) (fu : Nat) (th : Nat) (p1 : Int32) (st : St) : MI G NN l yX12_out cX12_out 7 (some .int) 2 [.ref (G.2.2.1 + th), .int p1] st (f_X12_out fu th p1 st) := mkI (by decide) (Nat.le_of_ble_eq_true rfl) (fun X res hl hG B => by subst hl; subst hG; exact t_X12_out B fu th p1 st)
/-! StageHouseModel.patch(III)Z -/
def b_X12_patch_29 (fu : Nat)   (st : St) : Option (Int32 × St) :=
  ck (isb 0) (some (0, st))
set_option maxHeartbeats 4000000 in
set_option maxRecDepth 100000 in
theorem t_X12_patch_29 {X : CX} {res : Int32 × St} (B : BI X cX12_patch RX12 4 1 NN (some .boolean) res) (fu : Nat)   (st : St) : WW X res NN 29 [] [] st (b_X12_patch_29 fu  st) := by
  have hX := B.1
  have hL := B.2.1
  unfold b_X12_patch_29
  refine ww_iconst (v := 0) hX rfl dX12_patch_29 ?_
  exact ww_zret B dX12_patch_30
def f_X12_patch (fu : Nat) (th : Nat) (p1 : Int32) (p2 : Int32) (p3 : Int32) (st : St) : Option (Int32 × St) :=
  if p1 < 0 then (
  b_X12_patch_29 fu   st)
  else (
  if 127 < p1 then (
  b_X12_patch_29 fu   st)
  else (
  if p2 < 0 then (
  b_X12_patch_29 fu   st)
  else (
  if 64 < p2 then (
  b_X12_patch_29 fu   st)
  else (
  if p3 < 0 then (
  b_X12_patch_29 fu   st)
  else (
  if p3 ≤ 3 then (
  ck (¬ gR st th 51 = 0) <|
  ck ((kd th).1 = 12) <|
  bd (gR st th 51) fun o1 =>
  ck ((kd o1).1 = 100 ∧ inb p1 (kd o1).2) <|
  bd (sI st o1 (ix p1) p2) fun s2 =>
  ck (¬ gR s2 th 52 = 0) <|
  ck ((kd th).1 = 12) <|
  bd (gR s2 th 52) fun o3 =>
  ck ((kd o3).1 = 100 ∧ inb p1 (kd o3).2) <|
  bd (sI s2 o3 (ix p1) p3) fun s4 =>
  ck (isb 1) (some (1, s4)))
  else (
  b_X12_patch_29 fu   st))))))
set_option maxHeartbeats 4000000 in
set_option maxRecDepth 100000 in
theorem t_X12_patch {X : CX} {res : Int32 × St} (B : BI X cX12_patch RX12 4 1 NN (some .boolean) res) (fu : Nat) (th : Nat) (p1 : Int32) (p2 : Int32) (p3 : Int32) (st : St) : WW X res NN 0 [(0, .ref (x_b X + th)), (1, .int p1), (2, .int p2), (3, .int p3)] [] st (f_X12_patch fu th p1 p2 p3 st) := by
  have hX := B.1
  have hL := B.2.1
  unfold f_X12_patch
  refine ww_iload_n hX 1 rfl dX12_patch_0 rfl ?_
  refine ww_if_lt (tgt := 29) hX dX12_patch_1 (by decide) ?_ ?_
  · exact ww_sub [] rfl (t_X12_patch_29 B fu   st)
  · refine ww_iload_n hX 1 rfl dX12_patch_4 rfl ?_
    refine ww_bipush (v := 127) hX rfl dX12_patch_5 ?_
    refine ww_icmp_gt (tgt := 29) hX dX12_patch_7 (by decide) ?_ ?_
    · exact ww_sub [] rfl (t_X12_patch_29 B fu   st)
    · refine ww_iload_n hX 2 rfl dX12_patch_10 rfl ?_
      refine ww_if_lt (tgt := 29) hX dX12_patch_11 (by decide) ?_ ?_
      · exact ww_sub [] rfl (t_X12_patch_29 B fu   st)
      · refine ww_iload_n hX 2 rfl dX12_patch_14 rfl ?_
        refine ww_bipush (v := 64) hX rfl dX12_patch_15 ?_
        refine ww_icmp_gt (tgt := 29) hX dX12_patch_17 (by decide) ?_ ?_
        · exact ww_sub [] rfl (t_X12_patch_29 B fu   st)
        · refine ww_iload_n hX 3 rfl dX12_patch_20 rfl ?_
          refine ww_if_lt (tgt := 29) hX dX12_patch_21 (by decide) ?_ ?_
          · exact ww_sub [] rfl (t_X12_patch_29 B fu   st)
          · refine ww_iload_n hX 3 rfl dX12_patch_24 rfl ?_
            refine ww_iconst (v := 3) hX rfl dX12_patch_25 ?_
            refine ww_icmp_le (tgt := 31) hX dX12_patch_26 (by decide) ?_ ?_
            · refine ww_aload_n hX 0 rfl dX12_patch_31 rfl ?_
              refine ww_getR hX f_X12_139 (Or.inr ⟨_, rfl⟩) dX12_patch_32 ?_
              refine ww_bdR (fun o1 => ?_)
              refine ww_iload_n hX 1 rfl dX12_patch_35 rfl ?_
              refine ww_iload_n hX 2 rfl dX12_patch_36 rfl ?_
              refine ww_iastc hX k_iast dX12_patch_37 ?_
              refine ww_bds (fun s2 => ?_)
              refine ww_aload_n hX 0 rfl dX12_patch_38 rfl ?_
              refine ww_getR hX f_X12_142 (Or.inr ⟨_, rfl⟩) dX12_patch_39 ?_
              refine ww_bdR (fun o3 => ?_)
              refine ww_pc (b := 42) rfl ?_
              refine ww_iload_n hX 1 rfl dX12_patch_42 rfl ?_
              refine ww_iload_n hX 3 rfl dX12_patch_43 rfl ?_
              refine ww_iastc hX k_iast dX12_patch_44 ?_
              refine ww_bds (fun s4 => ?_)
              refine ww_iconst (v := 1) hX rfl dX12_patch_45 ?_
              exact ww_zret B dX12_patch_46
            · exact ww_sub [] rfl (t_X12_patch_29 B fu   st)
theorem c_X12_patch (G : GX) (l : Launch) (fu : Nat) (th : Nat) (p1 : Int32) (p2 : Int32) (p3 : Int32) (st : St) : MI G NN l yX12_patch cX12_patch 4 (some .boolean) 1 [.ref (G.2.2.1 + th), .int p1, .int p2, .int p3] st (f_X12_patch fu th p1 p2 p3 st) := mkI (by decide) (Nat.le_of_ble_eq_true rfl) (fun X res hl hG B => by subst hl; subst hG; exact t_X12_patch B fu th p1 p2 p3 st)
/-! StageHouseModel.grand(I)Z -/
def b_X12_grand_11 (fu : Nat)   (st : St) : Option (Int32 × St) :=
  ck (isb 0) (some (0, st))
set_option maxHeartbeats 4000000 in
set_option maxRecDepth 100000 in
theorem t_X12_grand_11 {X : CX} {res : Int32 × St} (B : BI X cX12_grand RX12 2 1 NN (some .boolean) res) (fu : Nat)   (st : St) : WW X res NN 11 [] [] st (b_X12_grand_11 fu  st) := by
  have hX := B.1
  have hL := B.2.1
  unfold b_X12_grand_11
  refine ww_iconst (v := 0) hX rfl dX12_grand_11 ?_
  exact ww_zret B dX12_grand_12
def f_X12_grand (fu : Nat) (th : Nat) (p1 : Int32) (st : St) : Option (Int32 × St) :=
  if p1 < 0 then (
  b_X12_grand_11 fu   st)
  else (
  if p1 ≤ 255 then (
  ck ((kd th).1 = 12) <|
  bd (sI st th 53 p1) fun s1 =>
  ck (isb 1) (some (1, s1)))
  else (
  b_X12_grand_11 fu   st))
set_option maxHeartbeats 4000000 in
set_option maxRecDepth 100000 in
theorem t_X12_grand {X : CX} {res : Int32 × St} (B : BI X cX12_grand RX12 2 1 NN (some .boolean) res) (fu : Nat) (th : Nat) (p1 : Int32) (st : St) : WW X res NN 0 [(0, .ref (x_b X + th)), (1, .int p1)] [] st (f_X12_grand fu th p1 st) := by
  have hX := B.1
  have hL := B.2.1
  unfold f_X12_grand
  refine ww_iload_n hX 1 rfl dX12_grand_0 rfl ?_
  refine ww_if_lt (tgt := 11) hX dX12_grand_1 (by decide) ?_ ?_
  · exact ww_sub [] rfl (t_X12_grand_11 B fu   st)
  · refine ww_iload_n hX 1 rfl dX12_grand_4 rfl ?_
    refine ww_sipush (v := 255) hX rfl dX12_grand_5 ?_
    refine ww_icmp_le (tgt := 13) hX dX12_grand_8 (by decide) ?_ ?_
    · refine ww_aload_n hX 0 rfl dX12_grand_13 rfl ?_
      refine ww_iload_n hX 1 rfl dX12_grand_14 rfl ?_
      refine ww_putI hX f_X12_341 rfl dX12_grand_15 ?_
      refine ww_bds (fun s1 => ?_)
      refine ww_iconst (v := 1) hX rfl dX12_grand_18 ?_
      exact ww_zret B dX12_grand_19
    · exact ww_sub [] rfl (t_X12_grand_11 B fu   st)
theorem c_X12_grand (G : GX) (l : Launch) (fu : Nat) (th : Nat) (p1 : Int32) (st : St) : MI G NN l yX12_grand cX12_grand 2 (some .boolean) 1 [.ref (G.2.2.1 + th), .int p1] st (f_X12_grand fu th p1 st) := mkI (by decide) (Nat.le_of_ble_eq_true rfl) (fun X res hl hG B => by subst hl; subst hG; exact t_X12_grand B fu th p1 st)
/-! StageHouseModel.wire(I)I -/
def b_X12_wire_10 (fu : Nat)   (st : St) : Option (Int32 × St) :=
  some ((-1), st)
set_option maxHeartbeats 4000000 in
set_option maxRecDepth 100000 in
theorem t_X12_wire_10 {X : CX} {res : Int32 × St} (B : BI X cX12_wire RX12 4 3 NN (some .int) res) (fu : Nat)   (st : St) : WW X res NN 10 [] [] st (b_X12_wire_10 fu  st) := by
  have hX := B.1
  have hL := B.2.1
  unfold b_X12_wire_10
  refine ww_iconst (v := (-1)) hX rfl dX12_wire_10 ?_
  exact ww_iret B dX12_wire_11
def b_X12_wire_103 (fu : Nat) (x0 : Nat) (x2 : Int64)  (st : St) : Option (Int32 × St) :=
  ck ((kd x0).1 = 12) <|
  ca (f_X12_nearest fu (x2 * ((gI st x0 53).toInt64)) 255 st) fun r8 s9 =>
  some (r8.toInt32, s9)
set_option maxHeartbeats 4000000 in
set_option maxRecDepth 100000 in
theorem t_X12_wire_103 {X : CX} {res : Int32 × St} (B : BI X cX12_wire RX12 4 3 NN (some .int) res) (fu : Nat) (x0 : Nat) (x2 : Int64)  (st : St) : WW X res NN 103 [(0, .ref (x_b X + x0)), (2, .long x2)] [] st (b_X12_wire_103 fu x0 x2 st) := by
  have hX := B.1
  have hL := B.2.1
  unfold b_X12_wire_103
  refine ww_lload_n hX 1 rfl dX12_wire_103 rfl ?_
  refine ww_aload_n hX 0 rfl dX12_wire_104 rfl ?_
  refine ww_getI hX f_X12_341 (Or.inl rfl) dX12_wire_105 ?_
  refine ww_i2l hX dX12_wire_108 ?_
  refine ww_lmul hX dX12_wire_109 ?_
  refine ww_ldc2 (v := 255) hX k_X12_519 dX12_wire_110 ?_
  refine ww_callSL (As := [.long (x2 * ((gI st x0 53).toInt64)), .long 255]) (rest := []) hX (Rk.of B.2.2.1 B.2.2.2.1 (by decide) (by decide)) g_X12_521 (c_X12_nearest (x_G X) (x_l X) fu (x2 * ((gI st x0 53).toInt64)) 255 st) rfl rfl (Nat.le_of_ble_eq_true rfl) dX12_wire_113 (fun r8 s9 => ?_)
  refine ww_pc (b := 116) rfl ?_
  refine ww_l2i hX dX12_wire_116 ?_
  exact ww_iret B dX12_wire_117
def b_X12_wire_83 (fu : Nat) (x0 : Nat) (y0 : Int64) (st : St) : Option (Int32 × St) :=
  b_X12_wire_103 fu x0 y0  st
set_option maxHeartbeats 4000000 in
set_option maxRecDepth 100000 in
theorem t_X12_wire_83 {X : CX} {res : Int32 × St} (B : BI X cX12_wire RX12 4 3 NN (some .int) res) (fu : Nat) (x0 : Nat) (y0 : Int64) (st : St) : WW X res NN 83 [(0, .ref (x_b X + x0))] [.long y0] st (b_X12_wire_83 fu x0 y0 st) := by
  have hX := B.1
  have hL := B.2.1
  unfold b_X12_wire_83
  refine ww_lstore_n (lv' := [(2, .long y0), (0, .ref (x_b X + x0))]) hX hL dX12_wire_83 rfl (by decide) rfl ?_
  refine ww_goto (tgt := 103) hX dX12_wire_84 (by decide) ?_
  exact ww_sub [1, 0] rfl (t_X12_wire_103 B fu x0 y0  st)
def f_X12_wire (fu : Nat) (th : Nat) (p1 : Int32) (st : St) : Option (Int32 × St) :=
  if p1 < 0 then (
  b_X12_wire_10 fu   st)
  else (
  if p1 ≤ 127 then (
  ck (¬ gR st th 51 = 0) <|
  ck ((kd th).1 = 12) <|
  bd (gR st th 51) fun o1 =>
  ck ((kd o1).1 = 100 ∧ inb p1 (kd o1).2) <|
  if (gI st o1 (ix p1)) = 0 then (
  some (0, st))
  else (
  ck (¬ gR st th 51 = 0) <|
  ck ((kd th).1 = 12) <|
  bd (gR st th 51) fun o2 =>
  ck ((kd o2).1 = 100 ∧ inb p1 (kd o2).2) <|
  ck ((kd th).1 = 12) <|
  ca (f_X12_out fu th (gI st o2 (ix p1)) st) fun r3 s4 =>
  ck (¬ gR s4 th 52 = 0) <|
  ck ((kd th).1 = 12) <|
  bd (gR s4 th 52) fun o5 =>
  ck ((kd o5).1 = 100 ∧ inb p1 (kd o5).2) <|
  if (gI s4 o5 (ix p1)) = 1 then (
  ca (f_X12_nearest fu (r3.toInt64 * r3.toInt64) 255 s4) fun r11 s12 =>
  b_X12_wire_103 fu th r11  s12)
  else (
  ck (¬ gR s4 th 52 = 0) <|
  ck ((kd th).1 = 12) <|
  bd (gR s4 th 52) fun o6 =>
  ck ((kd o6).1 = 100 ∧ inb p1 (kd o6).2) <|
  if (gI s4 o6 (ix p1)) = 2 then (
  if (lg_cmp r3.toInt64 128) < 0 then (
  b_X12_wire_83 fu th 0 s4)
  else (
  b_X12_wire_83 fu th 255 s4))
  else (
  ck (¬ gR s4 th 52 = 0) <|
  ck ((kd th).1 = 12) <|
  bd (gR s4 th 52) fun o7 =>
  ck ((kd o7).1 = 100 ∧ inb p1 (kd o7).2) <|
  if (gI s4 o7 (ix p1)) = 3 then (
  bd (255 - r3.toInt64) fun v10 =>
  b_X12_wire_103 fu th v10  s4)
  else (
  b_X12_wire_103 fu th r3.toInt64  s4)))))
  else (
  b_X12_wire_10 fu   st))
set_option maxHeartbeats 4000000 in
set_option maxRecDepth 100000 in
theorem t_X12_wire {X : CX} {res : Int32 × St} (B : BI X cX12_wire RX12 4 3 NN (some .int) res) (fu : Nat) (th : Nat) (p1 : Int32) (st : St) : WW X res NN 0 [(0, .ref (x_b X + th)), (1, .int p1)] [] st (f_X12_wire fu th p1 st) := by
  have hX := B.1
  have hL := B.2.1
  unfold f_X12_wire
  refine ww_iload_n hX 1 rfl dX12_wire_0 rfl ?_
  refine ww_if_lt (tgt := 10) hX dX12_wire_1 (by decide) ?_ ?_
  · exact ww_sub [] rfl (t_X12_wire_10 B fu   st)
  · refine ww_iload_n hX 1 rfl dX12_wire_4 rfl ?_
    refine ww_bipush (v := 127) hX rfl dX12_wire_5 ?_
    refine ww_icmp_le (tgt := 12) hX dX12_wire_7 (by decide) ?_ ?_
    · refine ww_aload_n hX 0 rfl dX12_wire_12 rfl ?_
      refine ww_getR hX f_X12_139 (Or.inr ⟨_, rfl⟩) dX12_wire_13 ?_
      refine ww_bdR (fun o1 => ?_)
      refine ww_iload_n hX 1 rfl dX12_wire_16 rfl ?_
      refine ww_ialdc hX k_iald dX12_wire_17 ?_
      refine ww_if_ne (tgt := 23) hX dX12_wire_18 (by decide) ?_ ?_
      · refine ww_aload_n hX 0 rfl dX12_wire_23 rfl ?_
        refine ww_aload_n hX 0 rfl dX12_wire_24 rfl ?_
        refine ww_getR hX f_X12_139 (Or.inr ⟨_, rfl⟩) dX12_wire_25 ?_
        refine ww_bdR (fun o2 => ?_)
        refine ww_iload_n hX 1 rfl dX12_wire_28 rfl ?_
        refine ww_ialdc hX k_iald dX12_wire_29 ?_
        refine ww_callVI (As := [.int (gI st o2 (ix p1))]) (rest := []) (o := th) hX (Rk.of B.2.2.1 B.2.2.2.1 (by decide) (by decide)) g_X12_525 g_X12_525.in (fun _ => c_X12_out (x_G X) (x_l X) fu th (gI st o2 (ix p1)) st) rfl rfl (Nat.le_of_ble_eq_true rfl) dX12_wire_30 (fun r3 s4 => ?_)
        refine ww_i2l hX dX12_wire_33 ?_
        refine ww_pc (b := 34) rfl ?_
        refine ww_lstore_n (lv' := [(2, .long r3.toInt64), (0, .ref (x_b X + th)), (1, .int p1)]) hX hL dX12_wire_34 rfl (by decide) rfl ?_
        refine ww_aload_n hX 1 rfl dX12_wire_35 rfl ?_
        refine ww_getR hX f_X12_142 (Or.inr ⟨_, rfl⟩) dX12_wire_36 ?_
        refine ww_bdR (fun o5 => ?_)
        refine ww_iload_n hX 2 rfl dX12_wire_39 rfl ?_
        refine ww_ialdc hX k_iald dX12_wire_40 ?_
        refine ww_iconst (v := 1) hX rfl dX12_wire_41 ?_
        refine ww_icmp_ne (tgt := 58) hX dX12_wire_42 (by decide) ?_ ?_
        · refine ww_aload_n hX 1 rfl dX12_wire_58 rfl ?_
          refine ww_getR hX f_X12_142 (Or.inr ⟨_, rfl⟩) dX12_wire_59 ?_
          refine ww_bdR (fun o6 => ?_)
          refine ww_iload_n hX 2 rfl dX12_wire_62 rfl ?_
          refine ww_ialdc hX k_iald dX12_wire_63 ?_
          refine ww_iconst (v := 2) hX rfl dX12_wire_64 ?_
          refine ww_icmp_ne (tgt := 87) hX dX12_wire_65 (by decide) ?_ ?_
          · refine ww_aload_n hX 1 rfl dX12_wire_87 rfl ?_
            refine ww_getR hX f_X12_142 (Or.inr ⟨_, rfl⟩) dX12_wire_88 ?_
            refine ww_bdR (fun o7 => ?_)
            refine ww_iload_n hX 2 rfl dX12_wire_91 rfl ?_
            refine ww_ialdc hX k_iald dX12_wire_92 ?_
            refine ww_iconst (v := 3) hX rfl dX12_wire_93 ?_
            refine ww_icmp_ne (tgt := 103) hX dX12_wire_94 (by decide) ?_ ?_
            · exact ww_sub [1, 0] rfl (t_X12_wire_103 B fu th r3.toInt64  s4)
            · refine ww_ldc2 (v := 255) hX k_X12_519 dX12_wire_97 ?_
              refine ww_lload_n hX 0 rfl dX12_wire_100 rfl ?_
              refine ww_lsub hX dX12_wire_101 ?_
              refine ww_bdl (fun v10 => ?_)
              refine ww_lstore_n (lv' := [(2, .long v10), (0, .ref (x_b X + th)), (1, .int p1)]) hX hL dX12_wire_102 rfl (by decide) rfl ?_
              exact ww_sub [1, 0] rfl (t_X12_wire_103 B fu th v10  s4)
          · refine ww_lload_n hX 0 rfl dX12_wire_68 rfl ?_
            refine ww_ldc2 (v := 128) hX k_X12_529 dX12_wire_69 ?_
            refine ww_lcmp hX dX12_wire_72 ?_
            refine ww_if_lt (tgt := 82) hX dX12_wire_73 (by decide) ?_ ?_
            · refine ww_lconst (v := 0) hX rfl dX12_wire_82 ?_
              exact ww_sub [1] rfl (t_X12_wire_83 B fu th 0 s4)
            · refine ww_ldc2 (v := 255) hX k_X12_519 dX12_wire_76 ?_
              refine ww_goto (tgt := 83) hX dX12_wire_79 (by decide) ?_
              exact ww_sub [1] rfl (t_X12_wire_83 B fu th 255 s4)
        · refine ww_lload_n hX 0 rfl dX12_wire_45 rfl ?_
          refine ww_lload_n hX 0 rfl dX12_wire_46 rfl ?_
          refine ww_lmul hX dX12_wire_47 ?_
          refine ww_ldc2 (v := 255) hX k_X12_519 dX12_wire_48 ?_
          refine ww_callSL (As := [.long (r3.toInt64 * r3.toInt64), .long 255]) (rest := []) hX (Rk.of B.2.2.1 B.2.2.2.1 (by decide) (by decide)) g_X12_521 (c_X12_nearest (x_G X) (x_l X) fu (r3.toInt64 * r3.toInt64) 255 s4) rfl rfl (Nat.le_of_ble_eq_true rfl) dX12_wire_51 (fun r11 s12 => ?_)
          refine ww_lstore_n (lv' := [(2, .long r11), (0, .ref (x_b X + th)), (1, .int p1)]) hX hL dX12_wire_54 rfl (by decide) rfl ?_
          refine ww_goto (tgt := 103) hX dX12_wire_55 (by decide) ?_
          exact ww_sub [1, 0] rfl (t_X12_wire_103 B fu th r11  s12)
      · refine ww_iconst (v := 0) hX rfl dX12_wire_21 ?_
        exact ww_iret B dX12_wire_22
    · exact ww_sub [] rfl (t_X12_wire_10 B fu   st)
theorem c_X12_wire (G : GX) (l : Launch) (fu : Nat) (th : Nat) (p1 : Int32) (st : St) : MI G NN l yX12_wire cX12_wire 4 (some .int) 3 [.ref (G.2.2.1 + th), .int p1] st (f_X12_wire fu th p1 st) := mkI (by decide) (Nat.le_of_ble_eq_true rfl) (fun X res hl hG B => by subst hl; subst hG; exact t_X12_wire B fu th p1 st)
/-! StageHouseModel.orText(I)V -/
/-! StageHouseModel.orText(I)V -/
def b_X12_orText_5_b (fu : Nat) (r_X12_orText : Nat → Int32 → St → Option (St)) (r_X12_andText : Nat → Int32 → St → Option (St)) (r_X12_notText : Nat → Int32 → St → Option (St)) (k_5 : Nat → Int32 → St → Option (St)) (x0 : Nat) (x1 : Int32)  (st : St) : Option (St) :=
  ck ((kd x0).1 = 12) <|
  ca (f_X12_takeSign fu x0 124 st) fun r2 s3 =>
  if r2 = 0 then (
  some s3)
  else (
  ck ((kd x0).1 = 12) <|
  cv (r_X12_andText x0 x1 s3) fun s4 =>
  k_5 x0 x1  s4)
set_option maxHeartbeats 4000000 in
set_option maxRecDepth 100000 in
theorem t_X12_orText_5_b {X : CX} {d : Nat} {res : St} (B : BV X cX12_orText RX12 2 (7 + (d + 1)) NN none res) (fu : Nat) (r_X12_orText : Nat → Int32 → St → Option (St)) (r_X12_andText : Nat → Int32 → St → Option (St)) (r_X12_notText : Nat → Int32 → St → Option (St)) (h_X12_orText : ∀ (th : Nat) (p1 : Int32) (st : St), MV (x_G X) NN (x_l X) yX12_orText cX12_orText 2 none (7 + d) [.ref (x_b X + th), .int p1] st (r_X12_orText th p1 st)) (h_X12_andText : ∀ (th : Nat) (p1 : Int32) (st : St), MV (x_G X) NN (x_l X) yX12_andText cX12_andText 2 none (7 + d) [.ref (x_b X + th), .int p1] st (r_X12_andText th p1 st)) (h_X12_notText : ∀ (th : Nat) (p1 : Int32) (st : St), MV (x_G X) NN (x_l X) yX12_notText cX12_notText 4 none (7 + d) [.ref (x_b X + th), .int p1] st (r_X12_notText th p1 st)) (k_5 : Nat → Int32 → St → Option (St)) (h_5 : ∀ (x0 : Nat) (x1 : Int32)  (st : St), WW X res NN 5 [(0, .ref (x_b X + x0)), (1, .int x1)] [] st (k_5 x0 x1 st)) (x0 : Nat) (x1 : Int32)  (st : St) : WW X res NN 5 [(0, .ref (x_b X + x0)), (1, .int x1)] [] st (b_X12_orText_5_b fu r_X12_orText r_X12_andText r_X12_notText k_5 x0 x1 st) := by
  have hX := B.1
  have hL := B.2.1
  unfold b_X12_orText_5_b
  refine ww_aload_n hX 0 rfl dX12_orText_5 rfl ?_
  refine ww_bipush (v := 124) hX rfl dX12_orText_6 ?_
  refine ww_callVI (As := [.int 124]) (rest := []) (o := x0) hX (Rk.of B.2.2.1 B.2.2.2.1 (by omega) (by decide)) g_X12_412 g_X12_412.in (fun _ => c_X12_takeSign (x_G X) (x_l X) fu x0 124 st) rfl rfl (Nat.le_of_ble_eq_true rfl) dX12_orText_8 (fun r2 s3 => ?_)
  refine ww_if_eq (tgt := 22) hX dX12_orText_11 (by decide) ?_ ?_
  · exact ww_vret B dX12_orText_22
  · refine ww_aload_n hX 0 rfl dX12_orText_14 rfl ?_
    refine ww_iload_n hX 1 rfl dX12_orText_15 rfl ?_
    refine ww_callVV (As := [.int x1]) (rest := []) (o := x0) hX (Rk.of B.2.2.1 B.2.2.2.1 (by omega) (by decide)) g_X12_534 g_X12_534.in (fun _ => h_X12_andText x0 x1 s3) rfl rfl (Nat.le_of_ble_eq_true rfl) dX12_orText_16 (fun s4 => ?_)
    refine ww_goto (tgt := 5) hX dX12_orText_19 (by decide) ?_
    exact h_5 x0 x1  s4
def b_X12_orText_5 (fu : Nat) (r_X12_orText : Nat → Int32 → St → Option (St)) (r_X12_andText : Nat → Int32 → St → Option (St)) (r_X12_notText : Nat → Int32 → St → Option (St)) : Nat → Nat → Int32 → St → Option (St)
  | 0, _, _, _ => none
  | i + 1, x0, x1, st => b_X12_orText_5_b fu r_X12_orText r_X12_andText r_X12_notText (b_X12_orText_5 fu r_X12_orText r_X12_andText r_X12_notText i) x0 x1 st
theorem t_X12_orText_5 {X : CX} {d : Nat} {res : St} (B : BV X cX12_orText RX12 2 (7 + (d + 1)) NN none res) (fu : Nat) (r_X12_orText : Nat → Int32 → St → Option (St)) (r_X12_andText : Nat → Int32 → St → Option (St)) (r_X12_notText : Nat → Int32 → St → Option (St)) (h_X12_orText : ∀ (th : Nat) (p1 : Int32) (st : St), MV (x_G X) NN (x_l X) yX12_orText cX12_orText 2 none (7 + d) [.ref (x_b X + th), .int p1] st (r_X12_orText th p1 st)) (h_X12_andText : ∀ (th : Nat) (p1 : Int32) (st : St), MV (x_G X) NN (x_l X) yX12_andText cX12_andText 2 none (7 + d) [.ref (x_b X + th), .int p1] st (r_X12_andText th p1 st)) (h_X12_notText : ∀ (th : Nat) (p1 : Int32) (st : St), MV (x_G X) NN (x_l X) yX12_notText cX12_notText 4 none (7 + d) [.ref (x_b X + th), .int p1] st (r_X12_notText th p1 st)) : ∀ (i : Nat) (x0 : Nat) (x1 : Int32)  (st : St), WW X res NN 5 [(0, .ref (x_b X + x0)), (1, .int x1)] [] st (b_X12_orText_5 fu r_X12_orText r_X12_andText r_X12_notText i x0 x1 st) := by
  intro i
  induction i with
  | zero => intro x0 x1 st; exact ww_none
  | succ i ih => intro x0 x1 st; exact t_X12_orText_5_b B fu r_X12_orText r_X12_andText r_X12_notText h_X12_orText h_X12_andText h_X12_notText (b_X12_orText_5 fu r_X12_orText r_X12_andText r_X12_notText i) ih x0 x1 st
def fb_X12_orText (fu : Nat) (r_X12_orText : Nat → Int32 → St → Option (St)) (r_X12_andText : Nat → Int32 → St → Option (St)) (r_X12_notText : Nat → Int32 → St → Option (St)) (th : Nat) (p1 : Int32) (st : St) : Option (St) :=
  ck ((kd th).1 = 12) <|
  cv (r_X12_andText th p1 st) fun s1 =>
  b_X12_orText_5 fu r_X12_orText r_X12_andText r_X12_notText fu th p1  s1
set_option maxHeartbeats 4000000 in
set_option maxRecDepth 100000 in
theorem t_X12_orText {X : CX} {d : Nat} {res : St} (B : BV X cX12_orText RX12 2 (7 + (d + 1)) NN none res) (fu : Nat) (r_X12_orText : Nat → Int32 → St → Option (St)) (r_X12_andText : Nat → Int32 → St → Option (St)) (r_X12_notText : Nat → Int32 → St → Option (St)) (h_X12_orText : ∀ (th : Nat) (p1 : Int32) (st : St), MV (x_G X) NN (x_l X) yX12_orText cX12_orText 2 none (7 + d) [.ref (x_b X + th), .int p1] st (r_X12_orText th p1 st)) (h_X12_andText : ∀ (th : Nat) (p1 : Int32) (st : St), MV (x_G X) NN (x_l X) yX12_andText cX12_andText 2 none (7 + d) [.ref (x_b X + th), .int p1] st (r_X12_andText th p1 st)) (h_X12_notText : ∀ (th : Nat) (p1 : Int32) (st : St), MV (x_G X) NN (x_l X) yX12_notText cX12_notText 4 none (7 + d) [.ref (x_b X + th), .int p1] st (r_X12_notText th p1 st)) (th : Nat) (p1 : Int32) (st : St) : WW X res NN 0 [(0, .ref (x_b X + th)), (1, .int p1)] [] st (fb_X12_orText fu r_X12_orText r_X12_andText r_X12_notText th p1 st) := by
  have hX := B.1
  have hL := B.2.1
  unfold fb_X12_orText
  refine ww_aload_n hX 0 rfl dX12_orText_0 rfl ?_
  refine ww_iload_n hX 1 rfl dX12_orText_1 rfl ?_
  refine ww_callVV (As := [.int p1]) (rest := []) (o := th) hX (Rk.of B.2.2.1 B.2.2.2.1 (by omega) (by decide)) g_X12_534 g_X12_534.in (fun _ => h_X12_andText th p1 st) rfl rfl (Nat.le_of_ble_eq_true rfl) dX12_orText_2 (fun s1 => ?_)
  exact t_X12_orText_5 B fu r_X12_orText r_X12_andText r_X12_notText h_X12_orText h_X12_andText h_X12_notText fu th p1  s1
/-! StageHouseModel.andText(I)V -/
def b_X12_andText_5_b (fu : Nat) (r_X12_orText : Nat → Int32 → St → Option (St)) (r_X12_andText : Nat → Int32 → St → Option (St)) (r_X12_notText : Nat → Int32 → St → Option (St)) (k_5 : Nat → Int32 → St → Option (St)) (x0 : Nat) (x1 : Int32)  (st : St) : Option (St) :=
  ck ((kd x0).1 = 12) <|
  ca (f_X12_takeSign fu x0 38 st) fun r2 s3 =>
  if r2 = 0 then (
  some s3)
  else (
  ck ((kd x0).1 = 12) <|
  cv (r_X12_notText x0 x1 s3) fun s4 =>
  k_5 x0 x1  s4)
set_option maxHeartbeats 4000000 in
set_option maxRecDepth 100000 in
theorem t_X12_andText_5_b {X : CX} {d : Nat} {res : St} (B : BV X cX12_andText RX12 2 (7 + (d + 1)) NN none res) (fu : Nat) (r_X12_orText : Nat → Int32 → St → Option (St)) (r_X12_andText : Nat → Int32 → St → Option (St)) (r_X12_notText : Nat → Int32 → St → Option (St)) (h_X12_orText : ∀ (th : Nat) (p1 : Int32) (st : St), MV (x_G X) NN (x_l X) yX12_orText cX12_orText 2 none (7 + d) [.ref (x_b X + th), .int p1] st (r_X12_orText th p1 st)) (h_X12_andText : ∀ (th : Nat) (p1 : Int32) (st : St), MV (x_G X) NN (x_l X) yX12_andText cX12_andText 2 none (7 + d) [.ref (x_b X + th), .int p1] st (r_X12_andText th p1 st)) (h_X12_notText : ∀ (th : Nat) (p1 : Int32) (st : St), MV (x_G X) NN (x_l X) yX12_notText cX12_notText 4 none (7 + d) [.ref (x_b X + th), .int p1] st (r_X12_notText th p1 st)) (k_5 : Nat → Int32 → St → Option (St)) (h_5 : ∀ (x0 : Nat) (x1 : Int32)  (st : St), WW X res NN 5 [(0, .ref (x_b X + x0)), (1, .int x1)] [] st (k_5 x0 x1 st)) (x0 : Nat) (x1 : Int32)  (st : St) : WW X res NN 5 [(0, .ref (x_b X + x0)), (1, .int x1)] [] st (b_X12_andText_5_b fu r_X12_orText r_X12_andText r_X12_notText k_5 x0 x1 st) := by
  have hX := B.1
  have hL := B.2.1
  unfold b_X12_andText_5_b
  refine ww_aload_n hX 0 rfl dX12_andText_5 rfl ?_
  refine ww_bipush (v := 38) hX rfl dX12_andText_6 ?_
  refine ww_callVI (As := [.int 38]) (rest := []) (o := x0) hX (Rk.of B.2.2.1 B.2.2.2.1 (by omega) (by decide)) g_X12_412 g_X12_412.in (fun _ => c_X12_takeSign (x_G X) (x_l X) fu x0 38 st) rfl rfl (Nat.le_of_ble_eq_true rfl) dX12_andText_8 (fun r2 s3 => ?_)
  refine ww_if_eq (tgt := 22) hX dX12_andText_11 (by decide) ?_ ?_
  · exact ww_vret B dX12_andText_22
  · refine ww_aload_n hX 0 rfl dX12_andText_14 rfl ?_
    refine ww_iload_n hX 1 rfl dX12_andText_15 rfl ?_
    refine ww_callVV (As := [.int x1]) (rest := []) (o := x0) hX (Rk.of B.2.2.1 B.2.2.2.1 (by omega) (by decide)) g_X12_537 g_X12_537.in (fun _ => h_X12_notText x0 x1 s3) rfl rfl (Nat.le_of_ble_eq_true rfl) dX12_andText_16 (fun s4 => ?_)
    refine ww_goto (tgt := 5) hX dX12_andText_19 (by decide) ?_
    exact h_5 x0 x1  s4
def b_X12_andText_5 (fu : Nat) (r_X12_orText : Nat → Int32 → St → Option (St)) (r_X12_andText : Nat → Int32 → St → Option (St)) (r_X12_notText : Nat → Int32 → St → Option (St)) : Nat → Nat → Int32 → St → Option (St)
  | 0, _, _, _ => none
  | i + 1, x0, x1, st => b_X12_andText_5_b fu r_X12_orText r_X12_andText r_X12_notText (b_X12_andText_5 fu r_X12_orText r_X12_andText r_X12_notText i) x0 x1 st
theorem t_X12_andText_5 {X : CX} {d : Nat} {res : St} (B : BV X cX12_andText RX12 2 (7 + (d + 1)) NN none res) (fu : Nat) (r_X12_orText : Nat → Int32 → St → Option (St)) (r_X12_andText : Nat → Int32 → St → Option (St)) (r_X12_notText : Nat → Int32 → St → Option (St)) (h_X12_orText : ∀ (th : Nat) (p1 : Int32) (st : St), MV (x_G X) NN (x_l X) yX12_orText cX12_orText 2 none (7 + d) [.ref (x_b X + th), .int p1] st (r_X12_orText th p1 st)) (h_X12_andText : ∀ (th : Nat) (p1 : Int32) (st : St), MV (x_G X) NN (x_l X) yX12_andText cX12_andText 2 none (7 + d) [.ref (x_b X + th), .int p1] st (r_X12_andText th p1 st)) (h_X12_notText : ∀ (th : Nat) (p1 : Int32) (st : St), MV (x_G X) NN (x_l X) yX12_notText cX12_notText 4 none (7 + d) [.ref (x_b X + th), .int p1] st (r_X12_notText th p1 st)) : ∀ (i : Nat) (x0 : Nat) (x1 : Int32)  (st : St), WW X res NN 5 [(0, .ref (x_b X + x0)), (1, .int x1)] [] st (b_X12_andText_5 fu r_X12_orText r_X12_andText r_X12_notText i x0 x1 st) := by
  intro i
  induction i with
  | zero => intro x0 x1 st; exact ww_none
  | succ i ih => intro x0 x1 st; exact t_X12_andText_5_b B fu r_X12_orText r_X12_andText r_X12_notText h_X12_orText h_X12_andText h_X12_notText (b_X12_andText_5 fu r_X12_orText r_X12_andText r_X12_notText i) ih x0 x1 st
def fb_X12_andText (fu : Nat) (r_X12_orText : Nat → Int32 → St → Option (St)) (r_X12_andText : Nat → Int32 → St → Option (St)) (r_X12_notText : Nat → Int32 → St → Option (St)) (th : Nat) (p1 : Int32) (st : St) : Option (St) :=
  ck ((kd th).1 = 12) <|
  cv (r_X12_notText th p1 st) fun s1 =>
  b_X12_andText_5 fu r_X12_orText r_X12_andText r_X12_notText fu th p1  s1
set_option maxHeartbeats 4000000 in
set_option maxRecDepth 100000 in
theorem t_X12_andText {X : CX} {d : Nat} {res : St} (B : BV X cX12_andText RX12 2 (7 + (d + 1)) NN none res) (fu : Nat) (r_X12_orText : Nat → Int32 → St → Option (St)) (r_X12_andText : Nat → Int32 → St → Option (St)) (r_X12_notText : Nat → Int32 → St → Option (St)) (h_X12_orText : ∀ (th : Nat) (p1 : Int32) (st : St), MV (x_G X) NN (x_l X) yX12_orText cX12_orText 2 none (7 + d) [.ref (x_b X + th), .int p1] st (r_X12_orText th p1 st)) (h_X12_andText : ∀ (th : Nat) (p1 : Int32) (st : St), MV (x_G X) NN (x_l X) yX12_andText cX12_andText 2 none (7 + d) [.ref (x_b X + th), .int p1] st (r_X12_andText th p1 st)) (h_X12_notText : ∀ (th : Nat) (p1 : Int32) (st : St), MV (x_G X) NN (x_l X) yX12_notText cX12_notText 4 none (7 + d) [.ref (x_b X + th), .int p1] st (r_X12_notText th p1 st)) (th : Nat) (p1 : Int32) (st : St) : WW X res NN 0 [(0, .ref (x_b X + th)), (1, .int p1)] [] st (fb_X12_andText fu r_X12_orText r_X12_andText r_X12_notText th p1 st) := by
  have hX := B.1
  have hL := B.2.1
  unfold fb_X12_andText
  refine ww_aload_n hX 0 rfl dX12_andText_0 rfl ?_
  refine ww_iload_n hX 1 rfl dX12_andText_1 rfl ?_
  refine ww_callVV (As := [.int p1]) (rest := []) (o := th) hX (Rk.of B.2.2.1 B.2.2.2.1 (by omega) (by decide)) g_X12_537 g_X12_537.in (fun _ => h_X12_notText th p1 st) rfl rfl (Nat.le_of_ble_eq_true rfl) dX12_andText_2 (fun s1 => ?_)
  exact t_X12_andText_5 B fu r_X12_orText r_X12_andText r_X12_notText h_X12_orText h_X12_andText h_X12_notText fu th p1  s1
/-! StageHouseModel.notText(I)V -/
def b_X12_notText_196 (fu : Nat) (r_X12_orText : Nat → Int32 → St → Option (St)) (r_X12_andText : Nat → Int32 → St → Option (St)) (r_X12_notText : Nat → Int32 → St → Option (St))   (st : St) : Option (St) :=
  some st
set_option maxHeartbeats 4000000 in
set_option maxRecDepth 100000 in
theorem t_X12_notText_196 {X : CX} {d : Nat} {res : St} (B : BV X cX12_notText RX12 4 (7 + (d + 1)) NN none res) (fu : Nat) (r_X12_orText : Nat → Int32 → St → Option (St)) (r_X12_andText : Nat → Int32 → St → Option (St)) (r_X12_notText : Nat → Int32 → St → Option (St)) (h_X12_orText : ∀ (th : Nat) (p1 : Int32) (st : St), MV (x_G X) NN (x_l X) yX12_orText cX12_orText 2 none (7 + d) [.ref (x_b X + th), .int p1] st (r_X12_orText th p1 st)) (h_X12_andText : ∀ (th : Nat) (p1 : Int32) (st : St), MV (x_G X) NN (x_l X) yX12_andText cX12_andText 2 none (7 + d) [.ref (x_b X + th), .int p1] st (r_X12_andText th p1 st)) (h_X12_notText : ∀ (th : Nat) (p1 : Int32) (st : St), MV (x_G X) NN (x_l X) yX12_notText cX12_notText 4 none (7 + d) [.ref (x_b X + th), .int p1] st (r_X12_notText th p1 st))   (st : St) : WW X res NN 196 [] [] st (b_X12_notText_196 fu r_X12_orText r_X12_andText r_X12_notText  st) := by
  have hX := B.1
  have hL := B.2.1
  unfold b_X12_notText_196
  exact ww_vret B dX12_notText_196
def b_X12_notText_46 (fu : Nat) (r_X12_orText : Nat → Int32 → St → Option (St)) (r_X12_andText : Nat → Int32 → St → Option (St)) (r_X12_notText : Nat → Int32 → St → Option (St)) (x0 : Nat) (x1 : Int32) (x2 : Int32)  (st : St) : Option (St) :=
  if x1 < 12 then (
  ck ((kd x0).1 = 12) <|
  ca (f_X12_takeSign fu x0 33 st) fun r4 s5 =>
  if r4 = 0 then (
  ck ((kd x0).1 = 12) <|
  cv (f_X12_needSign fu x0 40 s5) fun s6 =>
  ck ((kd x0).1 = 12) <|
  cv (r_X12_orText x0 (x1 + 1) s6) fun s7 =>
  ck ((kd x0).1 = 12) <|
  cv (f_X12_needSign fu x0 41 s7) fun s8 =>
  b_X12_notText_196 fu r_X12_orText r_X12_andText r_X12_notText   s8)
  else (
  ck ((kd x0).1 = 12) <|
  cv (r_X12_notText x0 (x1 + 1) s5) fun s9 =>
  b_X12_notText_196 fu r_X12_orText r_X12_andText r_X12_notText   s9))
  else (
  ck ((kd x0).1 = 12) <|
  cv (f_X12_tell fu x0 2 x2 st) fun s10 =>
  ck (isb 1) <|
  ck ((kd x0).1 = 12) <|
  bd (sI s10 x0 8 1) fun s11 =>
  some s11)
set_option maxHeartbeats 4000000 in
set_option maxRecDepth 100000 in
theorem t_X12_notText_46 {X : CX} {d : Nat} {res : St} (B : BV X cX12_notText RX12 4 (7 + (d + 1)) NN none res) (fu : Nat) (r_X12_orText : Nat → Int32 → St → Option (St)) (r_X12_andText : Nat → Int32 → St → Option (St)) (r_X12_notText : Nat → Int32 → St → Option (St)) (h_X12_orText : ∀ (th : Nat) (p1 : Int32) (st : St), MV (x_G X) NN (x_l X) yX12_orText cX12_orText 2 none (7 + d) [.ref (x_b X + th), .int p1] st (r_X12_orText th p1 st)) (h_X12_andText : ∀ (th : Nat) (p1 : Int32) (st : St), MV (x_G X) NN (x_l X) yX12_andText cX12_andText 2 none (7 + d) [.ref (x_b X + th), .int p1] st (r_X12_andText th p1 st)) (h_X12_notText : ∀ (th : Nat) (p1 : Int32) (st : St), MV (x_G X) NN (x_l X) yX12_notText cX12_notText 4 none (7 + d) [.ref (x_b X + th), .int p1] st (r_X12_notText th p1 st)) (x0 : Nat) (x1 : Int32) (x2 : Int32)  (st : St) : WW X res NN 46 [(0, .ref (x_b X + x0)), (1, .int x1), (2, .int x2)] [] st (b_X12_notText_46 fu r_X12_orText r_X12_andText r_X12_notText x0 x1 x2 st) := by
  have hX := B.1
  have hL := B.2.1
  unfold b_X12_notText_46
  refine ww_iload_n hX 1 rfl dX12_notText_46 rfl ?_
  refine ww_bipush (v := 12) hX rfl dX12_notText_47 ?_
  refine ww_icmp_lt (tgt := 64) hX dX12_notText_49 (by decide) ?_ ?_
  · refine ww_aload_n hX 0 rfl dX12_notText_64 rfl ?_
    refine ww_bipush (v := 33) hX rfl dX12_notText_65 ?_
    refine ww_callVI (As := [.int 33]) (rest := []) (o := x0) hX (Rk.of B.2.2.1 B.2.2.2.1 (by omega) (by decide)) g_X12_412 g_X12_412.in (fun _ => c_X12_takeSign (x_G X) (x_l X) fu x0 33 st) rfl rfl (Nat.le_of_ble_eq_true rfl) dX12_notText_67 (fun r4 s5 => ?_)
    refine ww_if_eq (tgt := 83) hX dX12_notText_70 (by decide) ?_ ?_
    · refine ww_aload_n hX 0 rfl dX12_notText_83 rfl ?_
      refine ww_bipush (v := 40) hX rfl dX12_notText_84 ?_
      refine ww_callVV (As := [.int 40]) (rest := []) (o := x0) hX (Rk.of B.2.2.1 B.2.2.2.1 (by omega) (by decide)) g_X12_452 g_X12_452.in (fun _ => c_X12_needSign (x_G X) (x_l X) fu x0 40 s5) rfl rfl (Nat.le_of_ble_eq_true rfl) dX12_notText_86 (fun s6 => ?_)
      refine ww_aload_n hX 0 rfl dX12_notText_89 rfl ?_
      refine ww_iload_n hX 1 rfl dX12_notText_90 rfl ?_
      refine ww_iconst (v := 1) hX rfl dX12_notText_91 ?_
      refine ww_iadd hX dX12_notText_92 ?_
      refine ww_pc (b := 93) rfl ?_
      refine ww_callVV (As := [.int (x1 + 1)]) (rest := []) (o := x0) hX (Rk.of B.2.2.1 B.2.2.2.1 (by omega) (by decide)) g_X12_531 g_X12_531.in (fun _ => h_X12_orText x0 (x1 + 1) s6) rfl rfl (Nat.le_of_ble_eq_true rfl) dX12_notText_93 (fun s7 => ?_)
      refine ww_aload_n hX 0 rfl dX12_notText_96 rfl ?_
      refine ww_bipush (v := 41) hX rfl dX12_notText_97 ?_
      refine ww_callVV (As := [.int 41]) (rest := []) (o := x0) hX (Rk.of B.2.2.1 B.2.2.2.1 (by omega) (by decide)) g_X12_452 g_X12_452.in (fun _ => c_X12_needSign (x_G X) (x_l X) fu x0 41 s7) rfl rfl (Nat.le_of_ble_eq_true rfl) dX12_notText_99 (fun s8 => ?_)
      refine ww_goto (tgt := 196) hX dX12_notText_102 (by decide) ?_
      exact ww_sub [] rfl (t_X12_notText_196 B fu r_X12_orText r_X12_andText r_X12_notText h_X12_orText h_X12_andText h_X12_notText   s8)
    · refine ww_aload_n hX 0 rfl dX12_notText_73 rfl ?_
      refine ww_iload_n hX 1 rfl dX12_notText_74 rfl ?_
      refine ww_iconst (v := 1) hX rfl dX12_notText_75 ?_
      refine ww_iadd hX dX12_notText_76 ?_
      refine ww_callVV (As := [.int (x1 + 1)]) (rest := []) (o := x0) hX (Rk.of B.2.2.1 B.2.2.2.1 (by omega) (by decide)) g_X12_537 g_X12_537.in (fun _ => h_X12_notText x0 (x1 + 1) s5) rfl rfl (Nat.le_of_ble_eq_true rfl) dX12_notText_77 (fun s9 => ?_)
      refine ww_goto (tgt := 196) hX dX12_notText_80 (by decide) ?_
      exact ww_sub [] rfl (t_X12_notText_196 B fu r_X12_orText r_X12_andText r_X12_notText h_X12_orText h_X12_andText h_X12_notText   s9)
  · refine ww_aload_n hX 0 rfl dX12_notText_52 rfl ?_
    refine ww_iconst (v := 2) hX rfl dX12_notText_53 ?_
    refine ww_iload_n hX 2 rfl dX12_notText_54 rfl ?_
    refine ww_callVV (As := [.int 2, .int x2]) (rest := []) (o := x0) hX (Rk.of B.2.2.1 B.2.2.2.1 (by omega) (by decide)) g_X12_394 g_X12_394.in (fun _ => c_X12_tell (x_G X) (x_l X) fu x0 2 x2 st) rfl rfl (Nat.le_of_ble_eq_true rfl) dX12_notText_55 (fun s10 => ?_)
    refine ww_aload_n hX 0 rfl dX12_notText_58 rfl ?_
    refine ww_iconst (v := 1) hX rfl dX12_notText_59 ?_
    refine ww_putZ hX f_X12_390 rfl dX12_notText_60 ?_
    refine ww_bds (fun s11 => ?_)
    refine ww_pc (b := 63) rfl ?_
    exact ww_vret B dX12_notText_63
def b_X12_notText_138 (fu : Nat) (r_X12_orText : Nat → Int32 → St → Option (St)) (r_X12_andText : Nat → Int32 → St → Option (St)) (r_X12_notText : Nat → Int32 → St → Option (St)) (x0 : Nat)  (st : St) : Option (St) :=
  ck ((kd x0).1 = 12) <|
  ca (f_X12_number fu x0 0 99999 st) fun r28 s29 =>
  b_X12_notText_196 fu r_X12_orText r_X12_andText r_X12_notText   s29
set_option maxHeartbeats 4000000 in
set_option maxRecDepth 100000 in
theorem t_X12_notText_138 {X : CX} {d : Nat} {res : St} (B : BV X cX12_notText RX12 4 (7 + (d + 1)) NN none res) (fu : Nat) (r_X12_orText : Nat → Int32 → St → Option (St)) (r_X12_andText : Nat → Int32 → St → Option (St)) (r_X12_notText : Nat → Int32 → St → Option (St)) (h_X12_orText : ∀ (th : Nat) (p1 : Int32) (st : St), MV (x_G X) NN (x_l X) yX12_orText cX12_orText 2 none (7 + d) [.ref (x_b X + th), .int p1] st (r_X12_orText th p1 st)) (h_X12_andText : ∀ (th : Nat) (p1 : Int32) (st : St), MV (x_G X) NN (x_l X) yX12_andText cX12_andText 2 none (7 + d) [.ref (x_b X + th), .int p1] st (r_X12_andText th p1 st)) (h_X12_notText : ∀ (th : Nat) (p1 : Int32) (st : St), MV (x_G X) NN (x_l X) yX12_notText cX12_notText 4 none (7 + d) [.ref (x_b X + th), .int p1] st (r_X12_notText th p1 st)) (x0 : Nat)  (st : St) : WW X res NN 138 [(0, .ref (x_b X + x0))] [] st (b_X12_notText_138 fu r_X12_orText r_X12_andText r_X12_notText x0 st) := by
  have hX := B.1
  have hL := B.2.1
  unfold b_X12_notText_138
  refine ww_aload_n hX 0 rfl dX12_notText_138 rfl ?_
  refine ww_iconst (v := 0) hX rfl dX12_notText_139 ?_
  refine ww_ldcw (v := 99999) hX k_X12_478 dX12_notText_140 ?_
  refine ww_callVI (As := [.int 0, .int 99999]) (rest := []) (o := x0) hX (Rk.of B.2.2.1 B.2.2.2.1 (by omega) (by decide)) g_X12_415 g_X12_415.in (fun _ => c_X12_number (x_G X) (x_l X) fu x0 0 99999 st) rfl rfl (Nat.le_of_ble_eq_true rfl) dX12_notText_143 (fun r28 s29 => ?_)
  refine ww_istore_n (lv' := [(3, .int r28), (0, .ref (x_b X + x0))]) hX hL dX12_notText_146 rfl (by decide) rfl ?_
  refine ww_goto (tgt := 196) hX dX12_notText_147 (by decide) ?_
  exact ww_sub [] rfl (t_X12_notText_196 B fu r_X12_orText r_X12_andText r_X12_notText h_X12_orText h_X12_andText h_X12_notText   s29)
def fb_X12_notText (fu : Nat) (r_X12_orText : Nat → Int32 → St → Option (St)) (r_X12_andText : Nat → Int32 → St → Option (St)) (r_X12_notText : Nat → Int32 → St → Option (St)) (th : Nat) (p1 : Int32) (st : St) : Option (St) :=
  ck ((kd th).1 = 12) <|
  if (gI st th 8) = 0 then (
  ck (¬ gR st th 4 = 0) <|
  ck ((kd th).1 = 12) <|
  bd (gR st th 4) fun o1 =>
  ck ((kd th).1 = 12) <|
  ck ((kd o1).1 = 100 ∧ inb (gI st th 5) (kd o1).2) <|
  bd (gI st o1 (ix (gI st th 5))) fun v2 =>
  ck (¬ gR st th 2 = 0) <|
  ck ((kd th).1 = 12) <|
  bd (gR st th 2) fun o3 =>
  ck ((kd th).1 = 12) <|
  ck ((kd o3).1 = 100 ∧ inb (gI st th 5) (kd o3).2) <|
  if (gI st o3 (ix (gI st th 5))) = 33 then (
  b_X12_notText_46 fu r_X12_orText r_X12_andText r_X12_notText th p1 v2  st)
  else (
  ck (¬ gR st th 2 = 0) <|
  ck ((kd th).1 = 12) <|
  bd (gR st th 2) fun o12 =>
  ck ((kd th).1 = 12) <|
  ck ((kd o12).1 = 100 ∧ inb (gI st th 5) (kd o12).2) <|
  if (gI st o12 (ix (gI st th 5))) = 40 then (
  b_X12_notText_46 fu r_X12_orText r_X12_andText r_X12_notText th p1 v2  st)
  else (
  ck ((kd th).1 = 12) <|
  ca (f_X12_takeWord fu th 9 st) fun r13 s14 =>
  if r13 = 0 then (
  ck ((kd th).1 = 12) <|
  ca (f_X12_takeWord fu th 16 s14) fun r15 s16 =>
  if r15 = 0 then (
  ck ((kd th).1 = 12) <|
  ca (f_X12_takeWord fu th 17 s16) fun r17 s18 =>
  if r17 = 0 then (
  ck ((kd th).1 = 12) <|
  cv (f_X12_wrong fu th s18) fun s19 =>
  b_X12_notText_196 fu r_X12_orText r_X12_andText r_X12_notText   s19)
  else (
  ck ((kd th).1 = 12) <|
  ca (f_X12_number fu th 0 15 s18) fun r20 s21 =>
  b_X12_notText_196 fu r_X12_orText r_X12_andText r_X12_notText   s21))
  else (
  ck ((kd th).1 = 12) <|
  ca (f_X12_number fu th 0 7 s16) fun r22 s23 =>
  b_X12_notText_196 fu r_X12_orText r_X12_andText r_X12_notText   s23))
  else (
  ck ((kd th).1 = 12) <|
  ca (f_X12_number fu th 0 7 s14) fun r24 s25 =>
  ck ((kd th).1 = 12) <|
  ca (f_X12_takeSign fu th 60 s25) fun r26 s27 =>
  if r26 = 0 then (
  ck ((kd th).1 = 12) <|
  cv (f_X12_needSign fu th 62 s27) fun s30 =>
  b_X12_notText_138 fu r_X12_orText r_X12_andText r_X12_notText th  s30)
  else (
  b_X12_notText_138 fu r_X12_orText r_X12_andText r_X12_notText th  s27)))))
  else (
  some st)
set_option maxHeartbeats 4000000 in
set_option maxRecDepth 100000 in
theorem t_X12_notText {X : CX} {d : Nat} {res : St} (B : BV X cX12_notText RX12 4 (7 + (d + 1)) NN none res) (fu : Nat) (r_X12_orText : Nat → Int32 → St → Option (St)) (r_X12_andText : Nat → Int32 → St → Option (St)) (r_X12_notText : Nat → Int32 → St → Option (St)) (h_X12_orText : ∀ (th : Nat) (p1 : Int32) (st : St), MV (x_G X) NN (x_l X) yX12_orText cX12_orText 2 none (7 + d) [.ref (x_b X + th), .int p1] st (r_X12_orText th p1 st)) (h_X12_andText : ∀ (th : Nat) (p1 : Int32) (st : St), MV (x_G X) NN (x_l X) yX12_andText cX12_andText 2 none (7 + d) [.ref (x_b X + th), .int p1] st (r_X12_andText th p1 st)) (h_X12_notText : ∀ (th : Nat) (p1 : Int32) (st : St), MV (x_G X) NN (x_l X) yX12_notText cX12_notText 4 none (7 + d) [.ref (x_b X + th), .int p1] st (r_X12_notText th p1 st)) (th : Nat) (p1 : Int32) (st : St) : WW X res NN 0 [(0, .ref (x_b X + th)), (1, .int p1)] [] st (fb_X12_notText fu r_X12_orText r_X12_andText r_X12_notText th p1 st) := by
  have hX := B.1
  have hL := B.2.1
  unfold fb_X12_notText
  refine ww_aload_n hX 0 rfl dX12_notText_0 rfl ?_
  refine ww_getI hX f_X12_390 (Or.inr rfl) dX12_notText_1 ?_
  refine ww_if_eq (tgt := 8) hX dX12_notText_4 (by decide) ?_ ?_
  · refine ww_aload_n hX 0 rfl dX12_notText_8 rfl ?_
    refine ww_getR hX f_X12_21 (Or.inr ⟨_, rfl⟩) dX12_notText_9 ?_
    refine ww_bdR (fun o1 => ?_)
    refine ww_aload_n hX 0 rfl dX12_notText_12 rfl ?_
    refine ww_getI hX f_X12_381 (Or.inl rfl) dX12_notText_13 ?_
    refine ww_ialdc hX k_iald dX12_notText_16 ?_
    refine ww_bdi (fun v2 => ?_)
    refine ww_istore_n (lv' := [(2, .int v2), (0, .ref (x_b X + th)), (1, .int p1)]) hX hL dX12_notText_17 rfl (by decide) rfl ?_
    refine ww_aload_n hX 1 rfl dX12_notText_18 rfl ?_
    refine ww_pc (b := 19) rfl ?_
    refine ww_getR hX f_X12_13 (Or.inr ⟨_, rfl⟩) dX12_notText_19 ?_
    refine ww_bdR (fun o3 => ?_)
    refine ww_aload_n hX 1 rfl dX12_notText_22 rfl ?_
    refine ww_getI hX f_X12_381 (Or.inl rfl) dX12_notText_23 ?_
    refine ww_ialdc hX k_iald dX12_notText_26 ?_
    refine ww_bipush (v := 33) hX rfl dX12_notText_27 ?_
    refine ww_icmp_eq (tgt := 46) hX dX12_notText_29 (by decide) ?_ ?_
    · exact ww_sub [1, 2, 0] rfl (t_X12_notText_46 B fu r_X12_orText r_X12_andText r_X12_notText h_X12_orText h_X12_andText h_X12_notText th p1 v2  st)
    · refine ww_aload_n hX 1 rfl dX12_notText_32 rfl ?_
      refine ww_getR hX f_X12_13 (Or.inr ⟨_, rfl⟩) dX12_notText_33 ?_
      refine ww_bdR (fun o12 => ?_)
      refine ww_aload_n hX 1 rfl dX12_notText_36 rfl ?_
      refine ww_getI hX f_X12_381 (Or.inl rfl) dX12_notText_37 ?_
      refine ww_ialdc hX k_iald dX12_notText_40 ?_
      refine ww_bipush (v := 40) hX rfl dX12_notText_41 ?_
      refine ww_icmp_ne (tgt := 105) hX dX12_notText_43 (by decide) ?_ ?_
      · refine ww_aload_n hX 1 rfl dX12_notText_105 rfl ?_
        refine ww_ldcwS (q := 34) hX rfl dX12_notText_106 ?_
        refine ww_callVI (As := [.ref ((x_K X).1 9)]) (rest := []) (o := th) hX (Rk.of B.2.2.1 B.2.2.2.1 (by omega) (by decide)) g_X12_406 g_X12_406.in (fun _ => c_X12_takeWord (x_G X) (x_l X) fu th 9 st) rfl rfl (Nat.le_of_ble_eq_true rfl) dX12_notText_109 (fun r13 s14 => ?_)
        refine ww_if_eq (tgt := 150) hX dX12_notText_112 (by decide) ?_ ?_
        · refine ww_aload_n hX 1 rfl dX12_notText_150 rfl ?_
          refine ww_ldcwS (q := 40) hX rfl dX12_notText_151 ?_
          refine ww_callVI (As := [.ref ((x_K X).1 16)]) (rest := []) (o := th) hX (Rk.of B.2.2.1 B.2.2.2.1 (by omega) (by decide)) g_X12_406 g_X12_406.in (fun _ => c_X12_takeWord (x_G X) (x_l X) fu th 16 s14) rfl rfl (Nat.le_of_ble_eq_true rfl) dX12_notText_154 (fun r15 s16 => ?_)
          refine ww_if_eq (tgt := 171) hX dX12_notText_157 (by decide) ?_ ?_
          · refine ww_aload_n hX 1 rfl dX12_notText_171 rfl ?_
            refine ww_ldcwS (q := 41) hX rfl dX12_notText_172 ?_
            refine ww_callVI (As := [.ref ((x_K X).1 17)]) (rest := []) (o := th) hX (Rk.of B.2.2.1 B.2.2.2.1 (by omega) (by decide)) g_X12_406 g_X12_406.in (fun _ => c_X12_takeWord (x_G X) (x_l X) fu th 17 s16) rfl rfl (Nat.le_of_ble_eq_true rfl) dX12_notText_175 (fun r17 s18 => ?_)
            refine ww_if_eq (tgt := 192) hX dX12_notText_178 (by decide) ?_ ?_
            · refine ww_aload_n hX 1 rfl dX12_notText_192 rfl ?_
              refine ww_callVV (As := []) (rest := []) (o := th) hX (Rk.of B.2.2.1 B.2.2.2.1 (by omega) (by decide)) g_X12_409 g_X12_409.in (fun _ => c_X12_wrong (x_G X) (x_l X) fu th s18) rfl rfl (Nat.le_of_ble_eq_true rfl) dX12_notText_193 (fun s19 => ?_)
              exact ww_sub [] rfl (t_X12_notText_196 B fu r_X12_orText r_X12_andText r_X12_notText h_X12_orText h_X12_andText h_X12_notText   s19)
            · refine ww_aload_n hX 1 rfl dX12_notText_181 rfl ?_
              refine ww_iconst (v := 0) hX rfl dX12_notText_182 ?_
              refine ww_bipush (v := 15) hX rfl dX12_notText_183 ?_
              refine ww_callVI (As := [.int 0, .int 15]) (rest := []) (o := th) hX (Rk.of B.2.2.1 B.2.2.2.1 (by omega) (by decide)) g_X12_415 g_X12_415.in (fun _ => c_X12_number (x_G X) (x_l X) fu th 0 15 s18) rfl rfl (Nat.le_of_ble_eq_true rfl) dX12_notText_185 (fun r20 s21 => ?_)
              refine ww_istore_n (lv' := [(3, .int r20), (2, .int v2), (0, .ref (x_b X + th)), (1, .int p1)]) hX hL dX12_notText_188 rfl (by decide) rfl ?_
              refine ww_goto (tgt := 196) hX dX12_notText_189 (by decide) ?_
              exact ww_sub [] rfl (t_X12_notText_196 B fu r_X12_orText r_X12_andText r_X12_notText h_X12_orText h_X12_andText h_X12_notText   s21)
          · refine ww_aload_n hX 1 rfl dX12_notText_160 rfl ?_
            refine ww_iconst (v := 0) hX rfl dX12_notText_161 ?_
            refine ww_bipush (v := 7) hX rfl dX12_notText_162 ?_
            refine ww_callVI (As := [.int 0, .int 7]) (rest := []) (o := th) hX (Rk.of B.2.2.1 B.2.2.2.1 (by omega) (by decide)) g_X12_415 g_X12_415.in (fun _ => c_X12_number (x_G X) (x_l X) fu th 0 7 s16) rfl rfl (Nat.le_of_ble_eq_true rfl) dX12_notText_164 (fun r22 s23 => ?_)
            refine ww_istore_n (lv' := [(3, .int r22), (2, .int v2), (0, .ref (x_b X + th)), (1, .int p1)]) hX hL dX12_notText_167 rfl (by decide) rfl ?_
            refine ww_goto (tgt := 196) hX dX12_notText_168 (by decide) ?_
            exact ww_sub [] rfl (t_X12_notText_196 B fu r_X12_orText r_X12_andText r_X12_notText h_X12_orText h_X12_andText h_X12_notText   s23)
        · refine ww_aload_n hX 1 rfl dX12_notText_115 rfl ?_
          refine ww_iconst (v := 0) hX rfl dX12_notText_116 ?_
          refine ww_bipush (v := 7) hX rfl dX12_notText_117 ?_
          refine ww_callVI (As := [.int 0, .int 7]) (rest := []) (o := th) hX (Rk.of B.2.2.1 B.2.2.2.1 (by omega) (by decide)) g_X12_415 g_X12_415.in (fun _ => c_X12_number (x_G X) (x_l X) fu th 0 7 s14) rfl rfl (Nat.le_of_ble_eq_true rfl) dX12_notText_119 (fun r24 s25 => ?_)
          refine ww_istore_n (lv' := [(3, .int r24), (2, .int v2), (0, .ref (x_b X + th)), (1, .int p1)]) hX hL dX12_notText_122 rfl (by decide) rfl ?_
          refine ww_aload_n hX 2 rfl dX12_notText_123 rfl ?_
          refine ww_bipush (v := 60) hX rfl dX12_notText_124 ?_
          refine ww_pc (b := 126) rfl ?_
          refine ww_callVI (As := [.int 60]) (rest := []) (o := th) hX (Rk.of B.2.2.1 B.2.2.2.1 (by omega) (by decide)) g_X12_412 g_X12_412.in (fun _ => c_X12_takeSign (x_G X) (x_l X) fu th 60 s25) rfl rfl (Nat.le_of_ble_eq_true rfl) dX12_notText_126 (fun r26 s27 => ?_)
          refine ww_if_ne (tgt := 138) hX dX12_notText_129 (by decide) ?_ ?_
          · exact ww_sub [2] rfl (t_X12_notText_138 B fu r_X12_orText r_X12_andText r_X12_notText h_X12_orText h_X12_andText h_X12_notText th  s27)
          · refine ww_aload_n hX 2 rfl dX12_notText_132 rfl ?_
            refine ww_bipush (v := 62) hX rfl dX12_notText_133 ?_
            refine ww_callVV (As := [.int 62]) (rest := []) (o := th) hX (Rk.of B.2.2.1 B.2.2.2.1 (by omega) (by decide)) g_X12_452 g_X12_452.in (fun _ => c_X12_needSign (x_G X) (x_l X) fu th 62 s27) rfl rfl (Nat.le_of_ble_eq_true rfl) dX12_notText_135 (fun s30 => ?_)
            exact ww_sub [2] rfl (t_X12_notText_138 B fu r_X12_orText r_X12_andText r_X12_notText h_X12_orText h_X12_andText h_X12_notText th  s30)
      · exact ww_sub [1, 2, 0] rfl (t_X12_notText_46 B fu r_X12_orText r_X12_andText r_X12_notText h_X12_orText h_X12_andText h_X12_notText th p1 v2  st)
  · exact ww_vret B dX12_notText_7
def F_X12_orText (fu : Nat) : Nat → (Nat → Int32 → St → Option (St)) × (Nat → Int32 → St → Option (St)) × (Nat → Int32 → St → Option (St))
  | 0 => (fun _ _ _ => none, fun _ _ _ => none, fun _ _ _ => none)
  | d + 1 => (fb_X12_orText fu (F_X12_orText fu d).1 (F_X12_orText fu d).2.1 (F_X12_orText fu d).2.2, fb_X12_andText fu (F_X12_orText fu d).1 (F_X12_orText fu d).2.1 (F_X12_orText fu d).2.2, fb_X12_notText fu (F_X12_orText fu d).1 (F_X12_orText fu d).2.1 (F_X12_orText fu d).2.2)
theorem CF_X12_orText (G : GX) (l : Launch) (fu : Nat) : ∀ d : Nat, (∀ (th : Nat) (p1 : Int32) (st : St), MV G NN l yX12_orText cX12_orText 2 none (7 + d) [.ref (G.2.2.1 + th), .int p1] st ((F_X12_orText fu d).1 th p1 st)) ∧ (∀ (th : Nat) (p1 : Int32) (st : St), MV G NN l yX12_andText cX12_andText 2 none (7 + d) [.ref (G.2.2.1 + th), .int p1] st ((F_X12_orText fu d).2.1 th p1 st)) ∧ (∀ (th : Nat) (p1 : Int32) (st : St), MV G NN l yX12_notText cX12_notText 4 none (7 + d) [.ref (G.2.2.1 + th), .int p1] st ((F_X12_orText fu d).2.2 th p1 st)) := by
  intro d
  induction d with
  | zero => exact ⟨fun th p1 st => (fun u h => by cases h), fun th p1 st => (fun u h => by cases h), fun th p1 st => (fun u h => by cases h)⟩
  | succ d ih => exact ⟨fun th p1 st => mkV (by decide) (Nat.le_of_ble_eq_true rfl) (fun X res hl hG B => by subst hl; subst hG; exact t_X12_orText B fu (F_X12_orText fu d).1 (F_X12_orText fu d).2.1 (F_X12_orText fu d).2.2 ih.1 ih.2.1 ih.2.2 th p1 st), fun th p1 st => mkV (by decide) (Nat.le_of_ble_eq_true rfl) (fun X res hl hG B => by subst hl; subst hG; exact t_X12_andText B fu (F_X12_orText fu d).1 (F_X12_orText fu d).2.1 (F_X12_orText fu d).2.2 ih.1 ih.2.1 ih.2.2 th p1 st), fun th p1 st => mkV (by decide) (Nat.le_of_ble_eq_true rfl) (fun X res hl hG B => by subst hl; subst hG; exact t_X12_notText B fu (F_X12_orText fu d).1 (F_X12_orText fu d).2.1 (F_X12_orText fu d).2.2 ih.1 ih.2.1 ih.2.2 th p1 st)⟩
def f_X12_orText (fu : Nat) (th : Nat) (p1 : Int32) (st : St) : Option (St) := (F_X12_orText fu 45).1 th p1 st
theorem c_X12_orText (G : GX) (l : Launch) (fu : Nat) (th : Nat) (p1 : Int32) (st : St) : MV G NN l yX12_orText cX12_orText 2 none 52 [.ref (G.2.2.1 + th), .int p1] st (f_X12_orText fu th p1 st) := (CF_X12_orText G l fu 45).1 th p1 st
def f_X12_andText (fu : Nat) (th : Nat) (p1 : Int32) (st : St) : Option (St) := (F_X12_orText fu 45).2.1 th p1 st
theorem c_X12_andText (G : GX) (l : Launch) (fu : Nat) (th : Nat) (p1 : Int32) (st : St) : MV G NN l yX12_andText cX12_andText 2 none 52 [.ref (G.2.2.1 + th), .int p1] st (f_X12_andText fu th p1 st) := (CF_X12_orText G l fu 45).2.1 th p1 st
def f_X12_notText (fu : Nat) (th : Nat) (p1 : Int32) (st : St) : Option (St) := (F_X12_orText fu 45).2.2 th p1 st
theorem c_X12_notText (G : GX) (l : Launch) (fu : Nat) (th : Nat) (p1 : Int32) (st : St) : MV G NN l yX12_notText cX12_notText 4 none 52 [.ref (G.2.2.1 + th), .int p1] st (f_X12_notText fu th p1 st) := (CF_X12_orText G l fu 45).2.2 th p1 st
/-! StageHouseModel.andText(I)V -/

/-! StageHouseModel.notText(I)V -/

/-! StageHouseModel.lock(I)I -/
def b_X12_lock_10 (fu : Nat) (x0 : Nat)  (st : St) : Option (Int32 × St) :=
  ck ((kd x0).1 = 12) <|
  bd (sI st x0 1 0) fun s1 =>
  some ((-1), s1)
set_option maxHeartbeats 4000000 in
set_option maxRecDepth 100000 in
theorem t_X12_lock_10 {X : CX} {res : Int32 × St} (B : BI X cX12_lock RX12 4 53 NN (some .int) res) (fu : Nat) (x0 : Nat)  (st : St) : WW X res NN 10 [(0, .ref (x_b X + x0))] [] st (b_X12_lock_10 fu x0 st) := by
  have hX := B.1
  have hL := B.2.1
  unfold b_X12_lock_10
  refine ww_aload_n hX 0 rfl dX12_lock_10 rfl ?_
  refine ww_iconst (v := 0) hX rfl dX12_lock_11 ?_
  refine ww_putI hX f_X12_345 rfl dX12_lock_12 ?_
  refine ww_bds (fun s1 => ?_)
  refine ww_iconst (v := (-1)) hX rfl dX12_lock_15 ?_
  exact ww_iret B dX12_lock_16
def b_X12_lock_96_b (fu : Nat) (k_96 : Nat → Int32 → Int32 → Int32 → St → Option (Int32 × St)) (x0 : Nat) (x1 : Int32) (x2 : Int32) (x3 : Int32)  (st : St) : Option (Int32 × St) :=
  if x2 ≤ x3 then (
  some (0, st))
  else (
  ck (¬ gR st x0 69 = 0) <|
  ck ((kd x0).1 = 12) <|
  bd (gR st x0 69) fun o7 =>
  ck (¬ gR st x0 2 = 0) <|
  ck ((kd x0).1 = 12) <|
  bd (gR st x0 2) fun o8 =>
  ck ((kd o8).1 = 100 ∧ inb x3 (kd o8).2) <|
  ck ((kd o7).1 = 100 ∧ inb ((61 * x1) + x3) (kd o7).2) <|
  bd (sI st o7 (ix ((61 * x1) + x3)) (gI st o8 (ix x3))) fun s9 =>
  ck (¬ gR s9 x0 70 = 0) <|
  ck ((kd x0).1 = 12) <|
  bd (gR s9 x0 70) fun o10 =>
  ck (¬ gR s9 x0 3 = 0) <|
  ck ((kd x0).1 = 12) <|
  bd (gR s9 x0 3) fun o11 =>
  ck ((kd o11).1 = 103 ∧ inb x3 (kd o11).2) <|
  ck ((kd o10).1 = 103 ∧ inb ((61 * x1) + x3) (kd o10).2) <|
  bd (sL s9 o10 (ix ((61 * x1) + x3)) (gL s9 o11 (ix x3))) fun s12 =>
  bd (x3 + 1) fun v13 =>
  k_96 x0 x1 x2 v13  s12)
set_option maxHeartbeats 4000000 in
set_option maxRecDepth 100000 in
theorem t_X12_lock_96_b {X : CX} {res : Int32 × St} (B : BI X cX12_lock RX12 4 53 NN (some .int) res) (fu : Nat) (k_96 : Nat → Int32 → Int32 → Int32 → St → Option (Int32 × St)) (h_96 : ∀ (x0 : Nat) (x1 : Int32) (x2 : Int32) (x3 : Int32)  (st : St), WW X res NN 96 [(0, .ref (x_b X + x0)), (1, .int x1), (2, .int x2), (3, .int x3)] [] st (k_96 x0 x1 x2 x3 st)) (x0 : Nat) (x1 : Int32) (x2 : Int32) (x3 : Int32)  (st : St) : WW X res NN 96 [(0, .ref (x_b X + x0)), (1, .int x1), (2, .int x2), (3, .int x3)] [] st (b_X12_lock_96_b fu k_96 x0 x1 x2 x3 st) := by
  have hX := B.1
  have hL := B.2.1
  unfold b_X12_lock_96_b
  refine ww_iload_n hX 3 rfl dX12_lock_96 rfl ?_
  refine ww_iload_n hX 2 rfl dX12_lock_97 rfl ?_
  refine ww_icmp_ge (tgt := 141) hX dX12_lock_98 (by decide) ?_ ?_
  · refine ww_iconst (v := 0) hX rfl dX12_lock_141 ?_
    exact ww_iret B dX12_lock_142
  · refine ww_aload_n hX 0 rfl dX12_lock_101 rfl ?_
    refine ww_getR hX f_X12_187 (Or.inr ⟨_, rfl⟩) dX12_lock_102 ?_
    refine ww_bdR (fun o7 => ?_)
    refine ww_bipush (v := 61) hX rfl dX12_lock_105 ?_
    refine ww_iload_n hX 1 rfl dX12_lock_107 rfl ?_
    refine ww_imul hX dX12_lock_108 ?_
    refine ww_iload_n hX 3 rfl dX12_lock_109 rfl ?_
    refine ww_iadd hX dX12_lock_110 ?_
    refine ww_pc (b := 111) rfl ?_
    refine ww_aload_n hX 0 rfl dX12_lock_111 rfl ?_
    refine ww_getR hX f_X12_13 (Or.inr ⟨_, rfl⟩) dX12_lock_112 ?_
    refine ww_bdR (fun o8 => ?_)
    refine ww_iload_n hX 3 rfl dX12_lock_115 rfl ?_
    refine ww_ialdc hX k_iald dX12_lock_116 ?_
    refine ww_iastc hX k_iast dX12_lock_117 ?_
    refine ww_bds (fun s9 => ?_)
    refine ww_aload_n hX 0 rfl dX12_lock_118 rfl ?_
    refine ww_getR hX f_X12_190 (Or.inr ⟨_, rfl⟩) dX12_lock_119 ?_
    refine ww_bdR (fun o10 => ?_)
    refine ww_bipush (v := 61) hX rfl dX12_lock_122 ?_
    refine ww_pc (b := 124) rfl ?_
    refine ww_iload_n hX 1 rfl dX12_lock_124 rfl ?_
    refine ww_imul hX dX12_lock_125 ?_
    refine ww_iload_n hX 3 rfl dX12_lock_126 rfl ?_
    refine ww_iadd hX dX12_lock_127 ?_
    refine ww_aload_n hX 0 rfl dX12_lock_128 rfl ?_
    refine ww_getR hX f_X12_17 (Or.inr ⟨_, rfl⟩) dX12_lock_129 ?_
    refine ww_bdR (fun o11 => ?_)
    refine ww_iload_n hX 3 rfl dX12_lock_132 rfl ?_
    refine ww_laldc hX k_lald dX12_lock_133 ?_
    refine ww_pc (b := 134) rfl ?_
    refine ww_lastc hX k_last dX12_lock_134 ?_
    refine ww_bds (fun s12 => ?_)
    refine ww_iincb (lv' := fun v13 => [(3, .int v13), (0, .ref (x_b X + x0)), (1, .int x1), (2, .int x2)]) (c := 1) hX hL 3 rfl dX12_lock_135 rfl (by decide) (fun _ => rfl) (fun v13 => ?_)
    refine ww_goto (tgt := 96) hX dX12_lock_138 (by decide) ?_
    exact ww_sub [1, 2, 3, 0] rfl (h_96 x0 x1 x2 v13  s12)
def b_X12_lock_96 (fu : Nat) : Nat → Nat → Int32 → Int32 → Int32 → St → Option (Int32 × St)
  | 0, _, _, _, _, _ => none
  | i + 1, x0, x1, x2, x3, st => b_X12_lock_96_b fu (b_X12_lock_96 fu i) x0 x1 x2 x3 st
theorem t_X12_lock_96 {X : CX} {res : Int32 × St} (B : BI X cX12_lock RX12 4 53 NN (some .int) res) (fu : Nat) : ∀ (i : Nat) (x0 : Nat) (x1 : Int32) (x2 : Int32) (x3 : Int32)  (st : St), WW X res NN 96 [(0, .ref (x_b X + x0)), (1, .int x1), (2, .int x2), (3, .int x3)] [] st (b_X12_lock_96 fu i x0 x1 x2 x3 st) := by
  intro i
  induction i with
  | zero => intro x0 x1 x2 x3 st; exact ww_none
  | succ i ih => intro x0 x1 x2 x3 st; exact t_X12_lock_96_b B fu (b_X12_lock_96 fu i) ih x0 x1 x2 x3 st
def b_X12_lock_72 (fu : Nat) (x0 : Nat) (x1 : Int32) (x2 : Int32)  (st : St) : Option (Int32 × St) :=
  ck ((kd x0).1 = 12) <|
  if (gI st x0 6) = 0 then (
  ck (¬ gR st x0 68 = 0) <|
  ck ((kd x0).1 = 12) <|
  bd (gR st x0 68) fun o5 =>
  ck ((kd o5).1 = 100 ∧ inb x1 (kd o5).2) <|
  bd (sI st o5 (ix x1) x2) fun s6 =>
  b_X12_lock_96 fu fu x0 x1 x2 0  s6)
  else (
  ck ((kd x0).1 = 12) <|
  some (((-10)) - (gI st x0 7), st))
set_option maxHeartbeats 4000000 in
set_option maxRecDepth 100000 in
theorem t_X12_lock_72 {X : CX} {res : Int32 × St} (B : BI X cX12_lock RX12 4 53 NN (some .int) res) (fu : Nat) (x0 : Nat) (x1 : Int32) (x2 : Int32)  (st : St) : WW X res NN 72 [(0, .ref (x_b X + x0)), (1, .int x1), (2, .int x2)] [] st (b_X12_lock_72 fu x0 x1 x2 st) := by
  have hX := B.1
  have hL := B.2.1
  unfold b_X12_lock_72
  refine ww_aload_n hX 0 rfl dX12_lock_72 rfl ?_
  refine ww_getI hX f_X12_384 (Or.inl rfl) dX12_lock_73 ?_
  refine ww_if_eq (tgt := 87) hX dX12_lock_76 (by decide) ?_ ?_
  · refine ww_aload_n hX 0 rfl dX12_lock_87 rfl ?_
    refine ww_getR hX f_X12_184 (Or.inr ⟨_, rfl⟩) dX12_lock_88 ?_
    refine ww_bdR (fun o5 => ?_)
    refine ww_iload_n hX 1 rfl dX12_lock_91 rfl ?_
    refine ww_iload_n hX 2 rfl dX12_lock_92 rfl ?_
    refine ww_iastc hX k_iast dX12_lock_93 ?_
    refine ww_bds (fun s6 => ?_)
    refine ww_iconst (v := 0) hX rfl dX12_lock_94 ?_
    refine ww_istore_n (lv' := [(3, .int 0), (0, .ref (x_b X + x0)), (1, .int x1), (2, .int x2)]) hX hL dX12_lock_95 rfl (by decide) rfl ?_
    exact ww_sub [1, 2, 3, 0] rfl (t_X12_lock_96 B fu fu x0 x1 x2 0  s6)
  · refine ww_bipush (v := (-10)) hX rfl dX12_lock_79 ?_
    refine ww_aload_n hX 0 rfl dX12_lock_81 rfl ?_
    refine ww_getI hX f_X12_387 (Or.inl rfl) dX12_lock_82 ?_
    refine ww_isub hX dX12_lock_85 ?_
    exact ww_iret B dX12_lock_86
def b_X12_lock_49 (fu : Nat) (x0 : Nat) (x1 : Int32)  (st : St) : Option (Int32 × St) :=
  ck ((kd x0).1 = 12) <|
  bd (gI st x0 5) fun v4 =>
  if v4 ≤ 60 then (
  b_X12_lock_72 fu x0 x1 v4  st)
  else (
  ck (¬ gR st x0 4 = 0) <|
  ck ((kd x0).1 = 12) <|
  bd (gR st x0 4) fun o14 =>
  ck ((kd o14).1 = 100 ∧ inb 60 (kd o14).2) <|
  ck ((kd x0).1 = 12) <|
  cv (f_X12_tell fu x0 2 (gI st o14 (ix 60)) st) fun s15 =>
  b_X12_lock_72 fu x0 x1 v4  s15)
set_option maxHeartbeats 4000000 in
set_option maxRecDepth 100000 in
theorem t_X12_lock_49 {X : CX} {res : Int32 × St} (B : BI X cX12_lock RX12 4 53 NN (some .int) res) (fu : Nat) (x0 : Nat) (x1 : Int32)  (st : St) : WW X res NN 49 [(0, .ref (x_b X + x0)), (1, .int x1)] [] st (b_X12_lock_49 fu x0 x1 st) := by
  have hX := B.1
  have hL := B.2.1
  unfold b_X12_lock_49
  refine ww_aload_n hX 0 rfl dX12_lock_49 rfl ?_
  refine ww_getI hX f_X12_381 (Or.inl rfl) dX12_lock_50 ?_
  refine ww_bdi (fun v4 => ?_)
  refine ww_istore_n (lv' := [(2, .int v4), (0, .ref (x_b X + x0)), (1, .int x1)]) hX hL dX12_lock_53 rfl (by decide) rfl ?_
  refine ww_iload_n hX 0 rfl dX12_lock_54 rfl ?_
  refine ww_bipush (v := 60) hX rfl dX12_lock_55 ?_
  refine ww_icmp_le (tgt := 72) hX dX12_lock_57 (by decide) ?_ ?_
  · exact ww_sub [1, 2, 0] rfl (t_X12_lock_72 B fu x0 x1 v4  st)
  · refine ww_aload_n hX 1 rfl dX12_lock_60 rfl ?_
    refine ww_iconst (v := 2) hX rfl dX12_lock_61 ?_
    refine ww_aload_n hX 1 rfl dX12_lock_62 rfl ?_
    refine ww_getR hX f_X12_21 (Or.inr ⟨_, rfl⟩) dX12_lock_63 ?_
    refine ww_bdR (fun o14 => ?_)
    refine ww_bipush (v := 60) hX rfl dX12_lock_66 ?_
    refine ww_ialdc hX k_iald dX12_lock_68 ?_
    refine ww_callVV (As := [.int 2, .int (gI st o14 (ix 60))]) (rest := []) (o := x0) hX (Rk.of B.2.2.1 B.2.2.2.1 (by decide) (by decide)) g_X12_394 g_X12_394.in (fun _ => c_X12_tell (x_G X) (x_l X) fu x0 2 (gI st o14 (ix 60)) st) rfl rfl (Nat.le_of_ble_eq_true rfl) dX12_lock_69 (fun s15 => ?_)
    exact ww_sub [1, 2, 0] rfl (t_X12_lock_72 B fu x0 x1 v4  s15)
def f_X12_lock (fu : Nat) (th : Nat) (p1 : Int32) (st : St) : Option (Int32 × St) :=
  if p1 < 0 then (
  b_X12_lock_10 fu th  st)
  else (
  if p1 ≤ 7 then (
  ck ((kd th).1 = 12) <|
  cv (f_X12_read fu th st) fun s2 =>
  ck ((kd th).1 = 12) <|
  cv (f_X12_orText fu th 0 s2) fun s3 =>
  ck ((kd th).1 = 12) <|
  if (gI s3 th 8) = 0 then (
  ck (¬ gR s3 th 2 = 0) <|
  ck ((kd th).1 = 12) <|
  bd (gR s3 th 2) fun o16 =>
  ck ((kd th).1 = 12) <|
  ck ((kd o16).1 = 100 ∧ inb (gI s3 th 5) (kd o16).2) <|
  if (gI s3 o16 (ix (gI s3 th 5))) = 0 then (
  b_X12_lock_49 fu th p1  s3)
  else (
  ck ((kd th).1 = 12) <|
  cv (f_X12_wrong fu th s3) fun s17 =>
  b_X12_lock_49 fu th p1  s17))
  else (
  b_X12_lock_49 fu th p1  s3))
  else (
  b_X12_lock_10 fu th  st))
set_option maxHeartbeats 4000000 in
set_option maxRecDepth 100000 in
theorem t_X12_lock {X : CX} {res : Int32 × St} (B : BI X cX12_lock RX12 4 53 NN (some .int) res) (fu : Nat) (th : Nat) (p1 : Int32) (st : St) : WW X res NN 0 [(0, .ref (x_b X + th)), (1, .int p1)] [] st (f_X12_lock fu th p1 st) := by
  have hX := B.1
  have hL := B.2.1
  unfold f_X12_lock
  refine ww_iload_n hX 1 rfl dX12_lock_0 rfl ?_
  refine ww_if_lt (tgt := 10) hX dX12_lock_1 (by decide) ?_ ?_
  · exact ww_sub [0] rfl (t_X12_lock_10 B fu th  st)
  · refine ww_iload_n hX 1 rfl dX12_lock_4 rfl ?_
    refine ww_bipush (v := 7) hX rfl dX12_lock_5 ?_
    refine ww_icmp_le (tgt := 17) hX dX12_lock_7 (by decide) ?_ ?_
    · refine ww_aload_n hX 0 rfl dX12_lock_17 rfl ?_
      refine ww_callVV (As := []) (rest := []) (o := th) hX (Rk.of B.2.2.1 B.2.2.2.1 (by decide) (by decide)) g_X12_426 g_X12_426.in (fun _ => c_X12_read (x_G X) (x_l X) fu th st) rfl rfl (Nat.le_of_ble_eq_true rfl) dX12_lock_18 (fun s2 => ?_)
      refine ww_aload_n hX 0 rfl dX12_lock_21 rfl ?_
      refine ww_iconst (v := 0) hX rfl dX12_lock_22 ?_
      refine ww_callVV (As := [.int 0]) (rest := []) (o := th) hX (Rk.of B.2.2.1 B.2.2.2.1 (by decide) (by decide)) g_X12_531 g_X12_531.in (fun _ => c_X12_orText (x_G X) (x_l X) fu th 0 s2) rfl rfl (Nat.le_of_ble_eq_true rfl) dX12_lock_23 (fun s3 => ?_)
      refine ww_aload_n hX 0 rfl dX12_lock_26 rfl ?_
      refine ww_getI hX f_X12_390 (Or.inr rfl) dX12_lock_27 ?_
      refine ww_pc (b := 30) rfl ?_
      refine ww_if_ne (tgt := 49) hX dX12_lock_30 (by decide) ?_ ?_
      · exact t_X12_lock_49 B fu th p1  s3
      · refine ww_aload_n hX 0 rfl dX12_lock_33 rfl ?_
        refine ww_getR hX f_X12_13 (Or.inr ⟨_, rfl⟩) dX12_lock_34 ?_
        refine ww_bdR (fun o16 => ?_)
        refine ww_aload_n hX 0 rfl dX12_lock_37 rfl ?_
        refine ww_getI hX f_X12_381 (Or.inl rfl) dX12_lock_38 ?_
        refine ww_ialdc hX k_iald dX12_lock_41 ?_
        refine ww_if_eq (tgt := 49) hX dX12_lock_42 (by decide) ?_ ?_
        · exact t_X12_lock_49 B fu th p1  s3
        · refine ww_aload_n hX 0 rfl dX12_lock_45 rfl ?_
          refine ww_callVV (As := []) (rest := []) (o := th) hX (Rk.of B.2.2.1 B.2.2.2.1 (by decide) (by decide)) g_X12_409 g_X12_409.in (fun _ => c_X12_wrong (x_G X) (x_l X) fu th s3) rfl rfl (Nat.le_of_ble_eq_true rfl) dX12_lock_46 (fun s17 => ?_)
          exact t_X12_lock_49 B fu th p1  s17
    · exact ww_sub [0] rfl (t_X12_lock_10 B fu th  st)
theorem c_X12_lock (G : GX) (l : Launch) (fu : Nat) (th : Nat) (p1 : Int32) (st : St) : MI G NN l yX12_lock cX12_lock 4 (some .int) 53 [.ref (G.2.2.1 + th), .int p1] st (f_X12_lock fu th p1 st) := mkI (by decide) (Nat.le_of_ble_eq_true rfl) (fun X res hl hG B => by subst hl; subst hG; exact t_X12_lock B fu th p1 st)
/-! StageHouseModel.isAxis(I)Z -/
def b_X12_isAxis_15 (fu : Nat)  (y0 : Int32) (st : St) : Option (Int32 × St) :=
  ck (isb y0) (some (y0, st))
set_option maxHeartbeats 4000000 in
set_option maxRecDepth 100000 in
theorem t_X12_isAxis_15 {X : CX} {res : Int32 × St} (B : BI X cX12_isAxis RX12 1 1 NN (some .boolean) res) (fu : Nat)  (y0 : Int32) (st : St) : WW X res NN 15 [] [.int y0] st (b_X12_isAxis_15 fu y0 st) := by
  have hX := B.1
  have hL := B.2.1
  unfold b_X12_isAxis_15
  exact ww_zret B dX12_isAxis_15
def b_X12_isAxis_14 (fu : Nat)   (st : St) : Option (Int32 × St) :=
  b_X12_isAxis_15 fu  0 st
set_option maxHeartbeats 4000000 in
set_option maxRecDepth 100000 in
theorem t_X12_isAxis_14 {X : CX} {res : Int32 × St} (B : BI X cX12_isAxis RX12 1 1 NN (some .boolean) res) (fu : Nat)   (st : St) : WW X res NN 14 [] [] st (b_X12_isAxis_14 fu  st) := by
  have hX := B.1
  have hL := B.2.1
  unfold b_X12_isAxis_14
  refine ww_iconst (v := 0) hX rfl dX12_isAxis_14 ?_
  exact t_X12_isAxis_15 B fu  0 st
def f_X12_isAxis (fu : Nat) (p0 : Int32) (st : St) : Option (Int32 × St) :=
  if p0 < 0 then (
  b_X12_isAxis_14 fu   st)
  else (
  if 8 ≤ p0 then (
  b_X12_isAxis_14 fu   st)
  else (
  b_X12_isAxis_15 fu  1 st))
set_option maxHeartbeats 4000000 in
set_option maxRecDepth 100000 in
theorem t_X12_isAxis {X : CX} {res : Int32 × St} (B : BI X cX12_isAxis RX12 1 1 NN (some .boolean) res) (fu : Nat) (p0 : Int32) (st : St) : WW X res NN 0 [(0, .int p0)] [] st (f_X12_isAxis fu p0 st) := by
  have hX := B.1
  have hL := B.2.1
  unfold f_X12_isAxis
  refine ww_iload_n hX 0 rfl dX12_isAxis_0 rfl ?_
  refine ww_if_lt (tgt := 14) hX dX12_isAxis_1 (by decide) ?_ ?_
  · exact ww_sub [] rfl (t_X12_isAxis_14 B fu   st)
  · refine ww_iload_n hX 0 rfl dX12_isAxis_4 rfl ?_
    refine ww_bipush (v := 8) hX rfl dX12_isAxis_5 ?_
    refine ww_icmp_ge (tgt := 14) hX dX12_isAxis_7 (by decide) ?_ ?_
    · exact ww_sub [] rfl (t_X12_isAxis_14 B fu   st)
    · refine ww_iconst (v := 1) hX rfl dX12_isAxis_10 ?_
      refine ww_goto (tgt := 15) hX dX12_isAxis_11 (by decide) ?_
      exact ww_sub [] rfl (t_X12_isAxis_15 B fu  1 st)
theorem c_X12_isAxis (G : GX) (l : Launch) (fu : Nat) (p0 : Int32) (st : St) : MI G NN l yX12_isAxis cX12_isAxis 1 (some .boolean) 1 [.int p0] st (f_X12_isAxis fu p0 st) := mkI (by decide) (Nat.le_of_ble_eq_true rfl) (fun X res hl hG B => by subst hl; subst hG; exact t_X12_isAxis B fu p0 st)
/-! StageHouseModel.axis(IIIII)Z -/
def b_X12_axis_51 (fu : Nat)   (st : St) : Option (Int32 × St) :=
  ck (isb 0) (some (0, st))
set_option maxHeartbeats 4000000 in
set_option maxRecDepth 100000 in
theorem t_X12_axis_51 {X : CX} {res : Int32 × St} (B : BI X cX12_axis RX12 6 2 NN (some .boolean) res) (fu : Nat)   (st : St) : WW X res NN 51 [] [] st (b_X12_axis_51 fu  st) := by
  have hX := B.1
  have hL := B.2.1
  unfold b_X12_axis_51
  refine ww_iconst (v := 0) hX rfl dX12_axis_51 ?_
  exact ww_zret B dX12_axis_52
def f_X12_axis (fu : Nat) (th : Nat) (p1 : Int32) (p2 : Int32) (p3 : Int32) (p4 : Int32) (p5 : Int32) (st : St) : Option (Int32 × St) :=
  ca (f_X12_isAxis fu p1 st) fun r1 s2 =>
  if r1 = 0 then (
  b_X12_axis_51 fu   s2)
  else (
  if p2 < 0 then (
  b_X12_axis_51 fu   s2)
  else (
  if p3 ≤ p2 then (
  b_X12_axis_51 fu   s2)
  else (
  if 99999 < p3 then (
  b_X12_axis_51 fu   s2)
  else (
  if p4 < 1 then (
  b_X12_axis_51 fu   s2)
  else (
  if 999 < p4 then (
  b_X12_axis_51 fu   s2)
  else (
  if p5 < 1 then (
  b_X12_axis_51 fu   s2)
  else (
  if p5 ≤ 999 then (
  ck (¬ gR s2 th 54 = 0) <|
  ck ((kd th).1 = 12) <|
  bd (gR s2 th 54) fun o3 =>
  ck (isb 1) <|
  ck ((kd o3).1 = 102 ∧ inb p1 (kd o3).2) <|
  bd (sI s2 o3 (ix p1) 1) fun s4 =>
  ck (¬ gR s4 th 55 = 0) <|
  ck ((kd th).1 = 12) <|
  bd (gR s4 th 55) fun o5 =>
  ck ((kd o5).1 = 100 ∧ inb p1 (kd o5).2) <|
  bd (sI s4 o5 (ix p1) p2) fun s6 =>
  ck (¬ gR s6 th 56 = 0) <|
  ck ((kd th).1 = 12) <|
  bd (gR s6 th 56) fun o7 =>
  ck ((kd o7).1 = 100 ∧ inb p1 (kd o7).2) <|
  bd (sI s6 o7 (ix p1) p3) fun s8 =>
  ck (¬ gR s8 th 57 = 0) <|
  ck ((kd th).1 = 12) <|
  bd (gR s8 th 57) fun o9 =>
  ck ((kd o9).1 = 100 ∧ inb p1 (kd o9).2) <|
  bd (sI s8 o9 (ix p1) p4) fun s10 =>
  ck (¬ gR s10 th 58 = 0) <|
  ck ((kd th).1 = 12) <|
  bd (gR s10 th 58) fun o11 =>
  ck ((kd o11).1 = 100 ∧ inb p1 (kd o11).2) <|
  bd (sI s10 o11 (ix p1) p5) fun s12 =>
  ck (¬ gR s12 th 59 = 0) <|
  ck ((kd th).1 = 12) <|
  bd (gR s12 th 59) fun o13 =>
  ck ((kd o13).1 = 100 ∧ inb p1 (kd o13).2) <|
  bd (sI s12 o13 (ix p1) p2) fun s14 =>
  ck (¬ gR s14 th 60 = 0) <|
  ck ((kd th).1 = 12) <|
  bd (gR s14 th 60) fun o15 =>
  ck ((kd o15).1 = 100 ∧ inb p1 (kd o15).2) <|
  bd (sI s14 o15 (ix p1) 0) fun s16 =>
  ck (¬ gR s16 th 61 = 0) <|
  ck ((kd th).1 = 12) <|
  bd (gR s16 th 61) fun o17 =>
  ck ((kd o17).1 = 100 ∧ inb p1 (kd o17).2) <|
  bd (sI s16 o17 (ix p1) ((-1))) fun s18 =>
  ck (¬ gR s18 th 62 = 0) <|
  ck ((kd th).1 = 12) <|
  bd (gR s18 th 62) fun o19 =>
  ck ((kd o19).1 = 100 ∧ inb p1 (kd o19).2) <|
  bd (sI s18 o19 (ix p1) p2) fun s20 =>
  ck (¬ gR s20 th 63 = 0) <|
  ck ((kd th).1 = 12) <|
  bd (gR s20 th 63) fun o21 =>
  ck ((kd o21).1 = 100 ∧ inb p1 (kd o21).2) <|
  bd (sI s20 o21 (ix p1) p2) fun s22 =>
  ck (¬ gR s22 th 64 = 0) <|
  ck ((kd th).1 = 12) <|
  bd (gR s22 th 64) fun o23 =>
  ck ((kd o23).1 = 100 ∧ inb p1 (kd o23).2) <|
  bd (sI s22 o23 (ix p1) 0) fun s24 =>
  ck (isb 1) (some (1, s24)))
  else (
  b_X12_axis_51 fu   s2))))))))
set_option maxHeartbeats 4000000 in
set_option maxRecDepth 100000 in
theorem t_X12_axis {X : CX} {res : Int32 × St} (B : BI X cX12_axis RX12 6 2 NN (some .boolean) res) (fu : Nat) (th : Nat) (p1 : Int32) (p2 : Int32) (p3 : Int32) (p4 : Int32) (p5 : Int32) (st : St) : WW X res NN 0 [(0, .ref (x_b X + th)), (1, .int p1), (2, .int p2), (3, .int p3), (4, .int p4), (5, .int p5)] [] st (f_X12_axis fu th p1 p2 p3 p4 p5 st) := by
  have hX := B.1
  have hL := B.2.1
  unfold f_X12_axis
  refine ww_iload_n hX 1 rfl dX12_axis_0 rfl ?_
  refine ww_callSI (As := [.int p1]) (rest := []) hX (Rk.of B.2.2.1 B.2.2.2.1 (by decide) (by decide)) g_X12_571 (c_X12_isAxis (x_G X) (x_l X) fu p1 st) rfl rfl (Nat.le_of_ble_eq_true rfl) dX12_axis_1 (fun r1 s2 => ?_)
  refine ww_if_eq (tgt := 51) hX dX12_axis_4 (by decide) ?_ ?_
  · exact ww_sub [] rfl (t_X12_axis_51 B fu   s2)
  · refine ww_iload_n hX 2 rfl dX12_axis_7 rfl ?_
    refine ww_if_lt (tgt := 51) hX dX12_axis_8 (by decide) ?_ ?_
    · exact ww_sub [] rfl (t_X12_axis_51 B fu   s2)
    · refine ww_iload_n hX 2 rfl dX12_axis_11 rfl ?_
      refine ww_iload_n hX 3 rfl dX12_axis_12 rfl ?_
      refine ww_icmp_ge (tgt := 51) hX dX12_axis_13 (by decide) ?_ ?_
      · exact ww_sub [] rfl (t_X12_axis_51 B fu   s2)
      · refine ww_iload_n hX 3 rfl dX12_axis_16 rfl ?_
        refine ww_ldcw (v := 99999) hX k_X12_478 dX12_axis_17 ?_
        refine ww_icmp_gt (tgt := 51) hX dX12_axis_20 (by decide) ?_ ?_
        · exact ww_sub [] rfl (t_X12_axis_51 B fu   s2)
        · refine ww_iload hX 4 rfl dX12_axis_23 ?_
          refine ww_iconst (v := 1) hX rfl dX12_axis_25 ?_
          refine ww_icmp_lt (tgt := 51) hX dX12_axis_26 (by decide) ?_ ?_
          · exact ww_sub [] rfl (t_X12_axis_51 B fu   s2)
          · refine ww_iload hX 4 rfl dX12_axis_29 ?_
            refine ww_sipush (v := 999) hX rfl dX12_axis_31 ?_
            refine ww_icmp_gt (tgt := 51) hX dX12_axis_34 (by decide) ?_ ?_
            · exact ww_sub [] rfl (t_X12_axis_51 B fu   s2)
            · refine ww_iload hX 5 rfl dX12_axis_37 ?_
              refine ww_iconst (v := 1) hX rfl dX12_axis_39 ?_
              refine ww_icmp_lt (tgt := 51) hX dX12_axis_40 (by decide) ?_ ?_
              · exact ww_sub [] rfl (t_X12_axis_51 B fu   s2)
              · refine ww_iload hX 5 rfl dX12_axis_43 ?_
                refine ww_sipush (v := 999) hX rfl dX12_axis_45 ?_
                refine ww_icmp_le (tgt := 53) hX dX12_axis_48 (by decide) ?_ ?_
                · refine ww_aload_n hX 0 rfl dX12_axis_53 rfl ?_
                  refine ww_getR hX f_X12_145 (Or.inr ⟨_, rfl⟩) dX12_axis_54 ?_
                  refine ww_bdR (fun o3 => ?_)
                  refine ww_iload_n hX 1 rfl dX12_axis_57 rfl ?_
                  refine ww_iconst (v := 1) hX rfl dX12_axis_58 ?_
                  refine ww_zastc hX k_zast dX12_axis_59 ?_
                  refine ww_bds (fun s4 => ?_)
                  refine ww_aload_n hX 0 rfl dX12_axis_60 rfl ?_
                  refine ww_getR hX f_X12_148 (Or.inr ⟨_, rfl⟩) dX12_axis_61 ?_
                  refine ww_bdR (fun o5 => ?_)
                  refine ww_pc (b := 64) rfl ?_
                  refine ww_iload_n hX 1 rfl dX12_axis_64 rfl ?_
                  refine ww_iload_n hX 2 rfl dX12_axis_65 rfl ?_
                  refine ww_iastc hX k_iast dX12_axis_66 ?_
                  refine ww_bds (fun s6 => ?_)
                  refine ww_aload_n hX 0 rfl dX12_axis_67 rfl ?_
                  refine ww_getR hX f_X12_151 (Or.inr ⟨_, rfl⟩) dX12_axis_68 ?_
                  refine ww_bdR (fun o7 => ?_)
                  refine ww_iload_n hX 1 rfl dX12_axis_71 rfl ?_
                  refine ww_iload_n hX 3 rfl dX12_axis_72 rfl ?_
                  refine ww_iastc hX k_iast dX12_axis_73 ?_
                  refine ww_bds (fun s8 => ?_)
                  refine ww_pc (b := 74) rfl ?_
                  refine ww_aload_n hX 0 rfl dX12_axis_74 rfl ?_
                  refine ww_getR hX f_X12_154 (Or.inr ⟨_, rfl⟩) dX12_axis_75 ?_
                  refine ww_bdR (fun o9 => ?_)
                  refine ww_iload_n hX 1 rfl dX12_axis_78 rfl ?_
                  refine ww_iload hX 4 rfl dX12_axis_79 ?_
                  refine ww_iastc hX k_iast dX12_axis_81 ?_
                  refine ww_bds (fun s10 => ?_)
                  refine ww_aload_n hX 0 rfl dX12_axis_82 rfl ?_
                  refine ww_getR hX f_X12_157 (Or.inr ⟨_, rfl⟩) dX12_axis_83 ?_
                  refine ww_bdR (fun o11 => ?_)
                  refine ww_iload_n hX 1 rfl dX12_axis_86 rfl ?_
                  refine ww_pc (b := 87) rfl ?_
                  refine ww_iload hX 5 rfl dX12_axis_87 ?_
                  refine ww_iastc hX k_iast dX12_axis_89 ?_
                  refine ww_bds (fun s12 => ?_)
                  refine ww_aload_n hX 0 rfl dX12_axis_90 rfl ?_
                  refine ww_getR hX f_X12_160 (Or.inr ⟨_, rfl⟩) dX12_axis_91 ?_
                  refine ww_bdR (fun o13 => ?_)
                  refine ww_iload_n hX 1 rfl dX12_axis_94 rfl ?_
                  refine ww_iload_n hX 2 rfl dX12_axis_95 rfl ?_
                  refine ww_iastc hX k_iast dX12_axis_96 ?_
                  refine ww_bds (fun s14 => ?_)
                  refine ww_aload_n hX 0 rfl dX12_axis_97 rfl ?_
                  refine ww_pc (b := 98) rfl ?_
                  refine ww_getR hX f_X12_163 (Or.inr ⟨_, rfl⟩) dX12_axis_98 ?_
                  refine ww_bdR (fun o15 => ?_)
                  refine ww_iload_n hX 1 rfl dX12_axis_101 rfl ?_
                  refine ww_iconst (v := 0) hX rfl dX12_axis_102 ?_
                  refine ww_iastc hX k_iast dX12_axis_103 ?_
                  refine ww_bds (fun s16 => ?_)
                  refine ww_aload_n hX 0 rfl dX12_axis_104 rfl ?_
                  refine ww_getR hX f_X12_166 (Or.inr ⟨_, rfl⟩) dX12_axis_105 ?_
                  refine ww_bdR (fun o17 => ?_)
                  refine ww_iload_n hX 1 rfl dX12_axis_108 rfl ?_
                  refine ww_iconst (v := (-1)) hX rfl dX12_axis_109 ?_
                  refine ww_pc (b := 110) rfl ?_
                  refine ww_iastc hX k_iast dX12_axis_110 ?_
                  refine ww_bds (fun s18 => ?_)
                  refine ww_aload_n hX 0 rfl dX12_axis_111 rfl ?_
                  refine ww_getR hX f_X12_169 (Or.inr ⟨_, rfl⟩) dX12_axis_112 ?_
                  refine ww_bdR (fun o19 => ?_)
                  refine ww_iload_n hX 1 rfl dX12_axis_115 rfl ?_
                  refine ww_iload_n hX 2 rfl dX12_axis_116 rfl ?_
                  refine ww_iastc hX k_iast dX12_axis_117 ?_
                  refine ww_bds (fun s20 => ?_)
                  refine ww_aload_n hX 0 rfl dX12_axis_118 rfl ?_
                  refine ww_getR hX f_X12_172 (Or.inr ⟨_, rfl⟩) dX12_axis_119 ?_
                  refine ww_bdR (fun o21 => ?_)
                  refine ww_pc (b := 122) rfl ?_
                  refine ww_iload_n hX 1 rfl dX12_axis_122 rfl ?_
                  refine ww_iload_n hX 2 rfl dX12_axis_123 rfl ?_
                  refine ww_iastc hX k_iast dX12_axis_124 ?_
                  refine ww_bds (fun s22 => ?_)
                  refine ww_aload_n hX 0 rfl dX12_axis_125 rfl ?_
                  refine ww_getR hX f_X12_175 (Or.inr ⟨_, rfl⟩) dX12_axis_126 ?_
                  refine ww_bdR (fun o23 => ?_)
                  refine ww_iload_n hX 1 rfl dX12_axis_129 rfl ?_
                  refine ww_iconst (v := 0) hX rfl dX12_axis_130 ?_
                  refine ww_iastc hX k_iast dX12_axis_131 ?_
                  refine ww_bds (fun s24 => ?_)
                  refine ww_pc (b := 132) rfl ?_
                  refine ww_iconst (v := 1) hX rfl dX12_axis_132 ?_
                  exact ww_zret B dX12_axis_133
                · exact ww_sub [] rfl (t_X12_axis_51 B fu   s2)
theorem c_X12_axis (G : GX) (l : Launch) (fu : Nat) (th : Nat) (p1 : Int32) (p2 : Int32) (p3 : Int32) (p4 : Int32) (p5 : Int32) (st : St) : MI G NN l yX12_axis cX12_axis 6 (some .boolean) 2 [.ref (G.2.2.1 + th), .int p1, .int p2, .int p3, .int p4, .int p5] st (f_X12_axis fu th p1 p2 p3 p4 p5 st) := mkI (by decide) (Nat.le_of_ble_eq_true rfl) (fun X res hl hG B => by subst hl; subst hG; exact t_X12_axis B fu th p1 p2 p3 p4 p5 st)
/-! StageHouseModel.to(II)Z -/
def b_X12_to_21 (fu : Nat)  (y0 : Int32) (st : St) : Option (Int32 × St) :=
  ck (isb y0) (some (y0, st))
set_option maxHeartbeats 4000000 in
set_option maxRecDepth 100000 in
theorem t_X12_to_21 {X : CX} {res : Int32 × St} (B : BI X cX12_to RX12 3 53 NN (some .boolean) res) (fu : Nat)  (y0 : Int32) (st : St) : WW X res NN 21 [] [.int y0] st (b_X12_to_21 fu y0 st) := by
  have hX := B.1
  have hL := B.2.1
  unfold b_X12_to_21
  exact ww_zret B dX12_to_21
def b_X12_to_20 (fu : Nat)   (st : St) : Option (Int32 × St) :=
  b_X12_to_21 fu  0 st
set_option maxHeartbeats 4000000 in
set_option maxRecDepth 100000 in
theorem t_X12_to_20 {X : CX} {res : Int32 × St} (B : BI X cX12_to RX12 3 53 NN (some .boolean) res) (fu : Nat)   (st : St) : WW X res NN 20 [] [] st (b_X12_to_20 fu  st) := by
  have hX := B.1
  have hL := B.2.1
  unfold b_X12_to_20
  refine ww_iconst (v := 0) hX rfl dX12_to_20 ?_
  exact t_X12_to_21 B fu  0 st
def f_X12_to (fu : Nat) (th : Nat) (p1 : Int32) (p2 : Int32) (st : St) : Option (Int32 × St) :=
  ca (f_X12_isAxis fu p1 st) fun r1 s2 =>
  if r1 = 0 then (
  b_X12_to_20 fu   s2)
  else (
  ck ((kd th).1 = 12) <|
  ca (f_X12_goesTo fu th p1 p2 s2) fun r3 s4 =>
  if r3 = 0 then (
  b_X12_to_20 fu   s4)
  else (
  b_X12_to_21 fu  1 s4))
set_option maxHeartbeats 4000000 in
set_option maxRecDepth 100000 in
theorem t_X12_to {X : CX} {res : Int32 × St} (B : BI X cX12_to RX12 3 53 NN (some .boolean) res) (fu : Nat) (th : Nat) (p1 : Int32) (p2 : Int32) (st : St) : WW X res NN 0 [(0, .ref (x_b X + th)), (1, .int p1), (2, .int p2)] [] st (f_X12_to fu th p1 p2 st) := by
  have hX := B.1
  have hL := B.2.1
  unfold f_X12_to
  refine ww_iload_n hX 1 rfl dX12_to_0 rfl ?_
  refine ww_callSI (As := [.int p1]) (rest := []) hX (Rk.of B.2.2.1 B.2.2.2.1 (by decide) (by decide)) g_X12_571 (c_X12_isAxis (x_G X) (x_l X) fu p1 st) rfl rfl (Nat.le_of_ble_eq_true rfl) dX12_to_1 (fun r1 s2 => ?_)
  refine ww_if_eq (tgt := 20) hX dX12_to_4 (by decide) ?_ ?_
  · exact ww_sub [] rfl (t_X12_to_20 B fu   s2)
  · refine ww_aload_n hX 0 rfl dX12_to_7 rfl ?_
    refine ww_iload_n hX 1 rfl dX12_to_8 rfl ?_
    refine ww_iload_n hX 2 rfl dX12_to_9 rfl ?_
    refine ww_callVI (As := [.int p1, .int p2]) (rest := []) (o := th) hX (Rk.of B.2.2.1 B.2.2.2.1 (by decide) (by decide)) g_X12_493 g_X12_493.in (fun _ => c_X12_goesTo (x_G X) (x_l X) fu th p1 p2 s2) rfl rfl (Nat.le_of_ble_eq_true rfl) dX12_to_10 (fun r3 s4 => ?_)
    refine ww_if_eq (tgt := 20) hX dX12_to_13 (by decide) ?_ ?_
    · exact ww_sub [] rfl (t_X12_to_20 B fu   s4)
    · refine ww_iconst (v := 1) hX rfl dX12_to_16 ?_
      refine ww_goto (tgt := 21) hX dX12_to_17 (by decide) ?_
      exact ww_sub [] rfl (t_X12_to_21 B fu  1 s4)
theorem c_X12_to (G : GX) (l : Launch) (fu : Nat) (th : Nat) (p1 : Int32) (p2 : Int32) (st : St) : MI G NN l yX12_to cX12_to 3 (some .boolean) 53 [.ref (G.2.2.1 + th), .int p1, .int p2] st (f_X12_to fu th p1 p2 st) := mkI (by decide) (Nat.le_of_ble_eq_true rfl) (fun X res hl hG B => by subst hl; subst hG; exact t_X12_to B fu th p1 p2 st)
/-! StageHouseModel.axisAt(II)I -/
def b_X12_axisAt_143 (fu : Nat)  (y0 : Int32) (st : St) : Option (Int32 × St) :=
  some (y0, st)
set_option maxHeartbeats 4000000 in
set_option maxRecDepth 100000 in
theorem t_X12_axisAt_143 {X : CX} {res : Int32 × St} (B : BI X cX12_axisAt RX12 3 52 NN (some .int) res) (fu : Nat)  (y0 : Int32) (st : St) : WW X res NN 143 [] [.int y0] st (b_X12_axisAt_143 fu y0 st) := by
  have hX := B.1
  have hL := B.2.1
  unfold b_X12_axisAt_143
  exact ww_iret B dX12_axisAt_143
def b_X12_axisAt_47 (fu : Nat)  (y0 : Int32) (st : St) : Option (Int32 × St) :=
  some (y0, st)
set_option maxHeartbeats 4000000 in
set_option maxRecDepth 100000 in
theorem t_X12_axisAt_47 {X : CX} {res : Int32 × St} (B : BI X cX12_axisAt RX12 3 52 NN (some .int) res) (fu : Nat)  (y0 : Int32) (st : St) : WW X res NN 47 [] [.int y0] st (b_X12_axisAt_47 fu y0 st) := by
  have hX := B.1
  have hL := B.2.1
  unfold b_X12_axisAt_47
  exact ww_iret B dX12_axisAt_47
def b_X12_axisAt_27 (fu : Nat)  (y0 : Int32) (st : St) : Option (Int32 × St) :=
  some (y0, st)
set_option maxHeartbeats 4000000 in
set_option maxRecDepth 100000 in
theorem t_X12_axisAt_27 {X : CX} {res : Int32 × St} (B : BI X cX12_axisAt RX12 3 52 NN (some .int) res) (fu : Nat)  (y0 : Int32) (st : St) : WW X res NN 27 [] [.int y0] st (b_X12_axisAt_27 fu y0 st) := by
  have hX := B.1
  have hL := B.2.1
  unfold b_X12_axisAt_27
  exact ww_iret B dX12_axisAt_27
def f_X12_axisAt (fu : Nat) (th : Nat) (p1 : Int32) (p2 : Int32) (st : St) : Option (Int32 × St) :=
  ca (f_X12_isAxis fu p1 st) fun r1 s2 =>
  if r1 = 0 then (
  some ((-1), s2))
  else (
  if p2 = 0 then (
  ck (¬ gR s2 th 54 = 0) <|
  ck ((kd th).1 = 12) <|
  bd (gR s2 th 54) fun o12 =>
  ck ((kd o12).1 = 102 ∧ inb p1 (kd o12).2) <|
  if (gI s2 o12 (ix p1)) = 0 then (
  b_X12_axisAt_27 fu  0 s2)
  else (
  b_X12_axisAt_27 fu  1 s2))
  else (
  if p2 = 6 then (
  ck ((kd th).1 = 12) <|
  ca (f_X12_isTrue fu th p1 s2) fun r10 s11 =>
  if r10 = 0 then (
  b_X12_axisAt_47 fu  0 s11)
  else (
  b_X12_axisAt_47 fu  1 s11))
  else (
  if p2 = 7 then (
  ck (¬ gR s2 th 65 = 0) <|
  ck ((kd th).1 = 12) <|
  bd (gR s2 th 65) fun o9 =>
  ck ((kd o9).1 = 100 ∧ inb p1 (kd o9).2) <|
  some (gI s2 o9 (ix p1), s2))
  else (
  ck (¬ gR s2 th 54 = 0) <|
  ck ((kd th).1 = 12) <|
  bd (gR s2 th 54) fun o3 =>
  ck ((kd o3).1 = 102 ∧ inb p1 (kd o3).2) <|
  if (gI s2 o3 (ix p1)) = 0 then (
  some ((-1), s2))
  else (
  if p2 = 1 then (
  ck (¬ gR s2 th 59 = 0) <|
  ck ((kd th).1 = 12) <|
  bd (gR s2 th 59) fun o8 =>
  ck ((kd o8).1 = 100 ∧ inb p1 (kd o8).2) <|
  b_X12_axisAt_143 fu  (gI s2 o8 (ix p1)) s2)
  else (
  if p2 = 2 then (
  ck (¬ gR s2 th 60 = 0) <|
  ck ((kd th).1 = 12) <|
  bd (gR s2 th 60) fun o7 =>
  ck ((kd o7).1 = 100 ∧ inb p1 (kd o7).2) <|
  b_X12_axisAt_143 fu  (gI s2 o7 (ix p1)) s2)
  else (
  if p2 = 3 then (
  ck (¬ gR s2 th 61 = 0) <|
  ck ((kd th).1 = 12) <|
  bd (gR s2 th 61) fun o6 =>
  ck ((kd o6).1 = 100 ∧ inb p1 (kd o6).2) <|
  b_X12_axisAt_143 fu  (gI s2 o6 (ix p1)) s2)
  else (
  if p2 = 4 then (
  ck (¬ gR s2 th 62 = 0) <|
  ck ((kd th).1 = 12) <|
  bd (gR s2 th 62) fun o5 =>
  ck ((kd o5).1 = 100 ∧ inb p1 (kd o5).2) <|
  b_X12_axisAt_143 fu  (gI s2 o5 (ix p1)) s2)
  else (
  if p2 = 5 then (
  ck (¬ gR s2 th 64 = 0) <|
  ck ((kd th).1 = 12) <|
  bd (gR s2 th 64) fun o4 =>
  ck ((kd o4).1 = 100 ∧ inb p1 (kd o4).2) <|
  b_X12_axisAt_143 fu  (gI s2 o4 (ix p1)) s2)
  else (
  b_X12_axisAt_143 fu  ((-1)) s2))))))))))
set_option maxHeartbeats 4000000 in
set_option maxRecDepth 100000 in
theorem t_X12_axisAt {X : CX} {res : Int32 × St} (B : BI X cX12_axisAt RX12 3 52 NN (some .int) res) (fu : Nat) (th : Nat) (p1 : Int32) (p2 : Int32) (st : St) : WW X res NN 0 [(0, .ref (x_b X + th)), (1, .int p1), (2, .int p2)] [] st (f_X12_axisAt fu th p1 p2 st) := by
  have hX := B.1
  have hL := B.2.1
  unfold f_X12_axisAt
  refine ww_iload_n hX 1 rfl dX12_axisAt_0 rfl ?_
  refine ww_callSI (As := [.int p1]) (rest := []) hX (Rk.of B.2.2.1 B.2.2.2.1 (by decide) (by decide)) g_X12_571 (c_X12_isAxis (x_G X) (x_l X) fu p1 st) rfl rfl (Nat.le_of_ble_eq_true rfl) dX12_axisAt_1 (fun r1 s2 => ?_)
  refine ww_if_ne (tgt := 9) hX dX12_axisAt_4 (by decide) ?_ ?_
  · refine ww_iload_n hX 2 rfl dX12_axisAt_9 rfl ?_
    refine ww_if_ne (tgt := 28) hX dX12_axisAt_10 (by decide) ?_ ?_
    · refine ww_iload_n hX 2 rfl dX12_axisAt_28 rfl ?_
      refine ww_bipush (v := 6) hX rfl dX12_axisAt_29 ?_
      refine ww_icmp_ne (tgt := 48) hX dX12_axisAt_31 (by decide) ?_ ?_
      · refine ww_iload_n hX 2 rfl dX12_axisAt_48 rfl ?_
        refine ww_bipush (v := 7) hX rfl dX12_axisAt_49 ?_
        refine ww_icmp_ne (tgt := 61) hX dX12_axisAt_51 (by decide) ?_ ?_
        · refine ww_aload_n hX 0 rfl dX12_axisAt_61 rfl ?_
          refine ww_getR hX f_X12_145 (Or.inr ⟨_, rfl⟩) dX12_axisAt_62 ?_
          refine ww_bdR (fun o3 => ?_)
          refine ww_iload_n hX 1 rfl dX12_axisAt_65 rfl ?_
          refine ww_zaldc hX k_zald dX12_axisAt_66 ?_
          refine ww_if_ne (tgt := 72) hX dX12_axisAt_67 (by decide) ?_ ?_
          · refine ww_iload_n hX 2 rfl dX12_axisAt_72 rfl ?_
            refine ww_iconst (v := 1) hX rfl dX12_axisAt_73 ?_
            refine ww_icmp_ne (tgt := 86) hX dX12_axisAt_74 (by decide) ?_ ?_
            · refine ww_iload_n hX 2 rfl dX12_axisAt_86 rfl ?_
              refine ww_iconst (v := 2) hX rfl dX12_axisAt_87 ?_
              refine ww_icmp_ne (tgt := 100) hX dX12_axisAt_88 (by decide) ?_ ?_
              · refine ww_iload_n hX 2 rfl dX12_axisAt_100 rfl ?_
                refine ww_iconst (v := 3) hX rfl dX12_axisAt_101 ?_
                refine ww_icmp_ne (tgt := 114) hX dX12_axisAt_102 (by decide) ?_ ?_
                · refine ww_iload_n hX 2 rfl dX12_axisAt_114 rfl ?_
                  refine ww_iconst (v := 4) hX rfl dX12_axisAt_115 ?_
                  refine ww_icmp_ne (tgt := 128) hX dX12_axisAt_116 (by decide) ?_ ?_
                  · refine ww_iload_n hX 2 rfl dX12_axisAt_128 rfl ?_
                    refine ww_iconst (v := 5) hX rfl dX12_axisAt_129 ?_
                    refine ww_icmp_ne (tgt := 142) hX dX12_axisAt_130 (by decide) ?_ ?_
                    · refine ww_iconst (v := (-1)) hX rfl dX12_axisAt_142 ?_
                      exact ww_sub [] rfl (t_X12_axisAt_143 B fu  ((-1)) s2)
                    · refine ww_aload_n hX 0 rfl dX12_axisAt_133 rfl ?_
                      refine ww_getR hX f_X12_175 (Or.inr ⟨_, rfl⟩) dX12_axisAt_134 ?_
                      refine ww_bdR (fun o4 => ?_)
                      refine ww_iload_n hX 1 rfl dX12_axisAt_137 rfl ?_
                      refine ww_ialdc hX k_iald dX12_axisAt_138 ?_
                      refine ww_goto (tgt := 143) hX dX12_axisAt_139 (by decide) ?_
                      exact ww_sub [] rfl (t_X12_axisAt_143 B fu  (gI s2 o4 (ix p1)) s2)
                  · refine ww_aload_n hX 0 rfl dX12_axisAt_119 rfl ?_
                    refine ww_getR hX f_X12_169 (Or.inr ⟨_, rfl⟩) dX12_axisAt_120 ?_
                    refine ww_bdR (fun o5 => ?_)
                    refine ww_iload_n hX 1 rfl dX12_axisAt_123 rfl ?_
                    refine ww_ialdc hX k_iald dX12_axisAt_124 ?_
                    refine ww_goto (tgt := 143) hX dX12_axisAt_125 (by decide) ?_
                    exact ww_sub [] rfl (t_X12_axisAt_143 B fu  (gI s2 o5 (ix p1)) s2)
                · refine ww_aload_n hX 0 rfl dX12_axisAt_105 rfl ?_
                  refine ww_getR hX f_X12_166 (Or.inr ⟨_, rfl⟩) dX12_axisAt_106 ?_
                  refine ww_bdR (fun o6 => ?_)
                  refine ww_iload_n hX 1 rfl dX12_axisAt_109 rfl ?_
                  refine ww_ialdc hX k_iald dX12_axisAt_110 ?_
                  refine ww_goto (tgt := 143) hX dX12_axisAt_111 (by decide) ?_
                  exact ww_sub [] rfl (t_X12_axisAt_143 B fu  (gI s2 o6 (ix p1)) s2)
              · refine ww_aload_n hX 0 rfl dX12_axisAt_91 rfl ?_
                refine ww_getR hX f_X12_163 (Or.inr ⟨_, rfl⟩) dX12_axisAt_92 ?_
                refine ww_bdR (fun o7 => ?_)
                refine ww_iload_n hX 1 rfl dX12_axisAt_95 rfl ?_
                refine ww_ialdc hX k_iald dX12_axisAt_96 ?_
                refine ww_goto (tgt := 143) hX dX12_axisAt_97 (by decide) ?_
                exact ww_sub [] rfl (t_X12_axisAt_143 B fu  (gI s2 o7 (ix p1)) s2)
            · refine ww_aload_n hX 0 rfl dX12_axisAt_77 rfl ?_
              refine ww_getR hX f_X12_160 (Or.inr ⟨_, rfl⟩) dX12_axisAt_78 ?_
              refine ww_bdR (fun o8 => ?_)
              refine ww_iload_n hX 1 rfl dX12_axisAt_81 rfl ?_
              refine ww_ialdc hX k_iald dX12_axisAt_82 ?_
              refine ww_goto (tgt := 143) hX dX12_axisAt_83 (by decide) ?_
              exact ww_sub [] rfl (t_X12_axisAt_143 B fu  (gI s2 o8 (ix p1)) s2)
          · refine ww_iconst (v := (-1)) hX rfl dX12_axisAt_70 ?_
            exact ww_iret B dX12_axisAt_71
        · refine ww_aload_n hX 0 rfl dX12_axisAt_54 rfl ?_
          refine ww_getR hX f_X12_178 (Or.inr ⟨_, rfl⟩) dX12_axisAt_55 ?_
          refine ww_bdR (fun o9 => ?_)
          refine ww_iload_n hX 1 rfl dX12_axisAt_58 rfl ?_
          refine ww_ialdc hX k_iald dX12_axisAt_59 ?_
          exact ww_iret B dX12_axisAt_60
      · refine ww_aload_n hX 0 rfl dX12_axisAt_34 rfl ?_
        refine ww_iload_n hX 1 rfl dX12_axisAt_35 rfl ?_
        refine ww_callVI (As := [.int p1]) (rest := []) (o := th) hX (Rk.of B.2.2.1 B.2.2.2.1 (by decide) (by decide)) g_X12_568 g_X12_568.in (fun _ => c_X12_isTrue (x_G X) (x_l X) fu th p1 s2) rfl rfl (Nat.le_of_ble_eq_true rfl) dX12_axisAt_36 (fun r10 s11 => ?_)
        refine ww_if_eq (tgt := 46) hX dX12_axisAt_39 (by decide) ?_ ?_
        · refine ww_iconst (v := 0) hX rfl dX12_axisAt_46 ?_
          exact ww_sub [] rfl (t_X12_axisAt_47 B fu  0 s11)
        · refine ww_iconst (v := 1) hX rfl dX12_axisAt_42 ?_
          refine ww_goto (tgt := 47) hX dX12_axisAt_43 (by decide) ?_
          exact ww_sub [] rfl (t_X12_axisAt_47 B fu  1 s11)
    · refine ww_aload_n hX 0 rfl dX12_axisAt_13 rfl ?_
      refine ww_getR hX f_X12_145 (Or.inr ⟨_, rfl⟩) dX12_axisAt_14 ?_
      refine ww_bdR (fun o12 => ?_)
      refine ww_iload_n hX 1 rfl dX12_axisAt_17 rfl ?_
      refine ww_zaldc hX k_zald dX12_axisAt_18 ?_
      refine ww_if_eq (tgt := 26) hX dX12_axisAt_19 (by decide) ?_ ?_
      · refine ww_iconst (v := 0) hX rfl dX12_axisAt_26 ?_
        exact ww_sub [] rfl (t_X12_axisAt_27 B fu  0 s2)
      · refine ww_iconst (v := 1) hX rfl dX12_axisAt_22 ?_
        refine ww_goto (tgt := 27) hX dX12_axisAt_23 (by decide) ?_
        exact ww_sub [] rfl (t_X12_axisAt_27 B fu  1 s2)
  · refine ww_iconst (v := (-1)) hX rfl dX12_axisAt_7 ?_
    exact ww_iret B dX12_axisAt_8
theorem c_X12_axisAt (G : GX) (l : Launch) (fu : Nat) (th : Nat) (p1 : Int32) (p2 : Int32) (st : St) : MI G NN l yX12_axisAt cX12_axisAt 3 (some .int) 52 [.ref (G.2.2.1 + th), .int p1, .int p2] st (f_X12_axisAt fu th p1 p2 st) := mkI (by decide) (Nat.le_of_ble_eq_true rfl) (fun X res hl hG B => by subst hl; subst hG; exact t_X12_axisAt B fu th p1 p2 st)
/-! StageHouseModel.faults(II)Z -/
def b_X12_faults_26 (fu : Nat)   (st : St) : Option (Int32 × St) :=
  ck (isb 0) (some (0, st))
set_option maxHeartbeats 4000000 in
set_option maxRecDepth 100000 in
theorem t_X12_faults_26 {X : CX} {res : Int32 × St} (B : BI X cX12_faults RX12 3 2 NN (some .boolean) res) (fu : Nat)   (st : St) : WW X res NN 26 [] [] st (b_X12_faults_26 fu  st) := by
  have hX := B.1
  have hL := B.2.1
  unfold b_X12_faults_26
  refine ww_iconst (v := 0) hX rfl dX12_faults_26 ?_
  exact ww_zret B dX12_faults_27
def b_X12_faults_49 (fu : Nat)   (st : St) : Option (Int32 × St) :=
  ck (isb 1) (some (1, st))
set_option maxHeartbeats 4000000 in
set_option maxRecDepth 100000 in
theorem t_X12_faults_49 {X : CX} {res : Int32 × St} (B : BI X cX12_faults RX12 3 2 NN (some .boolean) res) (fu : Nat)   (st : St) : WW X res NN 49 [] [] st (b_X12_faults_49 fu  st) := by
  have hX := B.1
  have hL := B.2.1
  unfold b_X12_faults_49
  refine ww_iconst (v := 1) hX rfl dX12_faults_49 ?_
  exact ww_zret B dX12_faults_50
def f_X12_faults (fu : Nat) (th : Nat) (p1 : Int32) (p2 : Int32) (st : St) : Option (Int32 × St) :=
  ca (f_X12_isAxis fu p1 st) fun r1 s2 =>
  if r1 = 0 then (
  b_X12_faults_26 fu   s2)
  else (
  ck (¬ gR s2 th 54 = 0) <|
  ck ((kd th).1 = 12) <|
  bd (gR s2 th 54) fun o3 =>
  ck ((kd o3).1 = 102 ∧ inb p1 (kd o3).2) <|
  if (gI s2 o3 (ix p1)) = 0 then (
  b_X12_faults_26 fu   s2)
  else (
  if p2 < 0 then (
  b_X12_faults_26 fu   s2)
  else (
  if p2 ≤ 7 then (
  ck (¬ gR s2 th 64 = 0) <|
  ck ((kd th).1 = 12) <|
  bd (gR s2 th 64) fun o4 =>
  ck ((kd o4).1 = 100 ∧ inb p1 (kd o4).2) <|
  bd (sI s2 o4 (ix p1) p2) fun s5 =>
  ck (¬ 2 = 0) <|
  if (p2 - p2 / 2 * 2) = 1 then (
  ck (¬ gR s5 th 61 = 0) <|
  ck ((kd th).1 = 12) <|
  bd (gR s5 th 61) fun o6 =>
  ck ((kd o6).1 = 100 ∧ inb p1 (kd o6).2) <|
  bd (sI s5 o6 (ix p1) ((-1))) fun s7 =>
  b_X12_faults_49 fu   s7)
  else (
  b_X12_faults_49 fu   s5))
  else (
  b_X12_faults_26 fu   s2))))
set_option maxHeartbeats 4000000 in
set_option maxRecDepth 100000 in
theorem t_X12_faults {X : CX} {res : Int32 × St} (B : BI X cX12_faults RX12 3 2 NN (some .boolean) res) (fu : Nat) (th : Nat) (p1 : Int32) (p2 : Int32) (st : St) : WW X res NN 0 [(0, .ref (x_b X + th)), (1, .int p1), (2, .int p2)] [] st (f_X12_faults fu th p1 p2 st) := by
  have hX := B.1
  have hL := B.2.1
  unfold f_X12_faults
  refine ww_iload_n hX 1 rfl dX12_faults_0 rfl ?_
  refine ww_callSI (As := [.int p1]) (rest := []) hX (Rk.of B.2.2.1 B.2.2.2.1 (by decide) (by decide)) g_X12_571 (c_X12_isAxis (x_G X) (x_l X) fu p1 st) rfl rfl (Nat.le_of_ble_eq_true rfl) dX12_faults_1 (fun r1 s2 => ?_)
  refine ww_if_eq (tgt := 26) hX dX12_faults_4 (by decide) ?_ ?_
  · exact ww_sub [] rfl (t_X12_faults_26 B fu   s2)
  · refine ww_aload_n hX 0 rfl dX12_faults_7 rfl ?_
    refine ww_getR hX f_X12_145 (Or.inr ⟨_, rfl⟩) dX12_faults_8 ?_
    refine ww_bdR (fun o3 => ?_)
    refine ww_iload_n hX 1 rfl dX12_faults_11 rfl ?_
    refine ww_zaldc hX k_zald dX12_faults_12 ?_
    refine ww_if_eq (tgt := 26) hX dX12_faults_13 (by decide) ?_ ?_
    · exact ww_sub [] rfl (t_X12_faults_26 B fu   s2)
    · refine ww_iload_n hX 2 rfl dX12_faults_16 rfl ?_
      refine ww_if_lt (tgt := 26) hX dX12_faults_17 (by decide) ?_ ?_
      · exact ww_sub [] rfl (t_X12_faults_26 B fu   s2)
      · refine ww_iload_n hX 2 rfl dX12_faults_20 rfl ?_
        refine ww_bipush (v := 7) hX rfl dX12_faults_21 ?_
        refine ww_icmp_le (tgt := 28) hX dX12_faults_23 (by decide) ?_ ?_
        · refine ww_aload_n hX 0 rfl dX12_faults_28 rfl ?_
          refine ww_getR hX f_X12_175 (Or.inr ⟨_, rfl⟩) dX12_faults_29 ?_
          refine ww_bdR (fun o4 => ?_)
          refine ww_iload_n hX 1 rfl dX12_faults_32 rfl ?_
          refine ww_iload_n hX 2 rfl dX12_faults_33 rfl ?_
          refine ww_iastc hX k_iast dX12_faults_34 ?_
          refine ww_bds (fun s5 => ?_)
          refine ww_iload_n hX 2 rfl dX12_faults_35 rfl ?_
          refine ww_iconst (v := 2) hX rfl dX12_faults_36 ?_
          refine ww_pc (b := 37) rfl ?_
          refine ww_irem hX dX12_faults_37 ?_
          refine ww_iconst (v := 1) hX rfl dX12_faults_38 ?_
          refine ww_icmp_ne (tgt := 49) hX dX12_faults_39 (by decide) ?_ ?_
          · exact ww_sub [] rfl (t_X12_faults_49 B fu   s5)
          · refine ww_aload_n hX 0 rfl dX12_faults_42 rfl ?_
            refine ww_getR hX f_X12_166 (Or.inr ⟨_, rfl⟩) dX12_faults_43 ?_
            refine ww_bdR (fun o6 => ?_)
            refine ww_iload_n hX 1 rfl dX12_faults_46 rfl ?_
            refine ww_iconst (v := (-1)) hX rfl dX12_faults_47 ?_
            refine ww_iastc hX k_iast dX12_faults_48 ?_
            refine ww_bds (fun s7 => ?_)
            exact ww_sub [] rfl (t_X12_faults_49 B fu   s7)
        · exact ww_sub [] rfl (t_X12_faults_26 B fu   s2)
theorem c_X12_faults (G : GX) (l : Launch) (fu : Nat) (th : Nat) (p1 : Int32) (p2 : Int32) (st : St) : MI G NN l yX12_faults cX12_faults 3 (some .boolean) 2 [.ref (G.2.2.1 + th), .int p1, .int p2] st (f_X12_faults fu th p1 p2 st) := mkI (by decide) (Nat.le_of_ble_eq_true rfl) (fun X res hl hG B => by subst hl; subst hG; exact t_X12_faults B fu th p1 p2 st)
/-! StageHouseModel.stop(Z)V -/
def b_X12_stop_30 (fu : Nat)   (st : St) : Option (St) :=
  some st
set_option maxHeartbeats 4000000 in
set_option maxRecDepth 100000 in
theorem t_X12_stop_30 {X : CX} {res : St} (B : BV X cX12_stop RX12 3 1 NN none res) (fu : Nat)   (st : St) : WW X res NN 30 [] [] st (b_X12_stop_30 fu  st) := by
  have hX := B.1
  have hL := B.2.1
  unfold b_X12_stop_30
  exact ww_vret B dX12_stop_30
def b_X12_stop_7_b (fu : Nat) (k_7 : Nat → Int32 → Int32 → St → Option (St)) (x0 : Nat) (x1 : Int32) (x2 : Int32)  (st : St) : Option (St) :=
  if 8 ≤ x2 then (
  b_X12_stop_30 fu   st)
  else (
  if x1 = 0 then (
  b_X12_stop_30 fu   st)
  else (
  ck (¬ gR st x0 61 = 0) <|
  ck ((kd x0).1 = 12) <|
  bd (gR st x0 61) fun o2 =>
  ck ((kd o2).1 = 100 ∧ inb x2 (kd o2).2) <|
  bd (sI st o2 (ix x2) ((-1))) fun s3 =>
  bd (x2 + 1) fun v4 =>
  k_7 x0 x1 v4  s3))
set_option maxHeartbeats 4000000 in
set_option maxRecDepth 100000 in
theorem t_X12_stop_7_b {X : CX} {res : St} (B : BV X cX12_stop RX12 3 1 NN none res) (fu : Nat) (k_7 : Nat → Int32 → Int32 → St → Option (St)) (h_7 : ∀ (x0 : Nat) (x1 : Int32) (x2 : Int32)  (st : St), WW X res NN 7 [(0, .ref (x_b X + x0)), (1, .int x1), (2, .int x2)] [] st (k_7 x0 x1 x2 st)) (x0 : Nat) (x1 : Int32) (x2 : Int32)  (st : St) : WW X res NN 7 [(0, .ref (x_b X + x0)), (1, .int x1), (2, .int x2)] [] st (b_X12_stop_7_b fu k_7 x0 x1 x2 st) := by
  have hX := B.1
  have hL := B.2.1
  unfold b_X12_stop_7_b
  refine ww_iload_n hX 2 rfl dX12_stop_7 rfl ?_
  refine ww_bipush (v := 8) hX rfl dX12_stop_8 ?_
  refine ww_icmp_ge (tgt := 30) hX dX12_stop_10 (by decide) ?_ ?_
  · exact ww_sub [] rfl (t_X12_stop_30 B fu   st)
  · refine ww_iload_n hX 1 rfl dX12_stop_13 rfl ?_
    refine ww_if_eq (tgt := 30) hX dX12_stop_14 (by decide) ?_ ?_
    · exact ww_sub [] rfl (t_X12_stop_30 B fu   st)
    · refine ww_aload_n hX 0 rfl dX12_stop_17 rfl ?_
      refine ww_getR hX f_X12_166 (Or.inr ⟨_, rfl⟩) dX12_stop_18 ?_
      refine ww_bdR (fun o2 => ?_)
      refine ww_iload_n hX 2 rfl dX12_stop_21 rfl ?_
      refine ww_iconst (v := (-1)) hX rfl dX12_stop_22 ?_
      refine ww_iastc hX k_iast dX12_stop_23 ?_
      refine ww_bds (fun s3 => ?_)
      refine ww_iincb (lv' := fun v4 => [(2, .int v4), (0, .ref (x_b X + x0)), (1, .int x1)]) (c := 1) hX hL 2 rfl dX12_stop_24 rfl (by decide) (fun _ => rfl) (fun v4 => ?_)
      refine ww_goto (tgt := 7) hX dX12_stop_27 (by decide) ?_
      exact ww_sub [1, 2, 0] rfl (h_7 x0 x1 v4  s3)
def b_X12_stop_7 (fu : Nat) : Nat → Nat → Int32 → Int32 → St → Option (St)
  | 0, _, _, _, _ => none
  | i + 1, x0, x1, x2, st => b_X12_stop_7_b fu (b_X12_stop_7 fu i) x0 x1 x2 st
theorem t_X12_stop_7 {X : CX} {res : St} (B : BV X cX12_stop RX12 3 1 NN none res) (fu : Nat) : ∀ (i : Nat) (x0 : Nat) (x1 : Int32) (x2 : Int32)  (st : St), WW X res NN 7 [(0, .ref (x_b X + x0)), (1, .int x1), (2, .int x2)] [] st (b_X12_stop_7 fu i x0 x1 x2 st) := by
  intro i
  induction i with
  | zero => intro x0 x1 x2 st; exact ww_none
  | succ i ih => intro x0 x1 x2 st; exact t_X12_stop_7_b B fu (b_X12_stop_7 fu i) ih x0 x1 x2 st
def f_X12_stop (fu : Nat) (th : Nat) (p1 : Int32) (st : St) : Option (St) :=
  ck (isb p1) <|
  ck ((kd th).1 = 12) <|
  bd (sI st th 67 p1) fun s1 =>
  b_X12_stop_7 fu fu th p1 0  s1
set_option maxHeartbeats 4000000 in
set_option maxRecDepth 100000 in
theorem t_X12_stop {X : CX} {res : St} (B : BV X cX12_stop RX12 3 1 NN none res) (fu : Nat) (th : Nat) (p1 : Int32) (st : St) : WW X res NN 0 [(0, .ref (x_b X + th)), (1, .int p1)] [] st (f_X12_stop fu th p1 st) := by
  have hX := B.1
  have hL := B.2.1
  unfold f_X12_stop
  refine ww_aload_n hX 0 rfl dX12_stop_0 rfl ?_
  refine ww_iload_n hX 1 rfl dX12_stop_1 rfl ?_
  refine ww_putZ hX f_X12_565 rfl dX12_stop_2 ?_
  refine ww_bds (fun s1 => ?_)
  refine ww_iconst (v := 0) hX rfl dX12_stop_5 ?_
  refine ww_istore_n (lv' := [(2, .int 0), (0, .ref (x_b X + th)), (1, .int p1)]) hX hL dX12_stop_6 rfl (by decide) rfl ?_
  exact ww_sub [1, 2, 0] rfl (t_X12_stop_7 B fu fu th p1 0  s1)
theorem c_X12_stop (G : GX) (l : Launch) (fu : Nat) (th : Nat) (p1 : Int32) (st : St) : MV G NN l yX12_stop cX12_stop 3 none 1 [.ref (G.2.2.1 + th), .int p1] st (f_X12_stop fu th p1 st) := mkV (by decide) (Nat.le_of_ble_eq_true rfl) (fun X res hl hG B => by subst hl; subst hG; exact t_X12_stop B fu th p1 st)
/-! StageHouseModel.event(IZ)Z -/
def b_X12_event_10 (fu : Nat)   (st : St) : Option (Int32 × St) :=
  ck (isb 0) (some (0, st))
set_option maxHeartbeats 4000000 in
set_option maxRecDepth 100000 in
theorem t_X12_event_10 {X : CX} {res : Int32 × St} (B : BI X cX12_event RX12 3 1 NN (some .boolean) res) (fu : Nat)   (st : St) : WW X res NN 10 [] [] st (b_X12_event_10 fu  st) := by
  have hX := B.1
  have hL := B.2.1
  unfold b_X12_event_10
  refine ww_iconst (v := 0) hX rfl dX12_event_10 ?_
  exact ww_zret B dX12_event_11
def f_X12_event (fu : Nat) (th : Nat) (p1 : Int32) (p2 : Int32) (st : St) : Option (Int32 × St) :=
  if p1 < 0 then (
  b_X12_event_10 fu   st)
  else (
  if p1 ≤ 15 then (
  ck (¬ gR st th 66 = 0) <|
  ck ((kd th).1 = 12) <|
  bd (gR st th 66) fun o1 =>
  ck (isb p2) <|
  ck ((kd o1).1 = 102 ∧ inb p1 (kd o1).2) <|
  bd (sI st o1 (ix p1) p2) fun s2 =>
  ck (isb 1) (some (1, s2)))
  else (
  b_X12_event_10 fu   st))
set_option maxHeartbeats 4000000 in
set_option maxRecDepth 100000 in
theorem t_X12_event {X : CX} {res : Int32 × St} (B : BI X cX12_event RX12 3 1 NN (some .boolean) res) (fu : Nat) (th : Nat) (p1 : Int32) (p2 : Int32) (st : St) : WW X res NN 0 [(0, .ref (x_b X + th)), (1, .int p1), (2, .int p2)] [] st (f_X12_event fu th p1 p2 st) := by
  have hX := B.1
  have hL := B.2.1
  unfold f_X12_event
  refine ww_iload_n hX 1 rfl dX12_event_0 rfl ?_
  refine ww_if_lt (tgt := 10) hX dX12_event_1 (by decide) ?_ ?_
  · exact ww_sub [] rfl (t_X12_event_10 B fu   st)
  · refine ww_iload_n hX 1 rfl dX12_event_4 rfl ?_
    refine ww_bipush (v := 15) hX rfl dX12_event_5 ?_
    refine ww_icmp_le (tgt := 12) hX dX12_event_7 (by decide) ?_ ?_
    · refine ww_aload_n hX 0 rfl dX12_event_12 rfl ?_
      refine ww_getR hX f_X12_181 (Or.inr ⟨_, rfl⟩) dX12_event_13 ?_
      refine ww_bdR (fun o1 => ?_)
      refine ww_iload_n hX 1 rfl dX12_event_16 rfl ?_
      refine ww_iload_n hX 2 rfl dX12_event_17 rfl ?_
      refine ww_zastc hX k_zast dX12_event_18 ?_
      refine ww_bds (fun s2 => ?_)
      refine ww_iconst (v := 1) hX rfl dX12_event_19 ?_
      exact ww_zret B dX12_event_20
    · exact ww_sub [] rfl (t_X12_event_10 B fu   st)
theorem c_X12_event (G : GX) (l : Launch) (fu : Nat) (th : Nat) (p1 : Int32) (p2 : Int32) (st : St) : MI G NN l yX12_event cX12_event 3 (some .boolean) 1 [.ref (G.2.2.1 + th), .int p1, .int p2] st (f_X12_event fu th p1 p2 st) := mkI (by decide) (Nat.le_of_ble_eq_true rfl) (fun X res hl hG B => by subst hl; subst hG; exact t_X12_event B fu th p1 p2 st)
/-! StageHouseModel.brake(JJ)J -/
def f_X12_brake (fu : Nat) (p0 : Int64) (p2 : Int64) (st : St) : Option (Int64 × St) :=
  if 0 < (lg_cmp p0 p2) then (
  ck (¬ p2 = 0) <|
  bd ((p0 - 1) / p2) fun v1 =>
  ck (¬ 2 = 0) <|
  some ((v1 * p0) - (((p2 * v1) * (v1 + 1)) / 2), st))
  else (
  some (0, st))
set_option maxHeartbeats 4000000 in
set_option maxRecDepth 100000 in
theorem t_X12_brake {X : CX} {res : Int64 × St} (B : BL X cX12_brake RX12 6 1 NN (some .long) res) (fu : Nat) (p0 : Int64) (p2 : Int64) (st : St) : WW X res NN 0 [(0, .long p0), (2, .long p2)] [] st (f_X12_brake fu p0 p2 st) := by
  have hX := B.1
  have hL := B.2.1
  unfold f_X12_brake
  refine ww_lload_n hX 0 rfl dX12_brake_0 rfl ?_
  refine ww_lload_n hX 1 rfl dX12_brake_1 rfl ?_
  refine ww_lcmp hX dX12_brake_2 ?_
  refine ww_if_gt (tgt := 8) hX dX12_brake_3 (by decide) ?_ ?_
  · refine ww_lload_n hX 0 rfl dX12_brake_8 rfl ?_
    refine ww_lconst (v := 1) hX rfl dX12_brake_9 ?_
    refine ww_lsub hX dX12_brake_10 ?_
    refine ww_lload_n hX 1 rfl dX12_brake_11 rfl ?_
    refine ww_ldiv hX dX12_brake_12 ?_
    refine ww_bdl (fun v1 => ?_)
    refine ww_lstore (lv' := [(4, .long v1), (0, .long p0), (2, .long p2)]) hX hL dX12_brake_13 (by decide) rfl ?_
    refine ww_lload hX 0 rfl dX12_brake_15 ?_
    refine ww_pc (b := 17) rfl ?_
    refine ww_lload_n hX 1 rfl dX12_brake_17 rfl ?_
    refine ww_lmul hX dX12_brake_18 ?_
    refine ww_lload_n hX 2 rfl dX12_brake_19 rfl ?_
    refine ww_lload hX 0 rfl dX12_brake_20 ?_
    refine ww_lmul hX dX12_brake_22 ?_
    refine ww_lload hX 0 rfl dX12_brake_23 ?_
    refine ww_lconst (v := 1) hX rfl dX12_brake_25 ?_
    refine ww_ladd hX dX12_brake_26 ?_
    refine ww_pc (b := 27) rfl ?_
    refine ww_lmul hX dX12_brake_27 ?_
    refine ww_ldc2 (v := 2) hX k_X12_351 dX12_brake_28 ?_
    refine ww_ldiv hX dX12_brake_31 ?_
    refine ww_lsub hX dX12_brake_32 ?_
    exact ww_lret B dX12_brake_33
  · refine ww_lconst (v := 0) hX rfl dX12_brake_6 ?_
    exact ww_lret B dX12_brake_7
theorem c_X12_brake (G : GX) (l : Launch) (fu : Nat) (p0 : Int64) (p2 : Int64) (st : St) : ML G NN l yX12_brake cX12_brake 6 (some .long) 1 [.long p0, .long p2] st (f_X12_brake fu p0 p2 st) := mkL (by decide) (Nat.le_of_ble_eq_true rfl) (fun X res hl hG B => by subst hl; subst hG; exact t_X12_brake B fu p0 p2 st)
/-! StageHouseModel.moveAxis(I)V -/
def b_X12_moveAxis_331 (fu : Nat)   (st : St) : Option (St) :=
  some st
set_option maxHeartbeats 4000000 in
set_option maxRecDepth 100000 in
theorem t_X12_moveAxis_331 {X : CX} {res : St} (B : BV X cX12_moveAxis RX12 10 2 NN none res) (fu : Nat)   (st : St) : WW X res NN 331 [] [] st (b_X12_moveAxis_331 fu  st) := by
  have hX := B.1
  have hL := B.2.1
  unfold b_X12_moveAxis_331
  exact ww_vret B dX12_moveAxis_331
def b_X12_moveAxis_275 (fu : Nat) (x0 : Nat) (x1 : Int32)  (st : St) : Option (St) :=
  ck (¬ gR st x0 59 = 0) <|
  ck ((kd x0).1 = 12) <|
  bd (gR st x0 59) fun o16 =>
  ck ((kd o16).1 = 100 ∧ inb x1 (kd o16).2) <|
  ck (¬ gR st x0 60 = 0) <|
  ck ((kd x0).1 = 12) <|
  bd (gR st x0 60) fun o17 =>
  ck ((kd o17).1 = 100 ∧ inb x1 (kd o17).2) <|
  ck ((kd o16).1 = 100 ∧ inb x1 (kd o16).2) <|
  bd (sI st o16 (ix x1) ((gI st o16 (ix x1)) + (gI st o17 (ix x1)))) fun s18 =>
  ck (¬ gR s18 x0 61 = 0) <|
  ck ((kd x0).1 = 12) <|
  bd (gR s18 x0 61) fun o19 =>
  ck ((kd o19).1 = 100 ∧ inb x1 (kd o19).2) <|
  if (gI s18 o19 (ix x1)) = ((-1)) then (
  b_X12_moveAxis_331 fu   s18)
  else (
  ck (¬ gR s18 x0 59 = 0) <|
  ck ((kd x0).1 = 12) <|
  bd (gR s18 x0 59) fun o20 =>
  ck ((kd o20).1 = 100 ∧ inb x1 (kd o20).2) <|
  ck (¬ gR s18 x0 61 = 0) <|
  ck ((kd x0).1 = 12) <|
  bd (gR s18 x0 61) fun o21 =>
  ck ((kd o21).1 = 100 ∧ inb x1 (kd o21).2) <|
  if (gI s18 o20 (ix x1)) = (gI s18 o21 (ix x1)) then (
  ck (¬ gR s18 x0 60 = 0) <|
  ck ((kd x0).1 = 12) <|
  bd (gR s18 x0 60) fun o22 =>
  ck ((kd o22).1 = 100 ∧ inb x1 (kd o22).2) <|
  if (gI s18 o22 (ix x1)) = 0 then (
  ck (¬ gR s18 x0 61 = 0) <|
  ck ((kd x0).1 = 12) <|
  bd (gR s18 x0 61) fun o23 =>
  ck ((kd o23).1 = 100 ∧ inb x1 (kd o23).2) <|
  bd (sI s18 o23 (ix x1) ((-1))) fun s24 =>
  b_X12_moveAxis_331 fu   s24)
  else (
  b_X12_moveAxis_331 fu   s18))
  else (
  b_X12_moveAxis_331 fu   s18))
set_option maxHeartbeats 4000000 in
set_option maxRecDepth 100000 in
theorem t_X12_moveAxis_275 {X : CX} {res : St} (B : BV X cX12_moveAxis RX12 10 2 NN none res) (fu : Nat) (x0 : Nat) (x1 : Int32)  (st : St) : WW X res NN 275 [(0, .ref (x_b X + x0)), (1, .int x1)] [] st (b_X12_moveAxis_275 fu x0 x1 st) := by
  have hX := B.1
  have hL := B.2.1
  unfold b_X12_moveAxis_275
  refine ww_aload_n hX 0 rfl dX12_moveAxis_275 rfl ?_
  refine ww_getR hX f_X12_160 (Or.inr ⟨_, rfl⟩) dX12_moveAxis_276 ?_
  refine ww_bdR (fun o16 => ?_)
  refine ww_iload_n hX 1 rfl dX12_moveAxis_279 rfl ?_
  refine ww_dup2_11 hX rfl rfl dX12_moveAxis_280 ?_
  refine ww_ialdc hX k_iald dX12_moveAxis_281 ?_
  refine ww_aload_n hX 0 rfl dX12_moveAxis_282 rfl ?_
  refine ww_getR hX f_X12_163 (Or.inr ⟨_, rfl⟩) dX12_moveAxis_283 ?_
  refine ww_bdR (fun o17 => ?_)
  refine ww_pc (b := 286) rfl ?_
  refine ww_iload_n hX 1 rfl dX12_moveAxis_286 rfl ?_
  refine ww_ialdc hX k_iald dX12_moveAxis_287 ?_
  refine ww_iadd hX dX12_moveAxis_288 ?_
  refine ww_iastc hX k_iast dX12_moveAxis_289 ?_
  refine ww_bds (fun s18 => ?_)
  refine ww_aload_n hX 0 rfl dX12_moveAxis_290 rfl ?_
  refine ww_getR hX f_X12_166 (Or.inr ⟨_, rfl⟩) dX12_moveAxis_291 ?_
  refine ww_bdR (fun o19 => ?_)
  refine ww_iload_n hX 1 rfl dX12_moveAxis_294 rfl ?_
  refine ww_ialdc hX k_iald dX12_moveAxis_295 ?_
  refine ww_pc (b := 296) rfl ?_
  refine ww_iconst (v := (-1)) hX rfl dX12_moveAxis_296 ?_
  refine ww_icmp_eq (tgt := 331) hX dX12_moveAxis_297 (by decide) ?_ ?_
  · exact ww_sub [] rfl (t_X12_moveAxis_331 B fu   s18)
  · refine ww_aload_n hX 0 rfl dX12_moveAxis_300 rfl ?_
    refine ww_getR hX f_X12_160 (Or.inr ⟨_, rfl⟩) dX12_moveAxis_301 ?_
    refine ww_bdR (fun o20 => ?_)
    refine ww_iload_n hX 1 rfl dX12_moveAxis_304 rfl ?_
    refine ww_ialdc hX k_iald dX12_moveAxis_305 ?_
    refine ww_aload_n hX 0 rfl dX12_moveAxis_306 rfl ?_
    refine ww_getR hX f_X12_166 (Or.inr ⟨_, rfl⟩) dX12_moveAxis_307 ?_
    refine ww_bdR (fun o21 => ?_)
    refine ww_iload_n hX 1 rfl dX12_moveAxis_310 rfl ?_
    refine ww_pc (b := 311) rfl ?_
    refine ww_ialdc hX k_iald dX12_moveAxis_311 ?_
    refine ww_icmp_ne (tgt := 331) hX dX12_moveAxis_312 (by decide) ?_ ?_
    · exact ww_sub [] rfl (t_X12_moveAxis_331 B fu   s18)
    · refine ww_aload_n hX 0 rfl dX12_moveAxis_315 rfl ?_
      refine ww_getR hX f_X12_163 (Or.inr ⟨_, rfl⟩) dX12_moveAxis_316 ?_
      refine ww_bdR (fun o22 => ?_)
      refine ww_iload_n hX 1 rfl dX12_moveAxis_319 rfl ?_
      refine ww_ialdc hX k_iald dX12_moveAxis_320 ?_
      refine ww_if_ne (tgt := 331) hX dX12_moveAxis_321 (by decide) ?_ ?_
      · exact ww_sub [] rfl (t_X12_moveAxis_331 B fu   s18)
      · refine ww_aload_n hX 0 rfl dX12_moveAxis_324 rfl ?_
        refine ww_getR hX f_X12_166 (Or.inr ⟨_, rfl⟩) dX12_moveAxis_325 ?_
        refine ww_bdR (fun o23 => ?_)
        refine ww_iload_n hX 1 rfl dX12_moveAxis_328 rfl ?_
        refine ww_iconst (v := (-1)) hX rfl dX12_moveAxis_329 ?_
        refine ww_iastc hX k_iast dX12_moveAxis_330 ?_
        refine ww_bds (fun s24 => ?_)
        exact ww_sub [] rfl (t_X12_moveAxis_331 B fu   s24)
def b_X12_moveAxis_264 (fu : Nat) (x0 : Nat) (x1 : Int32) (x4 : Int32) (x7 : Int32)  (st : St) : Option (St) :=
  ck (¬ gR st x0 60 = 0) <|
  ck ((kd x0).1 = 12) <|
  bd (gR st x0 60) fun o14 =>
  ck ((kd o14).1 = 100 ∧ inb x1 (kd o14).2) <|
  bd (sI st o14 (ix x1) (x7 * x4)) fun s15 =>
  b_X12_moveAxis_275 fu x0 x1  s15
set_option maxHeartbeats 4000000 in
set_option maxRecDepth 100000 in
theorem t_X12_moveAxis_264 {X : CX} {res : St} (B : BV X cX12_moveAxis RX12 10 2 NN none res) (fu : Nat) (x0 : Nat) (x1 : Int32) (x4 : Int32) (x7 : Int32)  (st : St) : WW X res NN 264 [(0, .ref (x_b X + x0)), (1, .int x1), (4, .int x4), (7, .int x7)] [] st (b_X12_moveAxis_264 fu x0 x1 x4 x7 st) := by
  have hX := B.1
  have hL := B.2.1
  unfold b_X12_moveAxis_264
  refine ww_aload_n hX 0 rfl dX12_moveAxis_264 rfl ?_
  refine ww_getR hX f_X12_163 (Or.inr ⟨_, rfl⟩) dX12_moveAxis_265 ?_
  refine ww_bdR (fun o14 => ?_)
  refine ww_iload_n hX 1 rfl dX12_moveAxis_268 rfl ?_
  refine ww_iload hX 3 rfl dX12_moveAxis_269 ?_
  refine ww_iload hX 2 rfl dX12_moveAxis_271 ?_
  refine ww_imul hX dX12_moveAxis_273 ?_
  refine ww_iastc hX k_iast dX12_moveAxis_274 ?_
  refine ww_bds (fun s15 => ?_)
  exact ww_sub [0, 1] rfl (t_X12_moveAxis_275 B fu x0 x1  s15)
def b_X12_moveAxis_262 (fu : Nat) (x0 : Nat) (x1 : Int32) (x4 : Int32) (y0 : Int32) (st : St) : Option (St) :=
  b_X12_moveAxis_264 fu x0 x1 x4 y0  st
set_option maxHeartbeats 4000000 in
set_option maxRecDepth 100000 in
theorem t_X12_moveAxis_262 {X : CX} {res : St} (B : BV X cX12_moveAxis RX12 10 2 NN none res) (fu : Nat) (x0 : Nat) (x1 : Int32) (x4 : Int32) (y0 : Int32) (st : St) : WW X res NN 262 [(0, .ref (x_b X + x0)), (1, .int x1), (4, .int x4)] [.int y0] st (b_X12_moveAxis_262 fu x0 x1 x4 y0 st) := by
  have hX := B.1
  have hL := B.2.1
  unfold b_X12_moveAxis_262
  refine ww_istore (lv' := [(7, .int y0), (0, .ref (x_b X + x0)), (1, .int x1), (4, .int x4)]) hX hL dX12_moveAxis_262 (by decide) rfl ?_
  exact ww_sub [1, 2, 3, 0] rfl (t_X12_moveAxis_264 B fu x0 x1 x4 y0  st)
def b_X12_moveAxis_248 (fu : Nat) (x0 : Nat) (x1 : Int32) (x4 : Int32) (x7 : Int32) (x9 : Int32)  (st : St) : Option (St) :=
  if x9 ≤ x7 then (
  b_X12_moveAxis_262 fu x0 x1 x4 x7 st)
  else (
  b_X12_moveAxis_262 fu x0 x1 x4 x9 st)
set_option maxHeartbeats 4000000 in
set_option maxRecDepth 100000 in
theorem t_X12_moveAxis_248 {X : CX} {res : St} (B : BV X cX12_moveAxis RX12 10 2 NN none res) (fu : Nat) (x0 : Nat) (x1 : Int32) (x4 : Int32) (x7 : Int32) (x9 : Int32)  (st : St) : WW X res NN 248 [(0, .ref (x_b X + x0)), (1, .int x1), (4, .int x4), (7, .int x7), (9, .int x9)] [] st (b_X12_moveAxis_248 fu x0 x1 x4 x7 x9 st) := by
  have hX := B.1
  have hL := B.2.1
  unfold b_X12_moveAxis_248
  refine ww_iload hX 3 rfl dX12_moveAxis_248 ?_
  refine ww_iload hX 4 rfl dX12_moveAxis_250 ?_
  refine ww_icmp_ge (tgt := 260) hX dX12_moveAxis_252 (by decide) ?_ ?_
  · refine ww_iload hX 3 rfl dX12_moveAxis_260 ?_
    exact ww_sub [0, 1, 2] rfl (t_X12_moveAxis_262 B fu x0 x1 x4 x7 st)
  · refine ww_iload hX 4 rfl dX12_moveAxis_255 ?_
    refine ww_goto (tgt := 262) hX dX12_moveAxis_257 (by decide) ?_
    exact ww_sub [0, 1, 2] rfl (t_X12_moveAxis_262 B fu x0 x1 x4 x9 st)
def b_X12_moveAxis_216_b (fu : Nat) (k_216 : Nat → Int32 → Int32 → Int32 → Int32 → Int32 → Int32 → St → Option (St)) (x0 : Nat) (x1 : Int32) (x2 : Int32) (x4 : Int32) (x5 : Int32) (x7 : Int32) (x9 : Int32)  (st : St) : Option (St) :=
  if x7 < x9 then (
  b_X12_moveAxis_248 fu x0 x1 x4 x7 x9  st)
  else (
  ca (f_X12_brake fu x7.toInt64 x2.toInt64 st) fun r25 s26 =>
  if (lg_cmp (x7.toInt64 + r25) x5.toInt64) ≤ 0 then (
  b_X12_moveAxis_248 fu x0 x1 x4 x7 x9  s26)
  else (
  bd (x7 + (-1)) fun v27 =>
  k_216 x0 x1 x2 x4 x5 v27 x9  s26))
set_option maxHeartbeats 4000000 in
set_option maxRecDepth 100000 in
theorem t_X12_moveAxis_216_b {X : CX} {res : St} (B : BV X cX12_moveAxis RX12 10 2 NN none res) (fu : Nat) (k_216 : Nat → Int32 → Int32 → Int32 → Int32 → Int32 → Int32 → St → Option (St)) (h_216 : ∀ (x0 : Nat) (x1 : Int32) (x2 : Int32) (x4 : Int32) (x5 : Int32) (x7 : Int32) (x9 : Int32)  (st : St), WW X res NN 216 [(0, .ref (x_b X + x0)), (1, .int x1), (2, .int x2), (4, .int x4), (5, .int x5), (7, .int x7), (9, .int x9)] [] st (k_216 x0 x1 x2 x4 x5 x7 x9 st)) (x0 : Nat) (x1 : Int32) (x2 : Int32) (x4 : Int32) (x5 : Int32) (x7 : Int32) (x9 : Int32)  (st : St) : WW X res NN 216 [(0, .ref (x_b X + x0)), (1, .int x1), (2, .int x2), (4, .int x4), (5, .int x5), (7, .int x7), (9, .int x9)] [] st (b_X12_moveAxis_216_b fu k_216 x0 x1 x2 x4 x5 x7 x9 st) := by
  have hX := B.1
  have hL := B.2.1
  unfold b_X12_moveAxis_216_b
  refine ww_iload hX 5 rfl dX12_moveAxis_216 ?_
  refine ww_iload hX 6 rfl dX12_moveAxis_218 ?_
  refine ww_icmp_lt (tgt := 248) hX dX12_moveAxis_220 (by decide) ?_ ?_
  · exact ww_sub [0, 1, 3, 5, 6] rfl (t_X12_moveAxis_248 B fu x0 x1 x4 x7 x9  st)
  · refine ww_iload hX 5 rfl dX12_moveAxis_223 ?_
    refine ww_i2l hX dX12_moveAxis_225 ?_
    refine ww_iload hX 5 rfl dX12_moveAxis_226 ?_
    refine ww_i2l hX dX12_moveAxis_228 ?_
    refine ww_iload_n hX 2 rfl dX12_moveAxis_229 rfl ?_
    refine ww_i2l hX dX12_moveAxis_230 ?_
    refine ww_callSL (As := [.long x7.toInt64, .long x2.toInt64]) (rest := [.long x7.toInt64]) hX (Rk.of B.2.2.1 B.2.2.2.1 (by decide) (by decide)) g_X12_574 (c_X12_brake (x_G X) (x_l X) fu x7.toInt64 x2.toInt64 st) rfl rfl (Nat.le_of_ble_eq_true rfl) dX12_moveAxis_231 (fun r25 s26 => ?_)
    refine ww_pc (b := 234) rfl ?_
    refine ww_ladd hX dX12_moveAxis_234 ?_
    refine ww_iload hX 4 rfl dX12_moveAxis_235 ?_
    refine ww_i2l hX dX12_moveAxis_237 ?_
    refine ww_lcmp hX dX12_moveAxis_238 ?_
    refine ww_if_le (tgt := 248) hX dX12_moveAxis_239 (by decide) ?_ ?_
    · exact ww_sub [0, 1, 3, 5, 6] rfl (t_X12_moveAxis_248 B fu x0 x1 x4 x7 x9  s26)
    · refine ww_iincb (lv' := fun v27 => [(7, .int v27), (0, .ref (x_b X + x0)), (1, .int x1), (2, .int x2), (4, .int x4), (5, .int x5), (9, .int x9)]) (c := (-1)) hX hL 5 rfl dX12_moveAxis_242 rfl (by decide) (fun _ => rfl) (fun v27 => ?_)
      refine ww_goto (tgt := 216) hX dX12_moveAxis_245 (by decide) ?_
      exact ww_sub [1, 2, 3, 4, 5, 0, 6] rfl (h_216 x0 x1 x2 x4 x5 v27 x9  s26)
def b_X12_moveAxis_216 (fu : Nat) : Nat → Nat → Int32 → Int32 → Int32 → Int32 → Int32 → Int32 → St → Option (St)
  | 0, _, _, _, _, _, _, _, _ => none
  | i + 1, x0, x1, x2, x4, x5, x7, x9, st => b_X12_moveAxis_216_b fu (b_X12_moveAxis_216 fu i) x0 x1 x2 x4 x5 x7 x9 st
theorem t_X12_moveAxis_216 {X : CX} {res : St} (B : BV X cX12_moveAxis RX12 10 2 NN none res) (fu : Nat) : ∀ (i : Nat) (x0 : Nat) (x1 : Int32) (x2 : Int32) (x4 : Int32) (x5 : Int32) (x7 : Int32) (x9 : Int32)  (st : St), WW X res NN 216 [(0, .ref (x_b X + x0)), (1, .int x1), (2, .int x2), (4, .int x4), (5, .int x5), (7, .int x7), (9, .int x9)] [] st (b_X12_moveAxis_216 fu i x0 x1 x2 x4 x5 x7 x9 st) := by
  intro i
  induction i with
  | zero => intro x0 x1 x2 x4 x5 x7 x9 st; exact ww_none
  | succ i ih => intro x0 x1 x2 x4 x5 x7 x9 st; exact t_X12_moveAxis_216_b B fu (b_X12_moveAxis_216 fu i) ih x0 x1 x2 x4 x5 x7 x9 st
def b_X12_moveAxis_210 (fu : Nat) (x0 : Nat) (x1 : Int32) (x2 : Int32) (x4 : Int32) (x5 : Int32) (x8 : Int32) (y0 : Int32) (st : St) : Option (St) :=
  b_X12_moveAxis_216 fu fu x0 x1 x2 x4 x5 x8 y0  st
set_option maxHeartbeats 4000000 in
set_option maxRecDepth 100000 in
theorem t_X12_moveAxis_210 {X : CX} {res : St} (B : BV X cX12_moveAxis RX12 10 2 NN none res) (fu : Nat) (x0 : Nat) (x1 : Int32) (x2 : Int32) (x4 : Int32) (x5 : Int32) (x8 : Int32) (y0 : Int32) (st : St) : WW X res NN 210 [(0, .ref (x_b X + x0)), (1, .int x1), (2, .int x2), (4, .int x4), (5, .int x5), (8, .int x8)] [.int y0] st (b_X12_moveAxis_210 fu x0 x1 x2 x4 x5 x8 y0 st) := by
  have hX := B.1
  have hL := B.2.1
  unfold b_X12_moveAxis_210
  refine ww_istore (lv' := [(9, .int y0), (0, .ref (x_b X + x0)), (1, .int x1), (2, .int x2), (4, .int x4), (5, .int x5), (8, .int x8)]) hX hL dX12_moveAxis_210 (by decide) rfl ?_
  refine ww_iload hX 6 rfl dX12_moveAxis_212 ?_
  refine ww_istore (lv' := [(7, .int x8), (9, .int y0), (0, .ref (x_b X + x0)), (1, .int x1), (2, .int x2), (4, .int x4), (5, .int x5), (8, .int x8)]) hX hL dX12_moveAxis_214 (by decide) rfl ?_
  exact ww_sub [2, 3, 4, 5, 6, 0, 1] rfl (t_X12_moveAxis_216 B fu fu x0 x1 x2 x4 x5 x8 y0  st)
def b_X12_moveAxis_195 (fu : Nat) (x0 : Nat) (x1 : Int32) (x2 : Int32) (x3 : Int32) (x4 : Int32) (x5 : Int32) (y0 : Int32) (st : St) : Option (St) :=
  if (x3 - x2) ≤ 0 then (
  b_X12_moveAxis_210 fu x0 x1 x2 x4 x5 y0 0 st)
  else (
  b_X12_moveAxis_210 fu x0 x1 x2 x4 x5 y0 (x3 - x2) st)
set_option maxHeartbeats 4000000 in
set_option maxRecDepth 100000 in
theorem t_X12_moveAxis_195 {X : CX} {res : St} (B : BV X cX12_moveAxis RX12 10 2 NN none res) (fu : Nat) (x0 : Nat) (x1 : Int32) (x2 : Int32) (x3 : Int32) (x4 : Int32) (x5 : Int32) (y0 : Int32) (st : St) : WW X res NN 195 [(0, .ref (x_b X + x0)), (1, .int x1), (2, .int x2), (3, .int x3), (4, .int x4), (5, .int x5)] [.int y0] st (b_X12_moveAxis_195 fu x0 x1 x2 x3 x4 x5 y0 st) := by
  have hX := B.1
  have hL := B.2.1
  unfold b_X12_moveAxis_195
  refine ww_istore (lv' := [(8, .int y0), (0, .ref (x_b X + x0)), (1, .int x1), (2, .int x2), (3, .int x3), (4, .int x4), (5, .int x5)]) hX hL dX12_moveAxis_195 (by decide) rfl ?_
  refine ww_iload_n hX 4 rfl dX12_moveAxis_197 rfl ?_
  refine ww_iload_n hX 3 rfl dX12_moveAxis_198 rfl ?_
  refine ww_isub hX dX12_moveAxis_199 ?_
  refine ww_if_le (tgt := 209) hX dX12_moveAxis_200 (by decide) ?_ ?_
  · refine ww_iconst (v := 0) hX rfl dX12_moveAxis_209 ?_
    exact ww_sub [1, 2, 3, 5, 6, 0] rfl (t_X12_moveAxis_210 B fu x0 x1 x2 x4 x5 y0 0 st)
  · refine ww_iload_n hX 4 rfl dX12_moveAxis_203 rfl ?_
    refine ww_iload_n hX 3 rfl dX12_moveAxis_204 rfl ?_
    refine ww_isub hX dX12_moveAxis_205 ?_
    refine ww_goto (tgt := 210) hX dX12_moveAxis_206 (by decide) ?_
    exact ww_sub [1, 2, 3, 5, 6, 0] rfl (t_X12_moveAxis_210 B fu x0 x1 x2 x4 x5 y0 (x3 - x2) st)
def b_X12_moveAxis_174 (fu : Nat) (x0 : Nat) (x1 : Int32) (x4 : Int32) (y0 : Int32) (st : St) : Option (St) :=
  b_X12_moveAxis_264 fu x0 x1 x4 y0  st
set_option maxHeartbeats 4000000 in
set_option maxRecDepth 100000 in
theorem t_X12_moveAxis_174 {X : CX} {res : St} (B : BV X cX12_moveAxis RX12 10 2 NN none res) (fu : Nat) (x0 : Nat) (x1 : Int32) (x4 : Int32) (y0 : Int32) (st : St) : WW X res NN 174 [(0, .ref (x_b X + x0)), (1, .int x1), (4, .int x4)] [.int y0] st (b_X12_moveAxis_174 fu x0 x1 x4 y0 st) := by
  have hX := B.1
  have hL := B.2.1
  unfold b_X12_moveAxis_174
  refine ww_istore (lv' := [(7, .int y0), (0, .ref (x_b X + x0)), (1, .int x1), (4, .int x4)]) hX hL dX12_moveAxis_174 (by decide) rfl ?_
  refine ww_goto (tgt := 264) hX dX12_moveAxis_176 (by decide) ?_
  exact ww_sub [1, 2, 3, 0] rfl (t_X12_moveAxis_264 B fu x0 x1 x4 y0  st)
def b_X12_moveAxis_155 (fu : Nat) (x0 : Nat) (x1 : Int32) (x2 : Int32) (x3 : Int32) (x4 : Int32) (x5 : Int32) (y0 : Int32) (st : St) : Option (St) :=
  if 0 ≤ x3 then (
  if y0 ≤ (x3 + x2) then (
  b_X12_moveAxis_195 fu x0 x1 x2 x3 x4 x5 y0 st)
  else (
  b_X12_moveAxis_195 fu x0 x1 x2 x3 x4 x5 (x3 + x2) st))
  else (
  if (x3 + x2) ≤ 0 then (
  b_X12_moveAxis_174 fu x0 x1 x4 (x3 + x2) st)
  else (
  b_X12_moveAxis_174 fu x0 x1 x4 0 st))
set_option maxHeartbeats 4000000 in
set_option maxRecDepth 100000 in
theorem t_X12_moveAxis_155 {X : CX} {res : St} (B : BV X cX12_moveAxis RX12 10 2 NN none res) (fu : Nat) (x0 : Nat) (x1 : Int32) (x2 : Int32) (x3 : Int32) (x4 : Int32) (x5 : Int32) (y0 : Int32) (st : St) : WW X res NN 155 [(0, .ref (x_b X + x0)), (1, .int x1), (2, .int x2), (3, .int x3), (4, .int x4), (5, .int x5)] [.int y0] st (b_X12_moveAxis_155 fu x0 x1 x2 x3 x4 x5 y0 st) := by
  have hX := B.1
  have hL := B.2.1
  unfold b_X12_moveAxis_155
  refine ww_istore (lv' := [(6, .int y0), (0, .ref (x_b X + x0)), (1, .int x1), (2, .int x2), (3, .int x3), (4, .int x4), (5, .int x5)]) hX hL dX12_moveAxis_155 (by decide) rfl ?_
  refine ww_iload_n hX 4 rfl dX12_moveAxis_157 rfl ?_
  refine ww_if_ge (tgt := 179) hX dX12_moveAxis_158 (by decide) ?_ ?_
  · refine ww_iload_n hX 4 rfl dX12_moveAxis_179 rfl ?_
    refine ww_iload_n hX 3 rfl dX12_moveAxis_180 rfl ?_
    refine ww_iadd hX dX12_moveAxis_181 ?_
    refine ww_iload hX 0 rfl dX12_moveAxis_182 ?_
    refine ww_icmp_ge (tgt := 193) hX dX12_moveAxis_184 (by decide) ?_ ?_
    · refine ww_iload hX 0 rfl dX12_moveAxis_193 ?_
      exact ww_sub [1, 2, 3, 4, 5, 6] rfl (t_X12_moveAxis_195 B fu x0 x1 x2 x3 x4 x5 y0 st)
    · refine ww_iload_n hX 4 rfl dX12_moveAxis_187 rfl ?_
      refine ww_iload_n hX 3 rfl dX12_moveAxis_188 rfl ?_
      refine ww_iadd hX dX12_moveAxis_189 ?_
      refine ww_goto (tgt := 195) hX dX12_moveAxis_190 (by decide) ?_
      exact ww_sub [1, 2, 3, 4, 5, 6] rfl (t_X12_moveAxis_195 B fu x0 x1 x2 x3 x4 x5 (x3 + x2) st)
  · refine ww_iload_n hX 4 rfl dX12_moveAxis_161 rfl ?_
    refine ww_iload_n hX 3 rfl dX12_moveAxis_162 rfl ?_
    refine ww_iadd hX dX12_moveAxis_163 ?_
    refine ww_if_le (tgt := 171) hX dX12_moveAxis_164 (by decide) ?_ ?_
    · refine ww_iload_n hX 4 rfl dX12_moveAxis_171 rfl ?_
      refine ww_iload_n hX 3 rfl dX12_moveAxis_172 rfl ?_
      refine ww_iadd hX dX12_moveAxis_173 ?_
      exact ww_sub [1, 2, 5] rfl (t_X12_moveAxis_174 B fu x0 x1 x4 (x3 + x2) st)
    · refine ww_iconst (v := 0) hX rfl dX12_moveAxis_167 ?_
      refine ww_goto (tgt := 174) hX dX12_moveAxis_168 (by decide) ?_
      exact ww_sub [1, 2, 5] rfl (t_X12_moveAxis_174 B fu x0 x1 x4 0 st)
def b_X12_moveAxis_141 (fu : Nat) (x0 : Nat) (x1 : Int32) (x2 : Int32) (x3 : Int32) (x4 : Int32) (x5 : Int32) (y0 : Int32) (st : St) : Option (St) :=
  if 1 ≤ y0 then (
  b_X12_moveAxis_155 fu x0 x1 x2 x3 x4 x5 y0 st)
  else (
  b_X12_moveAxis_155 fu x0 x1 x2 x3 x4 x5 1 st)
set_option maxHeartbeats 4000000 in
set_option maxRecDepth 100000 in
theorem t_X12_moveAxis_141 {X : CX} {res : St} (B : BV X cX12_moveAxis RX12 10 2 NN none res) (fu : Nat) (x0 : Nat) (x1 : Int32) (x2 : Int32) (x3 : Int32) (x4 : Int32) (x5 : Int32) (y0 : Int32) (st : St) : WW X res NN 141 [(0, .ref (x_b X + x0)), (1, .int x1), (2, .int x2), (3, .int x3), (4, .int x4), (5, .int x5)] [.int y0] st (b_X12_moveAxis_141 fu x0 x1 x2 x3 x4 x5 y0 st) := by
  have hX := B.1
  have hL := B.2.1
  unfold b_X12_moveAxis_141
  refine ww_istore (lv' := [(6, .int y0), (0, .ref (x_b X + x0)), (1, .int x1), (2, .int x2), (3, .int x3), (4, .int x4), (5, .int x5)]) hX hL dX12_moveAxis_141 (by decide) rfl ?_
  refine ww_iload hX 0 rfl dX12_moveAxis_143 ?_
  refine ww_iconst (v := 1) hX rfl dX12_moveAxis_145 ?_
  refine ww_icmp_ge (tgt := 153) hX dX12_moveAxis_146 (by decide) ?_ ?_
  · refine ww_iload hX 0 rfl dX12_moveAxis_153 ?_
    exact ww_sub [1, 2, 3, 4, 5, 6] rfl (t_X12_moveAxis_155 B fu x0 x1 x2 x3 x4 x5 y0 st)
  · refine ww_iconst (v := 1) hX rfl dX12_moveAxis_149 ?_
    refine ww_goto (tgt := 155) hX dX12_moveAxis_150 (by decide) ?_
    exact ww_sub [1, 2, 3, 4, 5, 6] rfl (t_X12_moveAxis_155 B fu x0 x1 x2 x3 x4 x5 1 st)
def b_X12_moveAxis_85 (fu : Nat) (x0 : Nat) (x1 : Int32) (x2 : Int32) (x3 : Int32) (y0 : Int32) (st : St) : Option (St) :=
  ck (¬ gR st x0 61 = 0) <|
  ck ((kd x0).1 = 12) <|
  bd (gR st x0 61) fun o8 =>
  ck ((kd o8).1 = 100 ∧ inb x1 (kd o8).2) <|
  ck (¬ gR st x0 59 = 0) <|
  ck ((kd x0).1 = 12) <|
  bd (gR st x0 59) fun o9 =>
  ck ((kd o9).1 = 100 ∧ inb x1 (kd o9).2) <|
  bd (((gI st o8 (ix x1)) - (gI st o9 (ix x1))) * y0) fun v10 =>
  bd (x3 * y0) fun v11 =>
  ck (¬ gR st x0 64 = 0) <|
  ck ((kd x0).1 = 12) <|
  bd (gR st x0 64) fun o12 =>
  ck ((kd o12).1 = 100 ∧ inb x1 (kd o12).2) <|
  ck (¬ 4 = 0) <|
  ck (¬ 2 = 0) <|
  if (((gI st o12 (ix x1)) / 4) - ((gI st o12 (ix x1)) / 4) / 2 * 2) = 1 then (
  ck (¬ gR st x0 57 = 0) <|
  ck ((kd x0).1 = 12) <|
  bd (gR st x0 57) fun o28 =>
  ck ((kd o28).1 = 100 ∧ inb x1 (kd o28).2) <|
  ck (¬ 2 = 0) <|
  b_X12_moveAxis_141 fu x0 x1 x2 v11 y0 v10 ((gI st o28 (ix x1)) / 2) st)
  else (
  ck (¬ gR st x0 57 = 0) <|
  ck ((kd x0).1 = 12) <|
  bd (gR st x0 57) fun o13 =>
  ck ((kd o13).1 = 100 ∧ inb x1 (kd o13).2) <|
  b_X12_moveAxis_141 fu x0 x1 x2 v11 y0 v10 (gI st o13 (ix x1)) st)
set_option maxHeartbeats 4000000 in
set_option maxRecDepth 100000 in
theorem t_X12_moveAxis_85 {X : CX} {res : St} (B : BV X cX12_moveAxis RX12 10 2 NN none res) (fu : Nat) (x0 : Nat) (x1 : Int32) (x2 : Int32) (x3 : Int32) (y0 : Int32) (st : St) : WW X res NN 85 [(0, .ref (x_b X + x0)), (1, .int x1), (2, .int x2), (3, .int x3)] [.int y0] st (b_X12_moveAxis_85 fu x0 x1 x2 x3 y0 st) := by
  have hX := B.1
  have hL := B.2.1
  unfold b_X12_moveAxis_85
  refine ww_istore (lv' := [(4, .int y0), (0, .ref (x_b X + x0)), (1, .int x1), (2, .int x2), (3, .int x3)]) hX hL dX12_moveAxis_85 (by decide) rfl ?_
  refine ww_aload_n hX 1 rfl dX12_moveAxis_87 rfl ?_
  refine ww_getR hX f_X12_166 (Or.inr ⟨_, rfl⟩) dX12_moveAxis_88 ?_
  refine ww_bdR (fun o8 => ?_)
  refine ww_iload_n hX 2 rfl dX12_moveAxis_91 rfl ?_
  refine ww_ialdc hX k_iald dX12_moveAxis_92 ?_
  refine ww_aload_n hX 1 rfl dX12_moveAxis_93 rfl ?_
  refine ww_getR hX f_X12_160 (Or.inr ⟨_, rfl⟩) dX12_moveAxis_94 ?_
  refine ww_bdR (fun o9 => ?_)
  refine ww_pc (b := 97) rfl ?_
  refine ww_iload_n hX 2 rfl dX12_moveAxis_97 rfl ?_
  refine ww_ialdc hX k_iald dX12_moveAxis_98 ?_
  refine ww_isub hX dX12_moveAxis_99 ?_
  refine ww_iload hX 0 rfl dX12_moveAxis_100 ?_
  refine ww_imul hX dX12_moveAxis_102 ?_
  refine ww_bdi (fun v10 => ?_)
  refine ww_istore (lv' := [(5, .int v10), (4, .int y0), (0, .ref (x_b X + x0)), (1, .int x1), (2, .int x2), (3, .int x3)]) hX hL dX12_moveAxis_103 (by decide) rfl ?_
  refine ww_iload_n hX 5 rfl dX12_moveAxis_105 rfl ?_
  refine ww_iload hX 1 rfl dX12_moveAxis_106 ?_
  refine ww_pc (b := 108) rfl ?_
  refine ww_imul hX dX12_moveAxis_108 ?_
  refine ww_bdi (fun v11 => ?_)
  refine ww_istore_n (lv' := [(3, .int v11), (5, .int v10), (4, .int y0), (0, .ref (x_b X + x0)), (1, .int x1), (2, .int x2)]) hX hL dX12_moveAxis_109 rfl (by decide) rfl ?_
  refine ww_aload_n hX 3 rfl dX12_moveAxis_110 rfl ?_
  refine ww_getR hX f_X12_175 (Or.inr ⟨_, rfl⟩) dX12_moveAxis_111 ?_
  refine ww_bdR (fun o12 => ?_)
  refine ww_iload_n hX 4 rfl dX12_moveAxis_114 rfl ?_
  refine ww_ialdc hX k_iald dX12_moveAxis_115 ?_
  refine ww_iconst (v := 4) hX rfl dX12_moveAxis_116 ?_
  refine ww_idiv hX dX12_moveAxis_117 ?_
  refine ww_pc (b := 118) rfl ?_
  refine ww_iconst (v := 2) hX rfl dX12_moveAxis_118 ?_
  refine ww_irem hX dX12_moveAxis_119 ?_
  refine ww_iconst (v := 1) hX rfl dX12_moveAxis_120 ?_
  refine ww_icmp_ne (tgt := 135) hX dX12_moveAxis_121 (by decide) ?_ ?_
  · refine ww_aload_n hX 3 rfl dX12_moveAxis_135 rfl ?_
    refine ww_getR hX f_X12_154 (Or.inr ⟨_, rfl⟩) dX12_moveAxis_136 ?_
    refine ww_bdR (fun o13 => ?_)
    refine ww_iload_n hX 4 rfl dX12_moveAxis_139 rfl ?_
    refine ww_ialdc hX k_iald dX12_moveAxis_140 ?_
    exact ww_sub [3, 4, 5, 0, 2, 1] rfl (t_X12_moveAxis_141 B fu x0 x1 x2 v11 y0 v10 (gI st o13 (ix x1)) st)
  · refine ww_aload_n hX 3 rfl dX12_moveAxis_124 rfl ?_
    refine ww_getR hX f_X12_154 (Or.inr ⟨_, rfl⟩) dX12_moveAxis_125 ?_
    refine ww_bdR (fun o28 => ?_)
    refine ww_iload_n hX 4 rfl dX12_moveAxis_128 rfl ?_
    refine ww_ialdc hX k_iald dX12_moveAxis_129 ?_
    refine ww_iconst (v := 2) hX rfl dX12_moveAxis_130 ?_
    refine ww_idiv hX dX12_moveAxis_131 ?_
    refine ww_goto (tgt := 141) hX dX12_moveAxis_132 (by decide) ?_
    exact ww_sub [3, 4, 5, 0, 2, 1] rfl (t_X12_moveAxis_141 B fu x0 x1 x2 v11 y0 v10 ((gI st o28 (ix x1)) / 2) st)
def b_X12_moveAxis_61 (fu : Nat) (x0 : Nat) (x1 : Int32) (y0 : Nat) (y1 : Int32) (y2 : Int32) (st : St) : Option (St) :=
  ck ((kd y0).1 = 100 ∧ inb y1 (kd y0).2) <|
  bd (sI st y0 (ix y1) y2) fun s30 =>
  b_X12_moveAxis_275 fu x0 x1  s30
set_option maxHeartbeats 4000000 in
set_option maxRecDepth 100000 in
theorem t_X12_moveAxis_61 {X : CX} {res : St} (B : BV X cX12_moveAxis RX12 10 2 NN none res) (fu : Nat) (x0 : Nat) (x1 : Int32) (y0 : Nat) (y1 : Int32) (y2 : Int32) (st : St) : WW X res NN 61 [(0, .ref (x_b X + x0)), (1, .int x1)] [.int y2, .int y1, .ref (x_b X + y0)] st (b_X12_moveAxis_61 fu x0 x1 y0 y1 y2 st) := by
  have hX := B.1
  have hL := B.2.1
  unfold b_X12_moveAxis_61
  refine ww_iastc hX k_iast dX12_moveAxis_61 ?_
  refine ww_bds (fun s30 => ?_)
  refine ww_goto (tgt := 275) hX dX12_moveAxis_62 (by decide) ?_
  exact t_X12_moveAxis_275 B fu x0 x1  s30
def f_X12_moveAxis (fu : Nat) (th : Nat) (p1 : Int32) (st : St) : Option (St) :=
  ck (¬ gR st th 58 = 0) <|
  ck ((kd th).1 = 12) <|
  bd (gR st th 58) fun o1 =>
  ck ((kd o1).1 = 100 ∧ inb p1 (kd o1).2) <|
  bd (gI st o1 (ix p1)) fun v2 =>
  ck (¬ gR st th 60 = 0) <|
  ck ((kd th).1 = 12) <|
  bd (gR st th 60) fun o3 =>
  ck ((kd o3).1 = 100 ∧ inb p1 (kd o3).2) <|
  bd (gI st o3 (ix p1)) fun v4 =>
  ck (¬ gR st th 61 = 0) <|
  ck ((kd th).1 = 12) <|
  bd (gR st th 61) fun o5 =>
  ck ((kd o5).1 = 100 ∧ inb p1 (kd o5).2) <|
  if (gI st o5 (ix p1)) = ((-1)) then (
  ck (¬ gR st th 60 = 0) <|
  ck ((kd th).1 = 12) <|
  bd (gR st th 60) fun o29 =>
  if v4 ≤ 0 then (
  if (-v2) ≤ v4 then (
  b_X12_moveAxis_61 fu th p1 o29 p1 0 st)
  else (
  b_X12_moveAxis_61 fu th p1 o29 p1 (v4 + v2) st))
  else (
  if v4 ≤ v2 then (
  b_X12_moveAxis_61 fu th p1 o29 p1 0 st)
  else (
  b_X12_moveAxis_61 fu th p1 o29 p1 (v4 - v2) st)))
  else (
  ck (¬ gR st th 61 = 0) <|
  ck ((kd th).1 = 12) <|
  bd (gR st th 61) fun o6 =>
  ck ((kd o6).1 = 100 ∧ inb p1 (kd o6).2) <|
  ck (¬ gR st th 59 = 0) <|
  ck ((kd th).1 = 12) <|
  bd (gR st th 59) fun o7 =>
  ck ((kd o7).1 = 100 ∧ inb p1 (kd o7).2) <|
  if (gI st o6 (ix p1)) < (gI st o7 (ix p1)) then (
  b_X12_moveAxis_85 fu th p1 v2 v4 ((-1)) st)
  else (
  b_X12_moveAxis_85 fu th p1 v2 v4 1 st))
set_option maxHeartbeats 4000000 in
set_option maxRecDepth 100000 in
theorem t_X12_moveAxis {X : CX} {res : St} (B : BV X cX12_moveAxis RX12 10 2 NN none res) (fu : Nat) (th : Nat) (p1 : Int32) (st : St) : WW X res NN 0 [(0, .ref (x_b X + th)), (1, .int p1)] [] st (f_X12_moveAxis fu th p1 st) := by
  have hX := B.1
  have hL := B.2.1
  unfold f_X12_moveAxis
  refine ww_aload_n hX 0 rfl dX12_moveAxis_0 rfl ?_
  refine ww_getR hX f_X12_157 (Or.inr ⟨_, rfl⟩) dX12_moveAxis_1 ?_
  refine ww_bdR (fun o1 => ?_)
  refine ww_iload_n hX 1 rfl dX12_moveAxis_4 rfl ?_
  refine ww_ialdc hX k_iald dX12_moveAxis_5 ?_
  refine ww_bdi (fun v2 => ?_)
  refine ww_istore_n (lv' := [(2, .int v2), (0, .ref (x_b X + th)), (1, .int p1)]) hX hL dX12_moveAxis_6 rfl (by decide) rfl ?_
  refine ww_aload_n hX 1 rfl dX12_moveAxis_7 rfl ?_
  refine ww_getR hX f_X12_163 (Or.inr ⟨_, rfl⟩) dX12_moveAxis_8 ?_
  refine ww_bdR (fun o3 => ?_)
  refine ww_pc (b := 11) rfl ?_
  refine ww_iload_n hX 2 rfl dX12_moveAxis_11 rfl ?_
  refine ww_ialdc hX k_iald dX12_moveAxis_12 ?_
  refine ww_bdi (fun v4 => ?_)
  refine ww_istore_n (lv' := [(3, .int v4), (2, .int v2), (0, .ref (x_b X + th)), (1, .int p1)]) hX hL dX12_moveAxis_13 rfl (by decide) rfl ?_
  refine ww_aload_n hX 2 rfl dX12_moveAxis_14 rfl ?_
  refine ww_getR hX f_X12_166 (Or.inr ⟨_, rfl⟩) dX12_moveAxis_15 ?_
  refine ww_bdR (fun o5 => ?_)
  refine ww_iload_n hX 3 rfl dX12_moveAxis_18 rfl ?_
  refine ww_ialdc hX k_iald dX12_moveAxis_19 ?_
  refine ww_iconst (v := (-1)) hX rfl dX12_moveAxis_20 ?_
  refine ww_pc (b := 21) rfl ?_
  refine ww_icmp_ne (tgt := 65) hX dX12_moveAxis_21 (by decide) ?_ ?_
  · refine ww_aload_n hX 2 rfl dX12_moveAxis_65 rfl ?_
    refine ww_getR hX f_X12_166 (Or.inr ⟨_, rfl⟩) dX12_moveAxis_66 ?_
    refine ww_bdR (fun o6 => ?_)
    refine ww_iload_n hX 3 rfl dX12_moveAxis_69 rfl ?_
    refine ww_ialdc hX k_iald dX12_moveAxis_70 ?_
    refine ww_aload_n hX 2 rfl dX12_moveAxis_71 rfl ?_
    refine ww_getR hX f_X12_160 (Or.inr ⟨_, rfl⟩) dX12_moveAxis_72 ?_
    refine ww_bdR (fun o7 => ?_)
    refine ww_iload_n hX 3 rfl dX12_moveAxis_75 rfl ?_
    refine ww_pc (b := 76) rfl ?_
    refine ww_ialdc hX k_iald dX12_moveAxis_76 ?_
    refine ww_icmp_lt (tgt := 84) hX dX12_moveAxis_77 (by decide) ?_ ?_
    · refine ww_iconst (v := (-1)) hX rfl dX12_moveAxis_84 ?_
      exact ww_sub [2, 3, 1, 0] rfl (t_X12_moveAxis_85 B fu th p1 v2 v4 ((-1)) st)
    · refine ww_iconst (v := 1) hX rfl dX12_moveAxis_80 ?_
      refine ww_goto (tgt := 85) hX dX12_moveAxis_81 (by decide) ?_
      exact ww_sub [2, 3, 1, 0] rfl (t_X12_moveAxis_85 B fu th p1 v2 v4 1 st)
  · refine ww_aload_n hX 2 rfl dX12_moveAxis_24 rfl ?_
    refine ww_getR hX f_X12_163 (Or.inr ⟨_, rfl⟩) dX12_moveAxis_25 ?_
    refine ww_bdR (fun o29 => ?_)
    refine ww_iload_n hX 3 rfl dX12_moveAxis_28 rfl ?_
    refine ww_iload_n hX 0 rfl dX12_moveAxis_29 rfl ?_
    refine ww_if_le (tgt := 48) hX dX12_moveAxis_30 (by decide) ?_ ?_
    · refine ww_iload_n hX 0 rfl dX12_moveAxis_48 rfl ?_
      refine ww_iload_n hX 1 rfl dX12_moveAxis_49 rfl ?_
      refine ww_ineg hX dX12_moveAxis_50 ?_
      refine ww_icmp_ge (tgt := 60) hX dX12_moveAxis_51 (by decide) ?_ ?_
      · refine ww_iconst (v := 0) hX rfl dX12_moveAxis_60 ?_
        exact ww_sub [2, 3] rfl (t_X12_moveAxis_61 B fu th p1 o29 p1 0 st)
      · refine ww_iload_n hX 0 rfl dX12_moveAxis_54 rfl ?_
        refine ww_iload_n hX 1 rfl dX12_moveAxis_55 rfl ?_
        refine ww_iadd hX dX12_moveAxis_56 ?_
        refine ww_goto (tgt := 61) hX dX12_moveAxis_57 (by decide) ?_
        exact ww_sub [2, 3] rfl (t_X12_moveAxis_61 B fu th p1 o29 p1 (v4 + v2) st)
    · refine ww_iload_n hX 0 rfl dX12_moveAxis_33 rfl ?_
      refine ww_iload_n hX 1 rfl dX12_moveAxis_34 rfl ?_
      refine ww_icmp_le (tgt := 44) hX dX12_moveAxis_35 (by decide) ?_ ?_
      · refine ww_iconst (v := 0) hX rfl dX12_moveAxis_44 ?_
        refine ww_goto (tgt := 61) hX dX12_moveAxis_45 (by decide) ?_
        exact ww_sub [2, 3] rfl (t_X12_moveAxis_61 B fu th p1 o29 p1 0 st)
      · refine ww_iload_n hX 0 rfl dX12_moveAxis_38 rfl ?_
        refine ww_iload_n hX 1 rfl dX12_moveAxis_39 rfl ?_
        refine ww_isub hX dX12_moveAxis_40 ?_
        refine ww_goto (tgt := 61) hX dX12_moveAxis_41 (by decide) ?_
        exact ww_sub [2, 3] rfl (t_X12_moveAxis_61 B fu th p1 o29 p1 (v4 - v2) st)
theorem c_X12_moveAxis (G : GX) (l : Launch) (fu : Nat) (th : Nat) (p1 : Int32) (st : St) : MV G NN l yX12_moveAxis cX12_moveAxis 10 none 2 [.ref (G.2.2.1 + th), .int p1] st (f_X12_moveAxis fu th p1 st) := mkV (by decide) (Nat.le_of_ble_eq_true rfl) (fun X res hl hG B => by subst hl; subst hG; exact t_X12_moveAxis B fu th p1 st)
/-! StageHouseModel.mark(IIII)V -/
def b_X12_mark_3_b (fu : Nat) (k_3 : Nat → Int32 → Int32 → Int32 → Int32 → Int32 → St → Option (St)) (x0 : Nat) (x1 : Int32) (x2 : Int32) (x3 : Int32) (x4 : Int32) (x5 : Int32)  (st : St) : Option (St) :=
  if (x2 + x3) ≤ x5 then (
  some st)
  else (
  ck (¬ gR st x0 76 = 0) <|
  ck ((kd x0).1 = 12) <|
  bd (gR st x0 76) fun o1 =>
  ck ((kd o1).1 = 100 ∧ inb ((30 * x1) + x5) (kd o1).2) <|
  bd (sI st o1 (ix ((30 * x1) + x5)) x4) fun s2 =>
  bd (x5 + 1) fun v3 =>
  k_3 x0 x1 x2 x3 x4 v3  s2)
set_option maxHeartbeats 4000000 in
set_option maxRecDepth 100000 in
theorem t_X12_mark_3_b {X : CX} {res : St} (B : BV X cX12_mark RX12 6 1 NN none res) (fu : Nat) (k_3 : Nat → Int32 → Int32 → Int32 → Int32 → Int32 → St → Option (St)) (h_3 : ∀ (x0 : Nat) (x1 : Int32) (x2 : Int32) (x3 : Int32) (x4 : Int32) (x5 : Int32)  (st : St), WW X res NN 3 [(0, .ref (x_b X + x0)), (1, .int x1), (2, .int x2), (3, .int x3), (4, .int x4), (5, .int x5)] [] st (k_3 x0 x1 x2 x3 x4 x5 st)) (x0 : Nat) (x1 : Int32) (x2 : Int32) (x3 : Int32) (x4 : Int32) (x5 : Int32)  (st : St) : WW X res NN 3 [(0, .ref (x_b X + x0)), (1, .int x1), (2, .int x2), (3, .int x3), (4, .int x4), (5, .int x5)] [] st (b_X12_mark_3_b fu k_3 x0 x1 x2 x3 x4 x5 st) := by
  have hX := B.1
  have hL := B.2.1
  unfold b_X12_mark_3_b
  refine ww_iload hX 5 rfl dX12_mark_3 ?_
  refine ww_iload_n hX 2 rfl dX12_mark_5 rfl ?_
  refine ww_iload_n hX 3 rfl dX12_mark_6 rfl ?_
  refine ww_iadd hX dX12_mark_7 ?_
  refine ww_icmp_ge (tgt := 31) hX dX12_mark_8 (by decide) ?_ ?_
  · exact ww_vret B dX12_mark_31
  · refine ww_aload_n hX 0 rfl dX12_mark_11 rfl ?_
    refine ww_getR hX f_X12_202 (Or.inr ⟨_, rfl⟩) dX12_mark_12 ?_
    refine ww_bdR (fun o1 => ?_)
    refine ww_bipush (v := 30) hX rfl dX12_mark_15 ?_
    refine ww_iload_n hX 1 rfl dX12_mark_17 rfl ?_
    refine ww_imul hX dX12_mark_18 ?_
    refine ww_iload hX 5 rfl dX12_mark_19 ?_
    refine ww_iadd hX dX12_mark_21 ?_
    refine ww_pc (b := 22) rfl ?_
    refine ww_iload hX 4 rfl dX12_mark_22 ?_
    refine ww_iastc hX k_iast dX12_mark_24 ?_
    refine ww_bds (fun s2 => ?_)
    refine ww_iincb (lv' := fun v3 => [(5, .int v3), (0, .ref (x_b X + x0)), (1, .int x1), (2, .int x2), (3, .int x3), (4, .int x4)]) (c := 1) hX hL 5 rfl dX12_mark_25 rfl (by decide) (fun _ => rfl) (fun v3 => ?_)
    refine ww_goto (tgt := 3) hX dX12_mark_28 (by decide) ?_
    exact ww_sub [1, 2, 3, 4, 5, 0] rfl (h_3 x0 x1 x2 x3 x4 v3  s2)
def b_X12_mark_3 (fu : Nat) : Nat → Nat → Int32 → Int32 → Int32 → Int32 → Int32 → St → Option (St)
  | 0, _, _, _, _, _, _, _ => none
  | i + 1, x0, x1, x2, x3, x4, x5, st => b_X12_mark_3_b fu (b_X12_mark_3 fu i) x0 x1 x2 x3 x4 x5 st
theorem t_X12_mark_3 {X : CX} {res : St} (B : BV X cX12_mark RX12 6 1 NN none res) (fu : Nat) : ∀ (i : Nat) (x0 : Nat) (x1 : Int32) (x2 : Int32) (x3 : Int32) (x4 : Int32) (x5 : Int32)  (st : St), WW X res NN 3 [(0, .ref (x_b X + x0)), (1, .int x1), (2, .int x2), (3, .int x3), (4, .int x4), (5, .int x5)] [] st (b_X12_mark_3 fu i x0 x1 x2 x3 x4 x5 st) := by
  intro i
  induction i with
  | zero => intro x0 x1 x2 x3 x4 x5 st; exact ww_none
  | succ i ih => intro x0 x1 x2 x3 x4 x5 st; exact t_X12_mark_3_b B fu (b_X12_mark_3 fu i) ih x0 x1 x2 x3 x4 x5 st
def f_X12_mark (fu : Nat) (th : Nat) (p1 : Int32) (p2 : Int32) (p3 : Int32) (p4 : Int32) (st : St) : Option (St) :=
  b_X12_mark_3 fu fu th p1 p2 p3 p4 p2  st
set_option maxHeartbeats 4000000 in
set_option maxRecDepth 100000 in
theorem t_X12_mark {X : CX} {res : St} (B : BV X cX12_mark RX12 6 1 NN none res) (fu : Nat) (th : Nat) (p1 : Int32) (p2 : Int32) (p3 : Int32) (p4 : Int32) (st : St) : WW X res NN 0 [(0, .ref (x_b X + th)), (1, .int p1), (2, .int p2), (3, .int p3), (4, .int p4)] [] st (f_X12_mark fu th p1 p2 p3 p4 st) := by
  have hX := B.1
  have hL := B.2.1
  unfold f_X12_mark
  refine ww_iload_n hX 2 rfl dX12_mark_0 rfl ?_
  refine ww_istore (lv' := [(5, .int p2), (0, .ref (x_b X + th)), (1, .int p1), (2, .int p2), (3, .int p3), (4, .int p4)]) hX hL dX12_mark_1 (by decide) rfl ?_
  exact ww_sub [1, 2, 3, 4, 5, 0] rfl (t_X12_mark_3 B fu fu th p1 p2 p3 p4 p2  st)
theorem c_X12_mark (G : GX) (l : Launch) (fu : Nat) (th : Nat) (p1 : Int32) (p2 : Int32) (p3 : Int32) (p4 : Int32) (st : St) : MV G NN l yX12_mark cX12_mark 6 none 1 [.ref (G.2.2.1 + th), .int p1, .int p2, .int p3, .int p4] st (f_X12_mark fu th p1 p2 p3 p4 st) := mkV (by decide) (Nat.le_of_ble_eq_true rfl) (fun X res hl hG B => by subst hl; subst hG; exact t_X12_mark B fu th p1 p2 p3 p4 st)
