/-! StageHouse$Ways.narrowest(II)I -/
def b_X10_narrowest_5_b (fu : Nat) (k_5 : Nat → Int32 → Int32 → Int32 → St → Option (Int32 × St)) (x0 : Nat) (x1 : Int32) (x3 : Int32) (x4 : Int32)  (st : St) : Option (Int32 × St) :=
  if x1 ≤ x4 then (
  some (x3, st))
  else (
  ck (¬ gR st x0 10 = 0) <|
  ck ((kd x0).1 = 10) <|
  bd (gR st x0 10) fun o1 =>
  ck ((kd o1).1 = 100 ∧ inb x4 (kd o1).2) <|
  ck (¬ gR st x0 9 = 0) <|
  ck ((kd x0).1 = 10) <|
  bd (gR st x0 9) fun o2 =>
  ck (¬ gR st x0 10 = 0) <|
  ck ((kd x0).1 = 10) <|
  bd (gR st x0 10) fun o3 =>
  ck ((kd o3).1 = 100 ∧ inb x4 (kd o3).2) <|
  ck ((kd o2).1 = 100 ∧ inb (gI st o3 (ix x4)) (kd o2).2) <|
  ck ((kd x0).1 = 10) <|
  ca (f_X10_roomOf fu x0 (gI st o1 (ix x4)) (gI st o2 (ix (gI st o3 (ix x4)))) st) fun r4 s5 =>
  ca (f_J9_min_7cf53 fu x3 r4 s5) fun r6 s7 =>
  bd (x4 + 1) fun v8 =>
  k_5 x0 x1 r6 v8  s7)
set_option maxHeartbeats 4000000 in
set_option maxRecDepth 100000 in
theorem t_X10_narrowest_5_b {X : CX} {res : Int32 × St} (B : BI X cX10_narrowest RX10 5 2 NN (some .int) res) (fu : Nat) (k_5 : Nat → Int32 → Int32 → Int32 → St → Option (Int32 × St)) (h_5 : ∀ (x0 : Nat) (x1 : Int32) (x3 : Int32) (x4 : Int32)  (st : St), WW X res NN 5 [(0, .ref (x_b X + x0)), (1, .int x1), (3, .int x3), (4, .int x4)] [] st (k_5 x0 x1 x3 x4 st)) (x0 : Nat) (x1 : Int32) (x3 : Int32) (x4 : Int32)  (st : St) : WW X res NN 5 [(0, .ref (x_b X + x0)), (1, .int x1), (3, .int x3), (4, .int x4)] [] st (b_X10_narrowest_5_b fu k_5 x0 x1 x3 x4 st) := by
  have hX := B.1
  have hL := B.2.1
  unfold b_X10_narrowest_5_b
  refine ww_iload hX 3 rfl dX10_narrowest_5 ?_
  refine ww_iload_n hX 1 rfl dX10_narrowest_7 rfl ?_
  refine ww_icmp_ge (tgt := 45) hX dX10_narrowest_8 (by decide) ?_ ?_
  · refine ww_iload_n hX 2 rfl dX10_narrowest_45 rfl ?_
    exact ww_iret B dX10_narrowest_46
  · refine ww_iload_n hX 2 rfl dX10_narrowest_11 rfl ?_
    refine ww_aload_n hX 0 rfl dX10_narrowest_12 rfl ?_
    refine ww_aload_n hX 0 rfl dX10_narrowest_13 rfl ?_
    refine ww_getR hX f_X10_42 (Or.inr ⟨_, rfl⟩) dX10_narrowest_14 ?_
    refine ww_bdR (fun o1 => ?_)
    refine ww_iload hX 3 rfl dX10_narrowest_17 ?_
    refine ww_ialdc hX k_iald dX10_narrowest_19 ?_
    refine ww_aload_n hX 0 rfl dX10_narrowest_20 rfl ?_
    refine ww_pc (b := 21) rfl ?_
    refine ww_getR hX f_X10_39 (Or.inr ⟨_, rfl⟩) dX10_narrowest_21 ?_
    refine ww_bdR (fun o2 => ?_)
    refine ww_aload_n hX 0 rfl dX10_narrowest_24 rfl ?_
    refine ww_getR hX f_X10_42 (Or.inr ⟨_, rfl⟩) dX10_narrowest_25 ?_
    refine ww_bdR (fun o3 => ?_)
    refine ww_iload hX 3 rfl dX10_narrowest_28 ?_
    refine ww_ialdc hX k_iald dX10_narrowest_30 ?_
    refine ww_ialdc hX k_iald dX10_narrowest_31 ?_
    refine ww_callVI (As := [.int (gI st o1 (ix x4)), .int (gI st o2 (ix (gI st o3 (ix x4))))]) (rest := [.int x3]) (o := x0) hX (Rk.of B.2.2.1 B.2.2.2.1 (by decide) (by decide)) g_X10_104 g_X10_104.in (fun _ => c_X10_roomOf (x_G X) (x_l X) fu x0 (gI st o1 (ix x4)) (gI st o2 (ix (gI st o3 (ix x4)))) st) rfl rfl (Nat.le_of_ble_eq_true rfl) dX10_narrowest_32 (fun r4 s5 => ?_)
    refine ww_callSI (As := [.int x3, .int r4]) (rest := []) hX (Rk.of B.2.2.1 B.2.2.2.1 (by decide) (by decide)) g_X10_107 (c_J9_min_7cf53 (x_G X) (x_l X) fu x3 r4 s5) rfl rfl (Nat.le_of_ble_eq_true rfl) dX10_narrowest_35 (fun r6 s7 => ?_)
    refine ww_pc (b := 38) rfl ?_
    refine ww_istore_n (lv' := [(3, .int r6), (0, .ref (x_b X + x0)), (1, .int x1), (4, .int x4)]) hX hL dX10_narrowest_38 rfl (by decide) rfl ?_
    refine ww_iincb (lv' := fun v8 => [(4, .int v8), (3, .int r6), (0, .ref (x_b X + x0)), (1, .int x1)]) (c := 1) hX hL 3 rfl dX10_narrowest_39 rfl (by decide) (fun _ => rfl) (fun v8 => ?_)
    refine ww_goto (tgt := 5) hX dX10_narrowest_42 (by decide) ?_
    exact ww_sub [2, 3, 1, 0] rfl (h_5 x0 x1 r6 v8  s7)
def b_X10_narrowest_5 (fu : Nat) : Nat → Nat → Int32 → Int32 → Int32 → St → Option (Int32 × St)
  | 0, _, _, _, _, _ => none
  | i + 1, x0, x1, x3, x4, st => b_X10_narrowest_5_b fu (b_X10_narrowest_5 fu i) x0 x1 x3 x4 st
theorem t_X10_narrowest_5 {X : CX} {res : Int32 × St} (B : BI X cX10_narrowest RX10 5 2 NN (some .int) res) (fu : Nat) : ∀ (i : Nat) (x0 : Nat) (x1 : Int32) (x3 : Int32) (x4 : Int32)  (st : St), WW X res NN 5 [(0, .ref (x_b X + x0)), (1, .int x1), (3, .int x3), (4, .int x4)] [] st (b_X10_narrowest_5 fu i x0 x1 x3 x4 st) := by
  intro i
  induction i with
  | zero => intro x0 x1 x3 x4 st; exact ww_none
  | succ i ih => intro x0 x1 x3 x4 st; exact t_X10_narrowest_5_b B fu (b_X10_narrowest_5 fu i) ih x0 x1 x3 x4 st
def f_X10_narrowest (fu : Nat) (th : Nat) (p1 : Int32) (p2 : Int32) (st : St) : Option (Int32 × St) :=
  b_X10_narrowest_5 fu fu th p1 p2 0  st
set_option maxHeartbeats 4000000 in
set_option maxRecDepth 100000 in
theorem t_X10_narrowest {X : CX} {res : Int32 × St} (B : BI X cX10_narrowest RX10 5 2 NN (some .int) res) (fu : Nat) (th : Nat) (p1 : Int32) (p2 : Int32) (st : St) : WW X res NN 0 [(0, .ref (x_b X + th)), (1, .int p1), (2, .int p2)] [] st (f_X10_narrowest fu th p1 p2 st) := by
  have hX := B.1
  have hL := B.2.1
  unfold f_X10_narrowest
  refine ww_iload_n hX 2 rfl dX10_narrowest_0 rfl ?_
  refine ww_istore_n (lv' := [(3, .int p2), (0, .ref (x_b X + th)), (1, .int p1), (2, .int p2)]) hX hL dX10_narrowest_1 rfl (by decide) rfl ?_
  refine ww_iconst (v := 0) hX rfl dX10_narrowest_2 ?_
  refine ww_istore (lv' := [(4, .int 0), (3, .int p2), (0, .ref (x_b X + th)), (1, .int p1), (2, .int p2)]) hX hL dX10_narrowest_3 (by decide) rfl ?_
  exact ww_sub [2, 3, 1, 0] rfl (t_X10_narrowest_5 B fu fu th p1 p2 0  st)
theorem c_X10_narrowest (G : GX) (l : Launch) (fu : Nat) (th : Nat) (p1 : Int32) (p2 : Int32) (st : St) : MI G NN l yX10_narrowest cX10_narrowest 5 (some .int) 2 [.ref (G.2.2.1 + th), .int p1, .int p2] st (f_X10_narrowest fu th p1 p2 st) := mkI (by decide) (Nat.le_of_ble_eq_true rfl) (fun X res hl hG B => by subst hl; subst hG; exact t_X10_narrowest B fu th p1 p2 st)
/-! StageHouse$Ways.push(III)V -/
def b_X10_push_144 (fu : Nat)   (st : St) : Option (St) :=
  some st
set_option maxHeartbeats 4000000 in
set_option maxRecDepth 100000 in
theorem t_X10_push_144 {X : CX} {res : St} (B : BV X cX10_push RX10 8 1 NN none res) (fu : Nat)   (st : St) : WW X res NN 144 [] [] st (b_X10_push_144 fu  st) := by
  have hX := B.1
  have hL := B.2.1
  unfold b_X10_push_144
  exact ww_vret B dX10_push_144
def b_X10_push_62 (fu : Nat)   (st : St) : Option (St) :=
  some st
set_option maxHeartbeats 4000000 in
set_option maxRecDepth 100000 in
theorem t_X10_push_62 {X : CX} {res : St} (B : BV X cX10_push RX10 8 1 NN none res) (fu : Nat)   (st : St) : WW X res NN 62 [] [] st (b_X10_push_62 fu  st) := by
  have hX := B.1
  have hL := B.2.1
  unfold b_X10_push_62
  exact ww_vret B dX10_push_62
def f_X10_push (fu : Nat) (th : Nat) (p1 : Int32) (p2 : Int32) (p3 : Int32) (st : St) : Option (St) :=
  ck (¬ 51 = 0) <|
  bd (p1 / 51) fun v1 =>
  ck (¬ 51 = 0) <|
  bd (p1 - p1 / 51 * 51) fun v2 =>
  ck (¬ gR st th 11 = 0) <|
  ck ((kd th).1 = 10) <|
  bd (gR st th 11) fun o3 =>
  ck ((kd o3).1 = 100 ∧ inb v1 (kd o3).2) <|
  if p2 = (gI st o3 (ix v1)) then (
  ck (¬ gR st th 7 = 0) <|
  ck ((kd th).1 = 10) <|
  bd (gR st th 7) fun o18 =>
  ck ((kd o18).1 = 100 ∧ inb p1 (kd o18).2) <|
  ck ((kd o18).1 = 100 ∧ inb p1 (kd o18).2) <|
  bd (sI st o18 (ix p1) ((gI st o18 (ix p1)) + p3)) fun s19 =>
  some s19)
  else (
  ck (¬ gR st th 11 = 0) <|
  ck ((kd th).1 = 10) <|
  bd (gR st th 11) fun o4 =>
  ck ((kd o4).1 = 100 ∧ inb v1 (kd o4).2) <|
  if p2 ≤ (gI st o4 (ix v1)) then (
  ck (¬ gR st th 12 = 0) <|
  ck ((kd th).1 = 10) <|
  bd (gR st th 12) fun o5 =>
  ck ((kd o5).1 = 100 ∧ inb (((v1 * 2) * 20) + p2) (kd o5).2) <|
  bd (gI st o5 (ix (((v1 * 2) * 20) + p2))) fun v6 =>
  if 20 ≤ v6 then (
  ck (¬ gR st th 3 = 0) <|
  ck ((kd th).1 = 10) <|
  bd (gR st th 3) fun o7 =>
  ck ((kd o7).1 = 100 ∧ inb (v6 - 20) (kd o7).2) <|
  bd (v2 - (gI st o7 (ix (v6 - 20)))) fun v8 =>
  if v8 < 0 then (
  b_X10_push_144 fu   st)
  else (
  ck (¬ gR st th 6 = 0) <|
  ck ((kd th).1 = 10) <|
  bd (gR st th 6) fun o9 =>
  bd (((v6 - 20) * 51) + v8) fun v10 =>
  ck ((kd o9).1 = 100 ∧ inb v10 (kd o9).2) <|
  ck ((kd o9).1 = 100 ∧ inb v10 (kd o9).2) <|
  bd (sI st o9 (ix v10) ((gI st o9 (ix v10)) - p3)) fun s11 =>
  b_X10_push_144 fu   s11))
  else (
  ck (¬ gR st th 6 = 0) <|
  ck ((kd th).1 = 10) <|
  bd (gR st th 6) fun o12 =>
  bd ((v6 * 51) + v2) fun v13 =>
  ck ((kd o12).1 = 100 ∧ inb v13 (kd o12).2) <|
  ck ((kd o12).1 = 100 ∧ inb v13 (kd o12).2) <|
  bd (sI st o12 (ix v13) ((gI st o12 (ix v13)) + p3)) fun s14 =>
  some s14))
  else (
  if v2 ≤ 0 then (
  b_X10_push_62 fu   st)
  else (
  ck (¬ gR st th 7 = 0) <|
  ck ((kd th).1 = 10) <|
  bd (gR st th 7) fun o15 =>
  bd (p1 - 1) fun v16 =>
  ck ((kd o15).1 = 100 ∧ inb v16 (kd o15).2) <|
  ck ((kd o15).1 = 100 ∧ inb v16 (kd o15).2) <|
  bd (sI st o15 (ix v16) ((gI st o15 (ix v16)) - p3)) fun s17 =>
  b_X10_push_62 fu   s17)))
set_option maxHeartbeats 4000000 in
set_option maxRecDepth 100000 in
theorem t_X10_push {X : CX} {res : St} (B : BV X cX10_push RX10 8 1 NN none res) (fu : Nat) (th : Nat) (p1 : Int32) (p2 : Int32) (p3 : Int32) (st : St) : WW X res NN 0 [(0, .ref (x_b X + th)), (1, .int p1), (2, .int p2), (3, .int p3)] [] st (f_X10_push fu th p1 p2 p3 st) := by
  have hX := B.1
  have hL := B.2.1
  unfold f_X10_push
  refine ww_iload_n hX 1 rfl dX10_push_0 rfl ?_
  refine ww_bipush (v := 51) hX rfl dX10_push_1 ?_
  refine ww_idiv hX dX10_push_3 ?_
  refine ww_bdi (fun v1 => ?_)
  refine ww_istore (lv' := [(4, .int v1), (0, .ref (x_b X + th)), (1, .int p1), (2, .int p2), (3, .int p3)]) hX hL dX10_push_4 (by decide) rfl ?_
  refine ww_iload_n hX 2 rfl dX10_push_6 rfl ?_
  refine ww_bipush (v := 51) hX rfl dX10_push_7 ?_
  refine ww_irem hX dX10_push_9 ?_
  refine ww_pc (b := 10) rfl ?_
  refine ww_bdi (fun v2 => ?_)
  refine ww_istore (lv' := [(5, .int v2), (4, .int v1), (0, .ref (x_b X + th)), (1, .int p1), (2, .int p2), (3, .int p3)]) hX hL dX10_push_10 (by decide) rfl ?_
  refine ww_iload_n hX 4 rfl dX10_push_12 rfl ?_
  refine ww_aload_n hX 2 rfl dX10_push_13 rfl ?_
  refine ww_getR hX f_X10_45 (Or.inr ⟨_, rfl⟩) dX10_push_14 ?_
  refine ww_bdR (fun o3 => ?_)
  refine ww_iload hX 1 rfl dX10_push_17 ?_
  refine ww_ialdc hX k_iald dX10_push_19 ?_
  refine ww_icmp_ne (tgt := 34) hX dX10_push_20 (by decide) ?_ ?_
  · refine ww_iload_n hX 4 rfl dX10_push_34 rfl ?_
    refine ww_aload_n hX 2 rfl dX10_push_35 rfl ?_
    refine ww_getR hX f_X10_45 (Or.inr ⟨_, rfl⟩) dX10_push_36 ?_
    refine ww_bdR (fun o4 => ?_)
    refine ww_iload hX 1 rfl dX10_push_39 ?_
    refine ww_ialdc hX k_iald dX10_push_41 ?_
    refine ww_icmp_le (tgt := 63) hX dX10_push_42 (by decide) ?_ ?_
    · refine ww_aload_n hX 2 rfl dX10_push_63 rfl ?_
      refine ww_getR hX f_X10_48 (Or.inr ⟨_, rfl⟩) dX10_push_64 ?_
      refine ww_bdR (fun o5 => ?_)
      refine ww_iload hX 1 rfl dX10_push_67 ?_
      refine ww_iconst (v := 2) hX rfl dX10_push_69 ?_
      refine ww_imul hX dX10_push_70 ?_
      refine ww_bipush (v := 20) hX rfl dX10_push_71 ?_
      refine ww_imul hX dX10_push_73 ?_
      refine ww_pc (b := 74) rfl ?_
      refine ww_iload_n hX 4 rfl dX10_push_74 rfl ?_
      refine ww_iadd hX dX10_push_75 ?_
      refine ww_ialdc hX k_iald dX10_push_76 ?_
      refine ww_bdi (fun v6 => ?_)
      refine ww_istore (lv' := [(6, .int v6), (5, .int v2), (4, .int v1), (0, .ref (x_b X + th)), (1, .int p1), (2, .int p2), (3, .int p3)]) hX hL dX10_push_77 (by decide) rfl ?_
      refine ww_iload hX 0 rfl dX10_push_79 ?_
      refine ww_bipush (v := 20) hX rfl dX10_push_81 ?_
      refine ww_icmp_ge (tgt := 104) hX dX10_push_83 (by decide) ?_ ?_
      · refine ww_iload hX 1 rfl dX10_push_104 ?_
        refine ww_aload_n hX 3 rfl dX10_push_106 rfl ?_
        refine ww_getR hX f_X10_21 (Or.inr ⟨_, rfl⟩) dX10_push_107 ?_
        refine ww_bdR (fun o7 => ?_)
        refine ww_iload hX 0 rfl dX10_push_110 ?_
        refine ww_bipush (v := 20) hX rfl dX10_push_112 ?_
        refine ww_isub hX dX10_push_114 ?_
        refine ww_ialdc hX k_iald dX10_push_115 ?_
        refine ww_pc (b := 116) rfl ?_
        refine ww_isub hX dX10_push_116 ?_
        refine ww_bdi (fun v8 => ?_)
        refine ww_istore (lv' := [(7, .int v8), (6, .int v6), (5, .int v2), (4, .int v1), (0, .ref (x_b X + th)), (1, .int p1), (2, .int p2), (3, .int p3)]) hX hL dX10_push_117 (by decide) rfl ?_
        refine ww_iload hX 0 rfl dX10_push_119 ?_
        refine ww_if_lt (tgt := 144) hX dX10_push_121 (by decide) ?_ ?_
        · exact ww_sub [] rfl (t_X10_push_144 B fu   st)
        · refine ww_aload_n hX 4 rfl dX10_push_124 rfl ?_
          refine ww_getR hX f_X10_30 (Or.inr ⟨_, rfl⟩) dX10_push_125 ?_
          refine ww_bdR (fun o9 => ?_)
          refine ww_iload hX 1 rfl dX10_push_128 ?_
          refine ww_bipush (v := 20) hX rfl dX10_push_130 ?_
          refine ww_isub hX dX10_push_132 ?_
          refine ww_bipush (v := 51) hX rfl dX10_push_133 ?_
          refine ww_imul hX dX10_push_135 ?_
          refine ww_pc (b := 136) rfl ?_
          refine ww_iload hX 0 rfl dX10_push_136 ?_
          refine ww_iadd hX dX10_push_138 ?_
          refine ww_bdi (fun v10 => ?_)
          refine ww_dup2_11 hX rfl rfl dX10_push_139 ?_
          refine ww_ialdc hX k_iald dX10_push_140 ?_
          refine ww_iload_n hX 7 rfl dX10_push_141 rfl ?_
          refine ww_isub hX dX10_push_142 ?_
          refine ww_iastc hX k_iast dX10_push_143 ?_
          refine ww_bds (fun s11 => ?_)
          exact ww_sub [] rfl (t_X10_push_144 B fu   s11)
      · refine ww_aload_n hX 3 rfl dX10_push_86 rfl ?_
        refine ww_getR hX f_X10_30 (Or.inr ⟨_, rfl⟩) dX10_push_87 ?_
        refine ww_bdR (fun o12 => ?_)
        refine ww_iload hX 0 rfl dX10_push_90 ?_
        refine ww_bipush (v := 51) hX rfl dX10_push_92 ?_
        refine ww_imul hX dX10_push_94 ?_
        refine ww_iload hX 1 rfl dX10_push_95 ?_
        refine ww_iadd hX dX10_push_97 ?_
        refine ww_pc (b := 98) rfl ?_
        refine ww_bdi (fun v13 => ?_)
        refine ww_dup2_11 hX rfl rfl dX10_push_98 ?_
        refine ww_ialdc hX k_iald dX10_push_99 ?_
        refine ww_iload_n hX 6 rfl dX10_push_100 rfl ?_
        refine ww_iadd hX dX10_push_101 ?_
        refine ww_iastc hX k_iast dX10_push_102 ?_
        refine ww_bds (fun s14 => ?_)
        exact ww_vret B dX10_push_103
    · refine ww_iload hX 0 rfl dX10_push_45 ?_
      refine ww_if_le (tgt := 62) hX dX10_push_47 (by decide) ?_ ?_
      · exact ww_sub [] rfl (t_X10_push_62 B fu   st)
      · refine ww_aload_n hX 2 rfl dX10_push_50 rfl ?_
        refine ww_getR hX f_X10_33 (Or.inr ⟨_, rfl⟩) dX10_push_51 ?_
        refine ww_bdR (fun o15 => ?_)
        refine ww_iload_n hX 3 rfl dX10_push_54 rfl ?_
        refine ww_iconst (v := 1) hX rfl dX10_push_55 ?_
        refine ww_isub hX dX10_push_56 ?_
        refine ww_bdi (fun v16 => ?_)
        refine ww_dup2_11 hX rfl rfl dX10_push_57 ?_
        refine ww_ialdc hX k_iald dX10_push_58 ?_
        refine ww_pc (b := 59) rfl ?_
        refine ww_iload_n hX 5 rfl dX10_push_59 rfl ?_
        refine ww_isub hX dX10_push_60 ?_
        refine ww_iastc hX k_iast dX10_push_61 ?_
        refine ww_bds (fun s17 => ?_)
        exact ww_sub [] rfl (t_X10_push_62 B fu   s17)
  · refine ww_aload_n hX 2 rfl dX10_push_23 rfl ?_
    refine ww_getR hX f_X10_33 (Or.inr ⟨_, rfl⟩) dX10_push_24 ?_
    refine ww_bdR (fun o18 => ?_)
    refine ww_iload_n hX 3 rfl dX10_push_27 rfl ?_
    refine ww_dup2_11 hX rfl rfl dX10_push_28 ?_
    refine ww_ialdc hX k_iald dX10_push_29 ?_
    refine ww_iload_n hX 5 rfl dX10_push_30 rfl ?_
    refine ww_iadd hX dX10_push_31 ?_
    refine ww_pc (b := 32) rfl ?_
    refine ww_iastc hX k_iast dX10_push_32 ?_
    refine ww_bds (fun s19 => ?_)
    exact ww_vret B dX10_push_33
theorem c_X10_push (G : GX) (l : Launch) (fu : Nat) (th : Nat) (p1 : Int32) (p2 : Int32) (p3 : Int32) (st : St) : MV G NN l yX10_push cX10_push 8 none 1 [.ref (G.2.2.1 + th), .int p1, .int p2, .int p3] st (f_X10_push fu th p1 p2 p3 st) := mkV (by decide) (Nat.le_of_ble_eq_true rfl) (fun X res hl hG B => by subst hl; subst hG; exact t_X10_push B fu th p1 p2 p3 st)
/-! StageHouse$Ways.nextBy(II)I -/
def b_X10_nextBy_70 (fu : Nat) (k_20 : Nat → Int32 → Int32 → Int32 → Int32 → St → Option (Int32 × St)) (x0 : Nat) (x1 : Int32) (x2 : Int32) (x3 : Int32) (x4 : Int32)  (st : St) : Option (Int32 × St) :=
  bd (x4 + 1) fun v9 =>
  k_20 x0 x1 x2 x3 v9  st
set_option maxHeartbeats 4000000 in
set_option maxRecDepth 100000 in
theorem t_X10_nextBy_70 {X : CX} {res : Int32 × St} (B : BI X cX10_nextBy RX10 6 2 NN (some .int) res) (fu : Nat) (k_20 : Nat → Int32 → Int32 → Int32 → Int32 → St → Option (Int32 × St)) (h_20 : ∀ (x0 : Nat) (x1 : Int32) (x2 : Int32) (x3 : Int32) (x4 : Int32)  (st : St), WW X res NN 20 [(0, .ref (x_b X + x0)), (1, .int x1), (2, .int x2), (3, .int x3), (4, .int x4)] [] st (k_20 x0 x1 x2 x3 x4 st)) (x0 : Nat) (x1 : Int32) (x2 : Int32) (x3 : Int32) (x4 : Int32)  (st : St) : WW X res NN 70 [(0, .ref (x_b X + x0)), (1, .int x1), (2, .int x2), (3, .int x3), (4, .int x4)] [] st (b_X10_nextBy_70 fu k_20 x0 x1 x2 x3 x4 st) := by
  have hX := B.1
  have hL := B.2.1
  unfold b_X10_nextBy_70
  refine ww_iincb (lv' := fun v9 => [(4, .int v9), (0, .ref (x_b X + x0)), (1, .int x1), (2, .int x2), (3, .int x3)]) (c := 1) hX hL 4 rfl dX10_nextBy_70 rfl (by decide) (fun _ => rfl) (fun v9 => ?_)
  refine ww_goto (tgt := 20) hX dX10_nextBy_73 (by decide) ?_
  exact ww_sub [1, 2, 3, 4, 0] rfl (h_20 x0 x1 x2 x3 v9  st)
def b_X10_nextBy_20_b (fu : Nat) (k_20 : Nat → Int32 → Int32 → Int32 → Int32 → St → Option (Int32 × St)) (x0 : Nat) (x1 : Int32) (x2 : Int32) (x3 : Int32) (x4 : Int32)  (st : St) : Option (Int32 × St) :=
  if x3 ≤ x4 then (
  ck (¬ gR st x0 9 = 0) <|
  ck ((kd x0).1 = 10) <|
  bd (gR st x0 9) fun o5 =>
  ck ((kd o5).1 = 100 ∧ inb x1 (kd o5).2) <|
  bd (sI st o5 (ix x1) x3) fun s6 =>
  some ((-1), s6))
  else (
  ck ((kd x0).1 = 10) <|
  ca (f_X10_endOf fu x0 x1 x4 x2 st) fun r7 s8 =>
  if r7 < 0 then (
  b_X10_nextBy_70 fu k_20 x0 x1 x2 x3 x4  s8)
  else (
  ck (¬ gR s8 x0 8 = 0) <|
  ck ((kd x0).1 = 10) <|
  bd (gR s8 x0 8) fun o10 =>
  ck ((kd o10).1 = 100 ∧ inb r7 (kd o10).2) <|
  ck (¬ gR s8 x0 8 = 0) <|
  ck ((kd x0).1 = 10) <|
  bd (gR s8 x0 8) fun o11 =>
  ck ((kd o11).1 = 100 ∧ inb x1 (kd o11).2) <|
  if (gI s8 o10 (ix r7)) = ((gI s8 o11 (ix x1)) + 1) then (
  ck (¬ gR s8 x0 9 = 0) <|
  ck ((kd x0).1 = 10) <|
  bd (gR s8 x0 9) fun o12 =>
  ck ((kd o12).1 = 100 ∧ inb x1 (kd o12).2) <|
  bd (sI s8 o12 (ix x1) x4) fun s13 =>
  some (r7, s13))
  else (
  b_X10_nextBy_70 fu k_20 x0 x1 x2 x3 x4  s8)))
set_option maxHeartbeats 4000000 in
set_option maxRecDepth 100000 in
theorem t_X10_nextBy_20_b {X : CX} {res : Int32 × St} (B : BI X cX10_nextBy RX10 6 2 NN (some .int) res) (fu : Nat) (k_20 : Nat → Int32 → Int32 → Int32 → Int32 → St → Option (Int32 × St)) (h_20 : ∀ (x0 : Nat) (x1 : Int32) (x2 : Int32) (x3 : Int32) (x4 : Int32)  (st : St), WW X res NN 20 [(0, .ref (x_b X + x0)), (1, .int x1), (2, .int x2), (3, .int x3), (4, .int x4)] [] st (k_20 x0 x1 x2 x3 x4 st)) (x0 : Nat) (x1 : Int32) (x2 : Int32) (x3 : Int32) (x4 : Int32)  (st : St) : WW X res NN 20 [(0, .ref (x_b X + x0)), (1, .int x1), (2, .int x2), (3, .int x3), (4, .int x4)] [] st (b_X10_nextBy_20_b fu k_20 x0 x1 x2 x3 x4 st) := by
  have hX := B.1
  have hL := B.2.1
  unfold b_X10_nextBy_20_b
  refine ww_iload hX 4 rfl dX10_nextBy_20 ?_
  refine ww_iload_n hX 3 rfl dX10_nextBy_22 rfl ?_
  refine ww_icmp_ge (tgt := 76) hX dX10_nextBy_23 (by decide) ?_ ?_
  · refine ww_aload_n hX 0 rfl dX10_nextBy_76 rfl ?_
    refine ww_getR hX f_X10_39 (Or.inr ⟨_, rfl⟩) dX10_nextBy_77 ?_
    refine ww_bdR (fun o5 => ?_)
    refine ww_iload_n hX 1 rfl dX10_nextBy_80 rfl ?_
    refine ww_iload_n hX 3 rfl dX10_nextBy_81 rfl ?_
    refine ww_iastc hX k_iast dX10_nextBy_82 ?_
    refine ww_bds (fun s6 => ?_)
    refine ww_iconst (v := (-1)) hX rfl dX10_nextBy_83 ?_
    exact ww_iret B dX10_nextBy_84
  · refine ww_aload_n hX 0 rfl dX10_nextBy_26 rfl ?_
    refine ww_iload_n hX 1 rfl dX10_nextBy_27 rfl ?_
    refine ww_iload hX 4 rfl dX10_nextBy_28 ?_
    refine ww_iload_n hX 2 rfl dX10_nextBy_30 rfl ?_
    refine ww_callVI (As := [.int x1, .int x4, .int x2]) (rest := []) (o := x0) hX (Rk.of B.2.2.1 B.2.2.2.1 (by decide) (by decide)) g_X10_97 g_X10_97.in (fun _ => c_X10_endOf (x_G X) (x_l X) fu x0 x1 x4 x2 st) rfl rfl (Nat.le_of_ble_eq_true rfl) dX10_nextBy_31 (fun r7 s8 => ?_)
    refine ww_istore (lv' := [(5, .int r7), (0, .ref (x_b X + x0)), (1, .int x1), (2, .int x2), (3, .int x3), (4, .int x4)]) hX hL dX10_nextBy_34 (by decide) rfl ?_
    refine ww_iload hX 0 rfl dX10_nextBy_36 ?_
    refine ww_pc (b := 38) rfl ?_
    refine ww_if_lt (tgt := 70) hX dX10_nextBy_38 (by decide) ?_ ?_
    · exact ww_sub [1, 2, 3, 4, 5] rfl (t_X10_nextBy_70 B fu k_20 h_20 x0 x1 x2 x3 x4  s8)
    · refine ww_aload_n hX 1 rfl dX10_nextBy_41 rfl ?_
      refine ww_getR hX f_X10_36 (Or.inr ⟨_, rfl⟩) dX10_nextBy_42 ?_
      refine ww_bdR (fun o10 => ?_)
      refine ww_iload hX 0 rfl dX10_nextBy_45 ?_
      refine ww_ialdc hX k_iald dX10_nextBy_47 ?_
      refine ww_aload_n hX 1 rfl dX10_nextBy_48 rfl ?_
      refine ww_getR hX f_X10_36 (Or.inr ⟨_, rfl⟩) dX10_nextBy_49 ?_
      refine ww_bdR (fun o11 => ?_)
      refine ww_iload_n hX 2 rfl dX10_nextBy_52 rfl ?_
      refine ww_pc (b := 53) rfl ?_
      refine ww_ialdc hX k_iald dX10_nextBy_53 ?_
      refine ww_iconst (v := 1) hX rfl dX10_nextBy_54 ?_
      refine ww_iadd hX dX10_nextBy_55 ?_
      refine ww_icmp_ne (tgt := 70) hX dX10_nextBy_56 (by decide) ?_ ?_
      · exact ww_sub [1, 2, 3, 4, 5] rfl (t_X10_nextBy_70 B fu k_20 h_20 x0 x1 x2 x3 x4  s8)
      · refine ww_aload_n hX 1 rfl dX10_nextBy_59 rfl ?_
        refine ww_getR hX f_X10_39 (Or.inr ⟨_, rfl⟩) dX10_nextBy_60 ?_
        refine ww_bdR (fun o12 => ?_)
        refine ww_iload_n hX 2 rfl dX10_nextBy_63 rfl ?_
        refine ww_iload hX 5 rfl dX10_nextBy_64 ?_
        refine ww_iastc hX k_iast dX10_nextBy_66 ?_
        refine ww_bds (fun s13 => ?_)
        refine ww_iload hX 0 rfl dX10_nextBy_67 ?_
        exact ww_iret B dX10_nextBy_69
def b_X10_nextBy_20 (fu : Nat) : Nat → Nat → Int32 → Int32 → Int32 → Int32 → St → Option (Int32 × St)
  | 0, _, _, _, _, _, _ => none
  | i + 1, x0, x1, x2, x3, x4, st => b_X10_nextBy_20_b fu (b_X10_nextBy_20 fu i) x0 x1 x2 x3 x4 st
theorem t_X10_nextBy_20 {X : CX} {res : Int32 × St} (B : BI X cX10_nextBy RX10 6 2 NN (some .int) res) (fu : Nat) : ∀ (i : Nat) (x0 : Nat) (x1 : Int32) (x2 : Int32) (x3 : Int32) (x4 : Int32)  (st : St), WW X res NN 20 [(0, .ref (x_b X + x0)), (1, .int x1), (2, .int x2), (3, .int x3), (4, .int x4)] [] st (b_X10_nextBy_20 fu i x0 x1 x2 x3 x4 st) := by
  intro i
  induction i with
  | zero => intro x0 x1 x2 x3 x4 st; exact ww_none
  | succ i ih => intro x0 x1 x2 x3 x4 st; exact t_X10_nextBy_20_b B fu (b_X10_nextBy_20 fu i) ih x0 x1 x2 x3 x4 st
def f_X10_nextBy (fu : Nat) (th : Nat) (p1 : Int32) (p2 : Int32) (st : St) : Option (Int32 × St) :=
  ck (¬ gR st th 11 = 0) <|
  ck ((kd th).1 = 10) <|
  bd (gR st th 11) fun o1 =>
  ck (¬ 51 = 0) <|
  ck ((kd o1).1 = 100 ∧ inb (p1 / 51) (kd o1).2) <|
  bd ((gI st o1 (ix (p1 / 51))) + 2) fun v2 =>
  ck (¬ gR st th 9 = 0) <|
  ck ((kd th).1 = 10) <|
  bd (gR st th 9) fun o3 =>
  ck ((kd o3).1 = 100 ∧ inb p1 (kd o3).2) <|
  bd (gI st o3 (ix p1)) fun v4 =>
  b_X10_nextBy_20 fu fu th p1 p2 v2 v4  st
set_option maxHeartbeats 4000000 in
set_option maxRecDepth 100000 in
theorem t_X10_nextBy {X : CX} {res : Int32 × St} (B : BI X cX10_nextBy RX10 6 2 NN (some .int) res) (fu : Nat) (th : Nat) (p1 : Int32) (p2 : Int32) (st : St) : WW X res NN 0 [(0, .ref (x_b X + th)), (1, .int p1), (2, .int p2)] [] st (f_X10_nextBy fu th p1 p2 st) := by
  have hX := B.1
  have hL := B.2.1
  unfold f_X10_nextBy
  refine ww_aload_n hX 0 rfl dX10_nextBy_0 rfl ?_
  refine ww_getR hX f_X10_45 (Or.inr ⟨_, rfl⟩) dX10_nextBy_1 ?_
  refine ww_bdR (fun o1 => ?_)
  refine ww_iload_n hX 1 rfl dX10_nextBy_4 rfl ?_
  refine ww_bipush (v := 51) hX rfl dX10_nextBy_5 ?_
  refine ww_idiv hX dX10_nextBy_7 ?_
  refine ww_ialdc hX k_iald dX10_nextBy_8 ?_
  refine ww_iconst (v := 2) hX rfl dX10_nextBy_9 ?_
  refine ww_pc (b := 10) rfl ?_
  refine ww_iadd hX dX10_nextBy_10 ?_
  refine ww_bdi (fun v2 => ?_)
  refine ww_istore_n (lv' := [(3, .int v2), (0, .ref (x_b X + th)), (1, .int p1), (2, .int p2)]) hX hL dX10_nextBy_11 rfl (by decide) rfl ?_
  refine ww_aload_n hX 1 rfl dX10_nextBy_12 rfl ?_
  refine ww_getR hX f_X10_39 (Or.inr ⟨_, rfl⟩) dX10_nextBy_13 ?_
  refine ww_bdR (fun o3 => ?_)
  refine ww_iload_n hX 2 rfl dX10_nextBy_16 rfl ?_
  refine ww_ialdc hX k_iald dX10_nextBy_17 ?_
  refine ww_bdi (fun v4 => ?_)
  refine ww_istore (lv' := [(4, .int v4), (3, .int v2), (0, .ref (x_b X + th)), (1, .int p1), (2, .int p2)]) hX hL dX10_nextBy_18 (by decide) rfl ?_
  exact ww_sub [2, 3, 4, 1, 0] rfl (t_X10_nextBy_20 B fu fu th p1 p2 v2 v4  st)
theorem c_X10_nextBy (G : GX) (l : Launch) (fu : Nat) (th : Nat) (p1 : Int32) (p2 : Int32) (st : St) : MI G NN l yX10_nextBy cX10_nextBy 6 (some .int) 2 [.ref (G.2.2.1 + th), .int p1, .int p2] st (f_X10_nextBy fu th p1 p2 st) := mkI (by decide) (Nat.le_of_ble_eq_true rfl) (fun X res hl hG B => by subst hl; subst hG; exact t_X10_nextBy B fu th p1 p2 st)
/-! StageHouse$Ways.walk(II)I -/
def b_X10_walk_100 (fu : Nat) (k_12 : Nat → Int32 → Int32 → Int32 → St → Option (Int32 × St)) (x0 : Nat) (x2 : Int32) (x3 : Int32) (x4 : Int32)  (st : St) : Option (Int32 × St) :=
  bd (x4 + 1) fun v12 =>
  k_12 x0 x2 x3 v12  st
set_option maxHeartbeats 4000000 in
set_option maxRecDepth 100000 in
theorem t_X10_walk_100 {X : CX} {res : Int32 × St} (B : BI X cX10_walk RX10 7 3 NN (some .int) res) (fu : Nat) (k_12 : Nat → Int32 → Int32 → Int32 → St → Option (Int32 × St)) (h_12 : ∀ (x0 : Nat) (x2 : Int32) (x3 : Int32) (x4 : Int32)  (st : St), WW X res NN 12 [(0, .ref (x_b X + x0)), (2, .int x2), (3, .int x3), (4, .int x4)] [] st (k_12 x0 x2 x3 x4 st)) (x0 : Nat) (x2 : Int32) (x3 : Int32) (x4 : Int32)  (st : St) : WW X res NN 100 [(0, .ref (x_b X + x0)), (2, .int x2), (3, .int x3), (4, .int x4)] [] st (b_X10_walk_100 fu k_12 x0 x2 x3 x4 st) := by
  have hX := B.1
  have hL := B.2.1
  unfold b_X10_walk_100
  refine ww_iincb (lv' := fun v12 => [(4, .int v12), (0, .ref (x_b X + x0)), (2, .int x2), (3, .int x3)]) (c := 1) hX hL 3 rfl dX10_walk_100 rfl (by decide) (fun _ => rfl) (fun v12 => ?_)
  refine ww_goto (tgt := 12) hX dX10_walk_103 (by decide) ?_
  exact ww_sub [1, 2, 3, 0] rfl (h_12 x0 x2 x3 v12  st)
def b_X10_walk_76 (fu : Nat) (k_12 : Nat → Int32 → Int32 → Int32 → St → Option (Int32 × St)) (x0 : Nat) (x2 : Int32) (x3 : Int32) (x4 : Int32)  (st : St) : Option (Int32 × St) :=
  if x3 = 0 then (
  some ((-1), st))
  else (
  bd (x3 + (-1)) fun v7 =>
  ck (¬ gR st x0 9 = 0) <|
  ck ((kd x0).1 = 10) <|
  bd (gR st x0 9) fun o8 =>
  ck (¬ gR st x0 10 = 0) <|
  ck ((kd x0).1 = 10) <|
  bd (gR st x0 10) fun o9 =>
  ck ((kd o9).1 = 100 ∧ inb v7 (kd o9).2) <|
  bd (gI st o9 (ix v7)) fun v10 =>
  ck ((kd o8).1 = 100 ∧ inb v10 (kd o8).2) <|
  ck ((kd o8).1 = 100 ∧ inb v10 (kd o8).2) <|
  bd (sI st o8 (ix v10) ((gI st o8 (ix v10)) + 1)) fun s11 =>
  b_X10_walk_100 fu k_12 x0 x2 v7 x4  s11)
set_option maxHeartbeats 4000000 in
set_option maxRecDepth 100000 in
theorem t_X10_walk_76 {X : CX} {res : Int32 × St} (B : BI X cX10_walk RX10 7 3 NN (some .int) res) (fu : Nat) (k_12 : Nat → Int32 → Int32 → Int32 → St → Option (Int32 × St)) (h_12 : ∀ (x0 : Nat) (x2 : Int32) (x3 : Int32) (x4 : Int32)  (st : St), WW X res NN 12 [(0, .ref (x_b X + x0)), (2, .int x2), (3, .int x3), (4, .int x4)] [] st (k_12 x0 x2 x3 x4 st)) (x0 : Nat) (x2 : Int32) (x3 : Int32) (x4 : Int32)  (st : St) : WW X res NN 76 [(0, .ref (x_b X + x0)), (2, .int x2), (3, .int x3), (4, .int x4)] [] st (b_X10_walk_76 fu k_12 x0 x2 x3 x4 st) := by
  have hX := B.1
  have hL := B.2.1
  unfold b_X10_walk_76
  refine ww_iload_n hX 2 rfl dX10_walk_76 rfl ?_
  refine ww_if_ne (tgt := 82) hX dX10_walk_77 (by decide) ?_ ?_
  · refine ww_iincb (lv' := fun v7 => [(3, .int v7), (0, .ref (x_b X + x0)), (2, .int x2), (4, .int x4)]) (c := (-1)) hX hL 2 rfl dX10_walk_82 rfl (by decide) (fun _ => rfl) (fun v7 => ?_)
    refine ww_aload_n hX 1 rfl dX10_walk_85 rfl ?_
    refine ww_getR hX f_X10_39 (Or.inr ⟨_, rfl⟩) dX10_walk_86 ?_
    refine ww_bdR (fun o8 => ?_)
    refine ww_aload_n hX 1 rfl dX10_walk_89 rfl ?_
    refine ww_getR hX f_X10_42 (Or.inr ⟨_, rfl⟩) dX10_walk_90 ?_
    refine ww_bdR (fun o9 => ?_)
    refine ww_iload_n hX 0 rfl dX10_walk_93 rfl ?_
    refine ww_ialdc hX k_iald dX10_walk_94 ?_
    refine ww_pc (b := 95) rfl ?_
    refine ww_bdi (fun v10 => ?_)
    refine ww_dup2_11 hX rfl rfl dX10_walk_95 ?_
    refine ww_ialdc hX k_iald dX10_walk_96 ?_
    refine ww_iconst (v := 1) hX rfl dX10_walk_97 ?_
    refine ww_iadd hX dX10_walk_98 ?_
    refine ww_iastc hX k_iast dX10_walk_99 ?_
    refine ww_bds (fun s11 => ?_)
    exact ww_sub [1, 2, 0, 3] rfl (t_X10_walk_100 B fu k_12 h_12 x0 x2 v7 x4  s11)
  · refine ww_iconst (v := (-1)) hX rfl dX10_walk_80 ?_
    exact ww_iret B dX10_walk_81
def b_X10_walk_12_b (fu : Nat) (k_12 : Nat → Int32 → Int32 → Int32 → St → Option (Int32 × St)) (x0 : Nat) (x2 : Int32) (x3 : Int32) (x4 : Int32)  (st : St) : Option (Int32 × St) :=
  if 1000000 ≤ x4 then (
  some ((-1), st))
  else (
  ck (¬ gR st x0 10 = 0) <|
  ck ((kd x0).1 = 10) <|
  bd (gR st x0 10) fun o3 =>
  ck ((kd o3).1 = 100 ∧ inb x3 (kd o3).2) <|
  bd (gI st o3 (ix x3)) fun v4 =>
  ck (¬ 51 = 0) <|
  if (v4 / 51) = 11 then (
  some (x3, st))
  else (
  ck ((kd x0).1 = 10) <|
  ca (f_X10_nextBy fu x0 v4 x2 st) fun r5 s6 =>
  if r5 < 0 then (
  b_X10_walk_76 fu k_12 x0 x2 x3 x4  s6)
  else (
  if 612 ≤ (x3 + 1) then (
  b_X10_walk_76 fu k_12 x0 x2 x3 x4  s6)
  else (
  bd (x3 + 1) fun v13 =>
  ck (¬ gR s6 x0 10 = 0) <|
  ck ((kd x0).1 = 10) <|
  bd (gR s6 x0 10) fun o14 =>
  ck ((kd o14).1 = 100 ∧ inb v13 (kd o14).2) <|
  bd (sI s6 o14 (ix v13) r5) fun s15 =>
  b_X10_walk_100 fu k_12 x0 x2 v13 x4  s15))))
set_option maxHeartbeats 4000000 in
set_option maxRecDepth 100000 in
theorem t_X10_walk_12_b {X : CX} {res : Int32 × St} (B : BI X cX10_walk RX10 7 3 NN (some .int) res) (fu : Nat) (k_12 : Nat → Int32 → Int32 → Int32 → St → Option (Int32 × St)) (h_12 : ∀ (x0 : Nat) (x2 : Int32) (x3 : Int32) (x4 : Int32)  (st : St), WW X res NN 12 [(0, .ref (x_b X + x0)), (2, .int x2), (3, .int x3), (4, .int x4)] [] st (k_12 x0 x2 x3 x4 st)) (x0 : Nat) (x2 : Int32) (x3 : Int32) (x4 : Int32)  (st : St) : WW X res NN 12 [(0, .ref (x_b X + x0)), (2, .int x2), (3, .int x3), (4, .int x4)] [] st (b_X10_walk_12_b fu k_12 x0 x2 x3 x4 st) := by
  have hX := B.1
  have hL := B.2.1
  unfold b_X10_walk_12_b
  refine ww_iload hX 3 rfl dX10_walk_12 ?_
  refine ww_ldc (v := 1000000) hX k_X10_73 dX10_walk_14 ?_
  refine ww_icmp_ge (tgt := 106) hX dX10_walk_16 (by decide) ?_ ?_
  · refine ww_iconst (v := (-1)) hX rfl dX10_walk_106 ?_
    exact ww_iret B dX10_walk_107
  · refine ww_aload_n hX 0 rfl dX10_walk_19 rfl ?_
    refine ww_getR hX f_X10_42 (Or.inr ⟨_, rfl⟩) dX10_walk_20 ?_
    refine ww_bdR (fun o3 => ?_)
    refine ww_iload_n hX 2 rfl dX10_walk_23 rfl ?_
    refine ww_ialdc hX k_iald dX10_walk_24 ?_
    refine ww_bdi (fun v4 => ?_)
    refine ww_istore (lv' := [(5, .int v4), (0, .ref (x_b X + x0)), (2, .int x2), (3, .int x3), (4, .int x4)]) hX hL dX10_walk_25 (by decide) rfl ?_
    refine ww_iload hX 0 rfl dX10_walk_27 ?_
    refine ww_bipush (v := 51) hX rfl dX10_walk_29 ?_
    refine ww_pc (b := 31) rfl ?_
    refine ww_idiv hX dX10_walk_31 ?_
    refine ww_bipush (v := 11) hX rfl dX10_walk_32 ?_
    refine ww_icmp_ne (tgt := 39) hX dX10_walk_34 (by decide) ?_ ?_
    · refine ww_aload_n hX 1 rfl dX10_walk_39 rfl ?_
      refine ww_iload hX 0 rfl dX10_walk_40 ?_
      refine ww_iload_n hX 2 rfl dX10_walk_42 rfl ?_
      refine ww_callVI (As := [.int v4, .int x2]) (rest := []) (o := x0) hX (Rk.of B.2.2.1 B.2.2.2.1 (by decide) (by decide)) g_X10_101 g_X10_101.in (fun _ => c_X10_nextBy (x_G X) (x_l X) fu x0 v4 x2 st) rfl rfl (Nat.le_of_ble_eq_true rfl) dX10_walk_43 (fun r5 s6 => ?_)
      refine ww_istore (lv' := [(6, .int r5), (5, .int v4), (0, .ref (x_b X + x0)), (2, .int x2), (3, .int x3), (4, .int x4)]) hX hL dX10_walk_46 (by decide) rfl ?_
      refine ww_iload hX 0 rfl dX10_walk_48 ?_
      refine ww_if_lt (tgt := 76) hX dX10_walk_50 (by decide) ?_ ?_
      · exact ww_sub [2, 3, 4, 5] rfl (t_X10_walk_76 B fu k_12 h_12 x0 x2 x3 x4  s6)
      · refine ww_iload_n hX 4 rfl dX10_walk_53 rfl ?_
        refine ww_iconst (v := 1) hX rfl dX10_walk_54 ?_
        refine ww_iadd hX dX10_walk_55 ?_
        refine ww_sipush (v := 612) hX rfl dX10_walk_56 ?_
        refine ww_icmp_ge (tgt := 76) hX dX10_walk_59 (by decide) ?_ ?_
        · exact ww_sub [2, 3, 4, 5] rfl (t_X10_walk_76 B fu k_12 h_12 x0 x2 x3 x4  s6)
        · refine ww_iincb (lv' := fun v13 => [(3, .int v13), (6, .int r5), (5, .int v4), (0, .ref (x_b X + x0)), (2, .int x2), (4, .int x4)]) (c := 1) hX hL 4 rfl dX10_walk_62 rfl (by decide) (fun _ => rfl) (fun v13 => ?_)
          refine ww_aload_n hX 3 rfl dX10_walk_65 rfl ?_
          refine ww_getR hX f_X10_42 (Or.inr ⟨_, rfl⟩) dX10_walk_66 ?_
          refine ww_bdR (fun o14 => ?_)
          refine ww_iload_n hX 0 rfl dX10_walk_69 rfl ?_
          refine ww_iload hX 1 rfl dX10_walk_70 ?_
          refine ww_iastc hX k_iast dX10_walk_72 ?_
          refine ww_bds (fun s15 => ?_)
          refine ww_goto (tgt := 100) hX dX10_walk_73 (by decide) ?_
          exact ww_sub [3, 4, 0, 5] rfl (t_X10_walk_100 B fu k_12 h_12 x0 x2 v13 x4  s15)
    · refine ww_iload_n hX 3 rfl dX10_walk_37 rfl ?_
      exact ww_iret B dX10_walk_38
def b_X10_walk_12 (fu : Nat) : Nat → Nat → Int32 → Int32 → Int32 → St → Option (Int32 × St)
  | 0, _, _, _, _, _ => none
  | i + 1, x0, x2, x3, x4, st => b_X10_walk_12_b fu (b_X10_walk_12 fu i) x0 x2 x3 x4 st
theorem t_X10_walk_12 {X : CX} {res : Int32 × St} (B : BI X cX10_walk RX10 7 3 NN (some .int) res) (fu : Nat) : ∀ (i : Nat) (x0 : Nat) (x2 : Int32) (x3 : Int32) (x4 : Int32)  (st : St), WW X res NN 12 [(0, .ref (x_b X + x0)), (2, .int x2), (3, .int x3), (4, .int x4)] [] st (b_X10_walk_12 fu i x0 x2 x3 x4 st) := by
  intro i
  induction i with
  | zero => intro x0 x2 x3 x4 st; exact ww_none
  | succ i ih => intro x0 x2 x3 x4 st; exact t_X10_walk_12_b B fu (b_X10_walk_12 fu i) ih x0 x2 x3 x4 st
def f_X10_walk (fu : Nat) (th : Nat) (p1 : Int32) (p2 : Int32) (st : St) : Option (Int32 × St) :=
  ck (¬ gR st th 10 = 0) <|
  ck ((kd th).1 = 10) <|
  bd (gR st th 10) fun o1 =>
  ck ((kd o1).1 = 100 ∧ inb 0 (kd o1).2) <|
  bd (sI st o1 (ix 0) p1) fun s2 =>
  b_X10_walk_12 fu fu th p2 0 0  s2
set_option maxHeartbeats 4000000 in
set_option maxRecDepth 100000 in
theorem t_X10_walk {X : CX} {res : Int32 × St} (B : BI X cX10_walk RX10 7 3 NN (some .int) res) (fu : Nat) (th : Nat) (p1 : Int32) (p2 : Int32) (st : St) : WW X res NN 0 [(0, .ref (x_b X + th)), (1, .int p1), (2, .int p2)] [] st (f_X10_walk fu th p1 p2 st) := by
  have hX := B.1
  have hL := B.2.1
  unfold f_X10_walk
  refine ww_iconst (v := 0) hX rfl dX10_walk_0 ?_
  refine ww_istore_n (lv' := [(3, .int 0), (0, .ref (x_b X + th)), (1, .int p1), (2, .int p2)]) hX hL dX10_walk_1 rfl (by decide) rfl ?_
  refine ww_aload_n hX 1 rfl dX10_walk_2 rfl ?_
  refine ww_getR hX f_X10_42 (Or.inr ⟨_, rfl⟩) dX10_walk_3 ?_
  refine ww_bdR (fun o1 => ?_)
  refine ww_iconst (v := 0) hX rfl dX10_walk_6 ?_
  refine ww_iload_n hX 2 rfl dX10_walk_7 rfl ?_
  refine ww_iastc hX k_iast dX10_walk_8 ?_
  refine ww_bds (fun s2 => ?_)
  refine ww_pc (b := 9) rfl ?_
  refine ww_iconst (v := 0) hX rfl dX10_walk_9 ?_
  refine ww_istore (lv' := [(4, .int 0), (3, .int 0), (0, .ref (x_b X + th)), (1, .int p1), (2, .int p2)]) hX hL dX10_walk_10 (by decide) rfl ?_
  exact ww_sub [2, 4, 1, 0] rfl (t_X10_walk_12 B fu fu th p2 0 0  s2)
theorem c_X10_walk (G : GX) (l : Launch) (fu : Nat) (th : Nat) (p1 : Int32) (p2 : Int32) (st : St) : MI G NN l yX10_walk cX10_walk 7 (some .int) 3 [.ref (G.2.2.1 + th), .int p1, .int p2] st (f_X10_walk fu th p1 p2 st) := mkI (by decide) (Nat.le_of_ble_eq_true rfl) (fun X res hl hG B => by subst hl; subst hG; exact t_X10_walk B fu th p1 p2 st)
/-! StageHouse$Ways.sendFrom(II)I -/
def b_X10_sendFrom_117 (fu : Nat) (x3 : Int32)  (st : St) : Option (Int32 × St) :=
  some (x3, st)
set_option maxHeartbeats 4000000 in
set_option maxRecDepth 100000 in
theorem t_X10_sendFrom_117 {X : CX} {res : Int32 × St} (B : BI X cX10_sendFrom RX10 8 4 NN (some .int) res) (fu : Nat) (x3 : Int32)  (st : St) : WW X res NN 117 [(3, .int x3)] [] st (b_X10_sendFrom_117 fu x3 st) := by
  have hX := B.1
  have hL := B.2.1
  unfold b_X10_sendFrom_117
  refine ww_iload_n hX 0 rfl dX10_sendFrom_117 rfl ?_
  exact ww_iret B dX10_sendFrom_118
def b_X10_sendFrom_57_b (fu : Nat) (k_5 : Nat → Int32 → Int32 → Int32 → Int32 → St → Option (Int32 × St)) (k_57 : Nat → Int32 → Int32 → Int32 → Int32 → Int32 → Int32 → Int32 → St → Option (Int32 × St)) (x0 : Nat) (x1 : Int32) (x2 : Int32) (x3 : Int32) (x4 : Int32) (x5 : Int32) (x6 : Int32) (x7 : Int32)  (st : St) : Option (Int32 × St) :=
  if x5 ≤ x7 then (
  ck (¬ gR st x0 5 = 0) <|
  ck ((kd x0).1 = 10) <|
  bd (gR st x0 5) fun o7 =>
  ck ((kd o7).1 = 100 ∧ inb x1 (kd o7).2) <|
  ck ((kd o7).1 = 100 ∧ inb x1 (kd o7).2) <|
  bd (sI st o7 (ix x1) ((gI st o7 (ix x1)) - x6)) fun s8 =>
  bd (x3 + x6) fun v9 =>
  bd (x4 + 1) fun v10 =>
  k_5 x0 x1 x2 v9 v10  s8)
  else (
  ck (¬ gR st x0 10 = 0) <|
  ck ((kd x0).1 = 10) <|
  bd (gR st x0 10) fun o11 =>
  ck ((kd o11).1 = 100 ∧ inb x7 (kd o11).2) <|
  ck (¬ gR st x0 9 = 0) <|
  ck ((kd x0).1 = 10) <|
  bd (gR st x0 9) fun o12 =>
  ck (¬ gR st x0 10 = 0) <|
  ck ((kd x0).1 = 10) <|
  bd (gR st x0 10) fun o13 =>
  ck ((kd o13).1 = 100 ∧ inb x7 (kd o13).2) <|
  ck ((kd o12).1 = 100 ∧ inb (gI st o13 (ix x7)) (kd o12).2) <|
  ck ((kd x0).1 = 10) <|
  cv (f_X10_push fu x0 (gI st o11 (ix x7)) (gI st o12 (ix (gI st o13 (ix x7)))) x6 st) fun s14 =>
  bd (x7 + 1) fun v15 =>
  k_57 x0 x1 x2 x3 x4 x5 x6 v15  s14)
set_option maxHeartbeats 4000000 in
set_option maxRecDepth 100000 in
theorem t_X10_sendFrom_57_b {X : CX} {res : Int32 × St} (B : BI X cX10_sendFrom RX10 8 4 NN (some .int) res) (fu : Nat) (k_5 : Nat → Int32 → Int32 → Int32 → Int32 → St → Option (Int32 × St)) (k_57 : Nat → Int32 → Int32 → Int32 → Int32 → Int32 → Int32 → Int32 → St → Option (Int32 × St)) (h_5 : ∀ (x0 : Nat) (x1 : Int32) (x2 : Int32) (x3 : Int32) (x4 : Int32)  (st : St), WW X res NN 5 [(0, .ref (x_b X + x0)), (1, .int x1), (2, .int x2), (3, .int x3), (4, .int x4)] [] st (k_5 x0 x1 x2 x3 x4 st)) (h_57 : ∀ (x0 : Nat) (x1 : Int32) (x2 : Int32) (x3 : Int32) (x4 : Int32) (x5 : Int32) (x6 : Int32) (x7 : Int32)  (st : St), WW X res NN 57 [(0, .ref (x_b X + x0)), (1, .int x1), (2, .int x2), (3, .int x3), (4, .int x4), (5, .int x5), (6, .int x6), (7, .int x7)] [] st (k_57 x0 x1 x2 x3 x4 x5 x6 x7 st)) (x0 : Nat) (x1 : Int32) (x2 : Int32) (x3 : Int32) (x4 : Int32) (x5 : Int32) (x6 : Int32) (x7 : Int32)  (st : St) : WW X res NN 57 [(0, .ref (x_b X + x0)), (1, .int x1), (2, .int x2), (3, .int x3), (4, .int x4), (5, .int x5), (6, .int x6), (7, .int x7)] [] st (b_X10_sendFrom_57_b fu k_5 k_57 x0 x1 x2 x3 x4 x5 x6 x7 st) := by
  have hX := B.1
  have hL := B.2.1
  unfold b_X10_sendFrom_57_b
  refine ww_iload hX 7 rfl dX10_sendFrom_57 ?_
  refine ww_iload hX 5 rfl dX10_sendFrom_59 ?_
  refine ww_icmp_ge (tgt := 95) hX dX10_sendFrom_61 (by decide) ?_ ?_
  · refine ww_aload_n hX 0 rfl dX10_sendFrom_95 rfl ?_
    refine ww_getR hX f_X10_27 (Or.inr ⟨_, rfl⟩) dX10_sendFrom_96 ?_
    refine ww_bdR (fun o7 => ?_)
    refine ww_iload_n hX 1 rfl dX10_sendFrom_99 rfl ?_
    refine ww_dup2_11 hX rfl rfl dX10_sendFrom_100 ?_
    refine ww_ialdc hX k_iald dX10_sendFrom_101 ?_
    refine ww_iload hX 6 rfl dX10_sendFrom_102 ?_
    refine ww_isub hX dX10_sendFrom_104 ?_
    refine ww_pc (b := 105) rfl ?_
    refine ww_iastc hX k_iast dX10_sendFrom_105 ?_
    refine ww_bds (fun s8 => ?_)
    refine ww_iload_n hX 3 rfl dX10_sendFrom_106 rfl ?_
    refine ww_iload hX 6 rfl dX10_sendFrom_107 ?_
    refine ww_iadd hX dX10_sendFrom_109 ?_
    refine ww_bdi (fun v9 => ?_)
    refine ww_istore_n (lv' := [(3, .int v9), (0, .ref (x_b X + x0)), (1, .int x1), (2, .int x2), (4, .int x4), (5, .int x5), (6, .int x6), (7, .int x7)]) hX hL dX10_sendFrom_110 rfl (by decide) rfl ?_
    refine ww_iincb (lv' := fun v10 => [(4, .int v10), (3, .int v9), (0, .ref (x_b X + x0)), (1, .int x1), (2, .int x2), (5, .int x5), (6, .int x6), (7, .int x7)]) (c := 1) hX hL 4 rfl dX10_sendFrom_111 rfl (by decide) (fun _ => rfl) (fun v10 => ?_)
    refine ww_goto (tgt := 5) hX dX10_sendFrom_114 (by decide) ?_
    exact ww_sub [2, 3, 4, 1, 0] rfl (h_5 x0 x1 x2 v9 v10  s8)
  · refine ww_aload_n hX 0 rfl dX10_sendFrom_64 rfl ?_
    refine ww_aload_n hX 0 rfl dX10_sendFrom_65 rfl ?_
    refine ww_getR hX f_X10_42 (Or.inr ⟨_, rfl⟩) dX10_sendFrom_66 ?_
    refine ww_bdR (fun o11 => ?_)
    refine ww_iload hX 7 rfl dX10_sendFrom_69 ?_
    refine ww_ialdc hX k_iald dX10_sendFrom_71 ?_
    refine ww_aload_n hX 0 rfl dX10_sendFrom_72 rfl ?_
    refine ww_getR hX f_X10_39 (Or.inr ⟨_, rfl⟩) dX10_sendFrom_73 ?_
    refine ww_bdR (fun o12 => ?_)
    refine ww_pc (b := 76) rfl ?_
    refine ww_aload_n hX 0 rfl dX10_sendFrom_76 rfl ?_
    refine ww_getR hX f_X10_42 (Or.inr ⟨_, rfl⟩) dX10_sendFrom_77 ?_
    refine ww_bdR (fun o13 => ?_)
    refine ww_iload hX 7 rfl dX10_sendFrom_80 ?_
    refine ww_ialdc hX k_iald dX10_sendFrom_82 ?_
    refine ww_ialdc hX k_iald dX10_sendFrom_83 ?_
    refine ww_iload hX 6 rfl dX10_sendFrom_84 ?_
    refine ww_callVV (As := [.int (gI st o11 (ix x7)), .int (gI st o12 (ix (gI st o13 (ix x7)))), .int x6]) (rest := []) (o := x0) hX (Rk.of B.2.2.1 B.2.2.2.1 (by decide) (by decide)) g_X10_93 g_X10_93.in (fun _ => c_X10_push (x_G X) (x_l X) fu x0 (gI st o11 (ix x7)) (gI st o12 (ix (gI st o13 (ix x7)))) x6 st) rfl rfl (Nat.le_of_ble_eq_true rfl) dX10_sendFrom_86 (fun s14 => ?_)
    refine ww_iincb (lv' := fun v15 => [(7, .int v15), (0, .ref (x_b X + x0)), (1, .int x1), (2, .int x2), (3, .int x3), (4, .int x4), (5, .int x5), (6, .int x6)]) (c := 1) hX hL 7 rfl dX10_sendFrom_89 rfl (by decide) (fun _ => rfl) (fun v15 => ?_)
    refine ww_pc (b := 92) rfl ?_
    refine ww_goto (tgt := 57) hX dX10_sendFrom_92 (by decide) ?_
    exact ww_sub [1, 2, 3, 4, 5, 6, 7, 0] rfl (h_57 x0 x1 x2 x3 x4 x5 x6 v15  s14)
def b_X10_sendFrom_57 (fu : Nat) (k_5 : Nat → Int32 → Int32 → Int32 → Int32 → St → Option (Int32 × St)) : Nat → Nat → Int32 → Int32 → Int32 → Int32 → Int32 → Int32 → Int32 → St → Option (Int32 × St)
  | 0, _, _, _, _, _, _, _, _, _ => none
  | i + 1, x0, x1, x2, x3, x4, x5, x6, x7, st => b_X10_sendFrom_57_b fu k_5 (b_X10_sendFrom_57 fu k_5 i) x0 x1 x2 x3 x4 x5 x6 x7 st
theorem t_X10_sendFrom_57 {X : CX} {res : Int32 × St} (B : BI X cX10_sendFrom RX10 8 4 NN (some .int) res) (fu : Nat) (k_5 : Nat → Int32 → Int32 → Int32 → Int32 → St → Option (Int32 × St)) (h_5 : ∀ (x0 : Nat) (x1 : Int32) (x2 : Int32) (x3 : Int32) (x4 : Int32)  (st : St), WW X res NN 5 [(0, .ref (x_b X + x0)), (1, .int x1), (2, .int x2), (3, .int x3), (4, .int x4)] [] st (k_5 x0 x1 x2 x3 x4 st)) : ∀ (i : Nat) (x0 : Nat) (x1 : Int32) (x2 : Int32) (x3 : Int32) (x4 : Int32) (x5 : Int32) (x6 : Int32) (x7 : Int32)  (st : St), WW X res NN 57 [(0, .ref (x_b X + x0)), (1, .int x1), (2, .int x2), (3, .int x3), (4, .int x4), (5, .int x5), (6, .int x6), (7, .int x7)] [] st (b_X10_sendFrom_57 fu k_5 i x0 x1 x2 x3 x4 x5 x6 x7 st) := by
  intro i
  induction i with
  | zero => intro x0 x1 x2 x3 x4 x5 x6 x7 st; exact ww_none
  | succ i ih => intro x0 x1 x2 x3 x4 x5 x6 x7 st; exact t_X10_sendFrom_57_b B fu k_5 (b_X10_sendFrom_57 fu k_5 i) h_5 ih x0 x1 x2 x3 x4 x5 x6 x7 st
def b_X10_sendFrom_5_b (fu : Nat) (k_5 : Nat → Int32 → Int32 → Int32 → Int32 → St → Option (Int32 × St)) (x0 : Nat) (x1 : Int32) (x2 : Int32) (x3 : Int32) (x4 : Int32)  (st : St) : Option (Int32 × St) :=
  if 60 ≤ x4 then (
  b_X10_sendFrom_117 fu x3  st)
  else (
  ck (¬ gR st x0 5 = 0) <|
  ck ((kd x0).1 = 10) <|
  bd (gR st x0 5) fun o1 =>
  ck ((kd o1).1 = 100 ∧ inb x1 (kd o1).2) <|
  if (gI st o1 (ix x1)) ≤ 0 then (
  b_X10_sendFrom_117 fu x3  st)
  else (
  ck ((kd x0).1 = 10) <|
  ca (f_X10_walk fu x0 (x1 * 51) x2 st) fun r2 s3 =>
  if 0 ≤ r2 then (
  ck (¬ gR s3 x0 5 = 0) <|
  ck ((kd x0).1 = 10) <|
  bd (gR s3 x0 5) fun o4 =>
  ck ((kd o4).1 = 100 ∧ inb x1 (kd o4).2) <|
  ck ((kd x0).1 = 10) <|
  ca (f_X10_narrowest fu x0 r2 (gI s3 o4 (ix x1)) s3) fun r5 s6 =>
  b_X10_sendFrom_57 fu k_5 fu x0 x1 x2 x3 x4 r2 r5 0  s6)
  else (
  b_X10_sendFrom_117 fu x3  s3)))
set_option maxHeartbeats 4000000 in
set_option maxRecDepth 100000 in
theorem t_X10_sendFrom_5_b {X : CX} {res : Int32 × St} (B : BI X cX10_sendFrom RX10 8 4 NN (some .int) res) (fu : Nat) (k_5 : Nat → Int32 → Int32 → Int32 → Int32 → St → Option (Int32 × St)) (h_5 : ∀ (x0 : Nat) (x1 : Int32) (x2 : Int32) (x3 : Int32) (x4 : Int32)  (st : St), WW X res NN 5 [(0, .ref (x_b X + x0)), (1, .int x1), (2, .int x2), (3, .int x3), (4, .int x4)] [] st (k_5 x0 x1 x2 x3 x4 st)) (x0 : Nat) (x1 : Int32) (x2 : Int32) (x3 : Int32) (x4 : Int32)  (st : St) : WW X res NN 5 [(0, .ref (x_b X + x0)), (1, .int x1), (2, .int x2), (3, .int x3), (4, .int x4)] [] st (b_X10_sendFrom_5_b fu k_5 x0 x1 x2 x3 x4 st) := by
  have hX := B.1
  have hL := B.2.1
  unfold b_X10_sendFrom_5_b
  refine ww_iload hX 4 rfl dX10_sendFrom_5 ?_
  refine ww_bipush (v := 60) hX rfl dX10_sendFrom_7 ?_
  refine ww_icmp_ge (tgt := 117) hX dX10_sendFrom_9 (by decide) ?_ ?_
  · exact ww_sub [3] rfl (t_X10_sendFrom_117 B fu x3  st)
  · refine ww_aload_n hX 0 rfl dX10_sendFrom_12 rfl ?_
    refine ww_getR hX f_X10_27 (Or.inr ⟨_, rfl⟩) dX10_sendFrom_13 ?_
    refine ww_bdR (fun o1 => ?_)
    refine ww_iload_n hX 1 rfl dX10_sendFrom_16 rfl ?_
    refine ww_ialdc hX k_iald dX10_sendFrom_17 ?_
    refine ww_if_le (tgt := 117) hX dX10_sendFrom_18 (by decide) ?_ ?_
    · exact ww_sub [3] rfl (t_X10_sendFrom_117 B fu x3  st)
    · refine ww_aload_n hX 0 rfl dX10_sendFrom_21 rfl ?_
      refine ww_iload_n hX 1 rfl dX10_sendFrom_22 rfl ?_
      refine ww_bipush (v := 51) hX rfl dX10_sendFrom_23 ?_
      refine ww_imul hX dX10_sendFrom_25 ?_
      refine ww_iload_n hX 2 rfl dX10_sendFrom_26 rfl ?_
      refine ww_callVI (As := [.int (x1 * 51), .int x2]) (rest := []) (o := x0) hX (Rk.of B.2.2.1 B.2.2.2.1 (by decide) (by decide)) g_X10_87 g_X10_87.in (fun _ => c_X10_walk (x_G X) (x_l X) fu x0 (x1 * 51) x2 st) rfl rfl (Nat.le_of_ble_eq_true rfl) dX10_sendFrom_27 (fun r2 s3 => ?_)
      refine ww_istore (lv' := [(5, .int r2), (0, .ref (x_b X + x0)), (1, .int x1), (2, .int x2), (3, .int x3), (4, .int x4)]) hX hL dX10_sendFrom_30 (by decide) rfl ?_
      refine ww_pc (b := 32) rfl ?_
      refine ww_iload hX 0 rfl dX10_sendFrom_32 ?_
      refine ww_if_ge (tgt := 40) hX dX10_sendFrom_34 (by decide) ?_ ?_
      · refine ww_aload_n hX 1 rfl dX10_sendFrom_40 rfl ?_
        refine ww_iload hX 0 rfl dX10_sendFrom_41 ?_
        refine ww_aload_n hX 1 rfl dX10_sendFrom_43 rfl ?_
        refine ww_getR hX f_X10_27 (Or.inr ⟨_, rfl⟩) dX10_sendFrom_44 ?_
        refine ww_bdR (fun o4 => ?_)
        refine ww_iload_n hX 2 rfl dX10_sendFrom_47 rfl ?_
        refine ww_ialdc hX k_iald dX10_sendFrom_48 ?_
        refine ww_callVI (As := [.int r2, .int (gI s3 o4 (ix x1))]) (rest := []) (o := x0) hX (Rk.of B.2.2.1 B.2.2.2.1 (by decide) (by decide)) g_X10_90 g_X10_90.in (fun _ => c_X10_narrowest (x_G X) (x_l X) fu x0 r2 (gI s3 o4 (ix x1)) s3) rfl rfl (Nat.le_of_ble_eq_true rfl) dX10_sendFrom_49 (fun r5 s6 => ?_)
        refine ww_pc (b := 52) rfl ?_
        refine ww_istore (lv' := [(6, .int r5), (5, .int r2), (0, .ref (x_b X + x0)), (1, .int x1), (2, .int x2), (3, .int x3), (4, .int x4)]) hX hL dX10_sendFrom_52 (by decide) rfl ?_
        refine ww_iconst (v := 0) hX rfl dX10_sendFrom_54 ?_
        refine ww_istore (lv' := [(7, .int 0), (6, .int r5), (5, .int r2), (0, .ref (x_b X + x0)), (1, .int x1), (2, .int x2), (3, .int x3), (4, .int x4)]) hX hL dX10_sendFrom_55 (by decide) rfl ?_
        exact ww_sub [3, 4, 5, 6, 7, 2, 1, 0] rfl (t_X10_sendFrom_57 B fu k_5 h_5 fu x0 x1 x2 x3 x4 r2 r5 0  s6)
      · refine ww_goto (tgt := 117) hX dX10_sendFrom_37 (by decide) ?_
        exact ww_sub [4] rfl (t_X10_sendFrom_117 B fu x3  s3)
def b_X10_sendFrom_5 (fu : Nat) : Nat → Nat → Int32 → Int32 → Int32 → Int32 → St → Option (Int32 × St)
  | 0, _, _, _, _, _, _ => none
  | i + 1, x0, x1, x2, x3, x4, st => b_X10_sendFrom_5_b fu (b_X10_sendFrom_5 fu i) x0 x1 x2 x3 x4 st
theorem t_X10_sendFrom_5 {X : CX} {res : Int32 × St} (B : BI X cX10_sendFrom RX10 8 4 NN (some .int) res) (fu : Nat) : ∀ (i : Nat) (x0 : Nat) (x1 : Int32) (x2 : Int32) (x3 : Int32) (x4 : Int32)  (st : St), WW X res NN 5 [(0, .ref (x_b X + x0)), (1, .int x1), (2, .int x2), (3, .int x3), (4, .int x4)] [] st (b_X10_sendFrom_5 fu i x0 x1 x2 x3 x4 st) := by
  intro i
  induction i with
  | zero => intro x0 x1 x2 x3 x4 st; exact ww_none
  | succ i ih => intro x0 x1 x2 x3 x4 st; exact t_X10_sendFrom_5_b B fu (b_X10_sendFrom_5 fu i) ih x0 x1 x2 x3 x4 st
def f_X10_sendFrom (fu : Nat) (th : Nat) (p1 : Int32) (p2 : Int32) (st : St) : Option (Int32 × St) :=
  b_X10_sendFrom_5 fu fu th p1 p2 0 0  st
set_option maxHeartbeats 4000000 in
set_option maxRecDepth 100000 in
theorem t_X10_sendFrom {X : CX} {res : Int32 × St} (B : BI X cX10_sendFrom RX10 8 4 NN (some .int) res) (fu : Nat) (th : Nat) (p1 : Int32) (p2 : Int32) (st : St) : WW X res NN 0 [(0, .ref (x_b X + th)), (1, .int p1), (2, .int p2)] [] st (f_X10_sendFrom fu th p1 p2 st) := by
  have hX := B.1
  have hL := B.2.1
  unfold f_X10_sendFrom
  refine ww_iconst (v := 0) hX rfl dX10_sendFrom_0 ?_
  refine ww_istore_n (lv' := [(3, .int 0), (0, .ref (x_b X + th)), (1, .int p1), (2, .int p2)]) hX hL dX10_sendFrom_1 rfl (by decide) rfl ?_
  refine ww_iconst (v := 0) hX rfl dX10_sendFrom_2 ?_
  refine ww_istore (lv' := [(4, .int 0), (3, .int 0), (0, .ref (x_b X + th)), (1, .int p1), (2, .int p2)]) hX hL dX10_sendFrom_3 (by decide) rfl ?_
  exact ww_sub [2, 3, 4, 1, 0] rfl (t_X10_sendFrom_5 B fu fu th p1 p2 0 0  st)
theorem c_X10_sendFrom (G : GX) (l : Launch) (fu : Nat) (th : Nat) (p1 : Int32) (p2 : Int32) (st : St) : MI G NN l yX10_sendFrom cX10_sendFrom 8 (some .int) 4 [.ref (G.2.2.1 + th), .int p1, .int p2] st (f_X10_sendFrom fu th p1 p2 st) := mkI (by decide) (Nat.le_of_ble_eq_true rfl) (fun X res hl hG B => by subst hl; subst hG; exact t_X10_sendFrom B fu th p1 p2 st)
/-! StageHouse$Ways.sendMore(I)I -/
def b_X10_sendMore_58 (fu : Nat) (x2 : Int32)  (st : St) : Option (Int32 × St) :=
  some (x2, st)
set_option maxHeartbeats 4000000 in
set_option maxRecDepth 100000 in
theorem t_X10_sendMore_58 {X : CX} {res : Int32 × St} (B : BI X cX10_sendMore RX10 5 5 NN (some .int) res) (fu : Nat) (x2 : Int32)  (st : St) : WW X res NN 58 [(2, .int x2)] [] st (b_X10_sendMore_58 fu x2 st) := by
  have hX := B.1
  have hL := B.2.1
  unfold b_X10_sendMore_58
  refine ww_iload_n hX 0 rfl dX10_sendMore_58 rfl ?_
  exact ww_iret B dX10_sendMore_59
def b_X10_sendMore_29_b (fu : Nat) (k_4 : Nat → Int32 → Int32 → Int32 → St → Option (Int32 × St)) (k_29 : Nat → Int32 → Int32 → Int32 → Int32 → St → Option (Int32 × St)) (x0 : Nat) (x1 : Int32) (x2 : Int32) (x3 : Int32) (x4 : Int32)  (st : St) : Option (Int32 × St) :=
  if 11 ≤ x4 then (
  bd (x3 + 1) fun v5 =>
  k_4 x0 x1 x2 v5  st)
  else (
  ck ((kd x0).1 = 10) <|
  ca (f_X10_sendFrom fu x0 x4 x1 st) fun r6 s7 =>
  bd (x2 + r6) fun v8 =>
  bd (x4 + 1) fun v9 =>
  k_29 x0 x1 v8 x3 v9  s7)
set_option maxHeartbeats 4000000 in
set_option maxRecDepth 100000 in
theorem t_X10_sendMore_29_b {X : CX} {res : Int32 × St} (B : BI X cX10_sendMore RX10 5 5 NN (some .int) res) (fu : Nat) (k_4 : Nat → Int32 → Int32 → Int32 → St → Option (Int32 × St)) (k_29 : Nat → Int32 → Int32 → Int32 → Int32 → St → Option (Int32 × St)) (h_4 : ∀ (x0 : Nat) (x1 : Int32) (x2 : Int32) (x3 : Int32)  (st : St), WW X res NN 4 [(0, .ref (x_b X + x0)), (1, .int x1), (2, .int x2), (3, .int x3)] [] st (k_4 x0 x1 x2 x3 st)) (h_29 : ∀ (x0 : Nat) (x1 : Int32) (x2 : Int32) (x3 : Int32) (x4 : Int32)  (st : St), WW X res NN 29 [(0, .ref (x_b X + x0)), (1, .int x1), (2, .int x2), (3, .int x3), (4, .int x4)] [] st (k_29 x0 x1 x2 x3 x4 st)) (x0 : Nat) (x1 : Int32) (x2 : Int32) (x3 : Int32) (x4 : Int32)  (st : St) : WW X res NN 29 [(0, .ref (x_b X + x0)), (1, .int x1), (2, .int x2), (3, .int x3), (4, .int x4)] [] st (b_X10_sendMore_29_b fu k_4 k_29 x0 x1 x2 x3 x4 st) := by
  have hX := B.1
  have hL := B.2.1
  unfold b_X10_sendMore_29_b
  refine ww_iload hX 4 rfl dX10_sendMore_29 ?_
  refine ww_bipush (v := 11) hX rfl dX10_sendMore_31 ?_
  refine ww_icmp_ge (tgt := 52) hX dX10_sendMore_33 (by decide) ?_ ?_
  · refine ww_iincb (lv' := fun v5 => [(3, .int v5), (0, .ref (x_b X + x0)), (1, .int x1), (2, .int x2), (4, .int x4)]) (c := 1) hX hL 3 rfl dX10_sendMore_52 rfl (by decide) (fun _ => rfl) (fun v5 => ?_)
    refine ww_goto (tgt := 4) hX dX10_sendMore_55 (by decide) ?_
    exact ww_sub [1, 2, 3, 0] rfl (h_4 x0 x1 x2 v5  st)
  · refine ww_iload_n hX 2 rfl dX10_sendMore_36 rfl ?_
    refine ww_aload_n hX 0 rfl dX10_sendMore_37 rfl ?_
    refine ww_iload hX 4 rfl dX10_sendMore_38 ?_
    refine ww_iload_n hX 1 rfl dX10_sendMore_40 rfl ?_
    refine ww_callVI (As := [.int x4, .int x1]) (rest := [.int x2]) (o := x0) hX (Rk.of B.2.2.1 B.2.2.2.1 (by decide) (by decide)) g_X10_84 g_X10_84.in (fun _ => c_X10_sendFrom (x_G X) (x_l X) fu x0 x4 x1 st) rfl rfl (Nat.le_of_ble_eq_true rfl) dX10_sendMore_41 (fun r6 s7 => ?_)
    refine ww_iadd hX dX10_sendMore_44 ?_
    refine ww_bdi (fun v8 => ?_)
    refine ww_istore_n (lv' := [(2, .int v8), (0, .ref (x_b X + x0)), (1, .int x1), (3, .int x3), (4, .int x4)]) hX hL dX10_sendMore_45 rfl (by decide) rfl ?_
    refine ww_pc (b := 46) rfl ?_
    refine ww_iincb (lv' := fun v9 => [(4, .int v9), (2, .int v8), (0, .ref (x_b X + x0)), (1, .int x1), (3, .int x3)]) (c := 1) hX hL 4 rfl dX10_sendMore_46 rfl (by decide) (fun _ => rfl) (fun v9 => ?_)
    refine ww_goto (tgt := 29) hX dX10_sendMore_49 (by decide) ?_
    exact ww_sub [2, 3, 1, 4, 0] rfl (h_29 x0 x1 v8 x3 v9  s7)
def b_X10_sendMore_29 (fu : Nat) (k_4 : Nat → Int32 → Int32 → Int32 → St → Option (Int32 × St)) : Nat → Nat → Int32 → Int32 → Int32 → Int32 → St → Option (Int32 × St)
  | 0, _, _, _, _, _, _ => none
  | i + 1, x0, x1, x2, x3, x4, st => b_X10_sendMore_29_b fu k_4 (b_X10_sendMore_29 fu k_4 i) x0 x1 x2 x3 x4 st
theorem t_X10_sendMore_29 {X : CX} {res : Int32 × St} (B : BI X cX10_sendMore RX10 5 5 NN (some .int) res) (fu : Nat) (k_4 : Nat → Int32 → Int32 → Int32 → St → Option (Int32 × St)) (h_4 : ∀ (x0 : Nat) (x1 : Int32) (x2 : Int32) (x3 : Int32)  (st : St), WW X res NN 4 [(0, .ref (x_b X + x0)), (1, .int x1), (2, .int x2), (3, .int x3)] [] st (k_4 x0 x1 x2 x3 st)) : ∀ (i : Nat) (x0 : Nat) (x1 : Int32) (x2 : Int32) (x3 : Int32) (x4 : Int32)  (st : St), WW X res NN 29 [(0, .ref (x_b X + x0)), (1, .int x1), (2, .int x2), (3, .int x3), (4, .int x4)] [] st (b_X10_sendMore_29 fu k_4 i x0 x1 x2 x3 x4 st) := by
  intro i
  induction i with
  | zero => intro x0 x1 x2 x3 x4 st; exact ww_none
  | succ i ih => intro x0 x1 x2 x3 x4 st; exact t_X10_sendMore_29_b B fu k_4 (b_X10_sendMore_29 fu k_4 i) h_4 ih x0 x1 x2 x3 x4 st
def b_X10_sendMore_4_b (fu : Nat) (k_4 : Nat → Int32 → Int32 → Int32 → St → Option (Int32 × St)) (x0 : Nat) (x1 : Int32) (x2 : Int32) (x3 : Int32)  (st : St) : Option (Int32 × St) :=
  if 1000000 ≤ x3 then (
  b_X10_sendMore_58 fu x2  st)
  else (
  ck ((kd x0).1 = 10) <|
  ca (f_X10_layer fu x0 x1 st) fun r1 s2 =>
  if r1 = 0 then (
  b_X10_sendMore_58 fu x2  s2)
  else (
  ck (¬ gR s2 x0 9 = 0) <|
  ck ((kd x0).1 = 10) <|
  bd (gR s2 x0 9) fun o3 =>
  cv (f_J7_fill_53178 fu o3 0 s2) fun s4 =>
  b_X10_sendMore_29 fu k_4 fu x0 x1 x2 x3 0  s4))
set_option maxHeartbeats 4000000 in
set_option maxRecDepth 100000 in
theorem t_X10_sendMore_4_b {X : CX} {res : Int32 × St} (B : BI X cX10_sendMore RX10 5 5 NN (some .int) res) (fu : Nat) (k_4 : Nat → Int32 → Int32 → Int32 → St → Option (Int32 × St)) (h_4 : ∀ (x0 : Nat) (x1 : Int32) (x2 : Int32) (x3 : Int32)  (st : St), WW X res NN 4 [(0, .ref (x_b X + x0)), (1, .int x1), (2, .int x2), (3, .int x3)] [] st (k_4 x0 x1 x2 x3 st)) (x0 : Nat) (x1 : Int32) (x2 : Int32) (x3 : Int32)  (st : St) : WW X res NN 4 [(0, .ref (x_b X + x0)), (1, .int x1), (2, .int x2), (3, .int x3)] [] st (b_X10_sendMore_4_b fu k_4 x0 x1 x2 x3 st) := by
  have hX := B.1
  have hL := B.2.1
  unfold b_X10_sendMore_4_b
  refine ww_iload_n hX 3 rfl dX10_sendMore_4 rfl ?_
  refine ww_ldc (v := 1000000) hX k_X10_73 dX10_sendMore_5 ?_
  refine ww_icmp_ge (tgt := 58) hX dX10_sendMore_7 (by decide) ?_ ?_
  · exact ww_sub [2] rfl (t_X10_sendMore_58 B fu x2  st)
  · refine ww_aload_n hX 0 rfl dX10_sendMore_10 rfl ?_
    refine ww_iload_n hX 1 rfl dX10_sendMore_11 rfl ?_
    refine ww_callVI (As := [.int x1]) (rest := []) (o := x0) hX (Rk.of B.2.2.1 B.2.2.2.1 (by decide) (by decide)) g_X10_80 g_X10_80.in (fun _ => c_X10_layer (x_G X) (x_l X) fu x0 x1 st) rfl rfl (Nat.le_of_ble_eq_true rfl) dX10_sendMore_12 (fun r1 s2 => ?_)
    refine ww_if_eq (tgt := 58) hX dX10_sendMore_15 (by decide) ?_ ?_
    · exact ww_sub [2] rfl (t_X10_sendMore_58 B fu x2  s2)
    · refine ww_aload_n hX 0 rfl dX10_sendMore_18 rfl ?_
      refine ww_getR hX f_X10_39 (Or.inr ⟨_, rfl⟩) dX10_sendMore_19 ?_
      refine ww_bdR (fun o3 => ?_)
      refine ww_iconst (v := 0) hX rfl dX10_sendMore_22 ?_
      refine ww_callSV (As := [.ref (x_b X + o3), .int 0]) (rest := []) hX (Rk.of B.2.2.1 B.2.2.2.1 (by decide) (by decide)) g_X10_59 (c_J7_fill_53178 (x_G X) (x_l X) fu o3 0 s2) rfl rfl (Nat.le_of_ble_eq_true rfl) dX10_sendMore_23 (fun s4 => ?_)
      refine ww_iconst (v := 0) hX rfl dX10_sendMore_26 ?_
      refine ww_istore (lv' := [(4, .int 0), (0, .ref (x_b X + x0)), (1, .int x1), (2, .int x2), (3, .int x3)]) hX hL dX10_sendMore_27 (by decide) rfl ?_
      exact ww_sub [1, 2, 3, 4, 0] rfl (t_X10_sendMore_29 B fu k_4 h_4 fu x0 x1 x2 x3 0  s4)
def b_X10_sendMore_4 (fu : Nat) : Nat → Nat → Int32 → Int32 → Int32 → St → Option (Int32 × St)
  | 0, _, _, _, _, _ => none
  | i + 1, x0, x1, x2, x3, st => b_X10_sendMore_4_b fu (b_X10_sendMore_4 fu i) x0 x1 x2 x3 st
theorem t_X10_sendMore_4 {X : CX} {res : Int32 × St} (B : BI X cX10_sendMore RX10 5 5 NN (some .int) res) (fu : Nat) : ∀ (i : Nat) (x0 : Nat) (x1 : Int32) (x2 : Int32) (x3 : Int32)  (st : St), WW X res NN 4 [(0, .ref (x_b X + x0)), (1, .int x1), (2, .int x2), (3, .int x3)] [] st (b_X10_sendMore_4 fu i x0 x1 x2 x3 st) := by
  intro i
  induction i with
  | zero => intro x0 x1 x2 x3 st; exact ww_none
  | succ i ih => intro x0 x1 x2 x3 st; exact t_X10_sendMore_4_b B fu (b_X10_sendMore_4 fu i) ih x0 x1 x2 x3 st
def f_X10_sendMore (fu : Nat) (th : Nat) (p1 : Int32) (st : St) : Option (Int32 × St) :=
  b_X10_sendMore_4 fu fu th p1 0 0  st
set_option maxHeartbeats 4000000 in
set_option maxRecDepth 100000 in
theorem t_X10_sendMore {X : CX} {res : Int32 × St} (B : BI X cX10_sendMore RX10 5 5 NN (some .int) res) (fu : Nat) (th : Nat) (p1 : Int32) (st : St) : WW X res NN 0 [(0, .ref (x_b X + th)), (1, .int p1)] [] st (f_X10_sendMore fu th p1 st) := by
  have hX := B.1
  have hL := B.2.1
  unfold f_X10_sendMore
  refine ww_iconst (v := 0) hX rfl dX10_sendMore_0 ?_
  refine ww_istore_n (lv' := [(2, .int 0), (0, .ref (x_b X + th)), (1, .int p1)]) hX hL dX10_sendMore_1 rfl (by decide) rfl ?_
  refine ww_iconst (v := 0) hX rfl dX10_sendMore_2 ?_
  refine ww_istore_n (lv' := [(3, .int 0), (2, .int 0), (0, .ref (x_b X + th)), (1, .int p1)]) hX hL dX10_sendMore_3 rfl (by decide) rfl ?_
  exact ww_sub [2, 3, 1, 0] rfl (t_X10_sendMore_4 B fu fu th p1 0 0  st)
theorem c_X10_sendMore (G : GX) (l : Launch) (fu : Nat) (th : Nat) (p1 : Int32) (st : St) : MI G NN l yX10_sendMore cX10_sendMore 5 (some .int) 5 [.ref (G.2.2.1 + th), .int p1] st (f_X10_sendMore fu th p1 st) := mkI (by decide) (Nat.le_of_ble_eq_true rfl) (fun X res hl hG B => by subst hl; subst hG; exact t_X10_sendMore B fu th p1 st)
/-! StageHouse$Ways.slowest()I -/
def b_X10_slowest_149 (fu : Nat) (k_123 : Nat → Int32 → Int32 → St → Option (Int32 × St)) (x0 : Nat) (x2 : Int32) (x3 : Int32)  (st : St) : Option (Int32 × St) :=
  bd (x3 + 1) fun v4 =>
  k_123 x0 x2 v4  st
set_option maxHeartbeats 4000000 in
set_option maxRecDepth 100000 in
theorem t_X10_slowest_149 {X : CX} {res : Int32 × St} (B : BI X cX10_slowest RX10 5 2 NN (some .int) res) (fu : Nat) (k_123 : Nat → Int32 → Int32 → St → Option (Int32 × St)) (h_123 : ∀ (x0 : Nat) (x2 : Int32) (x3 : Int32)  (st : St), WW X res NN 123 [(0, .ref (x_b X + x0)), (2, .int x2), (3, .int x3)] [] st (k_123 x0 x2 x3 st)) (x0 : Nat) (x2 : Int32) (x3 : Int32)  (st : St) : WW X res NN 149 [(0, .ref (x_b X + x0)), (2, .int x2), (3, .int x3)] [] st (b_X10_slowest_149 fu k_123 x0 x2 x3 st) := by
  have hX := B.1
  have hL := B.2.1
  unfold b_X10_slowest_149
  refine ww_iincb (lv' := fun v4 => [(3, .int v4), (0, .ref (x_b X + x0)), (2, .int x2)]) (c := 1) hX hL 2 rfl dX10_slowest_149 rfl (by decide) (fun _ => rfl) (fun v4 => ?_)
  refine ww_goto (tgt := 123) hX dX10_slowest_152 (by decide) ?_
  exact ww_sub [1, 2, 0] rfl (h_123 x0 x2 v4  st)
def b_X10_slowest_123_b (fu : Nat) (k_123 : Nat → Int32 → Int32 → St → Option (Int32 × St)) (x0 : Nat) (x2 : Int32) (x3 : Int32)  (st : St) : Option (Int32 × St) :=
  if 11 ≤ x3 then (
  some (x2, st))
  else (
  ck (¬ gR st x0 4 = 0) <|
  ck ((kd x0).1 = 10) <|
  bd (gR st x0 4) fun o3 =>
  ck ((kd o3).1 = 100 ∧ inb x3 (kd o3).2) <|
  if (gI st o3 (ix x3)) ≤ 0 then (
  b_X10_slowest_149 fu k_123 x0 x2 x3  st)
  else (
  ck (¬ gR st x0 9 = 0) <|
  ck ((kd x0).1 = 10) <|
  bd (gR st x0 9) fun o5 =>
  ck ((kd o5).1 = 100 ∧ inb x3 (kd o5).2) <|
  ca (f_J9_max_7cf53 fu x2 (gI st o5 (ix x3)) st) fun r6 s7 =>
  b_X10_slowest_149 fu k_123 x0 r6 x3  s7))
set_option maxHeartbeats 4000000 in
set_option maxRecDepth 100000 in
theorem t_X10_slowest_123_b {X : CX} {res : Int32 × St} (B : BI X cX10_slowest RX10 5 2 NN (some .int) res) (fu : Nat) (k_123 : Nat → Int32 → Int32 → St → Option (Int32 × St)) (h_123 : ∀ (x0 : Nat) (x2 : Int32) (x3 : Int32)  (st : St), WW X res NN 123 [(0, .ref (x_b X + x0)), (2, .int x2), (3, .int x3)] [] st (k_123 x0 x2 x3 st)) (x0 : Nat) (x2 : Int32) (x3 : Int32)  (st : St) : WW X res NN 123 [(0, .ref (x_b X + x0)), (2, .int x2), (3, .int x3)] [] st (b_X10_slowest_123_b fu k_123 x0 x2 x3 st) := by
  have hX := B.1
  have hL := B.2.1
  unfold b_X10_slowest_123_b
  refine ww_iload_n hX 2 rfl dX10_slowest_123 rfl ?_
  refine ww_bipush (v := 11) hX rfl dX10_slowest_124 ?_
  refine ww_icmp_ge (tgt := 155) hX dX10_slowest_126 (by decide) ?_ ?_
  · refine ww_iload_n hX 1 rfl dX10_slowest_155 rfl ?_
    exact ww_iret B dX10_slowest_156
  · refine ww_aload_n hX 0 rfl dX10_slowest_129 rfl ?_
    refine ww_getR hX f_X10_24 (Or.inr ⟨_, rfl⟩) dX10_slowest_130 ?_
    refine ww_bdR (fun o3 => ?_)
    refine ww_iload_n hX 2 rfl dX10_slowest_133 rfl ?_
    refine ww_ialdc hX k_iald dX10_slowest_134 ?_
    refine ww_if_le (tgt := 149) hX dX10_slowest_135 (by decide) ?_ ?_
    · exact t_X10_slowest_149 B fu k_123 h_123 x0 x2 x3  st
    · refine ww_iload_n hX 1 rfl dX10_slowest_138 rfl ?_
      refine ww_aload_n hX 0 rfl dX10_slowest_139 rfl ?_
      refine ww_getR hX f_X10_39 (Or.inr ⟨_, rfl⟩) dX10_slowest_140 ?_
      refine ww_bdR (fun o5 => ?_)
      refine ww_iload_n hX 2 rfl dX10_slowest_143 rfl ?_
      refine ww_ialdc hX k_iald dX10_slowest_144 ?_
      refine ww_callSI (As := [.int x2, .int (gI st o5 (ix x3))]) (rest := []) hX (Rk.of B.2.2.1 B.2.2.2.1 (by decide) (by decide)) g_X10_74 (c_J9_max_7cf53 (x_G X) (x_l X) fu x2 (gI st o5 (ix x3)) st) rfl rfl (Nat.le_of_ble_eq_true rfl) dX10_slowest_145 (fun r6 s7 => ?_)
      refine ww_istore_n (lv' := [(2, .int r6), (0, .ref (x_b X + x0)), (3, .int x3)]) hX hL dX10_slowest_148 rfl (by decide) rfl ?_
      exact ww_sub [1, 0, 2] rfl (t_X10_slowest_149 B fu k_123 h_123 x0 r6 x3  s7)
def b_X10_slowest_123 (fu : Nat) : Nat → Nat → Int32 → Int32 → St → Option (Int32 × St)
  | 0, _, _, _, _ => none
  | i + 1, x0, x2, x3, st => b_X10_slowest_123_b fu (b_X10_slowest_123 fu i) x0 x2 x3 st
theorem t_X10_slowest_123 {X : CX} {res : Int32 × St} (B : BI X cX10_slowest RX10 5 2 NN (some .int) res) (fu : Nat) : ∀ (i : Nat) (x0 : Nat) (x2 : Int32) (x3 : Int32)  (st : St), WW X res NN 123 [(0, .ref (x_b X + x0)), (2, .int x2), (3, .int x3)] [] st (b_X10_slowest_123 fu i x0 x2 x3 st) := by
  intro i
  induction i with
  | zero => intro x0 x2 x3 st; exact ww_none
  | succ i ih => intro x0 x2 x3 st; exact t_X10_slowest_123_b B fu (b_X10_slowest_123 fu i) ih x0 x2 x3 st
def b_X10_slowest_119 (fu : Nat) (x0 : Nat)  (st : St) : Option (Int32 × St) :=
  b_X10_slowest_123 fu fu x0 0 0  st
set_option maxHeartbeats 4000000 in
set_option maxRecDepth 100000 in
theorem t_X10_slowest_119 {X : CX} {res : Int32 × St} (B : BI X cX10_slowest RX10 5 2 NN (some .int) res) (fu : Nat) (x0 : Nat)  (st : St) : WW X res NN 119 [(0, .ref (x_b X + x0))] [] st (b_X10_slowest_119 fu x0 st) := by
  have hX := B.1
  have hL := B.2.1
  unfold b_X10_slowest_119
  refine ww_iconst (v := 0) hX rfl dX10_slowest_119 ?_
  refine ww_istore_n (lv' := [(2, .int 0), (0, .ref (x_b X + x0))]) hX hL dX10_slowest_120 rfl (by decide) rfl ?_
  refine ww_iconst (v := 0) hX rfl dX10_slowest_121 ?_
  refine ww_istore_n (lv' := [(3, .int 0), (2, .int 0), (0, .ref (x_b X + x0))]) hX hL dX10_slowest_122 rfl (by decide) rfl ?_
  exact ww_sub [2, 1, 0] rfl (t_X10_slowest_123 B fu fu x0 0 0  st)
def b_X10_slowest_107 (fu : Nat) (k_34 : Nat → Int32 → Int32 → St → Option (Int32 × St)) (k_48 : Nat → Int32 → Int32 → Int32 → St → Option (Int32 × St)) (x0 : Nat) (x1 : Int32) (x2 : Int32) (x3 : Int32)  (st : St) : Option (Int32 × St) :=
  bd (x3 + 1) fun v15 =>
  k_48 x0 x1 x2 v15  st
set_option maxHeartbeats 4000000 in
set_option maxRecDepth 100000 in
theorem t_X10_slowest_107 {X : CX} {res : Int32 × St} (B : BI X cX10_slowest RX10 5 2 NN (some .int) res) (fu : Nat) (k_34 : Nat → Int32 → Int32 → St → Option (Int32 × St)) (k_48 : Nat → Int32 → Int32 → Int32 → St → Option (Int32 × St)) (h_34 : ∀ (x0 : Nat) (x1 : Int32) (x2 : Int32)  (st : St), WW X res NN 34 [(0, .ref (x_b X + x0)), (1, .int x1), (2, .int x2)] [] st (k_34 x0 x1 x2 st)) (h_48 : ∀ (x0 : Nat) (x1 : Int32) (x2 : Int32) (x3 : Int32)  (st : St), WW X res NN 48 [(0, .ref (x_b X + x0)), (1, .int x1), (2, .int x2), (3, .int x3)] [] st (k_48 x0 x1 x2 x3 st)) (x0 : Nat) (x1 : Int32) (x2 : Int32) (x3 : Int32)  (st : St) : WW X res NN 107 [(0, .ref (x_b X + x0)), (1, .int x1), (2, .int x2), (3, .int x3)] [] st (b_X10_slowest_107 fu k_34 k_48 x0 x1 x2 x3 st) := by
  have hX := B.1
  have hL := B.2.1
  unfold b_X10_slowest_107
  refine ww_iincb (lv' := fun v15 => [(3, .int v15), (0, .ref (x_b X + x0)), (1, .int x1), (2, .int x2)]) (c := 1) hX hL 3 rfl dX10_slowest_107 rfl (by decide) (fun _ => rfl) (fun v15 => ?_)
  refine ww_goto (tgt := 48) hX dX10_slowest_110 (by decide) ?_
  exact ww_sub [1, 2, 3, 0] rfl (h_48 x0 x1 x2 v15  st)
def b_X10_slowest_48_b (fu : Nat) (k_34 : Nat → Int32 → Int32 → St → Option (Int32 × St)) (k_48 : Nat → Int32 → Int32 → Int32 → St → Option (Int32 × St)) (x0 : Nat) (x1 : Int32) (x2 : Int32) (x3 : Int32)  (st : St) : Option (Int32 × St) :=
  ck ((kd x0).1 = 10) <|
  if (gI st x0 13) ≤ x3 then (
  bd (x2 + 1) fun v8 =>
  k_34 x0 x1 v8  st)
  else (
  ck (¬ gR st x0 9 = 0) <|
  ck ((kd x0).1 = 10) <|
  bd (gR st x0 9) fun o9 =>
  ck (¬ gR st x0 1 = 0) <|
  ck ((kd x0).1 = 10) <|
  bd (gR st x0 1) fun o10 =>
  ck ((kd o10).1 = 100 ∧ inb x3 (kd o10).2) <|
  ck ((kd o9).1 = 100 ∧ inb (gI st o10 (ix x3)) (kd o9).2) <|
  ck (¬ gR st x0 3 = 0) <|
  ck ((kd x0).1 = 10) <|
  bd (gR st x0 3) fun o11 =>
  ck ((kd o11).1 = 100 ∧ inb x3 (kd o11).2) <|
  bd ((gI st o9 (ix (gI st o10 (ix x3)))) + (gI st o11 (ix x3))) fun v12 =>
  ck (¬ gR st x0 9 = 0) <|
  ck ((kd x0).1 = 10) <|
  bd (gR st x0 9) fun o13 =>
  ck (¬ gR st x0 0 = 0) <|
  ck ((kd x0).1 = 10) <|
  bd (gR st x0 0) fun o14 =>
  ck ((kd o14).1 = 100 ∧ inb x3 (kd o14).2) <|
  ck ((kd o13).1 = 100 ∧ inb (gI st o14 (ix x3)) (kd o13).2) <|
  if (gI st o13 (ix (gI st o14 (ix x3)))) ≤ v12 then (
  b_X10_slowest_107 fu k_34 k_48 x0 x1 x2 x3  st)
  else (
  ck (¬ gR st x0 9 = 0) <|
  ck ((kd x0).1 = 10) <|
  bd (gR st x0 9) fun o16 =>
  ck (¬ gR st x0 0 = 0) <|
  ck ((kd x0).1 = 10) <|
  bd (gR st x0 0) fun o17 =>
  ck ((kd o17).1 = 100 ∧ inb x3 (kd o17).2) <|
  ck ((kd o16).1 = 100 ∧ inb (gI st o17 (ix x3)) (kd o16).2) <|
  bd (sI st o16 (ix (gI st o17 (ix x3))) v12) fun s18 =>
  b_X10_slowest_107 fu k_34 k_48 x0 1 x2 x3  s18))
set_option maxHeartbeats 4000000 in
set_option maxRecDepth 100000 in
theorem t_X10_slowest_48_b {X : CX} {res : Int32 × St} (B : BI X cX10_slowest RX10 5 2 NN (some .int) res) (fu : Nat) (k_34 : Nat → Int32 → Int32 → St → Option (Int32 × St)) (k_48 : Nat → Int32 → Int32 → Int32 → St → Option (Int32 × St)) (h_34 : ∀ (x0 : Nat) (x1 : Int32) (x2 : Int32)  (st : St), WW X res NN 34 [(0, .ref (x_b X + x0)), (1, .int x1), (2, .int x2)] [] st (k_34 x0 x1 x2 st)) (h_48 : ∀ (x0 : Nat) (x1 : Int32) (x2 : Int32) (x3 : Int32)  (st : St), WW X res NN 48 [(0, .ref (x_b X + x0)), (1, .int x1), (2, .int x2), (3, .int x3)] [] st (k_48 x0 x1 x2 x3 st)) (x0 : Nat) (x1 : Int32) (x2 : Int32) (x3 : Int32)  (st : St) : WW X res NN 48 [(0, .ref (x_b X + x0)), (1, .int x1), (2, .int x2), (3, .int x3)] [] st (b_X10_slowest_48_b fu k_34 k_48 x0 x1 x2 x3 st) := by
  have hX := B.1
  have hL := B.2.1
  unfold b_X10_slowest_48_b
  refine ww_iload_n hX 3 rfl dX10_slowest_48 rfl ?_
  refine ww_aload_n hX 0 rfl dX10_slowest_49 rfl ?_
  refine ww_getI hX f_X10_51 (Or.inl rfl) dX10_slowest_50 ?_
  refine ww_icmp_ge (tgt := 113) hX dX10_slowest_53 (by decide) ?_ ?_
  · refine ww_iincb (lv' := fun v8 => [(2, .int v8), (0, .ref (x_b X + x0)), (1, .int x1), (3, .int x3)]) (c := 1) hX hL 2 rfl dX10_slowest_113 rfl (by decide) (fun _ => rfl) (fun v8 => ?_)
    refine ww_goto (tgt := 34) hX dX10_slowest_116 (by decide) ?_
    exact ww_sub [1, 2, 0] rfl (h_34 x0 x1 v8  st)
  · refine ww_aload_n hX 0 rfl dX10_slowest_56 rfl ?_
    refine ww_getR hX f_X10_39 (Or.inr ⟨_, rfl⟩) dX10_slowest_57 ?_
    refine ww_bdR (fun o9 => ?_)
    refine ww_aload_n hX 0 rfl dX10_slowest_60 rfl ?_
    refine ww_getR hX f_X10_15 (Or.inr ⟨_, rfl⟩) dX10_slowest_61 ?_
    refine ww_bdR (fun o10 => ?_)
    refine ww_iload_n hX 3 rfl dX10_slowest_64 rfl ?_
    refine ww_ialdc hX k_iald dX10_slowest_65 ?_
    refine ww_ialdc hX k_iald dX10_slowest_66 ?_
    refine ww_pc (b := 67) rfl ?_
    refine ww_aload_n hX 0 rfl dX10_slowest_67 rfl ?_
    refine ww_getR hX f_X10_21 (Or.inr ⟨_, rfl⟩) dX10_slowest_68 ?_
    refine ww_bdR (fun o11 => ?_)
    refine ww_iload_n hX 3 rfl dX10_slowest_71 rfl ?_
    refine ww_ialdc hX k_iald dX10_slowest_72 ?_
    refine ww_iadd hX dX10_slowest_73 ?_
    refine ww_bdi (fun v12 => ?_)
    refine ww_istore (lv' := [(4, .int v12), (0, .ref (x_b X + x0)), (1, .int x1), (2, .int x2), (3, .int x3)]) hX hL dX10_slowest_74 (by decide) rfl ?_
    refine ww_iload hX 0 rfl dX10_slowest_76 ?_
    refine ww_aload_n hX 1 rfl dX10_slowest_78 rfl ?_
    refine ww_pc (b := 79) rfl ?_
    refine ww_getR hX f_X10_39 (Or.inr ⟨_, rfl⟩) dX10_slowest_79 ?_
    refine ww_bdR (fun o13 => ?_)
    refine ww_aload_n hX 1 rfl dX10_slowest_82 rfl ?_
    refine ww_getR hX f_X10_11 (Or.inr ⟨_, rfl⟩) dX10_slowest_83 ?_
    refine ww_bdR (fun o14 => ?_)
    refine ww_iload_n hX 4 rfl dX10_slowest_86 rfl ?_
    refine ww_ialdc hX k_iald dX10_slowest_87 ?_
    refine ww_ialdc hX k_iald dX10_slowest_88 ?_
    refine ww_icmp_ge (tgt := 107) hX dX10_slowest_89 (by decide) ?_ ?_
    · exact ww_sub [1, 2, 3, 4] rfl (t_X10_slowest_107 B fu k_34 k_48 h_34 h_48 x0 x1 x2 x3  st)
    · refine ww_aload_n hX 1 rfl dX10_slowest_92 rfl ?_
      refine ww_getR hX f_X10_39 (Or.inr ⟨_, rfl⟩) dX10_slowest_93 ?_
      refine ww_bdR (fun o16 => ?_)
      refine ww_aload_n hX 1 rfl dX10_slowest_96 rfl ?_
      refine ww_getR hX f_X10_11 (Or.inr ⟨_, rfl⟩) dX10_slowest_97 ?_
      refine ww_bdR (fun o17 => ?_)
      refine ww_iload_n hX 4 rfl dX10_slowest_100 rfl ?_
      refine ww_ialdc hX k_iald dX10_slowest_101 ?_
      refine ww_iload hX 0 rfl dX10_slowest_102 ?_
      refine ww_pc (b := 104) rfl ?_
      refine ww_iastc hX k_iast dX10_slowest_104 ?_
      refine ww_bds (fun s18 => ?_)
      refine ww_iconst (v := 1) hX rfl dX10_slowest_105 ?_
      refine ww_istore_n (lv' := [(1, .int 1), (4, .int v12), (0, .ref (x_b X + x0)), (2, .int x2), (3, .int x3)]) hX hL dX10_slowest_106 rfl (by decide) rfl ?_
      exact ww_sub [2, 0, 3, 4] rfl (t_X10_slowest_107 B fu k_34 k_48 h_34 h_48 x0 1 x2 x3  s18)
def b_X10_slowest_48 (fu : Nat) (k_34 : Nat → Int32 → Int32 → St → Option (Int32 × St)) : Nat → Nat → Int32 → Int32 → Int32 → St → Option (Int32 × St)
  | 0, _, _, _, _, _ => none
  | i + 1, x0, x1, x2, x3, st => b_X10_slowest_48_b fu k_34 (b_X10_slowest_48 fu k_34 i) x0 x1 x2 x3 st
theorem t_X10_slowest_48 {X : CX} {res : Int32 × St} (B : BI X cX10_slowest RX10 5 2 NN (some .int) res) (fu : Nat) (k_34 : Nat → Int32 → Int32 → St → Option (Int32 × St)) (h_34 : ∀ (x0 : Nat) (x1 : Int32) (x2 : Int32)  (st : St), WW X res NN 34 [(0, .ref (x_b X + x0)), (1, .int x1), (2, .int x2)] [] st (k_34 x0 x1 x2 st)) : ∀ (i : Nat) (x0 : Nat) (x1 : Int32) (x2 : Int32) (x3 : Int32)  (st : St), WW X res NN 48 [(0, .ref (x_b X + x0)), (1, .int x1), (2, .int x2), (3, .int x3)] [] st (b_X10_slowest_48 fu k_34 i x0 x1 x2 x3 st) := by
  intro i
  induction i with
  | zero => intro x0 x1 x2 x3 st; exact ww_none
  | succ i ih => intro x0 x1 x2 x3 st; exact t_X10_slowest_48_b B fu k_34 (b_X10_slowest_48 fu k_34 i) h_34 ih x0 x1 x2 x3 st
def b_X10_slowest_34_b (fu : Nat) (k_34 : Nat → Int32 → Int32 → St → Option (Int32 × St)) (x0 : Nat) (x1 : Int32) (x2 : Int32)  (st : St) : Option (Int32 × St) :=
  if 12 ≤ x2 then (
  b_X10_slowest_119 fu x0  st)
  else (
  if x1 = 0 then (
  b_X10_slowest_119 fu x0  st)
  else (
  b_X10_slowest_48 fu k_34 fu x0 0 x2 0  st))
set_option maxHeartbeats 4000000 in
set_option maxRecDepth 100000 in
theorem t_X10_slowest_34_b {X : CX} {res : Int32 × St} (B : BI X cX10_slowest RX10 5 2 NN (some .int) res) (fu : Nat) (k_34 : Nat → Int32 → Int32 → St → Option (Int32 × St)) (h_34 : ∀ (x0 : Nat) (x1 : Int32) (x2 : Int32)  (st : St), WW X res NN 34 [(0, .ref (x_b X + x0)), (1, .int x1), (2, .int x2)] [] st (k_34 x0 x1 x2 st)) (x0 : Nat) (x1 : Int32) (x2 : Int32)  (st : St) : WW X res NN 34 [(0, .ref (x_b X + x0)), (1, .int x1), (2, .int x2)] [] st (b_X10_slowest_34_b fu k_34 x0 x1 x2 st) := by
  have hX := B.1
  have hL := B.2.1
  unfold b_X10_slowest_34_b
  refine ww_iload_n hX 2 rfl dX10_slowest_34 rfl ?_
  refine ww_bipush (v := 12) hX rfl dX10_slowest_35 ?_
  refine ww_icmp_ge (tgt := 119) hX dX10_slowest_37 (by decide) ?_ ?_
  · exact ww_sub [0] rfl (t_X10_slowest_119 B fu x0  st)
  · refine ww_iload_n hX 1 rfl dX10_slowest_40 rfl ?_
    refine ww_if_eq (tgt := 119) hX dX10_slowest_41 (by decide) ?_ ?_
    · exact ww_sub [0] rfl (t_X10_slowest_119 B fu x0  st)
    · refine ww_iconst (v := 0) hX rfl dX10_slowest_44 ?_
      refine ww_istore_n (lv' := [(1, .int 0), (0, .ref (x_b X + x0)), (2, .int x2)]) hX hL dX10_slowest_45 rfl (by decide) rfl ?_
      refine ww_iconst (v := 0) hX rfl dX10_slowest_46 ?_
      refine ww_istore_n (lv' := [(3, .int 0), (1, .int 0), (0, .ref (x_b X + x0)), (2, .int x2)]) hX hL dX10_slowest_47 rfl (by decide) rfl ?_
      exact ww_sub [2, 1, 3, 0] rfl (t_X10_slowest_48 B fu k_34 h_34 fu x0 0 x2 0  st)
def b_X10_slowest_34 (fu : Nat) : Nat → Nat → Int32 → Int32 → St → Option (Int32 × St)
  | 0, _, _, _, _ => none
  | i + 1, x0, x1, x2, st => b_X10_slowest_34_b fu (b_X10_slowest_34 fu i) x0 x1 x2 st
theorem t_X10_slowest_34 {X : CX} {res : Int32 × St} (B : BI X cX10_slowest RX10 5 2 NN (some .int) res) (fu : Nat) : ∀ (i : Nat) (x0 : Nat) (x1 : Int32) (x2 : Int32)  (st : St), WW X res NN 34 [(0, .ref (x_b X + x0)), (1, .int x1), (2, .int x2)] [] st (b_X10_slowest_34 fu i x0 x1 x2 st) := by
  intro i
  induction i with
  | zero => intro x0 x1 x2 st; exact ww_none
  | succ i ih => intro x0 x1 x2 st; exact t_X10_slowest_34_b B fu (b_X10_slowest_34 fu i) ih x0 x1 x2 st
def b_X10_slowest_2_b (fu : Nat) (k_2 : Nat → Int32 → St → Option (Int32 × St)) (x0 : Nat) (x1 : Int32)  (st : St) : Option (Int32 × St) :=
  if 11 ≤ x1 then (
  ck (¬ gR st x0 9 = 0) <|
  ck ((kd x0).1 = 10) <|
  bd (gR st x0 9) fun o1 =>
  ck ((kd o1).1 = 100 ∧ inb 11 (kd o1).2) <|
  bd (sI st o1 (ix 11) 0) fun s2 =>
  b_X10_slowest_34 fu fu x0 1 0  s2)
  else (
  ck (¬ gR st x0 9 = 0) <|
  ck ((kd x0).1 = 10) <|
  bd (gR st x0 9) fun o19 =>
  ck ((kd o19).1 = 100 ∧ inb x1 (kd o19).2) <|
  bd (sI st o19 (ix x1) 1000000) fun s20 =>
  bd (x1 + 1) fun v21 =>
  k_2 x0 v21  s20)
set_option maxHeartbeats 4000000 in
set_option maxRecDepth 100000 in
theorem t_X10_slowest_2_b {X : CX} {res : Int32 × St} (B : BI X cX10_slowest RX10 5 2 NN (some .int) res) (fu : Nat) (k_2 : Nat → Int32 → St → Option (Int32 × St)) (h_2 : ∀ (x0 : Nat) (x1 : Int32)  (st : St), WW X res NN 2 [(0, .ref (x_b X + x0)), (1, .int x1)] [] st (k_2 x0 x1 st)) (x0 : Nat) (x1 : Int32)  (st : St) : WW X res NN 2 [(0, .ref (x_b X + x0)), (1, .int x1)] [] st (b_X10_slowest_2_b fu k_2 x0 x1 st) := by
  have hX := B.1
  have hL := B.2.1
  unfold b_X10_slowest_2_b
  refine ww_iload_n hX 1 rfl dX10_slowest_2 rfl ?_
  refine ww_bipush (v := 11) hX rfl dX10_slowest_3 ?_
  refine ww_icmp_ge (tgt := 22) hX dX10_slowest_5 (by decide) ?_ ?_
  · refine ww_aload_n hX 0 rfl dX10_slowest_22 rfl ?_
    refine ww_getR hX f_X10_39 (Or.inr ⟨_, rfl⟩) dX10_slowest_23 ?_
    refine ww_bdR (fun o1 => ?_)
    refine ww_bipush (v := 11) hX rfl dX10_slowest_26 ?_
    refine ww_iconst (v := 0) hX rfl dX10_slowest_28 ?_
    refine ww_iastc hX k_iast dX10_slowest_29 ?_
    refine ww_bds (fun s2 => ?_)
    refine ww_iconst (v := 1) hX rfl dX10_slowest_30 ?_
    refine ww_istore_n (lv' := [(1, .int 1), (0, .ref (x_b X + x0))]) hX hL dX10_slowest_31 rfl (by decide) rfl ?_
    refine ww_pc (b := 32) rfl ?_
    refine ww_iconst (v := 0) hX rfl dX10_slowest_32 ?_
    refine ww_istore_n (lv' := [(2, .int 0), (1, .int 1), (0, .ref (x_b X + x0))]) hX hL dX10_slowest_33 rfl (by decide) rfl ?_
    exact ww_sub [2, 1, 0] rfl (t_X10_slowest_34 B fu fu x0 1 0  s2)
  · refine ww_aload_n hX 0 rfl dX10_slowest_8 rfl ?_
    refine ww_getR hX f_X10_39 (Or.inr ⟨_, rfl⟩) dX10_slowest_9 ?_
    refine ww_bdR (fun o19 => ?_)
    refine ww_iload_n hX 1 rfl dX10_slowest_12 rfl ?_
    refine ww_ldc (v := 1000000) hX k_X10_73 dX10_slowest_13 ?_
    refine ww_iastc hX k_iast dX10_slowest_15 ?_
    refine ww_bds (fun s20 => ?_)
    refine ww_iincb (lv' := fun v21 => [(1, .int v21), (0, .ref (x_b X + x0))]) (c := 1) hX hL 1 rfl dX10_slowest_16 rfl (by decide) (fun _ => rfl) (fun v21 => ?_)
    refine ww_goto (tgt := 2) hX dX10_slowest_19 (by decide) ?_
    exact ww_sub [1, 0] rfl (h_2 x0 v21  s20)
def b_X10_slowest_2 (fu : Nat) : Nat → Nat → Int32 → St → Option (Int32 × St)
  | 0, _, _, _ => none
  | i + 1, x0, x1, st => b_X10_slowest_2_b fu (b_X10_slowest_2 fu i) x0 x1 st
theorem t_X10_slowest_2 {X : CX} {res : Int32 × St} (B : BI X cX10_slowest RX10 5 2 NN (some .int) res) (fu : Nat) : ∀ (i : Nat) (x0 : Nat) (x1 : Int32)  (st : St), WW X res NN 2 [(0, .ref (x_b X + x0)), (1, .int x1)] [] st (b_X10_slowest_2 fu i x0 x1 st) := by
  intro i
  induction i with
  | zero => intro x0 x1 st; exact ww_none
  | succ i ih => intro x0 x1 st; exact t_X10_slowest_2_b B fu (b_X10_slowest_2 fu i) ih x0 x1 st
def f_X10_slowest (fu : Nat) (th : Nat) (st : St) : Option (Int32 × St) :=
  b_X10_slowest_2 fu fu th 0  st
set_option maxHeartbeats 4000000 in
set_option maxRecDepth 100000 in
theorem t_X10_slowest {X : CX} {res : Int32 × St} (B : BI X cX10_slowest RX10 5 2 NN (some .int) res) (fu : Nat) (th : Nat) (st : St) : WW X res NN 0 [(0, .ref (x_b X + th))] [] st (f_X10_slowest fu th st) := by
  have hX := B.1
  have hL := B.2.1
  unfold f_X10_slowest
  refine ww_iconst (v := 0) hX rfl dX10_slowest_0 ?_
  refine ww_istore_n (lv' := [(1, .int 0), (0, .ref (x_b X + th))]) hX hL dX10_slowest_1 rfl (by decide) rfl ?_
  exact ww_sub [1, 0] rfl (t_X10_slowest_2 B fu fu th 0  st)
theorem c_X10_slowest (G : GX) (l : Launch) (fu : Nat) (th : Nat) (st : St) : MI G NN l yX10_slowest cX10_slowest 5 (some .int) 2 [.ref (G.2.2.1 + th)] st (f_X10_slowest fu th st) := mkI (by decide) (Nat.le_of_ble_eq_true rfl) (fun X res hl hG B => by subst hl; subst hG; exact t_X10_slowest B fu th st)
/-! StageHouse$Ways.leastTime()I -/
def b_X10_leastTime_58_b (fu : Nat) (k_58 : Nat → Int32 → Int32 → St → Option (Int32 × St)) (x0 : Nat) (x1 : Int32) (x2 : Int32)  (st : St) : Option (Int32 × St) :=
  if 50 < x2 then (
  some ((-1), st))
  else (
  ck ((kd x0).1 = 10) <|
  ca (f_X10_sendMore fu x0 x2 st) fun r7 s8 =>
  bd (x1 - r7) fun v9 =>
  if v9 = 0 then (
  some (x2, s8))
  else (
  bd (x2 + 1) fun v10 =>
  k_58 x0 v9 v10  s8))
set_option maxHeartbeats 4000000 in
set_option maxRecDepth 100000 in
theorem t_X10_leastTime_58_b {X : CX} {res : Int32 × St} (B : BI X cX10_leastTime RX10 3 6 NN (some .int) res) (fu : Nat) (k_58 : Nat → Int32 → Int32 → St → Option (Int32 × St)) (h_58 : ∀ (x0 : Nat) (x1 : Int32) (x2 : Int32)  (st : St), WW X res NN 58 [(0, .ref (x_b X + x0)), (1, .int x1), (2, .int x2)] [] st (k_58 x0 x1 x2 st)) (x0 : Nat) (x1 : Int32) (x2 : Int32)  (st : St) : WW X res NN 58 [(0, .ref (x_b X + x0)), (1, .int x1), (2, .int x2)] [] st (b_X10_leastTime_58_b fu k_58 x0 x1 x2 st) := by
  have hX := B.1
  have hL := B.2.1
  unfold b_X10_leastTime_58_b
  refine ww_iload_n hX 2 rfl dX10_leastTime_58 rfl ?_
  refine ww_bipush (v := 50) hX rfl dX10_leastTime_59 ?_
  refine ww_icmp_gt (tgt := 84) hX dX10_leastTime_61 (by decide) ?_ ?_
  · refine ww_iconst (v := (-1)) hX rfl dX10_leastTime_84 ?_
    exact ww_iret B dX10_leastTime_85
  · refine ww_iload_n hX 1 rfl dX10_leastTime_64 rfl ?_
    refine ww_aload_n hX 0 rfl dX10_leastTime_65 rfl ?_
    refine ww_iload_n hX 2 rfl dX10_leastTime_66 rfl ?_
    refine ww_callVI (As := [.int x2]) (rest := [.int x1]) (o := x0) hX (Rk.of B.2.2.1 B.2.2.2.1 (by decide) (by decide)) g_X10_69 g_X10_69.in (fun _ => c_X10_sendMore (x_G X) (x_l X) fu x0 x2 st) rfl rfl (Nat.le_of_ble_eq_true rfl) dX10_leastTime_67 (fun r7 s8 => ?_)
    refine ww_isub hX dX10_leastTime_70 ?_
    refine ww_bdi (fun v9 => ?_)
    refine ww_istore_n (lv' := [(1, .int v9), (0, .ref (x_b X + x0)), (2, .int x2)]) hX hL dX10_leastTime_71 rfl (by decide) rfl ?_
    refine ww_iload_n hX 0 rfl dX10_leastTime_72 rfl ?_
    refine ww_pc (b := 73) rfl ?_
    refine ww_if_ne (tgt := 78) hX dX10_leastTime_73 (by decide) ?_ ?_
    · refine ww_iincb (lv' := fun v10 => [(2, .int v10), (1, .int v9), (0, .ref (x_b X + x0))]) (c := 1) hX hL 2 rfl dX10_leastTime_78 rfl (by decide) (fun _ => rfl) (fun v10 => ?_)
      refine ww_goto (tgt := 58) hX dX10_leastTime_81 (by decide) ?_
      exact ww_sub [2, 1, 0] rfl (h_58 x0 v9 v10  s8)
    · refine ww_iload_n hX 2 rfl dX10_leastTime_76 rfl ?_
      exact ww_iret B dX10_leastTime_77
def b_X10_leastTime_58 (fu : Nat) : Nat → Nat → Int32 → Int32 → St → Option (Int32 × St)
  | 0, _, _, _, _ => none
  | i + 1, x0, x1, x2, st => b_X10_leastTime_58_b fu (b_X10_leastTime_58 fu i) x0 x1 x2 st
theorem t_X10_leastTime_58 {X : CX} {res : Int32 × St} (B : BI X cX10_leastTime RX10 3 6 NN (some .int) res) (fu : Nat) : ∀ (i : Nat) (x0 : Nat) (x1 : Int32) (x2 : Int32)  (st : St), WW X res NN 58 [(0, .ref (x_b X + x0)), (1, .int x1), (2, .int x2)] [] st (b_X10_leastTime_58 fu i x0 x1 x2 st) := by
  intro i
  induction i with
  | zero => intro x0 x1 x2 st; exact ww_none
  | succ i ih => intro x0 x1 x2 st; exact t_X10_leastTime_58_b B fu (b_X10_leastTime_58 fu i) ih x0 x1 x2 st
def b_X10_leastTime_4_b (fu : Nat) (k_4 : Nat → Int32 → Int32 → St → Option (Int32 × St)) (x0 : Nat) (x1 : Int32) (x2 : Int32)  (st : St) : Option (Int32 × St) :=
  if 11 ≤ x2 then (
  ck (¬ gR st x0 6 = 0) <|
  ck ((kd x0).1 = 10) <|
  bd (gR st x0 6) fun o1 =>
  cv (f_J7_fill_53178 fu o1 0 st) fun s2 =>
  ck (¬ gR s2 x0 7 = 0) <|
  ck ((kd x0).1 = 10) <|
  bd (gR s2 x0 7) fun o3 =>
  cv (f_J7_fill_53178 fu o3 0 s2) fun s4 =>
  ck ((kd x0).1 = 10) <|
  ca (f_X10_slowest fu x0 s4) fun r5 s6 =>
  b_X10_leastTime_58 fu fu x0 x1 r5  s6)
  else (
  ck (¬ gR st x0 5 = 0) <|
  ck ((kd x0).1 = 10) <|
  bd (gR st x0 5) fun o11 =>
  ck (¬ gR st x0 4 = 0) <|
  ck ((kd x0).1 = 10) <|
  bd (gR st x0 4) fun o12 =>
  ck ((kd o12).1 = 100 ∧ inb x2 (kd o12).2) <|
  ck ((kd o11).1 = 100 ∧ inb x2 (kd o11).2) <|
  bd (sI st o11 (ix x2) (gI st o12 (ix x2))) fun s13 =>
  ck (¬ gR s13 x0 4 = 0) <|
  ck ((kd x0).1 = 10) <|
  bd (gR s13 x0 4) fun o14 =>
  ck ((kd o14).1 = 100 ∧ inb x2 (kd o14).2) <|
  bd (x1 + (gI s13 o14 (ix x2))) fun v15 =>
  bd (x2 + 1) fun v16 =>
  k_4 x0 v15 v16  s13)
set_option maxHeartbeats 4000000 in
set_option maxRecDepth 100000 in
theorem t_X10_leastTime_4_b {X : CX} {res : Int32 × St} (B : BI X cX10_leastTime RX10 3 6 NN (some .int) res) (fu : Nat) (k_4 : Nat → Int32 → Int32 → St → Option (Int32 × St)) (h_4 : ∀ (x0 : Nat) (x1 : Int32) (x2 : Int32)  (st : St), WW X res NN 4 [(0, .ref (x_b X + x0)), (1, .int x1), (2, .int x2)] [] st (k_4 x0 x1 x2 st)) (x0 : Nat) (x1 : Int32) (x2 : Int32)  (st : St) : WW X res NN 4 [(0, .ref (x_b X + x0)), (1, .int x1), (2, .int x2)] [] st (b_X10_leastTime_4_b fu k_4 x0 x1 x2 st) := by
  have hX := B.1
  have hL := B.2.1
  unfold b_X10_leastTime_4_b
  refine ww_iload_n hX 2 rfl dX10_leastTime_4 rfl ?_
  refine ww_bipush (v := 11) hX rfl dX10_leastTime_5 ?_
  refine ww_icmp_ge (tgt := 37) hX dX10_leastTime_7 (by decide) ?_ ?_
  · refine ww_aload_n hX 0 rfl dX10_leastTime_37 rfl ?_
    refine ww_getR hX f_X10_30 (Or.inr ⟨_, rfl⟩) dX10_leastTime_38 ?_
    refine ww_bdR (fun o1 => ?_)
    refine ww_iconst (v := 0) hX rfl dX10_leastTime_41 ?_
    refine ww_callSV (As := [.ref (x_b X + o1), .int 0]) (rest := []) hX (Rk.of B.2.2.1 B.2.2.2.1 (by decide) (by decide)) g_X10_59 (c_J7_fill_53178 (x_G X) (x_l X) fu o1 0 st) rfl rfl (Nat.le_of_ble_eq_true rfl) dX10_leastTime_42 (fun s2 => ?_)
    refine ww_aload_n hX 0 rfl dX10_leastTime_45 rfl ?_
    refine ww_getR hX f_X10_33 (Or.inr ⟨_, rfl⟩) dX10_leastTime_46 ?_
    refine ww_bdR (fun o3 => ?_)
    refine ww_iconst (v := 0) hX rfl dX10_leastTime_49 ?_
    refine ww_pc (b := 50) rfl ?_
    refine ww_callSV (As := [.ref (x_b X + o3), .int 0]) (rest := []) hX (Rk.of B.2.2.1 B.2.2.2.1 (by decide) (by decide)) g_X10_59 (c_J7_fill_53178 (x_G X) (x_l X) fu o3 0 s2) rfl rfl (Nat.le_of_ble_eq_true rfl) dX10_leastTime_50 (fun s4 => ?_)
    refine ww_aload_n hX 0 rfl dX10_leastTime_53 rfl ?_
    refine ww_callVI (As := []) (rest := []) (o := x0) hX (Rk.of B.2.2.1 B.2.2.2.1 (by decide) (by decide)) g_X10_65 g_X10_65.in (fun _ => c_X10_slowest (x_G X) (x_l X) fu x0 s4) rfl rfl (Nat.le_of_ble_eq_true rfl) dX10_leastTime_54 (fun r5 s6 => ?_)
    refine ww_istore_n (lv' := [(2, .int r5), (0, .ref (x_b X + x0)), (1, .int x1)]) hX hL dX10_leastTime_57 rfl (by decide) rfl ?_
    exact ww_sub [1, 2, 0] rfl (t_X10_leastTime_58 B fu fu x0 x1 r5  s6)
  · refine ww_aload_n hX 0 rfl dX10_leastTime_10 rfl ?_
    refine ww_getR hX f_X10_27 (Or.inr ⟨_, rfl⟩) dX10_leastTime_11 ?_
    refine ww_bdR (fun o11 => ?_)
    refine ww_iload_n hX 2 rfl dX10_leastTime_14 rfl ?_
    refine ww_aload_n hX 0 rfl dX10_leastTime_15 rfl ?_
    refine ww_getR hX f_X10_24 (Or.inr ⟨_, rfl⟩) dX10_leastTime_16 ?_
    refine ww_bdR (fun o12 => ?_)
    refine ww_iload_n hX 2 rfl dX10_leastTime_19 rfl ?_
    refine ww_ialdc hX k_iald dX10_leastTime_20 ?_
    refine ww_pc (b := 21) rfl ?_
    refine ww_iastc hX k_iast dX10_leastTime_21 ?_
    refine ww_bds (fun s13 => ?_)
    refine ww_iload_n hX 1 rfl dX10_leastTime_22 rfl ?_
    refine ww_aload_n hX 0 rfl dX10_leastTime_23 rfl ?_
    refine ww_getR hX f_X10_24 (Or.inr ⟨_, rfl⟩) dX10_leastTime_24 ?_
    refine ww_bdR (fun o14 => ?_)
    refine ww_iload_n hX 2 rfl dX10_leastTime_27 rfl ?_
    refine ww_ialdc hX k_iald dX10_leastTime_28 ?_
    refine ww_iadd hX dX10_leastTime_29 ?_
    refine ww_bdi (fun v15 => ?_)
    refine ww_istore_n (lv' := [(1, .int v15), (0, .ref (x_b X + x0)), (2, .int x2)]) hX hL dX10_leastTime_30 rfl (by decide) rfl ?_
    refine ww_pc (b := 31) rfl ?_
    refine ww_iincb (lv' := fun v16 => [(2, .int v16), (1, .int v15), (0, .ref (x_b X + x0))]) (c := 1) hX hL 2 rfl dX10_leastTime_31 rfl (by decide) (fun _ => rfl) (fun v16 => ?_)
    refine ww_goto (tgt := 4) hX dX10_leastTime_34 (by decide) ?_
    exact ww_sub [2, 1, 0] rfl (h_4 x0 v15 v16  s13)
def b_X10_leastTime_4 (fu : Nat) : Nat → Nat → Int32 → Int32 → St → Option (Int32 × St)
  | 0, _, _, _, _ => none
  | i + 1, x0, x1, x2, st => b_X10_leastTime_4_b fu (b_X10_leastTime_4 fu i) x0 x1 x2 st
theorem t_X10_leastTime_4 {X : CX} {res : Int32 × St} (B : BI X cX10_leastTime RX10 3 6 NN (some .int) res) (fu : Nat) : ∀ (i : Nat) (x0 : Nat) (x1 : Int32) (x2 : Int32)  (st : St), WW X res NN 4 [(0, .ref (x_b X + x0)), (1, .int x1), (2, .int x2)] [] st (b_X10_leastTime_4 fu i x0 x1 x2 st) := by
  intro i
  induction i with
  | zero => intro x0 x1 x2 st; exact ww_none
  | succ i ih => intro x0 x1 x2 st; exact t_X10_leastTime_4_b B fu (b_X10_leastTime_4 fu i) ih x0 x1 x2 st
def f_X10_leastTime (fu : Nat) (th : Nat) (st : St) : Option (Int32 × St) :=
  b_X10_leastTime_4 fu fu th 0 0  st
set_option maxHeartbeats 4000000 in
set_option maxRecDepth 100000 in
theorem t_X10_leastTime {X : CX} {res : Int32 × St} (B : BI X cX10_leastTime RX10 3 6 NN (some .int) res) (fu : Nat) (th : Nat) (st : St) : WW X res NN 0 [(0, .ref (x_b X + th))] [] st (f_X10_leastTime fu th st) := by
  have hX := B.1
  have hL := B.2.1
  unfold f_X10_leastTime
  refine ww_iconst (v := 0) hX rfl dX10_leastTime_0 ?_
  refine ww_istore_n (lv' := [(1, .int 0), (0, .ref (x_b X + th))]) hX hL dX10_leastTime_1 rfl (by decide) rfl ?_
  refine ww_iconst (v := 0) hX rfl dX10_leastTime_2 ?_
  refine ww_istore_n (lv' := [(2, .int 0), (1, .int 0), (0, .ref (x_b X + th))]) hX hL dX10_leastTime_3 rfl (by decide) rfl ?_
  exact ww_sub [2, 1, 0] rfl (t_X10_leastTime_4 B fu fu th 0 0  st)
theorem c_X10_leastTime (G : GX) (l : Launch) (fu : Nat) (th : Nat) (st : St) : MI G NN l yX10_leastTime cX10_leastTime 3 (some .int) 6 [.ref (G.2.2.1 + th)] st (f_X10_leastTime fu th st) := mkI (by decide) (Nat.le_of_ble_eq_true rfl) (fun X res hl hG B => by subst hl; subst hG; exact t_X10_leastTime B fu th st)
/-! StageHouse.feed(IIIII)I -/
def f_X11_feed (fu : Nat) (th : Nat) (p1 : Int32) (p2 : Int32) (p3 : Int32) (p4 : Int32) (p5 : Int32) (st : St) : Option (Int32 × St) :=
  ck (¬ gR st th 0 = 0) <|
  ck ((kd th).1 = 11) <|
  bd (gR st th 0) fun o1 =>
  ck ((kd o1).1 = 9) <|
  ca (f_X9_hasRoom fu o1 st) fun r2 s3 =>
  if r2 = 0 then (
  some ((-1), s3))
  else (
  ck (¬ gR s3 th 0 = 0) <|
  ck ((kd th).1 = 11) <|
  bd (gR s3 th 0) fun o4 =>
  ck ((kd o4).1 = 9) <|
  cv (f_X9_append fu o4 p1 s3) fun s5 =>
  ck (¬ gR s5 th 0 = 0) <|
  ck ((kd th).1 = 11) <|
  bd (gR s5 th 0) fun o6 =>
  ck ((kd o6).1 = 9) <|
  cv (f_X9_append fu o6 p2 s5) fun s7 =>
  ck (¬ gR s7 th 0 = 0) <|
  ck ((kd th).1 = 11) <|
  bd (gR s7 th 0) fun o8 =>
  ck ((kd o8).1 = 9) <|
  cv (f_X9_append fu o8 p3 s7) fun s9 =>
  ck (¬ gR s9 th 0 = 0) <|
  ck ((kd th).1 = 11) <|
  bd (gR s9 th 0) fun o10 =>
  ck ((kd o10).1 = 9) <|
  cv (f_X9_append fu o10 p4 s9) fun s11 =>
  ck (¬ gR s11 th 0 = 0) <|
  ck ((kd th).1 = 11) <|
  bd (gR s11 th 0) fun o12 =>
  ck ((kd o12).1 = 9) <|
  cv (f_X9_append fu o12 p5 s11) fun s13 =>
  ck (¬ gR s13 th 0 = 0) <|
  ck ((kd th).1 = 11) <|
  bd (gR s13 th 0) fun o14 =>
  ck ((kd o14).1 = 9) <|
  some (gI s13 o14 1, s13))
set_option maxHeartbeats 4000000 in
set_option maxRecDepth 100000 in
theorem t_X11_feed {X : CX} {res : Int32 × St} (B : BI X cX11_feed RX11 6 2 NN (some .int) res) (fu : Nat) (th : Nat) (p1 : Int32) (p2 : Int32) (p3 : Int32) (p4 : Int32) (p5 : Int32) (st : St) : WW X res NN 0 [(0, .ref (x_b X + th)), (1, .int p1), (2, .int p2), (3, .int p3), (4, .int p4), (5, .int p5)] [] st (f_X11_feed fu th p1 p2 p3 p4 p5 st) := by
  have hX := B.1
  have hL := B.2.1
  unfold f_X11_feed
  refine ww_aload_n hX 0 rfl dX11_feed_0 rfl ?_
  refine ww_getR hX f_X11_10 (Or.inl ⟨_, rfl⟩) dX11_feed_1 ?_
  refine ww_bdR (fun o1 => ?_)
  refine ww_callVI (As := []) (rest := []) (o := o1) hX (Rk.of B.2.2.1 B.2.2.2.1 (by decide) (by decide)) g_X11_73 g_X11_73.in (fun _ => c_X9_hasRoom (x_G X) (x_l X) fu o1 st) rfl rfl (Nat.le_of_ble_eq_true rfl) dX11_feed_4 (fun r2 s3 => ?_)
  refine ww_if_ne (tgt := 12) hX dX11_feed_7 (by decide) ?_ ?_
  · refine ww_aload_n hX 0 rfl dX11_feed_12 rfl ?_
    refine ww_getR hX f_X11_10 (Or.inl ⟨_, rfl⟩) dX11_feed_13 ?_
    refine ww_bdR (fun o4 => ?_)
    refine ww_iload_n hX 1 rfl dX11_feed_16 rfl ?_
    refine ww_callVV (As := [.int p1]) (rest := []) (o := o4) hX (Rk.of B.2.2.1 B.2.2.2.1 (by decide) (by decide)) g_X11_77 g_X11_77.in (fun _ => c_X9_append (x_G X) (x_l X) fu o4 p1 s3) rfl rfl (Nat.le_of_ble_eq_true rfl) dX11_feed_17 (fun s5 => ?_)
    refine ww_aload_n hX 0 rfl dX11_feed_20 rfl ?_
    refine ww_getR hX f_X11_10 (Or.inl ⟨_, rfl⟩) dX11_feed_21 ?_
    refine ww_bdR (fun o6 => ?_)
    refine ww_iload_n hX 2 rfl dX11_feed_24 rfl ?_
    refine ww_pc (b := 25) rfl ?_
    refine ww_callVV (As := [.int p2]) (rest := []) (o := o6) hX (Rk.of B.2.2.1 B.2.2.2.1 (by decide) (by decide)) g_X11_77 g_X11_77.in (fun _ => c_X9_append (x_G X) (x_l X) fu o6 p2 s5) rfl rfl (Nat.le_of_ble_eq_true rfl) dX11_feed_25 (fun s7 => ?_)
    refine ww_aload_n hX 0 rfl dX11_feed_28 rfl ?_
    refine ww_getR hX f_X11_10 (Or.inl ⟨_, rfl⟩) dX11_feed_29 ?_
    refine ww_bdR (fun o8 => ?_)
    refine ww_iload_n hX 3 rfl dX11_feed_32 rfl ?_
    refine ww_callVV (As := [.int p3]) (rest := []) (o := o8) hX (Rk.of B.2.2.1 B.2.2.2.1 (by decide) (by decide)) g_X11_77 g_X11_77.in (fun _ => c_X9_append (x_G X) (x_l X) fu o8 p3 s7) rfl rfl (Nat.le_of_ble_eq_true rfl) dX11_feed_33 (fun s9 => ?_)
    refine ww_aload_n hX 0 rfl dX11_feed_36 rfl ?_
    refine ww_getR hX f_X11_10 (Or.inl ⟨_, rfl⟩) dX11_feed_37 ?_
    refine ww_bdR (fun o10 => ?_)
    refine ww_iload hX 4 rfl dX11_feed_40 ?_
    refine ww_pc (b := 42) rfl ?_
    refine ww_callVV (As := [.int p4]) (rest := []) (o := o10) hX (Rk.of B.2.2.1 B.2.2.2.1 (by decide) (by decide)) g_X11_77 g_X11_77.in (fun _ => c_X9_append (x_G X) (x_l X) fu o10 p4 s9) rfl rfl (Nat.le_of_ble_eq_true rfl) dX11_feed_42 (fun s11 => ?_)
    refine ww_aload_n hX 0 rfl dX11_feed_45 rfl ?_
    refine ww_getR hX f_X11_10 (Or.inl ⟨_, rfl⟩) dX11_feed_46 ?_
    refine ww_bdR (fun o12 => ?_)
    refine ww_iload hX 5 rfl dX11_feed_49 ?_
    refine ww_callVV (As := [.int p5]) (rest := []) (o := o12) hX (Rk.of B.2.2.1 B.2.2.2.1 (by decide) (by decide)) g_X11_77 g_X11_77.in (fun _ => c_X9_append (x_G X) (x_l X) fu o12 p5 s11) rfl rfl (Nat.le_of_ble_eq_true rfl) dX11_feed_51 (fun s13 => ?_)
    refine ww_aload_n hX 0 rfl dX11_feed_54 rfl ?_
    refine ww_getR hX f_X11_10 (Or.inl ⟨_, rfl⟩) dX11_feed_55 ?_
    refine ww_bdR (fun o14 => ?_)
    refine ww_getI hX f_X11_81 (Or.inl rfl) dX11_feed_58 ?_
    refine ww_pc (b := 61) rfl ?_
    exact ww_iret B dX11_feed_61
  · refine ww_iconst (v := (-1)) hX rfl dX11_feed_10 ?_
    exact ww_iret B dX11_feed_11
theorem c_X11_feed (G : GX) (l : Launch) (fu : Nat) (th : Nat) (p1 : Int32) (p2 : Int32) (p3 : Int32) (p4 : Int32) (p5 : Int32) (st : St) : MI G NN l yX11_feed cX11_feed 6 (some .int) 2 [.ref (G.2.2.1 + th), .int p1, .int p2, .int p3, .int p4, .int p5] st (f_X11_feed fu th p1 p2 p3 p4 p5 st) := mkI (by decide) (Nat.le_of_ble_eq_true rfl) (fun X res hl hG B => by subst hl; subst hG; exact t_X11_feed B fu th p1 p2 p3 p4 p5 st)
/-! StageHouse.cut(I)I -/
def b_X11_cut_15 (fu : Nat)   (st : St) : Option (Int32 × St) :=
  some ((-1), st)
set_option maxHeartbeats 4000000 in
set_option maxRecDepth 100000 in
theorem t_X11_cut_15 {X : CX} {res : Int32 × St} (B : BI X cX11_cut RX11 3 1 NN (some .int) res) (fu : Nat)   (st : St) : WW X res NN 15 [] [] st (b_X11_cut_15 fu  st) := by
  have hX := B.1
  have hL := B.2.1
  unfold b_X11_cut_15
  refine ww_iconst (v := (-1)) hX rfl dX11_cut_15 ?_
  exact ww_iret B dX11_cut_16
def f_X11_cut (fu : Nat) (th : Nat) (p1 : Int32) (st : St) : Option (Int32 × St) :=
  if p1 < 0 then (
  b_X11_cut_15 fu   st)
  else (
  ck (¬ gR st th 0 = 0) <|
  ck ((kd th).1 = 11) <|
  bd (gR st th 0) fun o1 =>
  ck ((kd o1).1 = 9) <|
  if p1 ≤ (gI st o1 1) then (
  ck (¬ gR st th 0 = 0) <|
  ck ((kd th).1 = 11) <|
  bd (gR st th 0) fun o2 =>
  ck ((kd o2).1 = 9) <|
  bd ((gI st o2 1) - p1) fun v3 =>
  ck (¬ gR st th 0 = 0) <|
  ck ((kd th).1 = 11) <|
  bd (gR st th 0) fun o4 =>
  ck ((kd o4).1 = 9) <|
  bd (sI st o4 1 p1) fun s5 =>
  some (v3, s5))
  else (
  b_X11_cut_15 fu   st))
set_option maxHeartbeats 4000000 in
set_option maxRecDepth 100000 in
theorem t_X11_cut {X : CX} {res : Int32 × St} (B : BI X cX11_cut RX11 3 1 NN (some .int) res) (fu : Nat) (th : Nat) (p1 : Int32) (st : St) : WW X res NN 0 [(0, .ref (x_b X + th)), (1, .int p1)] [] st (f_X11_cut fu th p1 st) := by
  have hX := B.1
  have hL := B.2.1
  unfold f_X11_cut
  refine ww_iload_n hX 1 rfl dX11_cut_0 rfl ?_
  refine ww_if_lt (tgt := 15) hX dX11_cut_1 (by decide) ?_ ?_
  · exact ww_sub [] rfl (t_X11_cut_15 B fu   st)
  · refine ww_iload_n hX 1 rfl dX11_cut_4 rfl ?_
    refine ww_aload_n hX 0 rfl dX11_cut_5 rfl ?_
    refine ww_getR hX f_X11_10 (Or.inl ⟨_, rfl⟩) dX11_cut_6 ?_
    refine ww_bdR (fun o1 => ?_)
    refine ww_getI hX f_X11_81 (Or.inl rfl) dX11_cut_9 ?_
    refine ww_icmp_le (tgt := 17) hX dX11_cut_12 (by decide) ?_ ?_
    · refine ww_aload_n hX 0 rfl dX11_cut_17 rfl ?_
      refine ww_getR hX f_X11_10 (Or.inl ⟨_, rfl⟩) dX11_cut_18 ?_
      refine ww_bdR (fun o2 => ?_)
      refine ww_getI hX f_X11_81 (Or.inl rfl) dX11_cut_21 ?_
      refine ww_iload_n hX 1 rfl dX11_cut_24 rfl ?_
      refine ww_isub hX dX11_cut_25 ?_
      refine ww_bdi (fun v3 => ?_)
      refine ww_istore_n (lv' := [(2, .int v3), (0, .ref (x_b X + th)), (1, .int p1)]) hX hL dX11_cut_26 rfl (by decide) rfl ?_
      refine ww_aload_n hX 1 rfl dX11_cut_27 rfl ?_
      refine ww_pc (b := 28) rfl ?_
      refine ww_getR hX f_X11_10 (Or.inl ⟨_, rfl⟩) dX11_cut_28 ?_
      refine ww_bdR (fun o4 => ?_)
      refine ww_iload_n hX 2 rfl dX11_cut_31 rfl ?_
      refine ww_putI hX f_X11_81 rfl dX11_cut_32 ?_
      refine ww_bds (fun s5 => ?_)
      refine ww_iload_n hX 0 rfl dX11_cut_35 rfl ?_
      exact ww_iret B dX11_cut_36
    · exact ww_sub [] rfl (t_X11_cut_15 B fu   st)
theorem c_X11_cut (G : GX) (l : Launch) (fu : Nat) (th : Nat) (p1 : Int32) (st : St) : MI G NN l yX11_cut cX11_cut 3 (some .int) 1 [.ref (G.2.2.1 + th), .int p1] st (f_X11_cut fu th p1 st) := mkI (by decide) (Nat.le_of_ble_eq_true rfl) (fun X res hl hG B => by subst hl; subst hG; exact t_X11_cut B fu th p1 st)
/-! StageHouse.closeText(I)I -/
def b_X11_closeText_32 (fu : Nat)  (y0 : Int32) (st : St) : Option (Int32 × St) :=
  some (y0, st)
set_option maxHeartbeats 4000000 in
set_option maxRecDepth 100000 in
theorem t_X11_closeText_32 {X : CX} {res : Int32 × St} (B : BI X cX11_closeText RX11 2 1 NN (some .int) res) (fu : Nat)  (y0 : Int32) (st : St) : WW X res NN 32 [] [.int y0] st (b_X11_closeText_32 fu y0 st) := by
  have hX := B.1
  have hL := B.2.1
  unfold b_X11_closeText_32
  exact ww_iret B dX11_closeText_32
def f_X11_closeText (fu : Nat) (th : Nat) (p1 : Int32) (st : St) : Option (Int32 × St) :=
  ck (¬ gR st th 0 = 0) <|
  ck ((kd th).1 = 11) <|
  bd (gR st th 0) fun o1 =>
  ck ((kd o1).1 = 9) <|
  bd (sI st o1 1 0) fun s2 =>
  ck (¬ gR s2 th 0 = 0) <|
  ck ((kd th).1 = 11) <|
  bd (gR s2 th 0) fun o3 =>
  ck ((kd o3).1 = 9) <|
  if (gI s2 o3 8) = 0 then (
  b_X11_closeText_32 fu  p1 s2)
  else (
  ck (¬ gR s2 th 0 = 0) <|
  ck ((kd th).1 = 11) <|
  bd (gR s2 th 0) fun o4 =>
  ck ((kd o4).1 = 9) <|
  b_X11_closeText_32 fu  (((-10)) - (gI s2 o4 9)) s2)
set_option maxHeartbeats 4000000 in
set_option maxRecDepth 100000 in
theorem t_X11_closeText {X : CX} {res : Int32 × St} (B : BI X cX11_closeText RX11 2 1 NN (some .int) res) (fu : Nat) (th : Nat) (p1 : Int32) (st : St) : WW X res NN 0 [(0, .ref (x_b X + th)), (1, .int p1)] [] st (f_X11_closeText fu th p1 st) := by
  have hX := B.1
  have hL := B.2.1
  unfold f_X11_closeText
  refine ww_aload_n hX 0 rfl dX11_closeText_0 rfl ?_
  refine ww_getR hX f_X11_10 (Or.inl ⟨_, rfl⟩) dX11_closeText_1 ?_
  refine ww_bdR (fun o1 => ?_)
  refine ww_iconst (v := 0) hX rfl dX11_closeText_4 ?_
  refine ww_putI hX f_X11_81 rfl dX11_closeText_5 ?_
  refine ww_bds (fun s2 => ?_)
  refine ww_aload_n hX 0 rfl dX11_closeText_8 rfl ?_
  refine ww_getR hX f_X11_10 (Or.inl ⟨_, rfl⟩) dX11_closeText_9 ?_
  refine ww_bdR (fun o3 => ?_)
  refine ww_getI hX f_X11_98 (Or.inl rfl) dX11_closeText_12 ?_
  refine ww_pc (b := 15) rfl ?_
  refine ww_if_ne (tgt := 22) hX dX11_closeText_15 (by decide) ?_ ?_
  · refine ww_bipush (v := (-10)) hX rfl dX11_closeText_22 ?_
    refine ww_aload_n hX 0 rfl dX11_closeText_24 rfl ?_
    refine ww_getR hX f_X11_10 (Or.inl ⟨_, rfl⟩) dX11_closeText_25 ?_
    refine ww_bdR (fun o4 => ?_)
    refine ww_getI hX f_X11_325 (Or.inl rfl) dX11_closeText_28 ?_
    refine ww_isub hX dX11_closeText_31 ?_
    exact ww_sub [] rfl (t_X11_closeText_32 B fu  (((-10)) - (gI s2 o4 9)) s2)
  · refine ww_iload_n hX 1 rfl dX11_closeText_18 rfl ?_
    refine ww_goto (tgt := 32) hX dX11_closeText_19 (by decide) ?_
    exact ww_sub [] rfl (t_X11_closeText_32 B fu  p1 s2)
theorem c_X11_closeText (G : GX) (l : Launch) (fu : Nat) (th : Nat) (p1 : Int32) (st : St) : MI G NN l yX11_closeText cX11_closeText 2 (some .int) 1 [.ref (G.2.2.1 + th), .int p1] st (f_X11_closeText fu th p1 st) := mkI (by decide) (Nat.le_of_ble_eq_true rfl) (fun X res hl hG B => by subst hl; subst hG; exact t_X11_closeText B fu th p1 st)
/-! StageHouse.within(III)Z -/
def b_X11_within_15 (fu : Nat)  (y0 : Int32) (st : St) : Option (Int32 × St) :=
  ck (isb y0) (some (y0, st))
set_option maxHeartbeats 4000000 in
set_option maxRecDepth 100000 in
theorem t_X11_within_15 {X : CX} {res : Int32 × St} (B : BI X cX11_within RX11 3 1 NN (some .boolean) res) (fu : Nat)  (y0 : Int32) (st : St) : WW X res NN 15 [] [.int y0] st (b_X11_within_15 fu y0 st) := by
  have hX := B.1
  have hL := B.2.1
  unfold b_X11_within_15
  exact ww_zret B dX11_within_15
def b_X11_within_14 (fu : Nat)   (st : St) : Option (Int32 × St) :=
  b_X11_within_15 fu  0 st
set_option maxHeartbeats 4000000 in
set_option maxRecDepth 100000 in
theorem t_X11_within_14 {X : CX} {res : Int32 × St} (B : BI X cX11_within RX11 3 1 NN (some .boolean) res) (fu : Nat)   (st : St) : WW X res NN 14 [] [] st (b_X11_within_14 fu  st) := by
  have hX := B.1
  have hL := B.2.1
  unfold b_X11_within_14
  refine ww_iconst (v := 0) hX rfl dX11_within_14 ?_
  exact t_X11_within_15 B fu  0 st
def f_X11_within (fu : Nat) (p0 : Int32) (p1 : Int32) (p2 : Int32) (st : St) : Option (Int32 × St) :=
  if p0 < p1 then (
  b_X11_within_14 fu   st)
  else (
  if p2 < p0 then (
  b_X11_within_14 fu   st)
  else (
  b_X11_within_15 fu  1 st))
set_option maxHeartbeats 4000000 in
set_option maxRecDepth 100000 in
theorem t_X11_within {X : CX} {res : Int32 × St} (B : BI X cX11_within RX11 3 1 NN (some .boolean) res) (fu : Nat) (p0 : Int32) (p1 : Int32) (p2 : Int32) (st : St) : WW X res NN 0 [(0, .int p0), (1, .int p1), (2, .int p2)] [] st (f_X11_within fu p0 p1 p2 st) := by
  have hX := B.1
  have hL := B.2.1
  unfold f_X11_within
  refine ww_iload_n hX 0 rfl dX11_within_0 rfl ?_
  refine ww_iload_n hX 1 rfl dX11_within_1 rfl ?_
  refine ww_icmp_lt (tgt := 14) hX dX11_within_2 (by decide) ?_ ?_
  · exact ww_sub [] rfl (t_X11_within_14 B fu   st)
  · refine ww_iload_n hX 0 rfl dX11_within_5 rfl ?_
    refine ww_iload_n hX 2 rfl dX11_within_6 rfl ?_
    refine ww_icmp_gt (tgt := 14) hX dX11_within_7 (by decide) ?_ ?_
    · exact ww_sub [] rfl (t_X11_within_14 B fu   st)
    · refine ww_iconst (v := 1) hX rfl dX11_within_10 ?_
      refine ww_goto (tgt := 15) hX dX11_within_11 (by decide) ?_
      exact ww_sub [] rfl (t_X11_within_15 B fu  1 st)
theorem c_X11_within (G : GX) (l : Launch) (fu : Nat) (p0 : Int32) (p1 : Int32) (p2 : Int32) (st : St) : MI G NN l yX11_within cX11_within 3 (some .boolean) 1 [.int p0, .int p1, .int p2] st (f_X11_within fu p0 p1 p2 st) := mkI (by decide) (Nat.le_of_ble_eq_true rfl) (fun X res hl hG B => by subst hl; subst hG; exact t_X11_within B fu p0 p1 p2 st)
/-! StageHouse.list(I)I -/
def b_X11_list_53 (fu : Nat) (x0 : Nat) (x2 : Nat)  (st : St) : Option (Int32 × St) :=
  ck ((kd x2).1 = 8) <|
  ck ((kd x0).1 = 11) <|
  ca (f_X11_closeText fu x0 (gI st x2 12) st) fun r8 s9 =>
  some (r8, s9)
set_option maxHeartbeats 4000000 in
set_option maxRecDepth 100000 in
theorem t_X11_list_53 {X : CX} {res : Int32 × St} (B : BI X cX11_list RX11 3 11 NN (some .int) res) (fu : Nat) (x0 : Nat) (x2 : Nat)  (st : St) : WW X res NN 53 [(0, .ref (x_b X + x0)), (2, .ref (x_b X + x2))] [] st (b_X11_list_53 fu x0 x2 st) := by
  have hX := B.1
  have hL := B.2.1
  unfold b_X11_list_53
  refine ww_aload_n hX 0 rfl dX11_list_53 rfl ?_
  refine ww_aload_n hX 1 rfl dX11_list_54 rfl ?_
  refine ww_getI hX f_X11_104 (Or.inl rfl) dX11_list_55 ?_
  refine ww_callVI (As := [.int (gI st x2 12)]) (rest := []) (o := x0) hX (Rk.of B.2.2.1 B.2.2.2.1 (by decide) (by decide)) g_X11_107 g_X11_107.in (fun _ => c_X11_closeText (x_G X) (x_l X) fu x0 (gI st x2 12) st) rfl rfl (Nat.le_of_ble_eq_true rfl) dX11_list_58 (fun r8 s9 => ?_)
  exact ww_iret B dX11_list_61
def f_X11_list (fu : Nat) (th : Nat) (p1 : Int32) (st : St) : Option (Int32 × St) :=
  ca (f_X11_within fu p1 0 3 st) fun r1 s2 =>
  if r1 = 0 then (
  ck (¬ gR s2 th 0 = 0) <|
  ck ((kd th).1 = 11) <|
  bd (gR s2 th 0) fun o12 =>
  ck ((kd o12).1 = 9) <|
  bd (sI s2 o12 1 0) fun s13 =>
  some ((-1), s13))
  else (
  ck (¬ gR s2 th 2 = 0) <|
  ck ((kd th).1 = 11) <|
  bd (gR s2 th 2) fun o3 =>
  ck (¬ gR s2 o3 6 = 0) <|
  ck ((kd o3).1 = 1) <|
  bd (gR s2 o3 6) fun o4 =>
  ck (¬ gR s2 th 0 = 0) <|
  ck ((kd th).1 = 11) <|
  bd (gR s2 th 0) fun o5 =>
  ck ((kd o4).1 = 8) <|
  cv (f_X8_read fu o4 o5 s2) fun s6 =>
  ck (¬ gR s6 th 0 = 0) <|
  ck ((kd th).1 = 11) <|
  bd (gR s6 th 0) fun o7 =>
  ck ((kd o7).1 = 9) <|
  if (gI s6 o7 8) = 0 then (
  ck (¬ gR s6 th 2 = 0) <|
  ck ((kd th).1 = 11) <|
  bd (gR s6 th 2) fun o10 =>
  ck ((kd o10).1 = 1) <|
  cv (f_X1_adopt fu o10 p1 s6) fun s11 =>
  b_X11_list_53 fu th o4  s11)
  else (
  b_X11_list_53 fu th o4  s6))
set_option maxHeartbeats 4000000 in
set_option maxRecDepth 100000 in
theorem t_X11_list {X : CX} {res : Int32 × St} (B : BI X cX11_list RX11 3 11 NN (some .int) res) (fu : Nat) (th : Nat) (p1 : Int32) (st : St) : WW X res NN 0 [(0, .ref (x_b X + th)), (1, .int p1)] [] st (f_X11_list fu th p1 st) := by
  have hX := B.1
  have hL := B.2.1
  unfold f_X11_list
  refine ww_iload_n hX 1 rfl dX11_list_0 rfl ?_
  refine ww_iconst (v := 0) hX rfl dX11_list_1 ?_
  refine ww_iconst (v := 3) hX rfl dX11_list_2 ?_
  refine ww_callSI (As := [.int p1, .int 0, .int 3]) (rest := []) hX (Rk.of B.2.2.1 B.2.2.2.1 (by decide) (by decide)) g_X11_84 (c_X11_within (x_G X) (x_l X) fu p1 0 3 st) rfl rfl (Nat.le_of_ble_eq_true rfl) dX11_list_3 (fun r1 s2 => ?_)
  refine ww_if_ne (tgt := 19) hX dX11_list_6 (by decide) ?_ ?_
  · refine ww_aload_n hX 0 rfl dX11_list_19 rfl ?_
    refine ww_getR hX f_X11_28 (Or.inl ⟨_, rfl⟩) dX11_list_20 ?_
    refine ww_bdR (fun o3 => ?_)
    refine ww_getR hX f_X11_88 (Or.inl ⟨_, rfl⟩) dX11_list_23 ?_
    refine ww_bdR (fun o4 => ?_)
    refine ww_astore_n (lv' := [(2, .ref (x_b X + o4)), (0, .ref (x_b X + th)), (1, .int p1)]) hX hL dX11_list_26 rfl (by decide) rfl ?_
    refine ww_aload_n hX 0 rfl dX11_list_27 rfl ?_
    refine ww_aload_n hX 1 rfl dX11_list_28 rfl ?_
    refine ww_getR hX f_X11_10 (Or.inl ⟨_, rfl⟩) dX11_list_29 ?_
    refine ww_bdR (fun o5 => ?_)
    refine ww_pc (b := 32) rfl ?_
    refine ww_callVV (As := [.ref (x_b X + o5)]) (rest := []) (o := o4) hX (Rk.of B.2.2.1 B.2.2.2.1 (by decide) (by decide)) g_X11_92 g_X11_92.in (fun _ => c_X8_read (x_G X) (x_l X) fu o4 o5 s2) rfl rfl (Nat.le_of_ble_eq_true rfl) dX11_list_32 (fun s6 => ?_)
    refine ww_aload_n hX 1 rfl dX11_list_35 rfl ?_
    refine ww_getR hX f_X11_10 (Or.inl ⟨_, rfl⟩) dX11_list_36 ?_
    refine ww_bdR (fun o7 => ?_)
    refine ww_getI hX f_X11_98 (Or.inl rfl) dX11_list_39 ?_
    refine ww_if_ne (tgt := 53) hX dX11_list_42 (by decide) ?_ ?_
    · exact ww_sub [1, 0] rfl (t_X11_list_53 B fu th o4  s6)
    · refine ww_aload_n hX 1 rfl dX11_list_45 rfl ?_
      refine ww_getR hX f_X11_28 (Or.inl ⟨_, rfl⟩) dX11_list_46 ?_
      refine ww_bdR (fun o10 => ?_)
      refine ww_iload_n hX 2 rfl dX11_list_49 rfl ?_
      refine ww_callVV (As := [.int p1]) (rest := []) (o := o10) hX (Rk.of B.2.2.1 B.2.2.2.1 (by decide) (by decide)) g_X11_101 g_X11_101.in (fun _ => c_X1_adopt (x_G X) (x_l X) fu o10 p1 s6) rfl rfl (Nat.le_of_ble_eq_true rfl) dX11_list_50 (fun s11 => ?_)
      exact ww_sub [1, 0] rfl (t_X11_list_53 B fu th o4  s11)
  · refine ww_aload_n hX 0 rfl dX11_list_9 rfl ?_
    refine ww_getR hX f_X11_10 (Or.inl ⟨_, rfl⟩) dX11_list_10 ?_
    refine ww_bdR (fun o12 => ?_)
    refine ww_iconst (v := 0) hX rfl dX11_list_13 ?_
    refine ww_putI hX f_X11_81 rfl dX11_list_14 ?_
    refine ww_bds (fun s13 => ?_)
    refine ww_iconst (v := (-1)) hX rfl dX11_list_17 ?_
    exact ww_iret B dX11_list_18
theorem c_X11_list (G : GX) (l : Launch) (fu : Nat) (th : Nat) (p1 : Int32) (st : St) : MI G NN l yX11_list cX11_list 3 (some .int) 11 [.ref (G.2.2.1 + th), .int p1] st (f_X11_list fu th p1 st) := mkI (by decide) (Nat.le_of_ble_eq_true rfl) (fun X res hl hG B => by subst hl; subst hG; exact t_X11_list B fu th p1 st)
/-! StageHouse.lock(I)I -/
def f_X11_lock (fu : Nat) (th : Nat) (p1 : Int32) (st : St) : Option (Int32 × St) :=
  ca (f_X11_within fu p1 0 7 st) fun r1 s2 =>
  if r1 = 0 then (
  ck (¬ gR s2 th 0 = 0) <|
  ck ((kd th).1 = 11) <|
  bd (gR s2 th 0) fun o8 =>
  ck ((kd o8).1 = 9) <|
  bd (sI s2 o8 1 0) fun s9 =>
  some ((-1), s9))
  else (
  ck (¬ gR s2 th 1 = 0) <|
  ck ((kd th).1 = 11) <|
  bd (gR s2 th 1) fun o3 =>
  ck (¬ gR s2 th 0 = 0) <|
  ck ((kd th).1 = 11) <|
  bd (gR s2 th 0) fun o4 =>
  ck ((kd o3).1 = 7) <|
  cv (f_X7_readLock fu o3 o4 p1 s2) fun s5 =>
  ck ((kd th).1 = 11) <|
  ca (f_X11_closeText fu th 0 s5) fun r6 s7 =>
  some (r6, s7))
set_option maxHeartbeats 4000000 in
set_option maxRecDepth 100000 in
theorem t_X11_lock {X : CX} {res : Int32 × St} (B : BI X cX11_lock RX11 2 39 NN (some .int) res) (fu : Nat) (th : Nat) (p1 : Int32) (st : St) : WW X res NN 0 [(0, .ref (x_b X + th)), (1, .int p1)] [] st (f_X11_lock fu th p1 st) := by
  have hX := B.1
  have hL := B.2.1
  unfold f_X11_lock
  refine ww_iload_n hX 1 rfl dX11_lock_0 rfl ?_
  refine ww_iconst (v := 0) hX rfl dX11_lock_1 ?_
  refine ww_bipush (v := 7) hX rfl dX11_lock_2 ?_
  refine ww_callSI (As := [.int p1, .int 0, .int 7]) (rest := []) hX (Rk.of B.2.2.1 B.2.2.2.1 (by decide) (by decide)) g_X11_84 (c_X11_within (x_G X) (x_l X) fu p1 0 7 st) rfl rfl (Nat.le_of_ble_eq_true rfl) dX11_lock_4 (fun r1 s2 => ?_)
  refine ww_if_ne (tgt := 20) hX dX11_lock_7 (by decide) ?_ ?_
  · refine ww_aload_n hX 0 rfl dX11_lock_20 rfl ?_
    refine ww_getR hX f_X11_19 (Or.inl ⟨_, rfl⟩) dX11_lock_21 ?_
    refine ww_bdR (fun o3 => ?_)
    refine ww_aload_n hX 0 rfl dX11_lock_24 rfl ?_
    refine ww_getR hX f_X11_10 (Or.inl ⟨_, rfl⟩) dX11_lock_25 ?_
    refine ww_bdR (fun o4 => ?_)
    refine ww_iload_n hX 1 rfl dX11_lock_28 rfl ?_
    refine ww_callVV (As := [.ref (x_b X + o4), .int p1]) (rest := []) (o := o3) hX (Rk.of B.2.2.1 B.2.2.2.1 (by decide) (by decide)) g_X11_111 g_X11_111.in (fun _ => c_X7_readLock (x_G X) (x_l X) fu o3 o4 p1 s2) rfl rfl (Nat.le_of_ble_eq_true rfl) dX11_lock_29 (fun s5 => ?_)
    refine ww_aload_n hX 0 rfl dX11_lock_32 rfl ?_
    refine ww_pc (b := 33) rfl ?_
    refine ww_iconst (v := 0) hX rfl dX11_lock_33 ?_
    refine ww_callVI (As := [.int 0]) (rest := []) (o := th) hX (Rk.of B.2.2.1 B.2.2.2.1 (by decide) (by decide)) g_X11_107 g_X11_107.in (fun _ => c_X11_closeText (x_G X) (x_l X) fu th 0 s5) rfl rfl (Nat.le_of_ble_eq_true rfl) dX11_lock_34 (fun r6 s7 => ?_)
    exact ww_iret B dX11_lock_37
  · refine ww_aload_n hX 0 rfl dX11_lock_10 rfl ?_
    refine ww_getR hX f_X11_10 (Or.inl ⟨_, rfl⟩) dX11_lock_11 ?_
    refine ww_bdR (fun o8 => ?_)
    refine ww_iconst (v := 0) hX rfl dX11_lock_14 ?_
    refine ww_putI hX f_X11_81 rfl dX11_lock_15 ?_
    refine ww_bds (fun s9 => ?_)
    refine ww_iconst (v := (-1)) hX rfl dX11_lock_18 ?_
    exact ww_iret B dX11_lock_19
theorem c_X11_lock (G : GX) (l : Launch) (fu : Nat) (th : Nat) (p1 : Int32) (st : St) : MI G NN l yX11_lock cX11_lock 2 (some .int) 39 [.ref (G.2.2.1 + th), .int p1] st (f_X11_lock fu th p1 st) := mkI (by decide) (Nat.le_of_ble_eq_true rfl) (fun X res hl hG B => by subst hl; subst hG; exact t_X11_lock B fu th p1 st)
/-! StageHouse.rules()I -/
def f_X11_rules (fu : Nat) (th : Nat) (st : St) : Option (Int32 × St) :=
  ck (¬ gR st th 4 = 0) <|
  ck ((kd th).1 = 11) <|
  bd (gR st th 4) fun o1 =>
  ck (¬ gR st th 0 = 0) <|
  ck ((kd th).1 = 11) <|
  bd (gR st th 0) fun o2 =>
  ck ((kd o1).1 = 6) <|
  cv (f_X6_read fu o1 o2 st) fun s3 =>
  ck (¬ gR s3 th 4 = 0) <|
  ck ((kd th).1 = 11) <|
  bd (gR s3 th 4) fun o4 =>
  ck ((kd o4).1 = 6) <|
  ck ((kd th).1 = 11) <|
  ca (f_X11_closeText fu th (gI s3 o4 2) s3) fun r5 s6 =>
  some (r5, s6)
set_option maxHeartbeats 4000000 in
set_option maxRecDepth 100000 in
theorem t_X11_rules {X : CX} {res : Int32 × St} (B : BI X cX11_rules RX11 1 10 NN (some .int) res) (fu : Nat) (th : Nat) (st : St) : WW X res NN 0 [(0, .ref (x_b X + th))] [] st (f_X11_rules fu th st) := by
  have hX := B.1
  have hL := B.2.1
  unfold f_X11_rules
  refine ww_aload_n hX 0 rfl dX11_rules_0 rfl ?_
  refine ww_getR hX f_X11_42 (Or.inl ⟨_, rfl⟩) dX11_rules_1 ?_
  refine ww_bdR (fun o1 => ?_)
  refine ww_aload_n hX 0 rfl dX11_rules_4 rfl ?_
  refine ww_getR hX f_X11_10 (Or.inl ⟨_, rfl⟩) dX11_rules_5 ?_
  refine ww_bdR (fun o2 => ?_)
  refine ww_callVV (As := [.ref (x_b X + o2)]) (rest := []) (o := o1) hX (Rk.of B.2.2.1 B.2.2.2.1 (by decide) (by decide)) g_X11_115 g_X11_115.in (fun _ => c_X6_read (x_G X) (x_l X) fu o1 o2 st) rfl rfl (Nat.le_of_ble_eq_true rfl) dX11_rules_8 (fun s3 => ?_)
  refine ww_aload_n hX 0 rfl dX11_rules_11 rfl ?_
  refine ww_aload_n hX 0 rfl dX11_rules_12 rfl ?_
  refine ww_pc (b := 13) rfl ?_
  refine ww_getR hX f_X11_42 (Or.inl ⟨_, rfl⟩) dX11_rules_13 ?_
  refine ww_bdR (fun o4 => ?_)
  refine ww_getI hX f_X11_116 (Or.inl rfl) dX11_rules_16 ?_
  refine ww_callVI (As := [.int (gI s3 o4 2)]) (rest := []) (o := th) hX (Rk.of B.2.2.1 B.2.2.2.1 (by decide) (by decide)) g_X11_107 g_X11_107.in (fun _ => c_X11_closeText (x_G X) (x_l X) fu th (gI s3 o4 2) s3) rfl rfl (Nat.le_of_ble_eq_true rfl) dX11_rules_19 (fun r5 s6 => ?_)
  exact ww_iret B dX11_rules_22
theorem c_X11_rules (G : GX) (l : Launch) (fu : Nat) (th : Nat) (st : St) : MI G NN l yX11_rules cX11_rules 1 (some .int) 10 [.ref (G.2.2.1 + th)] st (f_X11_rules fu th st) := mkI (by decide) (Nat.le_of_ble_eq_true rfl) (fun X res hl hG B => by subst hl; subst hG; exact t_X11_rules B fu th st)
/-! StageHouse.shares()I -/
def f_X11_shares (fu : Nat) (th : Nat) (st : St) : Option (Int32 × St) :=
  ck (¬ gR st th 6 = 0) <|
  ck ((kd th).1 = 11) <|
  bd (gR st th 6) fun o1 =>
  ck (¬ gR st th 0 = 0) <|
  ck ((kd th).1 = 11) <|
  bd (gR st th 0) fun o2 =>
  ck ((kd o1).1 = 5) <|
  cv (f_X5_read fu o1 o2 st) fun s3 =>
  ck (¬ gR s3 th 6 = 0) <|
  ck ((kd th).1 = 11) <|
  bd (gR s3 th 6) fun o4 =>
  ck ((kd o4).1 = 5) <|
  ck ((kd th).1 = 11) <|
  ca (f_X11_closeText fu th (gI s3 o4 2) s3) fun r5 s6 =>
  some (r5, s6)
set_option maxHeartbeats 4000000 in
set_option maxRecDepth 100000 in
theorem t_X11_shares {X : CX} {res : Int32 × St} (B : BI X cX11_shares RX11 1 10 NN (some .int) res) (fu : Nat) (th : Nat) (st : St) : WW X res NN 0 [(0, .ref (x_b X + th))] [] st (f_X11_shares fu th st) := by
  have hX := B.1
  have hL := B.2.1
  unfold f_X11_shares
  refine ww_aload_n hX 0 rfl dX11_shares_0 rfl ?_
  refine ww_getR hX f_X11_58 (Or.inl ⟨_, rfl⟩) dX11_shares_1 ?_
  refine ww_bdR (fun o1 => ?_)
  refine ww_aload_n hX 0 rfl dX11_shares_4 rfl ?_
  refine ww_getR hX f_X11_10 (Or.inl ⟨_, rfl⟩) dX11_shares_5 ?_
  refine ww_bdR (fun o2 => ?_)
  refine ww_callVV (As := [.ref (x_b X + o2)]) (rest := []) (o := o1) hX (Rk.of B.2.2.1 B.2.2.2.1 (by decide) (by decide)) g_X11_117 g_X11_117.in (fun _ => c_X5_read (x_G X) (x_l X) fu o1 o2 st) rfl rfl (Nat.le_of_ble_eq_true rfl) dX11_shares_8 (fun s3 => ?_)
  refine ww_aload_n hX 0 rfl dX11_shares_11 rfl ?_
  refine ww_aload_n hX 0 rfl dX11_shares_12 rfl ?_
  refine ww_pc (b := 13) rfl ?_
  refine ww_getR hX f_X11_58 (Or.inl ⟨_, rfl⟩) dX11_shares_13 ?_
  refine ww_bdR (fun o4 => ?_)
  refine ww_getI hX f_X11_118 (Or.inl rfl) dX11_shares_16 ?_
  refine ww_callVI (As := [.int (gI s3 o4 2)]) (rest := []) (o := th) hX (Rk.of B.2.2.1 B.2.2.2.1 (by decide) (by decide)) g_X11_107 g_X11_107.in (fun _ => c_X11_closeText (x_G X) (x_l X) fu th (gI s3 o4 2) s3) rfl rfl (Nat.le_of_ble_eq_true rfl) dX11_shares_19 (fun r5 s6 => ?_)
  exact ww_iret B dX11_shares_22
theorem c_X11_shares (G : GX) (l : Launch) (fu : Nat) (th : Nat) (st : St) : MI G NN l yX11_shares cX11_shares 1 (some .int) 10 [.ref (G.2.2.1 + th)] st (f_X11_shares fu th st) := mkI (by decide) (Nat.le_of_ble_eq_true rfl) (fun X res hl hG B => by subst hl; subst hG; exact t_X11_shares B fu th st)
/-! StageHouse.fault()I -/
def f_X11_fault (fu : Nat) (th : Nat) (st : St) : Option (Int32 × St) :=
  ck (¬ gR st th 0 = 0) <|
  ck ((kd th).1 = 11) <|
  bd (gR st th 0) fun o1 =>
  ck ((kd o1).1 = 9) <|
  some (gI st o1 8, st)
set_option maxHeartbeats 4000000 in
set_option maxRecDepth 100000 in
theorem t_X11_fault {X : CX} {res : Int32 × St} (B : BI X cX11_fault RX11 1 1 NN (some .int) res) (fu : Nat) (th : Nat) (st : St) : WW X res NN 0 [(0, .ref (x_b X + th))] [] st (f_X11_fault fu th st) := by
  have hX := B.1
  have hL := B.2.1
  unfold f_X11_fault
  refine ww_aload_n hX 0 rfl dX11_fault_0 rfl ?_
  refine ww_getR hX f_X11_10 (Or.inl ⟨_, rfl⟩) dX11_fault_1 ?_
  refine ww_bdR (fun o1 => ?_)
  refine ww_getI hX f_X11_98 (Or.inl rfl) dX11_fault_4 ?_
  exact ww_iret B dX11_fault_7
theorem c_X11_fault (G : GX) (l : Launch) (fu : Nat) (th : Nat) (st : St) : MI G NN l yX11_fault cX11_fault 1 (some .int) 1 [.ref (G.2.2.1 + th)] st (f_X11_fault fu th st) := mkI (by decide) (Nat.le_of_ble_eq_true rfl) (fun X res hl hG B => by subst hl; subst hG; exact t_X11_fault B fu th st)
/-! StageHouse.cueOf(III)I -/
def b_X11_cueOf_30 (fu : Nat)   (st : St) : Option (Int32 × St) :=
  some ((-1), st)
set_option maxHeartbeats 4000000 in
set_option maxRecDepth 100000 in
theorem t_X11_cueOf_30 {X : CX} {res : Int32 × St} (B : BI X cX11_cueOf RX11 4 2 NN (some .int) res) (fu : Nat)   (st : St) : WW X res NN 30 [] [] st (b_X11_cueOf_30 fu  st) := by
  have hX := B.1
  have hL := B.2.1
  unfold b_X11_cueOf_30
  refine ww_iconst (v := (-1)) hX rfl dX11_cueOf_30 ?_
  exact ww_iret B dX11_cueOf_31
def f_X11_cueOf (fu : Nat) (th : Nat) (p1 : Int32) (p2 : Int32) (p3 : Int32) (st : St) : Option (Int32 × St) :=
  ca (f_X11_within fu p1 0 3 st) fun r1 s2 =>
  if r1 = 0 then (
  b_X11_cueOf_30 fu   s2)
  else (
  ca (f_X11_within fu p2 1 999 s2) fun r3 s4 =>
  if r3 = 0 then (
  b_X11_cueOf_30 fu   s4)
  else (
  ca (f_X11_within fu p3 0 99 s4) fun r5 s6 =>
  if r5 = 0 then (
  b_X11_cueOf_30 fu   s6)
  else (
  ck (¬ gR s6 th 2 = 0) <|
  ck ((kd th).1 = 11) <|
  bd (gR s6 th 2) fun o7 =>
  ck (¬ gR s6 o7 0 = 0) <|
  ck ((kd o7).1 = 1) <|
  bd (gR s6 o7 0) fun o8 =>
  ck (¬ gR s6 o8 (ix p1) = 0) <|
  ck ((kd o8).1 = 104 ∧ inb p1 (kd o8).2) <|
  bd (gR s6 o8 (ix p1)) fun o9 =>
  ck (¬ gR s6 o9 0 = 0) <|
  ck ((kd o9).1 = 3) <|
  bd (gR s6 o9 0) fun o10 =>
  ck ((kd o10).1 = 8) <|
  ca (f_X8_find fu o10 ((100 * p2) + p3) s6) fun r11 s12 =>
  some (r11, s12))))
set_option maxHeartbeats 4000000 in
set_option maxRecDepth 100000 in
theorem t_X11_cueOf {X : CX} {res : Int32 × St} (B : BI X cX11_cueOf RX11 4 2 NN (some .int) res) (fu : Nat) (th : Nat) (p1 : Int32) (p2 : Int32) (p3 : Int32) (st : St) : WW X res NN 0 [(0, .ref (x_b X + th)), (1, .int p1), (2, .int p2), (3, .int p3)] [] st (f_X11_cueOf fu th p1 p2 p3 st) := by
  have hX := B.1
  have hL := B.2.1
  unfold f_X11_cueOf
  refine ww_iload_n hX 1 rfl dX11_cueOf_0 rfl ?_
  refine ww_iconst (v := 0) hX rfl dX11_cueOf_1 ?_
  refine ww_iconst (v := 3) hX rfl dX11_cueOf_2 ?_
  refine ww_callSI (As := [.int p1, .int 0, .int 3]) (rest := []) hX (Rk.of B.2.2.1 B.2.2.2.1 (by decide) (by decide)) g_X11_84 (c_X11_within (x_G X) (x_l X) fu p1 0 3 st) rfl rfl (Nat.le_of_ble_eq_true rfl) dX11_cueOf_3 (fun r1 s2 => ?_)
  refine ww_if_eq (tgt := 30) hX dX11_cueOf_6 (by decide) ?_ ?_
  · exact ww_sub [] rfl (t_X11_cueOf_30 B fu   s2)
  · refine ww_iload_n hX 2 rfl dX11_cueOf_9 rfl ?_
    refine ww_iconst (v := 1) hX rfl dX11_cueOf_10 ?_
    refine ww_sipush (v := 999) hX rfl dX11_cueOf_11 ?_
    refine ww_callSI (As := [.int p2, .int 1, .int 999]) (rest := []) hX (Rk.of B.2.2.1 B.2.2.2.1 (by decide) (by decide)) g_X11_84 (c_X11_within (x_G X) (x_l X) fu p2 1 999 s2) rfl rfl (Nat.le_of_ble_eq_true rfl) dX11_cueOf_14 (fun r3 s4 => ?_)
    refine ww_if_eq (tgt := 30) hX dX11_cueOf_17 (by decide) ?_ ?_
    · exact ww_sub [] rfl (t_X11_cueOf_30 B fu   s4)
    · refine ww_iload_n hX 3 rfl dX11_cueOf_20 rfl ?_
      refine ww_iconst (v := 0) hX rfl dX11_cueOf_21 ?_
      refine ww_bipush (v := 99) hX rfl dX11_cueOf_22 ?_
      refine ww_callSI (As := [.int p3, .int 0, .int 99]) (rest := []) hX (Rk.of B.2.2.1 B.2.2.2.1 (by decide) (by decide)) g_X11_84 (c_X11_within (x_G X) (x_l X) fu p3 0 99 s4) rfl rfl (Nat.le_of_ble_eq_true rfl) dX11_cueOf_24 (fun r5 s6 => ?_)
      refine ww_if_ne (tgt := 32) hX dX11_cueOf_27 (by decide) ?_ ?_
      · refine ww_aload_n hX 0 rfl dX11_cueOf_32 rfl ?_
        refine ww_getR hX f_X11_28 (Or.inl ⟨_, rfl⟩) dX11_cueOf_33 ?_
        refine ww_bdR (fun o7 => ?_)
        refine ww_getR hX f_X11_125 (Or.inr ⟨_, rfl⟩) dX11_cueOf_36 ?_
        refine ww_bdR (fun o8 => ?_)
        refine ww_iload_n hX 1 rfl dX11_cueOf_39 rfl ?_
        refine ww_aald104c hX k_aald104 dX11_cueOf_40 ?_
        refine ww_bdR (fun o9 => ?_)
        refine ww_getR hX f_X11_129 (Or.inl ⟨_, rfl⟩) dX11_cueOf_41 ?_
        refine ww_bdR (fun o10 => ?_)
        refine ww_bipush (v := 100) hX rfl dX11_cueOf_44 ?_
        refine ww_pc (b := 46) rfl ?_
        refine ww_iload_n hX 2 rfl dX11_cueOf_46 rfl ?_
        refine ww_imul hX dX11_cueOf_47 ?_
        refine ww_iload_n hX 3 rfl dX11_cueOf_48 rfl ?_
        refine ww_iadd hX dX11_cueOf_49 ?_
        refine ww_callVI (As := [.int ((100 * p2) + p3)]) (rest := []) (o := o10) hX (Rk.of B.2.2.1 B.2.2.2.1 (by decide) (by decide)) g_X11_322 g_X11_322.in (fun _ => c_X8_find (x_G X) (x_l X) fu o10 ((100 * p2) + p3) s6) rfl rfl (Nat.le_of_ble_eq_true rfl) dX11_cueOf_50 (fun r11 s12 => ?_)
        exact ww_iret B dX11_cueOf_53
      · exact ww_sub [] rfl (t_X11_cueOf_30 B fu   s6)
theorem c_X11_cueOf (G : GX) (l : Launch) (fu : Nat) (th : Nat) (p1 : Int32) (p2 : Int32) (p3 : Int32) (st : St) : MI G NN l yX11_cueOf cX11_cueOf 4 (some .int) 2 [.ref (G.2.2.1 + th), .int p1, .int p2, .int p3] st (f_X11_cueOf fu th p1 p2 p3 st) := mkI (by decide) (Nat.le_of_ble_eq_true rfl) (fun X res hl hG B => by subst hl; subst hG; exact t_X11_cueOf B fu th p1 p2 p3 st)
/-! StageHouse.tracks(IIII)I -/
def b_X11_tracks_25 (fu : Nat)   (st : St) : Option (Int32 × St) :=
  some ((-1), st)
set_option maxHeartbeats 4000000 in
set_option maxRecDepth 100000 in
theorem t_X11_tracks_25 {X : CX} {res : Int32 × St} (B : BI X cX11_tracks RX11 6 3 NN (some .int) res) (fu : Nat)   (st : St) : WW X res NN 25 [] [] st (b_X11_tracks_25 fu  st) := by
  have hX := B.1
  have hL := B.2.1
  unfold b_X11_tracks_25
  refine ww_iconst (v := (-1)) hX rfl dX11_tracks_25 ?_
  exact ww_iret B dX11_tracks_26
def f_X11_tracks (fu : Nat) (th : Nat) (p1 : Int32) (p2 : Int32) (p3 : Int32) (p4 : Int32) (st : St) : Option (Int32 × St) :=
  ck ((kd th).1 = 11) <|
  ca (f_X11_cueOf fu th p1 p2 p3 st) fun r1 s2 =>
  if r1 < 0 then (
  b_X11_tracks_25 fu   s2)
  else (
  ca (f_X11_within fu p4 1 64 s2) fun r3 s4 =>
  if r3 = 0 then (
  b_X11_tracks_25 fu   s4)
  else (
  ck (¬ gR s4 th 2 = 0) <|
  ck ((kd th).1 = 11) <|
  bd (gR s4 th 2) fun o5 =>
  ck (¬ gR s4 o5 0 = 0) <|
  ck ((kd o5).1 = 1) <|
  bd (gR s4 o5 0) fun o6 =>
  ck (¬ gR s4 o6 (ix p1) = 0) <|
  ck ((kd o6).1 = 104 ∧ inb p1 (kd o6).2) <|
  bd (gR s4 o6 (ix p1)) fun o7 =>
  ck (¬ gR s4 o7 0 = 0) <|
  ck ((kd o7).1 = 3) <|
  bd (gR s4 o7 0) fun o8 =>
  ck ((kd o8).1 = 8) <|
  ca (f_X8_tracked fu o8 r1 (p4 - 1) s4) fun r9 s10 =>
  some (r9, s10)))
set_option maxHeartbeats 4000000 in
set_option maxRecDepth 100000 in
theorem t_X11_tracks {X : CX} {res : Int32 × St} (B : BI X cX11_tracks RX11 6 3 NN (some .int) res) (fu : Nat) (th : Nat) (p1 : Int32) (p2 : Int32) (p3 : Int32) (p4 : Int32) (st : St) : WW X res NN 0 [(0, .ref (x_b X + th)), (1, .int p1), (2, .int p2), (3, .int p3), (4, .int p4)] [] st (f_X11_tracks fu th p1 p2 p3 p4 st) := by
  have hX := B.1
  have hL := B.2.1
  unfold f_X11_tracks
  refine ww_aload_n hX 0 rfl dX11_tracks_0 rfl ?_
  refine ww_iload_n hX 1 rfl dX11_tracks_1 rfl ?_
  refine ww_iload_n hX 2 rfl dX11_tracks_2 rfl ?_
  refine ww_iload_n hX 3 rfl dX11_tracks_3 rfl ?_
  refine ww_callVI (As := [.int p1, .int p2, .int p3]) (rest := []) (o := th) hX (Rk.of B.2.2.1 B.2.2.2.1 (by decide) (by decide)) g_X11_121 g_X11_121.in (fun _ => c_X11_cueOf (x_G X) (x_l X) fu th p1 p2 p3 st) rfl rfl (Nat.le_of_ble_eq_true rfl) dX11_tracks_4 (fun r1 s2 => ?_)
  refine ww_istore (lv' := [(5, .int r1), (0, .ref (x_b X + th)), (1, .int p1), (2, .int p2), (3, .int p3), (4, .int p4)]) hX hL dX11_tracks_7 (by decide) rfl ?_
  refine ww_iload hX 0 rfl dX11_tracks_9 ?_
  refine ww_pc (b := 11) rfl ?_
  refine ww_if_lt (tgt := 25) hX dX11_tracks_11 (by decide) ?_ ?_
  · exact ww_sub [] rfl (t_X11_tracks_25 B fu   s2)
  · refine ww_iload hX 5 rfl dX11_tracks_14 ?_
    refine ww_iconst (v := 1) hX rfl dX11_tracks_16 ?_
    refine ww_bipush (v := 64) hX rfl dX11_tracks_17 ?_
    refine ww_callSI (As := [.int p4, .int 1, .int 64]) (rest := []) hX (Rk.of B.2.2.1 B.2.2.2.1 (by decide) (by decide)) g_X11_84 (c_X11_within (x_G X) (x_l X) fu p4 1 64 s2) rfl rfl (Nat.le_of_ble_eq_true rfl) dX11_tracks_19 (fun r3 s4 => ?_)
    refine ww_if_ne (tgt := 27) hX dX11_tracks_22 (by decide) ?_ ?_
    · refine ww_aload_n hX 1 rfl dX11_tracks_27 rfl ?_
      refine ww_getR hX f_X11_28 (Or.inl ⟨_, rfl⟩) dX11_tracks_28 ?_
      refine ww_bdR (fun o5 => ?_)
      refine ww_getR hX f_X11_125 (Or.inr ⟨_, rfl⟩) dX11_tracks_31 ?_
      refine ww_bdR (fun o6 => ?_)
      refine ww_iload_n hX 2 rfl dX11_tracks_34 rfl ?_
      refine ww_aald104c hX k_aald104 dX11_tracks_35 ?_
      refine ww_bdR (fun o7 => ?_)
      refine ww_getR hX f_X11_129 (Or.inl ⟨_, rfl⟩) dX11_tracks_36 ?_
      refine ww_bdR (fun o8 => ?_)
      refine ww_iload hX 0 rfl dX11_tracks_39 ?_
      refine ww_pc (b := 41) rfl ?_
      refine ww_iload hX 5 rfl dX11_tracks_41 ?_
      refine ww_iconst (v := 1) hX rfl dX11_tracks_43 ?_
      refine ww_isub hX dX11_tracks_44 ?_
      refine ww_callVI (As := [.int r1, .int (p4 - 1)]) (rest := []) (o := o8) hX (Rk.of B.2.2.1 B.2.2.2.1 (by decide) (by decide)) g_X11_134 g_X11_134.in (fun _ => c_X8_tracked (x_G X) (x_l X) fu o8 r1 (p4 - 1) s4) rfl rfl (Nat.le_of_ble_eq_true rfl) dX11_tracks_45 (fun r9 s10 => ?_)
      exact ww_iret B dX11_tracks_48
    · exact ww_sub [] rfl (t_X11_tracks_25 B fu   s4)
theorem c_X11_tracks (G : GX) (l : Launch) (fu : Nat) (th : Nat) (p1 : Int32) (p2 : Int32) (p3 : Int32) (p4 : Int32) (st : St) : MI G NN l yX11_tracks cX11_tracks 6 (some .int) 3 [.ref (G.2.2.1 + th), .int p1, .int p2, .int p3, .int p4] st (f_X11_tracks fu th p1 p2 p3 p4 st) := mkI (by decide) (Nat.le_of_ble_eq_true rfl) (fun X res hl hG B => by subst hl; subst hG; exact t_X11_tracks B fu th p1 p2 p3 p4 st)
/-! StageHouse.go(I)Z -/
def f_X11_go (fu : Nat) (th : Nat) (p1 : Int32) (st : St) : Option (Int32 × St) :=
  ca (f_X11_within fu p1 0 3 st) fun r1 s2 =>
  if r1 = 0 then (
  ck (isb 0) (some (0, s2)))
  else (
  ck (¬ gR s2 th 2 = 0) <|
  ck ((kd th).1 = 11) <|
  bd (gR s2 th 2) fun o3 =>
  ck (¬ gR s2 o3 0 = 0) <|
  ck ((kd o3).1 = 1) <|
  bd (gR s2 o3 0) fun o4 =>
  ck (¬ gR s2 o4 (ix p1) = 0) <|
  ck ((kd o4).1 = 104 ∧ inb p1 (kd o4).2) <|
  bd (gR s2 o4 (ix p1)) fun o5 =>
  ck ((kd o5).1 = 3) <|
  ca (f_X3_following fu o5 s2) fun r6 s7 =>
  if 0 ≤ r6 then (
  ck (¬ gR s7 th 2 = 0) <|
  ck ((kd th).1 = 11) <|
  bd (gR s7 th 2) fun o8 =>
  ck ((kd th).1 = 11) <|
  ck ((kd o8).1 = 1) <|
  cv (f_X1_start fu o8 p1 r6 (gI s7 th 8) s7) fun s9 =>
  ck (isb 1) (some (1, s9)))
  else (
  ck (isb 0) (some (0, s7))))
set_option maxHeartbeats 4000000 in
set_option maxRecDepth 100000 in
theorem t_X11_go {X : CX} {res : Int32 × St} (B : BI X cX11_go RX11 3 7 NN (some .boolean) res) (fu : Nat) (th : Nat) (p1 : Int32) (st : St) : WW X res NN 0 [(0, .ref (x_b X + th)), (1, .int p1)] [] st (f_X11_go fu th p1 st) := by
  have hX := B.1
  have hL := B.2.1
  unfold f_X11_go
  refine ww_iload_n hX 1 rfl dX11_go_0 rfl ?_
  refine ww_iconst (v := 0) hX rfl dX11_go_1 ?_
  refine ww_iconst (v := 3) hX rfl dX11_go_2 ?_
  refine ww_callSI (As := [.int p1, .int 0, .int 3]) (rest := []) hX (Rk.of B.2.2.1 B.2.2.2.1 (by decide) (by decide)) g_X11_84 (c_X11_within (x_G X) (x_l X) fu p1 0 3 st) rfl rfl (Nat.le_of_ble_eq_true rfl) dX11_go_3 (fun r1 s2 => ?_)
  refine ww_if_ne (tgt := 11) hX dX11_go_6 (by decide) ?_ ?_
  · refine ww_aload_n hX 0 rfl dX11_go_11 rfl ?_
    refine ww_getR hX f_X11_28 (Or.inl ⟨_, rfl⟩) dX11_go_12 ?_
    refine ww_bdR (fun o3 => ?_)
    refine ww_getR hX f_X11_125 (Or.inr ⟨_, rfl⟩) dX11_go_15 ?_
    refine ww_bdR (fun o4 => ?_)
    refine ww_iload_n hX 1 rfl dX11_go_18 rfl ?_
    refine ww_aald104c hX k_aald104 dX11_go_19 ?_
    refine ww_bdR (fun o5 => ?_)
    refine ww_callVI (As := []) (rest := []) (o := o5) hX (Rk.of B.2.2.1 B.2.2.2.1 (by decide) (by decide)) g_X11_138 g_X11_138.in (fun _ => c_X3_following (x_G X) (x_l X) fu o5 s2) rfl rfl (Nat.le_of_ble_eq_true rfl) dX11_go_20 (fun r6 s7 => ?_)
    refine ww_istore_n (lv' := [(2, .int r6), (0, .ref (x_b X + th)), (1, .int p1)]) hX hL dX11_go_23 rfl (by decide) rfl ?_
    refine ww_pc (b := 24) rfl ?_
    refine ww_iload_n hX 0 rfl dX11_go_24 rfl ?_
    refine ww_if_ge (tgt := 30) hX dX11_go_25 (by decide) ?_ ?_
    · refine ww_aload_n hX 1 rfl dX11_go_30 rfl ?_
      refine ww_getR hX f_X11_28 (Or.inl ⟨_, rfl⟩) dX11_go_31 ?_
      refine ww_bdR (fun o8 => ?_)
      refine ww_iload_n hX 2 rfl dX11_go_34 rfl ?_
      refine ww_iload_n hX 0 rfl dX11_go_35 rfl ?_
      refine ww_aload_n hX 1 rfl dX11_go_36 rfl ?_
      refine ww_getI hX f_X11_69 (Or.inl rfl) dX11_go_37 ?_
      refine ww_callVV (As := [.int p1, .int r6, .int (gI s7 th 8)]) (rest := []) (o := o8) hX (Rk.of B.2.2.1 B.2.2.2.1 (by decide) (by decide)) g_X11_142 g_X11_142.in (fun _ => c_X1_start (x_G X) (x_l X) fu o8 p1 r6 (gI s7 th 8) s7) rfl rfl (Nat.le_of_ble_eq_true rfl) dX11_go_40 (fun s9 => ?_)
      refine ww_pc (b := 43) rfl ?_
      refine ww_iconst (v := 1) hX rfl dX11_go_43 ?_
      exact ww_zret B dX11_go_44
    · refine ww_iconst (v := 0) hX rfl dX11_go_28 ?_
      exact ww_zret B dX11_go_29
  · refine ww_iconst (v := 0) hX rfl dX11_go_9 ?_
    exact ww_zret B dX11_go_10
theorem c_X11_go (G : GX) (l : Launch) (fu : Nat) (th : Nat) (p1 : Int32) (st : St) : MI G NN l yX11_go cX11_go 3 (some .boolean) 7 [.ref (G.2.2.1 + th), .int p1] st (f_X11_go fu th p1 st) := mkI (by decide) (Nat.le_of_ble_eq_true rfl) (fun X res hl hG B => by subst hl; subst hG; exact t_X11_go B fu th p1 st)
/-! StageHouse.play(III)Z -/
def f_X11_play (fu : Nat) (th : Nat) (p1 : Int32) (p2 : Int32) (p3 : Int32) (st : St) : Option (Int32 × St) :=
  ck ((kd th).1 = 11) <|
  ca (f_X11_cueOf fu th p1 p2 p3 st) fun r1 s2 =>
  if 0 ≤ r1 then (
  ck (¬ gR s2 th 2 = 0) <|
  ck ((kd th).1 = 11) <|
  bd (gR s2 th 2) fun o3 =>
  ck ((kd th).1 = 11) <|
  ck ((kd o3).1 = 1) <|
  cv (f_X1_start fu o3 p1 r1 (gI s2 th 8) s2) fun s4 =>
  ck (isb 1) (some (1, s4)))
  else (
  ck (isb 0) (some (0, s2)))
set_option maxHeartbeats 4000000 in
set_option maxRecDepth 100000 in
theorem t_X11_play {X : CX} {res : Int32 × St} (B : BI X cX11_play RX11 5 7 NN (some .boolean) res) (fu : Nat) (th : Nat) (p1 : Int32) (p2 : Int32) (p3 : Int32) (st : St) : WW X res NN 0 [(0, .ref (x_b X + th)), (1, .int p1), (2, .int p2), (3, .int p3)] [] st (f_X11_play fu th p1 p2 p3 st) := by
  have hX := B.1
  have hL := B.2.1
  unfold f_X11_play
  refine ww_aload_n hX 0 rfl dX11_play_0 rfl ?_
  refine ww_iload_n hX 1 rfl dX11_play_1 rfl ?_
  refine ww_iload_n hX 2 rfl dX11_play_2 rfl ?_
  refine ww_iload_n hX 3 rfl dX11_play_3 rfl ?_
  refine ww_callVI (As := [.int p1, .int p2, .int p3]) (rest := []) (o := th) hX (Rk.of B.2.2.1 B.2.2.2.1 (by decide) (by decide)) g_X11_121 g_X11_121.in (fun _ => c_X11_cueOf (x_G X) (x_l X) fu th p1 p2 p3 st) rfl rfl (Nat.le_of_ble_eq_true rfl) dX11_play_4 (fun r1 s2 => ?_)
  refine ww_istore (lv' := [(4, .int r1), (0, .ref (x_b X + th)), (1, .int p1), (2, .int p2), (3, .int p3)]) hX hL dX11_play_7 (by decide) rfl ?_
  refine ww_iload hX 0 rfl dX11_play_9 ?_
  refine ww_pc (b := 11) rfl ?_
  refine ww_if_ge (tgt := 16) hX dX11_play_11 (by decide) ?_ ?_
  · refine ww_aload_n hX 1 rfl dX11_play_16 rfl ?_
    refine ww_getR hX f_X11_28 (Or.inl ⟨_, rfl⟩) dX11_play_17 ?_
    refine ww_bdR (fun o3 => ?_)
    refine ww_iload_n hX 2 rfl dX11_play_20 rfl ?_
    refine ww_iload hX 0 rfl dX11_play_21 ?_
    refine ww_aload_n hX 1 rfl dX11_play_23 rfl ?_
    refine ww_getI hX f_X11_69 (Or.inl rfl) dX11_play_24 ?_
    refine ww_callVV (As := [.int p1, .int r1, .int (gI s2 th 8)]) (rest := []) (o := o3) hX (Rk.of B.2.2.1 B.2.2.2.1 (by decide) (by decide)) g_X11_142 g_X11_142.in (fun _ => c_X1_start (x_G X) (x_l X) fu o3 p1 r1 (gI s2 th 8) s2) rfl rfl (Nat.le_of_ble_eq_true rfl) dX11_play_27 (fun s4 => ?_)
    refine ww_pc (b := 30) rfl ?_
    refine ww_iconst (v := 1) hX rfl dX11_play_30 ?_
    exact ww_zret B dX11_play_31
  · refine ww_iconst (v := 0) hX rfl dX11_play_14 ?_
    exact ww_zret B dX11_play_15
theorem c_X11_play (G : GX) (l : Launch) (fu : Nat) (th : Nat) (p1 : Int32) (p2 : Int32) (p3 : Int32) (st : St) : MI G NN l yX11_play cX11_play 5 (some .boolean) 7 [.ref (G.2.2.1 + th), .int p1, .int p2, .int p3] st (f_X11_play fu th p1 p2 p3 st) := mkI (by decide) (Nat.le_of_ble_eq_true rfl) (fun X res hl hG B => by subst hl; subst hG; exact t_X11_play B fu th p1 p2 p3 st)
/-! StageHouse.of(II)I -/
def b_X11_of_85 (fu : Nat)  (y0 : Int32) (st : St) : Option (Int32 × St) :=
  some (y0, st)
set_option maxHeartbeats 4000000 in
set_option maxRecDepth 100000 in
theorem t_X11_of_85 {X : CX} {res : Int32 × St} (B : BI X cX11_of RX11 4 4 NN (some .int) res) (fu : Nat)  (y0 : Int32) (st : St) : WW X res NN 85 [] [.int y0] st (b_X11_of_85 fu y0 st) := by
  have hX := B.1
  have hL := B.2.1
  unfold b_X11_of_85
  exact ww_iret B dX11_of_85
def b_X11_of_107 (fu : Nat)  (y0 : Int32) (st : St) : Option (Int32 × St) :=
  some (y0, st)
set_option maxHeartbeats 4000000 in
set_option maxRecDepth 100000 in
theorem t_X11_of_107 {X : CX} {res : Int32 × St} (B : BI X cX11_of RX11 4 4 NN (some .int) res) (fu : Nat)  (y0 : Int32) (st : St) : WW X res NN 107 [] [.int y0] st (b_X11_of_107 fu y0 st) := by
  have hX := B.1
  have hL := B.2.1
  unfold b_X11_of_107
  exact ww_iret B dX11_of_107
def f_X11_of (fu : Nat) (th : Nat) (p1 : Int32) (p2 : Int32) (st : St) : Option (Int32 × St) :=
  ca (f_X11_within fu p1 0 3 st) fun r1 s2 =>
  if r1 = 0 then (
  some ((-1), s2))
  else (
  ck (¬ gR s2 th 2 = 0) <|
  ck ((kd th).1 = 11) <|
  bd (gR s2 th 2) fun o3 =>
  ck (¬ gR s2 o3 0 = 0) <|
  ck ((kd o3).1 = 1) <|
  bd (gR s2 o3 0) fun o4 =>
  ck (¬ gR s2 o4 (ix p1) = 0) <|
  ck ((kd o4).1 = 104 ∧ inb p1 (kd o4).2) <|
  bd (gR s2 o4 (ix p1)) fun o5 =>
  if p2 = 0 then (
  ck ((kd o5).1 = 3) <|
  ca (f_X3_ownName fu o5 s2) fun r6 s7 =>
  some (r6, s7))
  else if p2 = 1 then (
  ck ((kd o5).1 = 3) <|
  if (gI s2 o5 6) = 0 then (
  b_X11_of_85 fu  0 s2)
  else (
  ck ((kd o5).1 = 3) <|
  ck ((kd th).1 = 11) <|
  b_X11_of_85 fu  ((gI s2 o5 7) - (gI s2 th 8)) s2))
  else if p2 = 2 then (
  ck ((kd o5).1 = 3) <|
  if (gI s2 o5 8) = ((-1)) then (
  b_X11_of_107 fu  ((-1)) s2)
  else (
  ck ((kd o5).1 = 3) <|
  ck ((kd th).1 = 11) <|
  b_X11_of_107 fu  ((gI s2 o5 8) - (gI s2 th 8)) s2))
  else if p2 = 3 then (
  ck ((kd o5).1 = 3) <|
  some (gI s2 o5 9, s2))
  else if p2 = 4 then (
  ck ((kd th).1 = 11) <|
  ck ((kd o5).1 = 3) <|
  ca (f_X3_moving fu o5 (gI s2 th 8) s2) fun r8 s9 =>
  some (r8, s9))
  else if p2 = 5 then (
  ck (¬ gR s2 o5 0 = 0) <|
  ck ((kd o5).1 = 3) <|
  bd (gR s2 o5 0) fun o10 =>
  ck ((kd o10).1 = 8) <|
  some (gI s2 o10 12, s2))
  else (
  some ((-1), s2)))
set_option maxHeartbeats 4000000 in
set_option maxRecDepth 100000 in
theorem t_X11_of {X : CX} {res : Int32 × St} (B : BI X cX11_of RX11 4 4 NN (some .int) res) (fu : Nat) (th : Nat) (p1 : Int32) (p2 : Int32) (st : St) : WW X res NN 0 [(0, .ref (x_b X + th)), (1, .int p1), (2, .int p2)] [] st (f_X11_of fu th p1 p2 st) := by
  have hX := B.1
  have hL := B.2.1
  unfold f_X11_of
  refine ww_iload_n hX 1 rfl dX11_of_0 rfl ?_
  refine ww_iconst (v := 0) hX rfl dX11_of_1 ?_
  refine ww_iconst (v := 3) hX rfl dX11_of_2 ?_
  refine ww_callSI (As := [.int p1, .int 0, .int 3]) (rest := []) hX (Rk.of B.2.2.1 B.2.2.2.1 (by decide) (by decide)) g_X11_84 (c_X11_within (x_G X) (x_l X) fu p1 0 3 st) rfl rfl (Nat.le_of_ble_eq_true rfl) dX11_of_3 (fun r1 s2 => ?_)
  refine ww_if_ne (tgt := 11) hX dX11_of_6 (by decide) ?_ ?_
  · refine ww_aload_n hX 0 rfl dX11_of_11 rfl ?_
    refine ww_getR hX f_X11_28 (Or.inl ⟨_, rfl⟩) dX11_of_12 ?_
    refine ww_bdR (fun o3 => ?_)
    refine ww_getR hX f_X11_125 (Or.inr ⟨_, rfl⟩) dX11_of_15 ?_
    refine ww_bdR (fun o4 => ?_)
    refine ww_iload_n hX 1 rfl dX11_of_18 rfl ?_
    refine ww_aald104c hX k_aald104 dX11_of_19 ?_
    refine ww_bdR (fun o5 => ?_)
    refine ww_astore_n (lv' := [(3, .ref (x_b X + o5)), (0, .ref (x_b X + th)), (1, .int p1), (2, .int p2)]) hX hL dX11_of_20 rfl (by decide) rfl ?_
    refine ww_iload_n hX 3 rfl dX11_of_21 rfl ?_
    refine ww_pc (b := 22) rfl ?_
    refine ww_if (fun c22_0 => ?_) (fun c22_0 => ?_)
    · refine ww_tsw (off := 38) (tgt := 60) hX dX11_of_22 (by rw [c22_0]; decide) (by rw [c22_0]; decide) (by rw [c22_0]; rfl) (by decide) ?_
      refine ww_aload_n hX 0 rfl dX11_of_60 rfl ?_
      refine ww_callVI (As := []) (rest := []) (o := o5) hX (Rk.of B.2.2.1 B.2.2.2.1 (by decide) (by decide)) g_X11_146 g_X11_146.in (fun _ => c_X3_ownName (x_G X) (x_l X) fu o5 s2) rfl rfl (Nat.le_of_ble_eq_true rfl) dX11_of_61 (fun r6 s7 => ?_)
      exact ww_iret B dX11_of_64
    refine ww_if (fun c22_1 => ?_) (fun c22_1 => ?_)
    · refine ww_tsw (off := 43) (tgt := 65) hX dX11_of_22 (by rw [c22_1]; decide) (by rw [c22_1]; decide) (by rw [c22_1]; rfl) (by decide) ?_
      refine ww_aload_n hX 0 rfl dX11_of_65 rfl ?_
      refine ww_getI hX f_X11_149 (Or.inr rfl) dX11_of_66 ?_
      refine ww_if_eq (tgt := 84) hX dX11_of_69 (by decide) ?_ ?_
      · refine ww_iconst (v := 0) hX rfl dX11_of_84 ?_
        exact ww_sub [] rfl (t_X11_of_85 B fu  0 s2)
      · refine ww_aload_n hX 0 rfl dX11_of_72 rfl ?_
        refine ww_getI hX f_X11_153 (Or.inl rfl) dX11_of_73 ?_
        refine ww_aload_n hX 1 rfl dX11_of_76 rfl ?_
        refine ww_getI hX f_X11_69 (Or.inl rfl) dX11_of_77 ?_
        refine ww_isub hX dX11_of_80 ?_
        refine ww_goto (tgt := 85) hX dX11_of_81 (by decide) ?_
        exact ww_sub [] rfl (t_X11_of_85 B fu  ((gI s2 o5 7) - (gI s2 th 8)) s2)
    refine ww_if (fun c22_2 => ?_) (fun c22_2 => ?_)
    · refine ww_tsw (off := 64) (tgt := 86) hX dX11_of_22 (by rw [c22_2]; decide) (by rw [c22_2]; decide) (by rw [c22_2]; rfl) (by decide) ?_
      refine ww_aload_n hX 0 rfl dX11_of_86 rfl ?_
      refine ww_getI hX f_X11_156 (Or.inl rfl) dX11_of_87 ?_
      refine ww_iconst (v := (-1)) hX rfl dX11_of_90 ?_
      refine ww_icmp_ne (tgt := 98) hX dX11_of_91 (by decide) ?_ ?_
      · refine ww_aload_n hX 0 rfl dX11_of_98 rfl ?_
        refine ww_getI hX f_X11_156 (Or.inl rfl) dX11_of_99 ?_
        refine ww_aload_n hX 1 rfl dX11_of_102 rfl ?_
        refine ww_getI hX f_X11_69 (Or.inl rfl) dX11_of_103 ?_
        refine ww_isub hX dX11_of_106 ?_
        exact ww_sub [] rfl (t_X11_of_107 B fu  ((gI s2 o5 8) - (gI s2 th 8)) s2)
      · refine ww_iconst (v := (-1)) hX rfl dX11_of_94 ?_
        refine ww_goto (tgt := 107) hX dX11_of_95 (by decide) ?_
        exact ww_sub [] rfl (t_X11_of_107 B fu  ((-1)) s2)
    refine ww_if (fun c22_3 => ?_) (fun c22_3 => ?_)
    · refine ww_tsw (off := 86) (tgt := 108) hX dX11_of_22 (by rw [c22_3]; decide) (by rw [c22_3]; decide) (by rw [c22_3]; rfl) (by decide) ?_
      refine ww_aload_n hX 0 rfl dX11_of_108 rfl ?_
      refine ww_getI hX f_X11_159 (Or.inl rfl) dX11_of_109 ?_
      exact ww_iret B dX11_of_112
    refine ww_if (fun c22_4 => ?_) (fun c22_4 => ?_)
    · refine ww_tsw (off := 91) (tgt := 113) hX dX11_of_22 (by rw [c22_4]; decide) (by rw [c22_4]; decide) (by rw [c22_4]; rfl) (by decide) ?_
      refine ww_aload_n hX 0 rfl dX11_of_113 rfl ?_
      refine ww_aload_n hX 1 rfl dX11_of_114 rfl ?_
      refine ww_getI hX f_X11_69 (Or.inl rfl) dX11_of_115 ?_
      refine ww_callVI (As := [.int (gI s2 th 8)]) (rest := []) (o := o5) hX (Rk.of B.2.2.1 B.2.2.2.1 (by decide) (by decide)) g_X11_162 g_X11_162.in (fun _ => c_X3_moving (x_G X) (x_l X) fu o5 (gI s2 th 8) s2) rfl rfl (Nat.le_of_ble_eq_true rfl) dX11_of_118 (fun r8 s9 => ?_)
      exact ww_iret B dX11_of_121
    refine ww_if (fun c22_5 => ?_) (fun c22_5 => ?_)
    · refine ww_tsw (off := 100) (tgt := 122) hX dX11_of_22 (by rw [c22_5]; decide) (by rw [c22_5]; decide) (by rw [c22_5]; rfl) (by decide) ?_
      refine ww_aload_n hX 0 rfl dX11_of_122 rfl ?_
      refine ww_getR hX f_X11_129 (Or.inl ⟨_, rfl⟩) dX11_of_123 ?_
      refine ww_bdR (fun o10 => ?_)
      refine ww_getI hX f_X11_104 (Or.inl rfl) dX11_of_126 ?_
      exact ww_iret B dX11_of_129
    refine ww_tswd (tgt := 130) hX dX11_of_22 (by have z0 : p2.toInt ≠ 0 := fun q => c22_0 (Int32.toInt_inj.mp (q.trans (by decide))); have z1 : p2.toInt ≠ 1 := fun q => c22_1 (Int32.toInt_inj.mp (q.trans (by decide))); have z2 : p2.toInt ≠ 2 := fun q => c22_2 (Int32.toInt_inj.mp (q.trans (by decide))); have z3 : p2.toInt ≠ 3 := fun q => c22_3 (Int32.toInt_inj.mp (q.trans (by decide))); have z4 : p2.toInt ≠ 4 := fun q => c22_4 (Int32.toInt_inj.mp (q.trans (by decide))); have z5 : p2.toInt ≠ 5 := fun q => c22_5 (Int32.toInt_inj.mp (q.trans (by decide))); omega) (by decide) ?_
    refine ww_iconst (v := (-1)) hX rfl dX11_of_130 ?_
    exact ww_iret B dX11_of_131
  · refine ww_iconst (v := (-1)) hX rfl dX11_of_9 ?_
    exact ww_iret B dX11_of_10
theorem c_X11_of (G : GX) (l : Launch) (fu : Nat) (th : Nat) (p1 : Int32) (p2 : Int32) (st : St) : MI G NN l yX11_of cX11_of 4 (some .int) 4 [.ref (G.2.2.1 + th), .int p1, .int p2] st (f_X11_of fu th p1 p2 st) := mkI (by decide) (Nat.le_of_ble_eq_true rfl) (fun X res hl hG B => by subst hl; subst hG; exact t_X11_of B fu th p1 p2 st)
/-! StageHouse.level(II)I -/
def b_X11_level_19 (fu : Nat)   (st : St) : Option (Int32 × St) :=
  some ((-1), st)
set_option maxHeartbeats 4000000 in
set_option maxRecDepth 100000 in
theorem t_X11_level_19 {X : CX} {res : Int32 × St} (B : BI X cX11_level RX11 3 3 NN (some .int) res) (fu : Nat)   (st : St) : WW X res NN 19 [] [] st (b_X11_level_19 fu  st) := by
  have hX := B.1
  have hL := B.2.1
  unfold b_X11_level_19
  refine ww_iconst (v := (-1)) hX rfl dX11_level_19 ?_
  exact ww_iret B dX11_level_20
def f_X11_level (fu : Nat) (th : Nat) (p1 : Int32) (p2 : Int32) (st : St) : Option (Int32 × St) :=
  ca (f_X11_within fu p1 0 3 st) fun r1 s2 =>
  if r1 = 0 then (
  b_X11_level_19 fu   s2)
  else (
  ca (f_X11_within fu p2 1 64 s2) fun r3 s4 =>
  if r3 = 0 then (
  b_X11_level_19 fu   s4)
  else (
  ck (¬ gR s4 th 2 = 0) <|
  ck ((kd th).1 = 11) <|
  bd (gR s4 th 2) fun o5 =>
  ck (¬ gR s4 o5 0 = 0) <|
  ck ((kd o5).1 = 1) <|
  bd (gR s4 o5 0) fun o6 =>
  ck (¬ gR s4 o6 (ix p1) = 0) <|
  ck ((kd o6).1 = 104 ∧ inb p1 (kd o6).2) <|
  bd (gR s4 o6 (ix p1)) fun o7 =>
  ck ((kd th).1 = 11) <|
  ck ((kd o7).1 = 3) <|
  ca (f_X3_levelAt fu o7 (p2 - 1) (gI s4 th 8) s4) fun r8 s9 =>
  some (r8, s9)))
set_option maxHeartbeats 4000000 in
set_option maxRecDepth 100000 in
theorem t_X11_level {X : CX} {res : Int32 × St} (B : BI X cX11_level RX11 3 3 NN (some .int) res) (fu : Nat) (th : Nat) (p1 : Int32) (p2 : Int32) (st : St) : WW X res NN 0 [(0, .ref (x_b X + th)), (1, .int p1), (2, .int p2)] [] st (f_X11_level fu th p1 p2 st) := by
  have hX := B.1
  have hL := B.2.1
  unfold f_X11_level
  refine ww_iload_n hX 1 rfl dX11_level_0 rfl ?_
  refine ww_iconst (v := 0) hX rfl dX11_level_1 ?_
  refine ww_iconst (v := 3) hX rfl dX11_level_2 ?_
  refine ww_callSI (As := [.int p1, .int 0, .int 3]) (rest := []) hX (Rk.of B.2.2.1 B.2.2.2.1 (by decide) (by decide)) g_X11_84 (c_X11_within (x_G X) (x_l X) fu p1 0 3 st) rfl rfl (Nat.le_of_ble_eq_true rfl) dX11_level_3 (fun r1 s2 => ?_)
  refine ww_if_eq (tgt := 19) hX dX11_level_6 (by decide) ?_ ?_
  · exact ww_sub [] rfl (t_X11_level_19 B fu   s2)
  · refine ww_iload_n hX 2 rfl dX11_level_9 rfl ?_
    refine ww_iconst (v := 1) hX rfl dX11_level_10 ?_
    refine ww_bipush (v := 64) hX rfl dX11_level_11 ?_
    refine ww_callSI (As := [.int p2, .int 1, .int 64]) (rest := []) hX (Rk.of B.2.2.1 B.2.2.2.1 (by decide) (by decide)) g_X11_84 (c_X11_within (x_G X) (x_l X) fu p2 1 64 s2) rfl rfl (Nat.le_of_ble_eq_true rfl) dX11_level_13 (fun r3 s4 => ?_)
    refine ww_if_ne (tgt := 21) hX dX11_level_16 (by decide) ?_ ?_
    · refine ww_aload_n hX 0 rfl dX11_level_21 rfl ?_
      refine ww_getR hX f_X11_28 (Or.inl ⟨_, rfl⟩) dX11_level_22 ?_
      refine ww_bdR (fun o5 => ?_)
      refine ww_getR hX f_X11_125 (Or.inr ⟨_, rfl⟩) dX11_level_25 ?_
      refine ww_bdR (fun o6 => ?_)
      refine ww_iload_n hX 1 rfl dX11_level_28 rfl ?_
      refine ww_aald104c hX k_aald104 dX11_level_29 ?_
      refine ww_bdR (fun o7 => ?_)
      refine ww_iload_n hX 2 rfl dX11_level_30 rfl ?_
      refine ww_iconst (v := 1) hX rfl dX11_level_31 ?_
      refine ww_pc (b := 32) rfl ?_
      refine ww_isub hX dX11_level_32 ?_
      refine ww_aload_n hX 0 rfl dX11_level_33 rfl ?_
      refine ww_getI hX f_X11_69 (Or.inl rfl) dX11_level_34 ?_
      refine ww_callVI (As := [.int (p2 - 1), .int (gI s4 th 8)]) (rest := []) (o := o7) hX (Rk.of B.2.2.1 B.2.2.2.1 (by decide) (by decide)) g_X11_165 g_X11_165.in (fun _ => c_X3_levelAt (x_G X) (x_l X) fu o7 (p2 - 1) (gI s4 th 8) s4) rfl rfl (Nat.le_of_ble_eq_true rfl) dX11_level_37 (fun r8 s9 => ?_)
      exact ww_iret B dX11_level_40
    · exact ww_sub [] rfl (t_X11_level_19 B fu   s4)
theorem c_X11_level (G : GX) (l : Launch) (fu : Nat) (th : Nat) (p1 : Int32) (p2 : Int32) (st : St) : MI G NN l yX11_level cX11_level 3 (some .int) 3 [.ref (G.2.2.1 + th), .int p1, .int p2] st (f_X11_level fu th p1 p2 st) := mkI (by decide) (Nat.le_of_ble_eq_true rfl) (fun X res hl hG B => by subst hl; subst hG; exact t_X11_level B fu th p1 p2 st)
/-! StageHouse.out(I)I -/
def b_X11_out_28 (fu : Nat)  (y0 : Int32) (st : St) : Option (Int32 × St) :=
  some (y0, st)
set_option maxHeartbeats 4000000 in
set_option maxRecDepth 100000 in
theorem t_X11_out_28 {X : CX} {res : Int32 × St} (B : BI X cX11_out RX11 2 4 NN (some .int) res) (fu : Nat)  (y0 : Int32) (st : St) : WW X res NN 28 [] [.int y0] st (b_X11_out_28 fu y0 st) := by
  have hX := B.1
  have hL := B.2.1
  unfold b_X11_out_28
  exact ww_iret B dX11_out_28
def f_X11_out (fu : Nat) (th : Nat) (p1 : Int32) (st : St) : Option (Int32 × St) :=
  ca (f_X11_within fu p1 1 64 st) fun r1 s2 =>
  if r1 = 0 then (
  b_X11_out_28 fu  ((-1)) s2)
  else (
  ck (¬ gR s2 th 2 = 0) <|
  ck ((kd th).1 = 11) <|
  bd (gR s2 th 2) fun o3 =>
  ck ((kd th).1 = 11) <|
  ck ((kd o3).1 = 1) <|
  ca (f_X1_mixed fu o3 (p1 - 1) (gI s2 th 8) s2) fun r4 s5 =>
  b_X11_out_28 fu  r4 s5)
set_option maxHeartbeats 4000000 in
set_option maxRecDepth 100000 in
theorem t_X11_out {X : CX} {res : Int32 × St} (B : BI X cX11_out RX11 2 4 NN (some .int) res) (fu : Nat) (th : Nat) (p1 : Int32) (st : St) : WW X res NN 0 [(0, .ref (x_b X + th)), (1, .int p1)] [] st (f_X11_out fu th p1 st) := by
  have hX := B.1
  have hL := B.2.1
  unfold f_X11_out
  refine ww_iload_n hX 1 rfl dX11_out_0 rfl ?_
  refine ww_iconst (v := 1) hX rfl dX11_out_1 ?_
  refine ww_bipush (v := 64) hX rfl dX11_out_2 ?_
  refine ww_callSI (As := [.int p1, .int 1, .int 64]) (rest := []) hX (Rk.of B.2.2.1 B.2.2.2.1 (by decide) (by decide)) g_X11_84 (c_X11_within (x_G X) (x_l X) fu p1 1 64 st) rfl rfl (Nat.le_of_ble_eq_true rfl) dX11_out_4 (fun r1 s2 => ?_)
  refine ww_if_eq (tgt := 27) hX dX11_out_7 (by decide) ?_ ?_
  · refine ww_iconst (v := (-1)) hX rfl dX11_out_27 ?_
    exact ww_sub [] rfl (t_X11_out_28 B fu  ((-1)) s2)
  · refine ww_aload_n hX 0 rfl dX11_out_10 rfl ?_
    refine ww_getR hX f_X11_28 (Or.inl ⟨_, rfl⟩) dX11_out_11 ?_
    refine ww_bdR (fun o3 => ?_)
    refine ww_iload_n hX 1 rfl dX11_out_14 rfl ?_
    refine ww_iconst (v := 1) hX rfl dX11_out_15 ?_
    refine ww_isub hX dX11_out_16 ?_
    refine ww_aload_n hX 0 rfl dX11_out_17 rfl ?_
    refine ww_getI hX f_X11_69 (Or.inl rfl) dX11_out_18 ?_
    refine ww_pc (b := 21) rfl ?_
    refine ww_callVI (As := [.int (p1 - 1), .int (gI s2 th 8)]) (rest := []) (o := o3) hX (Rk.of B.2.2.1 B.2.2.2.1 (by decide) (by decide)) g_X11_168 g_X11_168.in (fun _ => c_X1_mixed (x_G X) (x_l X) fu o3 (p1 - 1) (gI s2 th 8) s2) rfl rfl (Nat.le_of_ble_eq_true rfl) dX11_out_21 (fun r4 s5 => ?_)
    refine ww_goto (tgt := 28) hX dX11_out_24 (by decide) ?_
    exact ww_sub [] rfl (t_X11_out_28 B fu  r4 s5)
theorem c_X11_out (G : GX) (l : Launch) (fu : Nat) (th : Nat) (p1 : Int32) (st : St) : MI G NN l yX11_out cX11_out 2 (some .int) 4 [.ref (G.2.2.1 + th), .int p1] st (f_X11_out fu th p1 st) := mkI (by decide) (Nat.le_of_ble_eq_true rfl) (fun X res hl hG B => by subst hl; subst hG; exact t_X11_out B fu th p1 st)
/-! StageHouse.patch(III)Z -/
def b_X11_patch_29 (fu : Nat)   (st : St) : Option (Int32 × St) :=
  ck (isb 0) (some (0, st))
set_option maxHeartbeats 4000000 in
set_option maxRecDepth 100000 in
theorem t_X11_patch_29 {X : CX} {res : Int32 × St} (B : BI X cX11_patch RX11 4 2 NN (some .boolean) res) (fu : Nat)   (st : St) : WW X res NN 29 [] [] st (b_X11_patch_29 fu  st) := by
  have hX := B.1
  have hL := B.2.1
  unfold b_X11_patch_29
  refine ww_iconst (v := 0) hX rfl dX11_patch_29 ?_
  exact ww_zret B dX11_patch_30
def f_X11_patch (fu : Nat) (th : Nat) (p1 : Int32) (p2 : Int32) (p3 : Int32) (st : St) : Option (Int32 × St) :=
  ca (f_X11_within fu p1 0 127 st) fun r1 s2 =>
  if r1 = 0 then (
  b_X11_patch_29 fu   s2)
  else (
  ca (f_X11_within fu p2 0 64 s2) fun r3 s4 =>
  if r3 = 0 then (
  b_X11_patch_29 fu   s4)
  else (
  ca (f_X11_within fu p3 0 3 s4) fun r5 s6 =>
  if r5 = 0 then (
  b_X11_patch_29 fu   s6)
  else (
  ck (¬ gR s6 th 2 = 0) <|
  ck ((kd th).1 = 11) <|
  bd (gR s6 th 2) fun o7 =>
  ck (¬ gR s6 o7 3 = 0) <|
  ck ((kd o7).1 = 1) <|
  bd (gR s6 o7 3) fun o8 =>
  ck ((kd o8).1 = 100 ∧ inb p1 (kd o8).2) <|
  bd (sI s6 o8 (ix p1) p2) fun s9 =>
  ck (¬ gR s9 th 2 = 0) <|
  ck ((kd th).1 = 11) <|
  bd (gR s9 th 2) fun o10 =>
  ck (¬ gR s9 o10 4 = 0) <|
  ck ((kd o10).1 = 1) <|
  bd (gR s9 o10 4) fun o11 =>
  ck ((kd o11).1 = 100 ∧ inb p1 (kd o11).2) <|
  bd (sI s9 o11 (ix p1) p3) fun s12 =>
  ck (isb 1) (some (1, s12)))))
set_option maxHeartbeats 4000000 in
set_option maxRecDepth 100000 in
theorem t_X11_patch {X : CX} {res : Int32 × St} (B : BI X cX11_patch RX11 4 2 NN (some .boolean) res) (fu : Nat) (th : Nat) (p1 : Int32) (p2 : Int32) (p3 : Int32) (st : St) : WW X res NN 0 [(0, .ref (x_b X + th)), (1, .int p1), (2, .int p2), (3, .int p3)] [] st (f_X11_patch fu th p1 p2 p3 st) := by
  have hX := B.1
  have hL := B.2.1
  unfold f_X11_patch
  refine ww_iload_n hX 1 rfl dX11_patch_0 rfl ?_
  refine ww_iconst (v := 0) hX rfl dX11_patch_1 ?_
  refine ww_bipush (v := 127) hX rfl dX11_patch_2 ?_
  refine ww_callSI (As := [.int p1, .int 0, .int 127]) (rest := []) hX (Rk.of B.2.2.1 B.2.2.2.1 (by decide) (by decide)) g_X11_84 (c_X11_within (x_G X) (x_l X) fu p1 0 127 st) rfl rfl (Nat.le_of_ble_eq_true rfl) dX11_patch_4 (fun r1 s2 => ?_)
  refine ww_if_eq (tgt := 29) hX dX11_patch_7 (by decide) ?_ ?_
  · exact ww_sub [] rfl (t_X11_patch_29 B fu   s2)
  · refine ww_iload_n hX 2 rfl dX11_patch_10 rfl ?_
    refine ww_iconst (v := 0) hX rfl dX11_patch_11 ?_
    refine ww_bipush (v := 64) hX rfl dX11_patch_12 ?_
    refine ww_callSI (As := [.int p2, .int 0, .int 64]) (rest := []) hX (Rk.of B.2.2.1 B.2.2.2.1 (by decide) (by decide)) g_X11_84 (c_X11_within (x_G X) (x_l X) fu p2 0 64 s2) rfl rfl (Nat.le_of_ble_eq_true rfl) dX11_patch_14 (fun r3 s4 => ?_)
    refine ww_if_eq (tgt := 29) hX dX11_patch_17 (by decide) ?_ ?_
    · exact ww_sub [] rfl (t_X11_patch_29 B fu   s4)
    · refine ww_iload_n hX 3 rfl dX11_patch_20 rfl ?_
      refine ww_iconst (v := 0) hX rfl dX11_patch_21 ?_
      refine ww_iconst (v := 3) hX rfl dX11_patch_22 ?_
      refine ww_callSI (As := [.int p3, .int 0, .int 3]) (rest := []) hX (Rk.of B.2.2.1 B.2.2.2.1 (by decide) (by decide)) g_X11_84 (c_X11_within (x_G X) (x_l X) fu p3 0 3 s4) rfl rfl (Nat.le_of_ble_eq_true rfl) dX11_patch_23 (fun r5 s6 => ?_)
      refine ww_if_ne (tgt := 31) hX dX11_patch_26 (by decide) ?_ ?_
      · refine ww_aload_n hX 0 rfl dX11_patch_31 rfl ?_
        refine ww_getR hX f_X11_28 (Or.inl ⟨_, rfl⟩) dX11_patch_32 ?_
        refine ww_bdR (fun o7 => ?_)
        refine ww_getR hX f_X11_171 (Or.inr ⟨_, rfl⟩) dX11_patch_35 ?_
        refine ww_bdR (fun o8 => ?_)
        refine ww_iload_n hX 1 rfl dX11_patch_38 rfl ?_
        refine ww_iload_n hX 2 rfl dX11_patch_39 rfl ?_
        refine ww_iastc hX k_iast dX11_patch_40 ?_
        refine ww_bds (fun s9 => ?_)
        refine ww_aload_n hX 0 rfl dX11_patch_41 rfl ?_
        refine ww_pc (b := 42) rfl ?_
        refine ww_getR hX f_X11_28 (Or.inl ⟨_, rfl⟩) dX11_patch_42 ?_
        refine ww_bdR (fun o10 => ?_)
        refine ww_getR hX f_X11_175 (Or.inr ⟨_, rfl⟩) dX11_patch_45 ?_
        refine ww_bdR (fun o11 => ?_)
        refine ww_iload_n hX 1 rfl dX11_patch_48 rfl ?_
        refine ww_iload_n hX 3 rfl dX11_patch_49 rfl ?_
        refine ww_iastc hX k_iast dX11_patch_50 ?_
        refine ww_bds (fun s12 => ?_)
        refine ww_iconst (v := 1) hX rfl dX11_patch_51 ?_
        exact ww_zret B dX11_patch_52
      · exact ww_sub [] rfl (t_X11_patch_29 B fu   s6)
theorem c_X11_patch (G : GX) (l : Launch) (fu : Nat) (th : Nat) (p1 : Int32) (p2 : Int32) (p3 : Int32) (st : St) : MI G NN l yX11_patch cX11_patch 4 (some .boolean) 2 [.ref (G.2.2.1 + th), .int p1, .int p2, .int p3] st (f_X11_patch fu th p1 p2 p3 st) := mkI (by decide) (Nat.le_of_ble_eq_true rfl) (fun X res hl hG B => by subst hl; subst hG; exact t_X11_patch B fu th p1 p2 p3 st)
/-! StageHouse.grand(I)Z -/
def f_X11_grand (fu : Nat) (th : Nat) (p1 : Int32) (st : St) : Option (Int32 × St) :=
  ca (f_X11_within fu p1 0 255 st) fun r1 s2 =>
  if r1 = 0 then (
  ck (isb 0) (some (0, s2)))
  else (
  ck (¬ gR s2 th 2 = 0) <|
  ck ((kd th).1 = 11) <|
  bd (gR s2 th 2) fun o3 =>
  ck ((kd o3).1 = 1) <|
  bd (sI s2 o3 7 p1) fun s4 =>
  ck (isb 1) (some (1, s4)))
set_option maxHeartbeats 4000000 in
set_option maxRecDepth 100000 in
theorem t_X11_grand {X : CX} {res : Int32 × St} (B : BI X cX11_grand RX11 2 2 NN (some .boolean) res) (fu : Nat) (th : Nat) (p1 : Int32) (st : St) : WW X res NN 0 [(0, .ref (x_b X + th)), (1, .int p1)] [] st (f_X11_grand fu th p1 st) := by
  have hX := B.1
  have hL := B.2.1
  unfold f_X11_grand
  refine ww_iload_n hX 1 rfl dX11_grand_0 rfl ?_
  refine ww_iconst (v := 0) hX rfl dX11_grand_1 ?_
  refine ww_sipush (v := 255) hX rfl dX11_grand_2 ?_
  refine ww_callSI (As := [.int p1, .int 0, .int 255]) (rest := []) hX (Rk.of B.2.2.1 B.2.2.2.1 (by decide) (by decide)) g_X11_84 (c_X11_within (x_G X) (x_l X) fu p1 0 255 st) rfl rfl (Nat.le_of_ble_eq_true rfl) dX11_grand_5 (fun r1 s2 => ?_)
  refine ww_if_ne (tgt := 13) hX dX11_grand_8 (by decide) ?_ ?_
  · refine ww_aload_n hX 0 rfl dX11_grand_13 rfl ?_
    refine ww_getR hX f_X11_28 (Or.inl ⟨_, rfl⟩) dX11_grand_14 ?_
    refine ww_bdR (fun o3 => ?_)
    refine ww_iload_n hX 1 rfl dX11_grand_17 rfl ?_
    refine ww_putI hX f_X11_178 rfl dX11_grand_18 ?_
    refine ww_bds (fun s4 => ?_)
    refine ww_iconst (v := 1) hX rfl dX11_grand_21 ?_
    exact ww_zret B dX11_grand_22
  · refine ww_iconst (v := 0) hX rfl dX11_grand_11 ?_
    exact ww_zret B dX11_grand_12
theorem c_X11_grand (G : GX) (l : Launch) (fu : Nat) (th : Nat) (p1 : Int32) (st : St) : MI G NN l yX11_grand cX11_grand 2 (some .boolean) 2 [.ref (G.2.2.1 + th), .int p1] st (f_X11_grand fu th p1 st) := mkI (by decide) (Nat.le_of_ble_eq_true rfl) (fun X res hl hG B => by subst hl; subst hG; exact t_X11_grand B fu th p1 st)
/-! StageHouse.wire(I)I -/
def b_X11_wire_26 (fu : Nat)  (y0 : Int32) (st : St) : Option (Int32 × St) :=
  some (y0, st)
set_option maxHeartbeats 4000000 in
set_option maxRecDepth 100000 in
theorem t_X11_wire_26 {X : CX} {res : Int32 × St} (B : BI X cX11_wire RX11 2 5 NN (some .int) res) (fu : Nat)  (y0 : Int32) (st : St) : WW X res NN 26 [] [.int y0] st (b_X11_wire_26 fu y0 st) := by
  have hX := B.1
  have hL := B.2.1
  unfold b_X11_wire_26
  exact ww_iret B dX11_wire_26
def f_X11_wire (fu : Nat) (th : Nat) (p1 : Int32) (st : St) : Option (Int32 × St) :=
  ca (f_X11_within fu p1 0 127 st) fun r1 s2 =>
  if r1 = 0 then (
  b_X11_wire_26 fu  ((-1)) s2)
  else (
  ck (¬ gR s2 th 2 = 0) <|
  ck ((kd th).1 = 11) <|
  bd (gR s2 th 2) fun o3 =>
  ck ((kd th).1 = 11) <|
  ck ((kd o3).1 = 1) <|
  ca (f_X1_sent fu o3 p1 (gI s2 th 8) s2) fun r4 s5 =>
  b_X11_wire_26 fu  r4 s5)
set_option maxHeartbeats 4000000 in
set_option maxRecDepth 100000 in
theorem t_X11_wire {X : CX} {res : Int32 × St} (B : BI X cX11_wire RX11 2 5 NN (some .int) res) (fu : Nat) (th : Nat) (p1 : Int32) (st : St) : WW X res NN 0 [(0, .ref (x_b X + th)), (1, .int p1)] [] st (f_X11_wire fu th p1 st) := by
  have hX := B.1
  have hL := B.2.1
  unfold f_X11_wire
  refine ww_iload_n hX 1 rfl dX11_wire_0 rfl ?_
  refine ww_iconst (v := 0) hX rfl dX11_wire_1 ?_
  refine ww_bipush (v := 127) hX rfl dX11_wire_2 ?_
  refine ww_callSI (As := [.int p1, .int 0, .int 127]) (rest := []) hX (Rk.of B.2.2.1 B.2.2.2.1 (by decide) (by decide)) g_X11_84 (c_X11_within (x_G X) (x_l X) fu p1 0 127 st) rfl rfl (Nat.le_of_ble_eq_true rfl) dX11_wire_4 (fun r1 s2 => ?_)
  refine ww_if_eq (tgt := 25) hX dX11_wire_7 (by decide) ?_ ?_
  · refine ww_iconst (v := (-1)) hX rfl dX11_wire_25 ?_
    exact ww_sub [] rfl (t_X11_wire_26 B fu  ((-1)) s2)
  · refine ww_aload_n hX 0 rfl dX11_wire_10 rfl ?_
    refine ww_getR hX f_X11_28 (Or.inl ⟨_, rfl⟩) dX11_wire_11 ?_
    refine ww_bdR (fun o3 => ?_)
    refine ww_iload_n hX 1 rfl dX11_wire_14 rfl ?_
    refine ww_aload_n hX 0 rfl dX11_wire_15 rfl ?_
    refine ww_getI hX f_X11_69 (Or.inl rfl) dX11_wire_16 ?_
    refine ww_callVI (As := [.int p1, .int (gI s2 th 8)]) (rest := []) (o := o3) hX (Rk.of B.2.2.1 B.2.2.2.1 (by decide) (by decide)) g_X11_181 g_X11_181.in (fun _ => c_X1_sent (x_G X) (x_l X) fu o3 p1 (gI s2 th 8) s2) rfl rfl (Nat.le_of_ble_eq_true rfl) dX11_wire_19 (fun r4 s5 => ?_)
    refine ww_goto (tgt := 26) hX dX11_wire_22 (by decide) ?_
    exact ww_sub [] rfl (t_X11_wire_26 B fu  r4 s5)
theorem c_X11_wire (G : GX) (l : Launch) (fu : Nat) (th : Nat) (p1 : Int32) (st : St) : MI G NN l yX11_wire cX11_wire 2 (some .int) 5 [.ref (G.2.2.1 + th), .int p1] st (f_X11_wire fu th p1 st) := mkI (by decide) (Nat.le_of_ble_eq_true rfl) (fun X res hl hG B => by subst hl; subst hG; exact t_X11_wire B fu th p1 st)
/-! StageHouse.axis(IIIII)Z -/
def b_X11_axis_89 (fu : Nat) (x6 : Int32)  (st : St) : Option (Int32 × St) :=
  ck (isb x6) (some (x6, st))
set_option maxHeartbeats 4000000 in
set_option maxRecDepth 100000 in
theorem t_X11_axis_89 {X : CX} {res : Int32 × St} (B : BI X cX11_axis RX11 7 2 NN (some .boolean) res) (fu : Nat) (x6 : Int32)  (st : St) : WW X res NN 89 [(6, .int x6)] [] st (b_X11_axis_89 fu x6 st) := by
  have hX := B.1
  have hL := B.2.1
  unfold b_X11_axis_89
  refine ww_iload hX 0 rfl dX11_axis_89 ?_
  exact ww_zret B dX11_axis_91
def b_X11_axis_64 (fu : Nat) (x0 : Nat) (x1 : Int32) (x2 : Int32) (x3 : Int32) (x4 : Int32) (x5 : Int32) (y0 : Int32) (st : St) : Option (Int32 × St) :=
  if y0 = 0 then (
  b_X11_axis_89 fu y0  st)
  else (
  ck (¬ gR st x0 1 = 0) <|
  ck ((kd x0).1 = 11) <|
  bd (gR st x0 1) fun o3 =>
  ck (¬ gR st o3 0 = 0) <|
  ck ((kd o3).1 = 7) <|
  bd (gR st o3 0) fun o4 =>
  ck (¬ gR st o4 (ix x1) = 0) <|
  ck ((kd o4).1 = 105 ∧ inb x1 (kd o4).2) <|
  bd (gR st o4 (ix x1)) fun o5 =>
  ck ((kd o5).1 = 0) <|
  cv (f_X0_place fu o5 x2 x3 x4 x5 st) fun s6 =>
  b_X11_axis_89 fu y0  s6)
set_option maxHeartbeats 4000000 in
set_option maxRecDepth 100000 in
theorem t_X11_axis_64 {X : CX} {res : Int32 × St} (B : BI X cX11_axis RX11 7 2 NN (some .boolean) res) (fu : Nat) (x0 : Nat) (x1 : Int32) (x2 : Int32) (x3 : Int32) (x4 : Int32) (x5 : Int32) (y0 : Int32) (st : St) : WW X res NN 64 [(0, .ref (x_b X + x0)), (1, .int x1), (2, .int x2), (3, .int x3), (4, .int x4), (5, .int x5)] [.int y0] st (b_X11_axis_64 fu x0 x1 x2 x3 x4 x5 y0 st) := by
  have hX := B.1
  have hL := B.2.1
  unfold b_X11_axis_64
  refine ww_istore (lv' := [(6, .int y0), (0, .ref (x_b X + x0)), (1, .int x1), (2, .int x2), (3, .int x3), (4, .int x4), (5, .int x5)]) hX hL dX11_axis_64 (by decide) rfl ?_
  refine ww_iload hX 0 rfl dX11_axis_66 ?_
  refine ww_if_eq (tgt := 89) hX dX11_axis_68 (by decide) ?_ ?_
  · exact ww_sub [0] rfl (t_X11_axis_89 B fu y0  st)
  · refine ww_aload_n hX 1 rfl dX11_axis_71 rfl ?_
    refine ww_getR hX f_X11_19 (Or.inl ⟨_, rfl⟩) dX11_axis_72 ?_
    refine ww_bdR (fun o3 => ?_)
    refine ww_getR hX f_X11_185 (Or.inr ⟨_, rfl⟩) dX11_axis_75 ?_
    refine ww_bdR (fun o4 => ?_)
    refine ww_iload_n hX 2 rfl dX11_axis_78 rfl ?_
    refine ww_aald105c hX k_aald105 dX11_axis_79 ?_
    refine ww_bdR (fun o5 => ?_)
    refine ww_iload_n hX 3 rfl dX11_axis_80 rfl ?_
    refine ww_iload_n hX 4 rfl dX11_axis_81 rfl ?_
    refine ww_pc (b := 82) rfl ?_
    refine ww_iload hX 5 rfl dX11_axis_82 ?_
    refine ww_iload hX 6 rfl dX11_axis_84 ?_
    refine ww_callVV (As := [.int x2, .int x3, .int x4, .int x5]) (rest := []) (o := o5) hX (Rk.of B.2.2.1 B.2.2.2.1 (by decide) (by decide)) g_X11_189 g_X11_189.in (fun _ => c_X0_place (x_G X) (x_l X) fu o5 x2 x3 x4 x5 st) rfl rfl (Nat.le_of_ble_eq_true rfl) dX11_axis_86 (fun s6 => ?_)
    exact ww_sub [0] rfl (t_X11_axis_89 B fu y0  s6)
def b_X11_axis_63 (fu : Nat) (x0 : Nat) (x1 : Int32) (x2 : Int32) (x3 : Int32) (x4 : Int32) (x5 : Int32)  (st : St) : Option (Int32 × St) :=
  b_X11_axis_64 fu x0 x1 x2 x3 x4 x5 0 st
set_option maxHeartbeats 4000000 in
set_option maxRecDepth 100000 in
theorem t_X11_axis_63 {X : CX} {res : Int32 × St} (B : BI X cX11_axis RX11 7 2 NN (some .boolean) res) (fu : Nat) (x0 : Nat) (x1 : Int32) (x2 : Int32) (x3 : Int32) (x4 : Int32) (x5 : Int32)  (st : St) : WW X res NN 63 [(0, .ref (x_b X + x0)), (1, .int x1), (2, .int x2), (3, .int x3), (4, .int x4), (5, .int x5)] [] st (b_X11_axis_63 fu x0 x1 x2 x3 x4 x5 st) := by
  have hX := B.1
  have hL := B.2.1
  unfold b_X11_axis_63
  refine ww_iconst (v := 0) hX rfl dX11_axis_63 ?_
  exact t_X11_axis_64 B fu x0 x1 x2 x3 x4 x5 0 st
def f_X11_axis (fu : Nat) (th : Nat) (p1 : Int32) (p2 : Int32) (p3 : Int32) (p4 : Int32) (p5 : Int32) (st : St) : Option (Int32 × St) :=
  ca (f_X11_within fu p1 0 7 st) fun r1 s2 =>
  if r1 = 0 then (
  b_X11_axis_63 fu th p1 p2 p3 p4 p5  s2)
  else (
  ca (f_X11_within fu p2 0 99999 s2) fun r7 s8 =>
  if r7 = 0 then (
  b_X11_axis_63 fu th p1 p2 p3 p4 p5  s8)
  else (
  ca (f_X11_within fu p3 0 99999 s8) fun r9 s10 =>
  if r9 = 0 then (
  b_X11_axis_63 fu th p1 p2 p3 p4 p5  s10)
  else (
  if p3 ≤ p2 then (
  b_X11_axis_63 fu th p1 p2 p3 p4 p5  s10)
  else (
  ca (f_X11_within fu p4 1 999 s10) fun r11 s12 =>
  if r11 = 0 then (
  b_X11_axis_63 fu th p1 p2 p3 p4 p5  s12)
  else (
  ca (f_X11_within fu p5 1 999 s12) fun r13 s14 =>
  if r13 = 0 then (
  b_X11_axis_63 fu th p1 p2 p3 p4 p5  s14)
  else (
  b_X11_axis_64 fu th p1 p2 p3 p4 p5 1 s14))))))
set_option maxHeartbeats 4000000 in
set_option maxRecDepth 100000 in
theorem t_X11_axis {X : CX} {res : Int32 × St} (B : BI X cX11_axis RX11 7 2 NN (some .boolean) res) (fu : Nat) (th : Nat) (p1 : Int32) (p2 : Int32) (p3 : Int32) (p4 : Int32) (p5 : Int32) (st : St) : WW X res NN 0 [(0, .ref (x_b X + th)), (1, .int p1), (2, .int p2), (3, .int p3), (4, .int p4), (5, .int p5)] [] st (f_X11_axis fu th p1 p2 p3 p4 p5 st) := by
  have hX := B.1
  have hL := B.2.1
  unfold f_X11_axis
  refine ww_iload_n hX 1 rfl dX11_axis_0 rfl ?_
  refine ww_iconst (v := 0) hX rfl dX11_axis_1 ?_
  refine ww_bipush (v := 7) hX rfl dX11_axis_2 ?_
  refine ww_callSI (As := [.int p1, .int 0, .int 7]) (rest := []) hX (Rk.of B.2.2.1 B.2.2.2.1 (by decide) (by decide)) g_X11_84 (c_X11_within (x_G X) (x_l X) fu p1 0 7 st) rfl rfl (Nat.le_of_ble_eq_true rfl) dX11_axis_4 (fun r1 s2 => ?_)
  refine ww_if_eq (tgt := 63) hX dX11_axis_7 (by decide) ?_ ?_
  · exact t_X11_axis_63 B fu th p1 p2 p3 p4 p5  s2
  · refine ww_iload_n hX 2 rfl dX11_axis_10 rfl ?_
    refine ww_iconst (v := 0) hX rfl dX11_axis_11 ?_
    refine ww_ldc (v := 99999) hX k_X11_184 dX11_axis_12 ?_
    refine ww_callSI (As := [.int p2, .int 0, .int 99999]) (rest := []) hX (Rk.of B.2.2.1 B.2.2.2.1 (by decide) (by decide)) g_X11_84 (c_X11_within (x_G X) (x_l X) fu p2 0 99999 s2) rfl rfl (Nat.le_of_ble_eq_true rfl) dX11_axis_14 (fun r7 s8 => ?_)
    refine ww_if_eq (tgt := 63) hX dX11_axis_17 (by decide) ?_ ?_
    · exact t_X11_axis_63 B fu th p1 p2 p3 p4 p5  s8
    · refine ww_iload_n hX 3 rfl dX11_axis_20 rfl ?_
      refine ww_iconst (v := 0) hX rfl dX11_axis_21 ?_
      refine ww_ldc (v := 99999) hX k_X11_184 dX11_axis_22 ?_
      refine ww_callSI (As := [.int p3, .int 0, .int 99999]) (rest := []) hX (Rk.of B.2.2.1 B.2.2.2.1 (by decide) (by decide)) g_X11_84 (c_X11_within (x_G X) (x_l X) fu p3 0 99999 s8) rfl rfl (Nat.le_of_ble_eq_true rfl) dX11_axis_24 (fun r9 s10 => ?_)
      refine ww_if_eq (tgt := 63) hX dX11_axis_27 (by decide) ?_ ?_
      · exact t_X11_axis_63 B fu th p1 p2 p3 p4 p5  s10
      · refine ww_iload_n hX 2 rfl dX11_axis_30 rfl ?_
        refine ww_iload_n hX 3 rfl dX11_axis_31 rfl ?_
        refine ww_icmp_ge (tgt := 63) hX dX11_axis_32 (by decide) ?_ ?_
        · exact t_X11_axis_63 B fu th p1 p2 p3 p4 p5  s10
        · refine ww_iload hX 4 rfl dX11_axis_35 ?_
          refine ww_iconst (v := 1) hX rfl dX11_axis_37 ?_
          refine ww_sipush (v := 999) hX rfl dX11_axis_38 ?_
          refine ww_callSI (As := [.int p4, .int 1, .int 999]) (rest := []) hX (Rk.of B.2.2.1 B.2.2.2.1 (by decide) (by decide)) g_X11_84 (c_X11_within (x_G X) (x_l X) fu p4 1 999 s10) rfl rfl (Nat.le_of_ble_eq_true rfl) dX11_axis_41 (fun r11 s12 => ?_)
          refine ww_if_eq (tgt := 63) hX dX11_axis_44 (by decide) ?_ ?_
          · exact t_X11_axis_63 B fu th p1 p2 p3 p4 p5  s12
          · refine ww_iload hX 5 rfl dX11_axis_47 ?_
            refine ww_iconst (v := 1) hX rfl dX11_axis_49 ?_
            refine ww_sipush (v := 999) hX rfl dX11_axis_50 ?_
            refine ww_callSI (As := [.int p5, .int 1, .int 999]) (rest := []) hX (Rk.of B.2.2.1 B.2.2.2.1 (by decide) (by decide)) g_X11_84 (c_X11_within (x_G X) (x_l X) fu p5 1 999 s12) rfl rfl (Nat.le_of_ble_eq_true rfl) dX11_axis_53 (fun r13 s14 => ?_)
            refine ww_if_eq (tgt := 63) hX dX11_axis_56 (by decide) ?_ ?_
            · exact t_X11_axis_63 B fu th p1 p2 p3 p4 p5  s14
            · refine ww_iconst (v := 1) hX rfl dX11_axis_59 ?_
              refine ww_goto (tgt := 64) hX dX11_axis_60 (by decide) ?_
              exact t_X11_axis_64 B fu th p1 p2 p3 p4 p5 1 s14
theorem c_X11_axis (G : GX) (l : Launch) (fu : Nat) (th : Nat) (p1 : Int32) (p2 : Int32) (p3 : Int32) (p4 : Int32) (p5 : Int32) (st : St) : MI G NN l yX11_axis cX11_axis 7 (some .boolean) 2 [.ref (G.2.2.1 + th), .int p1, .int p2, .int p3, .int p4, .int p5] st (f_X11_axis fu th p1 p2 p3 p4 p5 st) := mkI (by decide) (Nat.le_of_ble_eq_true rfl) (fun X res hl hG B => by subst hl; subst hG; exact t_X11_axis B fu th p1 p2 p3 p4 p5 st)
