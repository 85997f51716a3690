/-! StageHouse$Hall.build(III)Z -/
def b_X4_build_3_b (fu : Nat) (k_3 : Nat → Int32 → Int32 → Int32 → Int32 → St → Option (Int32 × St)) (x0 : Nat) (x1 : Int32) (x2 : Int32) (x3 : Int32) (x4 : Int32)  (st : St) : Option (Int32 × St) :=
  ck (¬ gR st x0 2 = 0) <|
  ck ((kd x0).1 = 4) <|
  bd (gR st x0 2) fun o1 =>
  ck ((kd o1).1 = 100 ∧ inb x1 (kd o1).2) <|
  if (gI st o1 (ix x1)) ≤ x4 then (
  ck (¬ gR st x0 1 = 0) <|
  ck ((kd x0).1 = 4) <|
  bd (gR st x0 1) fun o2 =>
  ck ((kd o2).1 = 100 ∧ inb x1 (kd o2).2) <|
  bd (sI st o2 (ix x1) x2) fun s3 =>
  ck (¬ gR s3 x0 2 = 0) <|
  ck ((kd x0).1 = 4) <|
  bd (gR s3 x0 2) fun o4 =>
  ck ((kd o4).1 = 100 ∧ inb x1 (kd o4).2) <|
  bd (sI s3 o4 (ix x1) x3) fun s5 =>
  ck (isb 1) (some (1, s5)))
  else (
  ck (¬ gR st x0 3 = 0) <|
  ck ((kd x0).1 = 4) <|
  bd (gR st x0 3) fun o6 =>
  ck ((kd o6).1 = 100 ∧ inb ((x1 * 30) + x4) (kd o6).2) <|
  if (gI st o6 (ix ((x1 * 30) + x4))) = 0 then (
  bd (x4 + 1) fun v7 =>
  k_3 x0 x1 x2 x3 v7  st)
  else (
  ck (isb 0) (some (0, st))))
set_option maxHeartbeats 4000000 in
set_option maxRecDepth 100000 in
theorem t_X4_build_3_b {X : CX} {res : Int32 × St} (B : BI X cX4_build RX4 5 1 NN (some .boolean) res) (fu : Nat) (k_3 : Nat → Int32 → Int32 → Int32 → Int32 → St → Option (Int32 × St)) (h_3 : ∀ (x0 : Nat) (x1 : Int32) (x2 : Int32) (x3 : Int32) (x4 : Int32)  (st : St), WW X res NN 3 [(0, .ref (x_b X + x0)), (1, .int x1), (2, .int x2), (3, .int x3), (4, .int x4)] [] st (k_3 x0 x1 x2 x3 x4 st)) (x0 : Nat) (x1 : Int32) (x2 : Int32) (x3 : Int32) (x4 : Int32)  (st : St) : WW X res NN 3 [(0, .ref (x_b X + x0)), (1, .int x1), (2, .int x2), (3, .int x3), (4, .int x4)] [] st (b_X4_build_3_b fu k_3 x0 x1 x2 x3 x4 st) := by
  have hX := B.1
  have hL := B.2.1
  unfold b_X4_build_3_b
  refine ww_iload hX 4 rfl dX4_build_3 ?_
  refine ww_aload_n hX 0 rfl dX4_build_5 rfl ?_
  refine ww_getR hX f_X4_18 (Or.inr ⟨_, rfl⟩) dX4_build_6 ?_
  refine ww_bdR (fun o1 => ?_)
  refine ww_iload_n hX 1 rfl dX4_build_9 rfl ?_
  refine ww_ialdc hX k_iald dX4_build_10 ?_
  refine ww_icmp_ge (tgt := 37) hX dX4_build_11 (by decide) ?_ ?_
  · refine ww_aload_n hX 0 rfl dX4_build_37 rfl ?_
    refine ww_getR hX f_X4_15 (Or.inr ⟨_, rfl⟩) dX4_build_38 ?_
    refine ww_bdR (fun o2 => ?_)
    refine ww_iload_n hX 1 rfl dX4_build_41 rfl ?_
    refine ww_iload_n hX 2 rfl dX4_build_42 rfl ?_
    refine ww_iastc hX k_iast dX4_build_43 ?_
    refine ww_bds (fun s3 => ?_)
    refine ww_aload_n hX 0 rfl dX4_build_44 rfl ?_
    refine ww_getR hX f_X4_18 (Or.inr ⟨_, rfl⟩) dX4_build_45 ?_
    refine ww_bdR (fun o4 => ?_)
    refine ww_pc (b := 48) rfl ?_
    refine ww_iload_n hX 1 rfl dX4_build_48 rfl ?_
    refine ww_iload_n hX 3 rfl dX4_build_49 rfl ?_
    refine ww_iastc hX k_iast dX4_build_50 ?_
    refine ww_bds (fun s5 => ?_)
    refine ww_iconst (v := 1) hX rfl dX4_build_51 ?_
    exact ww_zret B dX4_build_52
  · refine ww_aload_n hX 0 rfl dX4_build_14 rfl ?_
    refine ww_getR hX f_X4_21 (Or.inr ⟨_, rfl⟩) dX4_build_15 ?_
    refine ww_bdR (fun o6 => ?_)
    refine ww_iload_n hX 1 rfl dX4_build_18 rfl ?_
    refine ww_bipush (v := 30) hX rfl dX4_build_19 ?_
    refine ww_imul hX dX4_build_21 ?_
    refine ww_iload hX 4 rfl dX4_build_22 ?_
    refine ww_iadd hX dX4_build_24 ?_
    refine ww_pc (b := 25) rfl ?_
    refine ww_ialdc hX k_iald dX4_build_25 ?_
    refine ww_if_eq (tgt := 31) hX dX4_build_26 (by decide) ?_ ?_
    · refine ww_iincb (lv' := fun v7 => [(4, .int v7), (0, .ref (x_b X + x0)), (1, .int x1), (2, .int x2), (3, .int x3)]) (c := 1) hX hL 4 rfl dX4_build_31 rfl (by decide) (fun _ => rfl) (fun v7 => ?_)
      refine ww_goto (tgt := 3) hX dX4_build_34 (by decide) ?_
      exact ww_sub [1, 2, 3, 4, 0] rfl (h_3 x0 x1 x2 x3 v7  st)
    · refine ww_iconst (v := 0) hX rfl dX4_build_29 ?_
      exact ww_zret B dX4_build_30
def b_X4_build_3 (fu : Nat) : Nat → Nat → Int32 → Int32 → Int32 → Int32 → St → Option (Int32 × St)
  | 0, _, _, _, _, _, _ => none
  | i + 1, x0, x1, x2, x3, x4, st => b_X4_build_3_b fu (b_X4_build_3 fu i) x0 x1 x2 x3 x4 st
theorem t_X4_build_3 {X : CX} {res : Int32 × St} (B : BI X cX4_build RX4 5 1 NN (some .boolean) res) (fu : Nat) : ∀ (i : Nat) (x0 : Nat) (x1 : Int32) (x2 : Int32) (x3 : Int32) (x4 : Int32)  (st : St), WW X res NN 3 [(0, .ref (x_b X + x0)), (1, .int x1), (2, .int x2), (3, .int x3), (4, .int x4)] [] st (b_X4_build_3 fu i x0 x1 x2 x3 x4 st) := by
  intro i
  induction i with
  | zero => intro x0 x1 x2 x3 x4 st; exact ww_none
  | succ i ih => intro x0 x1 x2 x3 x4 st; exact t_X4_build_3_b B fu (b_X4_build_3 fu i) ih x0 x1 x2 x3 x4 st
def f_X4_build (fu : Nat) (th : Nat) (p1 : Int32) (p2 : Int32) (p3 : Int32) (st : St) : Option (Int32 × St) :=
  b_X4_build_3 fu fu th p1 p2 p3 0  st
set_option maxHeartbeats 4000000 in
set_option maxRecDepth 100000 in
theorem t_X4_build {X : CX} {res : Int32 × St} (B : BI X cX4_build RX4 5 1 NN (some .boolean) res) (fu : Nat) (th : Nat) (p1 : Int32) (p2 : Int32) (p3 : Int32) (st : St) : WW X res NN 0 [(0, .ref (x_b X + th)), (1, .int p1), (2, .int p2), (3, .int p3)] [] st (f_X4_build fu th p1 p2 p3 st) := by
  have hX := B.1
  have hL := B.2.1
  unfold f_X4_build
  refine ww_iconst (v := 0) hX rfl dX4_build_0 ?_
  refine ww_istore (lv' := [(4, .int 0), (0, .ref (x_b X + th)), (1, .int p1), (2, .int p2), (3, .int p3)]) hX hL dX4_build_1 (by decide) rfl ?_
  exact ww_sub [1, 2, 3, 4, 0] rfl (t_X4_build_3 B fu fu th p1 p2 p3 0  st)
theorem c_X4_build (G : GX) (l : Launch) (fu : Nat) (th : Nat) (p1 : Int32) (p2 : Int32) (p3 : Int32) (st : St) : MI G NN l yX4_build cX4_build 5 (some .boolean) 1 [.ref (G.2.2.1 + th), .int p1, .int p2, .int p3] st (f_X4_build fu th p1 p2 p3 st) := mkI (by decide) (Nat.le_of_ble_eq_true rfl) (fun X res hl hG B => by subst hl; subst hG; exact t_X4_build B fu th p1 p2 p3 st)
/-! StageHouse$Hall.isFree(II)Z -/
def b_X4_isFree_33 (fu : Nat)  (y0 : Int32) (st : St) : Option (Int32 × St) :=
  ck (isb y0) (some (y0, st))
set_option maxHeartbeats 4000000 in
set_option maxRecDepth 100000 in
theorem t_X4_isFree_33 {X : CX} {res : Int32 × St} (B : BI X cX4_isFree RX4 3 1 NN (some .boolean) res) (fu : Nat)  (y0 : Int32) (st : St) : WW X res NN 33 [] [.int y0] st (b_X4_isFree_33 fu y0 st) := by
  have hX := B.1
  have hL := B.2.1
  unfold b_X4_isFree_33
  exact ww_zret B dX4_isFree_33
def b_X4_isFree_32 (fu : Nat)   (st : St) : Option (Int32 × St) :=
  b_X4_isFree_33 fu  0 st
set_option maxHeartbeats 4000000 in
set_option maxRecDepth 100000 in
theorem t_X4_isFree_32 {X : CX} {res : Int32 × St} (B : BI X cX4_isFree RX4 3 1 NN (some .boolean) res) (fu : Nat)   (st : St) : WW X res NN 32 [] [] st (b_X4_isFree_32 fu  st) := by
  have hX := B.1
  have hL := B.2.1
  unfold b_X4_isFree_32
  refine ww_iconst (v := 0) hX rfl dX4_isFree_32 ?_
  exact t_X4_isFree_33 B fu  0 st
def f_X4_isFree (fu : Nat) (th : Nat) (p1 : Int32) (p2 : Int32) (st : St) : Option (Int32 × St) :=
  if p2 < 0 then (
  b_X4_isFree_32 fu   st)
  else (
  ck (¬ gR st th 2 = 0) <|
  ck ((kd th).1 = 4) <|
  bd (gR st th 2) fun o1 =>
  ck ((kd o1).1 = 100 ∧ inb p1 (kd o1).2) <|
  if (gI st o1 (ix p1)) ≤ p2 then (
  b_X4_isFree_32 fu   st)
  else (
  ck (¬ gR st th 3 = 0) <|
  ck ((kd th).1 = 4) <|
  bd (gR st th 3) fun o2 =>
  ck ((kd o2).1 = 100 ∧ inb ((p1 * 30) + p2) (kd o2).2) <|
  if (gI st o2 (ix ((p1 * 30) + p2))) = 0 then (
  b_X4_isFree_33 fu  1 st)
  else (
  b_X4_isFree_32 fu   st)))
set_option maxHeartbeats 4000000 in
set_option maxRecDepth 100000 in
theorem t_X4_isFree {X : CX} {res : Int32 × St} (B : BI X cX4_isFree RX4 3 1 NN (some .boolean) res) (fu : Nat) (th : Nat) (p1 : Int32) (p2 : Int32) (st : St) : WW X res NN 0 [(0, .ref (x_b X + th)), (1, .int p1), (2, .int p2)] [] st (f_X4_isFree fu th p1 p2 st) := by
  have hX := B.1
  have hL := B.2.1
  unfold f_X4_isFree
  refine ww_iload_n hX 2 rfl dX4_isFree_0 rfl ?_
  refine ww_if_lt (tgt := 32) hX dX4_isFree_1 (by decide) ?_ ?_
  · exact ww_sub [] rfl (t_X4_isFree_32 B fu   st)
  · refine ww_iload_n hX 2 rfl dX4_isFree_4 rfl ?_
    refine ww_aload_n hX 0 rfl dX4_isFree_5 rfl ?_
    refine ww_getR hX f_X4_18 (Or.inr ⟨_, rfl⟩) dX4_isFree_6 ?_
    refine ww_bdR (fun o1 => ?_)
    refine ww_iload_n hX 1 rfl dX4_isFree_9 rfl ?_
    refine ww_ialdc hX k_iald dX4_isFree_10 ?_
    refine ww_icmp_ge (tgt := 32) hX dX4_isFree_11 (by decide) ?_ ?_
    · exact ww_sub [] rfl (t_X4_isFree_32 B fu   st)
    · refine ww_aload_n hX 0 rfl dX4_isFree_14 rfl ?_
      refine ww_getR hX f_X4_21 (Or.inr ⟨_, rfl⟩) dX4_isFree_15 ?_
      refine ww_bdR (fun o2 => ?_)
      refine ww_iload_n hX 1 rfl dX4_isFree_18 rfl ?_
      refine ww_bipush (v := 30) hX rfl dX4_isFree_19 ?_
      refine ww_imul hX dX4_isFree_21 ?_
      refine ww_iload_n hX 2 rfl dX4_isFree_22 rfl ?_
      refine ww_iadd hX dX4_isFree_23 ?_
      refine ww_pc (b := 24) rfl ?_
      refine ww_ialdc hX k_iald dX4_isFree_24 ?_
      refine ww_if_ne (tgt := 32) hX dX4_isFree_25 (by decide) ?_ ?_
      · exact ww_sub [] rfl (t_X4_isFree_32 B fu   st)
      · refine ww_iconst (v := 1) hX rfl dX4_isFree_28 ?_
        refine ww_goto (tgt := 33) hX dX4_isFree_29 (by decide) ?_
        exact ww_sub [] rfl (t_X4_isFree_33 B fu  1 st)
theorem c_X4_isFree (G : GX) (l : Launch) (fu : Nat) (th : Nat) (p1 : Int32) (p2 : Int32) (st : St) : MI G NN l yX4_isFree cX4_isFree 3 (some .boolean) 1 [.ref (G.2.2.1 + th), .int p1, .int p2] st (f_X4_isFree fu th p1 p2 st) := mkI (by decide) (Nat.le_of_ble_eq_true rfl) (fun X res hl hG B => by subst hl; subst hG; exact t_X4_isFree B fu th p1 p2 st)
/-! StageHouse$Hall.badness(III)I -/
def b_X4_badness_53 (fu : Nat) (x0 : Nat) (x1 : Int32) (x2 : Int32) (x3 : Int32) (x4 : Int32)  (st : St) : Option (Int32 × St) :=
  ck (¬ gR st x0 2 = 0) <|
  ck ((kd x0).1 = 4) <|
  bd (gR st x0 2) fun o5 =>
  ck ((kd o5).1 = 100 ∧ inb x1 (kd o5).2) <|
  ca (f_J9_abs_0f7a4 fu ((x2 + x3) - ((gI st o5 (ix x1)) - 1)) st) fun r6 s7 =>
  some (((1000 * x4) + (3 * x1)) + r6, s7)
set_option maxHeartbeats 4000000 in
set_option maxRecDepth 100000 in
theorem t_X4_badness_53 {X : CX} {res : Int32 × St} (B : BI X cX4_badness RX4 5 2 NN (some .int) res) (fu : Nat) (x0 : Nat) (x1 : Int32) (x2 : Int32) (x3 : Int32) (x4 : Int32)  (st : St) : WW X res NN 53 [(0, .ref (x_b X + x0)), (1, .int x1), (2, .int x2), (3, .int x3), (4, .int x4)] [] st (b_X4_badness_53 fu x0 x1 x2 x3 x4 st) := by
  have hX := B.1
  have hL := B.2.1
  unfold b_X4_badness_53
  refine ww_sipush (v := 1000) hX rfl dX4_badness_53 ?_
  refine ww_iload hX 4 rfl dX4_badness_56 ?_
  refine ww_imul hX dX4_badness_58 ?_
  refine ww_iconst (v := 3) hX rfl dX4_badness_59 ?_
  refine ww_iload_n hX 1 rfl dX4_badness_60 rfl ?_
  refine ww_imul hX dX4_badness_61 ?_
  refine ww_iadd hX dX4_badness_62 ?_
  refine ww_pc (b := 63) rfl ?_
  refine ww_iload_n hX 2 rfl dX4_badness_63 rfl ?_
  refine ww_iload_n hX 3 rfl dX4_badness_64 rfl ?_
  refine ww_iadd hX dX4_badness_65 ?_
  refine ww_aload_n hX 0 rfl dX4_badness_66 rfl ?_
  refine ww_getR hX f_X4_18 (Or.inr ⟨_, rfl⟩) dX4_badness_67 ?_
  refine ww_bdR (fun o5 => ?_)
  refine ww_iload_n hX 1 rfl dX4_badness_70 rfl ?_
  refine ww_ialdc hX k_iald dX4_badness_71 ?_
  refine ww_iconst (v := 1) hX rfl dX4_badness_72 ?_
  refine ww_pc (b := 73) rfl ?_
  refine ww_isub hX dX4_badness_73 ?_
  refine ww_isub hX dX4_badness_74 ?_
  refine ww_callSI (As := [.int ((x2 + x3) - ((gI st o5 (ix x1)) - 1))]) (rest := [.int ((1000 * x4) + (3 * x1))]) hX (Rk.of B.2.2.1 B.2.2.2.1 (by decide) (by decide)) g_X4_43 (c_J9_abs_0f7a4 (x_G X) (x_l X) fu ((x2 + x3) - ((gI st o5 (ix x1)) - 1)) st) rfl rfl (Nat.le_of_ble_eq_true rfl) dX4_badness_75 (fun r6 s7 => ?_)
  refine ww_iadd hX dX4_badness_78 ?_
  exact ww_iret B dX4_badness_79
def b_X4_badness_28 (fu : Nat) (x0 : Nat) (x1 : Int32) (x2 : Int32) (x3 : Int32) (x4 : Int32)  (st : St) : Option (Int32 × St) :=
  ck ((kd x0).1 = 4) <|
  ca (f_X4_isFree fu x0 x1 (x3 + 1) st) fun r3 s4 =>
  if r3 = 0 then (
  b_X4_badness_53 fu x0 x1 x2 x3 x4  s4)
  else (
  ck ((kd x0).1 = 4) <|
  ca (f_X4_isFree fu x0 x1 (x3 + 2) s4) fun r8 s9 =>
  if r8 = 0 then (
  bd (x4 + 1) fun v10 =>
  b_X4_badness_53 fu x0 x1 x2 x3 v10  s9)
  else (
  b_X4_badness_53 fu x0 x1 x2 x3 x4  s9))
set_option maxHeartbeats 4000000 in
set_option maxRecDepth 100000 in
theorem t_X4_badness_28 {X : CX} {res : Int32 × St} (B : BI X cX4_badness RX4 5 2 NN (some .int) res) (fu : Nat) (x0 : Nat) (x1 : Int32) (x2 : Int32) (x3 : Int32) (x4 : Int32)  (st : St) : WW X res NN 28 [(0, .ref (x_b X + x0)), (1, .int x1), (2, .int x2), (3, .int x3), (4, .int x4)] [] st (b_X4_badness_28 fu x0 x1 x2 x3 x4 st) := by
  have hX := B.1
  have hL := B.2.1
  unfold b_X4_badness_28
  refine ww_aload_n hX 0 rfl dX4_badness_28 rfl ?_
  refine ww_iload_n hX 1 rfl dX4_badness_29 rfl ?_
  refine ww_iload_n hX 3 rfl dX4_badness_30 rfl ?_
  refine ww_iconst (v := 1) hX rfl dX4_badness_31 ?_
  refine ww_iadd hX dX4_badness_32 ?_
  refine ww_callVI (As := [.int x1, .int (x3 + 1)]) (rest := []) (o := x0) hX (Rk.of B.2.2.1 B.2.2.2.1 (by decide) (by decide)) g_X4_39 g_X4_39.in (fun _ => c_X4_isFree (x_G X) (x_l X) fu x0 x1 (x3 + 1) st) rfl rfl (Nat.le_of_ble_eq_true rfl) dX4_badness_33 (fun r3 s4 => ?_)
  refine ww_if_eq (tgt := 53) hX dX4_badness_36 (by decide) ?_ ?_
  · exact t_X4_badness_53 B fu x0 x1 x2 x3 x4  s4
  · refine ww_aload_n hX 0 rfl dX4_badness_39 rfl ?_
    refine ww_iload_n hX 1 rfl dX4_badness_40 rfl ?_
    refine ww_iload_n hX 3 rfl dX4_badness_41 rfl ?_
    refine ww_iconst (v := 2) hX rfl dX4_badness_42 ?_
    refine ww_iadd hX dX4_badness_43 ?_
    refine ww_callVI (As := [.int x1, .int (x3 + 2)]) (rest := []) (o := x0) hX (Rk.of B.2.2.1 B.2.2.2.1 (by decide) (by decide)) g_X4_39 g_X4_39.in (fun _ => c_X4_isFree (x_G X) (x_l X) fu x0 x1 (x3 + 2) s4) rfl rfl (Nat.le_of_ble_eq_true rfl) dX4_badness_44 (fun r8 s9 => ?_)
    refine ww_if_ne (tgt := 53) hX dX4_badness_47 (by decide) ?_ ?_
    · exact t_X4_badness_53 B fu x0 x1 x2 x3 x4  s9
    · refine ww_iincb (lv' := fun v10 => [(4, .int v10), (0, .ref (x_b X + x0)), (1, .int x1), (2, .int x2), (3, .int x3)]) (c := 1) hX hL 4 rfl dX4_badness_50 rfl (by decide) (fun _ => rfl) (fun v10 => ?_)
      exact ww_sub [1, 2, 3, 4, 0] rfl (t_X4_badness_53 B fu x0 x1 x2 x3 v10  s9)
def f_X4_badness (fu : Nat) (th : Nat) (p1 : Int32) (p2 : Int32) (p3 : Int32) (st : St) : Option (Int32 × St) :=
  ck ((kd th).1 = 4) <|
  ca (f_X4_isFree fu th p1 (p2 - 1) st) fun r1 s2 =>
  if r1 = 0 then (
  b_X4_badness_28 fu th p1 p2 p3 0  s2)
  else (
  ck ((kd th).1 = 4) <|
  ca (f_X4_isFree fu th p1 (p2 - 2) s2) fun r11 s12 =>
  if r11 = 0 then (
  bd (0 + 1) fun v13 =>
  b_X4_badness_28 fu th p1 p2 p3 v13  s12)
  else (
  b_X4_badness_28 fu th p1 p2 p3 0  s12))
set_option maxHeartbeats 4000000 in
set_option maxRecDepth 100000 in
theorem t_X4_badness {X : CX} {res : Int32 × St} (B : BI X cX4_badness RX4 5 2 NN (some .int) res) (fu : Nat) (th : Nat) (p1 : Int32) (p2 : Int32) (p3 : Int32) (st : St) : WW X res NN 0 [(0, .ref (x_b X + th)), (1, .int p1), (2, .int p2), (3, .int p3)] [] st (f_X4_badness fu th p1 p2 p3 st) := by
  have hX := B.1
  have hL := B.2.1
  unfold f_X4_badness
  refine ww_iconst (v := 0) hX rfl dX4_badness_0 ?_
  refine ww_istore (lv' := [(4, .int 0), (0, .ref (x_b X + th)), (1, .int p1), (2, .int p2), (3, .int p3)]) hX hL dX4_badness_1 (by decide) rfl ?_
  refine ww_aload_n hX 1 rfl dX4_badness_3 rfl ?_
  refine ww_iload_n hX 2 rfl dX4_badness_4 rfl ?_
  refine ww_iload_n hX 3 rfl dX4_badness_5 rfl ?_
  refine ww_iconst (v := 1) hX rfl dX4_badness_6 ?_
  refine ww_isub hX dX4_badness_7 ?_
  refine ww_pc (b := 8) rfl ?_
  refine ww_callVI (As := [.int p1, .int (p2 - 1)]) (rest := []) (o := th) hX (Rk.of B.2.2.1 B.2.2.2.1 (by decide) (by decide)) g_X4_39 g_X4_39.in (fun _ => c_X4_isFree (x_G X) (x_l X) fu th p1 (p2 - 1) st) rfl rfl (Nat.le_of_ble_eq_true rfl) dX4_badness_8 (fun r1 s2 => ?_)
  refine ww_if_eq (tgt := 28) hX dX4_badness_11 (by decide) ?_ ?_
  · exact ww_sub [1, 2, 3, 4, 0] rfl (t_X4_badness_28 B fu th p1 p2 p3 0  s2)
  · refine ww_aload_n hX 1 rfl dX4_badness_14 rfl ?_
    refine ww_iload_n hX 2 rfl dX4_badness_15 rfl ?_
    refine ww_iload_n hX 3 rfl dX4_badness_16 rfl ?_
    refine ww_iconst (v := 2) hX rfl dX4_badness_17 ?_
    refine ww_isub hX dX4_badness_18 ?_
    refine ww_callVI (As := [.int p1, .int (p2 - 2)]) (rest := []) (o := th) hX (Rk.of B.2.2.1 B.2.2.2.1 (by decide) (by decide)) g_X4_39 g_X4_39.in (fun _ => c_X4_isFree (x_G X) (x_l X) fu th p1 (p2 - 2) s2) rfl rfl (Nat.le_of_ble_eq_true rfl) dX4_badness_19 (fun r11 s12 => ?_)
    refine ww_if_ne (tgt := 28) hX dX4_badness_22 (by decide) ?_ ?_
    · exact ww_sub [1, 2, 3, 4, 0] rfl (t_X4_badness_28 B fu th p1 p2 p3 0  s12)
    · refine ww_iincb (lv' := fun v13 => [(4, .int v13), (0, .ref (x_b X + th)), (1, .int p1), (2, .int p2), (3, .int p3)]) (c := 1) hX hL 0 rfl dX4_badness_25 rfl (by decide) (fun _ => rfl) (fun v13 => ?_)
      exact ww_sub [1, 2, 3, 4, 0] rfl (t_X4_badness_28 B fu th p1 p2 p3 v13  s12)
theorem c_X4_badness (G : GX) (l : Launch) (fu : Nat) (th : Nat) (p1 : Int32) (p2 : Int32) (p3 : Int32) (st : St) : MI G NN l yX4_badness cX4_badness 5 (some .int) 2 [.ref (G.2.2.1 + th), .int p1, .int p2, .int p3] st (f_X4_badness fu th p1 p2 p3 st) := mkI (by decide) (Nat.le_of_ble_eq_true rfl) (fun X res hl hG B => by subst hl; subst hG; exact t_X4_badness B fu th p1 p2 p3 st)
/-! StageHouse$Hall.ownersFor(I)I -/
def b_X4_ownersFor_37 (fu : Nat) (k_17 : Nat → Int32 → Int32 → St → Option (Int32 × St)) (x0 : Nat) (x2 : Int32) (x3 : Int32)  (st : St) : Option (Int32 × St) :=
  bd (x3 + 1) fun v3 =>
  k_17 x0 x2 v3  st
set_option maxHeartbeats 4000000 in
set_option maxRecDepth 100000 in
theorem t_X4_ownersFor_37 {X : CX} {res : Int32 × St} (B : BI X cX4_ownersFor RX4 4 1 NN (some .int) res) (fu : Nat) (k_17 : Nat → Int32 → Int32 → St → Option (Int32 × St)) (h_17 : ∀ (x0 : Nat) (x2 : Int32) (x3 : Int32)  (st : St), WW X res NN 17 [(0, .ref (x_b X + x0)), (2, .int x2), (3, .int x3)] [] st (k_17 x0 x2 x3 st)) (x0 : Nat) (x2 : Int32) (x3 : Int32)  (st : St) : WW X res NN 37 [(0, .ref (x_b X + x0)), (2, .int x2), (3, .int x3)] [] st (b_X4_ownersFor_37 fu k_17 x0 x2 x3 st) := by
  have hX := B.1
  have hL := B.2.1
  unfold b_X4_ownersFor_37
  refine ww_iincb (lv' := fun v3 => [(3, .int v3), (0, .ref (x_b X + x0)), (2, .int x2)]) (c := 1) hX hL 2 rfl dX4_ownersFor_37 rfl (by decide) (fun _ => rfl) (fun v3 => ?_)
  refine ww_goto (tgt := 17) hX dX4_ownersFor_40 (by decide) ?_
  exact ww_sub [1, 2, 0] rfl (h_17 x0 x2 v3  st)
def b_X4_ownersFor_17_b (fu : Nat) (k_17 : Nat → Int32 → Int32 → St → Option (Int32 × St)) (x0 : Nat) (x2 : Int32) (x3 : Int32)  (st : St) : Option (Int32 × St) :=
  if 4 ≤ x3 then (
  some (x2, st))
  else (
  ck (¬ gR st x0 4 = 0) <|
  ck ((kd x0).1 = 4) <|
  bd (gR st x0 4) fun o2 =>
  ck ((kd o2).1 = 102 ∧ inb x3 (kd o2).2) <|
  if (gI st o2 (ix x3)) = 0 then (
  bd (x2 ||| (1 <<< (x3 &&& 31))) fun v4 =>
  b_X4_ownersFor_37 fu k_17 x0 v4 x3  st)
  else (
  b_X4_ownersFor_37 fu k_17 x0 x2 x3  st))
set_option maxHeartbeats 4000000 in
set_option maxRecDepth 100000 in
theorem t_X4_ownersFor_17_b {X : CX} {res : Int32 × St} (B : BI X cX4_ownersFor RX4 4 1 NN (some .int) res) (fu : Nat) (k_17 : Nat → Int32 → Int32 → St → Option (Int32 × St)) (h_17 : ∀ (x0 : Nat) (x2 : Int32) (x3 : Int32)  (st : St), WW X res NN 17 [(0, .ref (x_b X + x0)), (2, .int x2), (3, .int x3)] [] st (k_17 x0 x2 x3 st)) (x0 : Nat) (x2 : Int32) (x3 : Int32)  (st : St) : WW X res NN 17 [(0, .ref (x_b X + x0)), (2, .int x2), (3, .int x3)] [] st (b_X4_ownersFor_17_b fu k_17 x0 x2 x3 st) := by
  have hX := B.1
  have hL := B.2.1
  unfold b_X4_ownersFor_17_b
  refine ww_iload_n hX 2 rfl dX4_ownersFor_17 rfl ?_
  refine ww_iconst (v := 4) hX rfl dX4_ownersFor_18 ?_
  refine ww_icmp_ge (tgt := 43) hX dX4_ownersFor_19 (by decide) ?_ ?_
  · refine ww_iload_n hX 1 rfl dX4_ownersFor_43 rfl ?_
    exact ww_iret B dX4_ownersFor_44
  · refine ww_aload_n hX 0 rfl dX4_ownersFor_22 rfl ?_
    refine ww_getR hX f_X4_24 (Or.inr ⟨_, rfl⟩) dX4_ownersFor_23 ?_
    refine ww_bdR (fun o2 => ?_)
    refine ww_iload_n hX 2 rfl dX4_ownersFor_26 rfl ?_
    refine ww_zaldc hX k_zald dX4_ownersFor_27 ?_
    refine ww_if_ne (tgt := 37) hX dX4_ownersFor_28 (by decide) ?_ ?_
    · exact t_X4_ownersFor_37 B fu k_17 h_17 x0 x2 x3  st
    · refine ww_iload_n hX 1 rfl dX4_ownersFor_31 rfl ?_
      refine ww_iconst (v := 1) hX rfl dX4_ownersFor_32 ?_
      refine ww_iload_n hX 2 rfl dX4_ownersFor_33 rfl ?_
      refine ww_ishl hX dX4_ownersFor_34 ?_
      refine ww_ior hX dX4_ownersFor_35 ?_
      refine ww_bdi (fun v4 => ?_)
      refine ww_istore_n (lv' := [(2, .int v4), (0, .ref (x_b X + x0)), (3, .int x3)]) hX hL dX4_ownersFor_36 rfl (by decide) rfl ?_
      exact ww_sub [1, 0, 2] rfl (t_X4_ownersFor_37 B fu k_17 h_17 x0 v4 x3  st)
def b_X4_ownersFor_17 (fu : Nat) : Nat → Nat → Int32 → Int32 → St → Option (Int32 × St)
  | 0, _, _, _, _ => none
  | i + 1, x0, x2, x3, st => b_X4_ownersFor_17_b fu (b_X4_ownersFor_17 fu i) x0 x2 x3 st
theorem t_X4_ownersFor_17 {X : CX} {res : Int32 × St} (B : BI X cX4_ownersFor RX4 4 1 NN (some .int) res) (fu : Nat) : ∀ (i : Nat) (x0 : Nat) (x2 : Int32) (x3 : Int32)  (st : St), WW X res NN 17 [(0, .ref (x_b X + x0)), (2, .int x2), (3, .int x3)] [] st (b_X4_ownersFor_17 fu i x0 x2 x3 st) := by
  intro i
  induction i with
  | zero => intro x0 x2 x3 st; exact ww_none
  | succ i ih => intro x0 x2 x3 st; exact t_X4_ownersFor_17_b B fu (b_X4_ownersFor_17 fu i) ih x0 x2 x3 st
def f_X4_ownersFor (fu : Nat) (th : Nat) (p1 : Int32) (st : St) : Option (Int32 × St) :=
  ck (¬ gR st th 4 = 0) <|
  ck ((kd th).1 = 4) <|
  bd (gR st th 4) fun o1 =>
  ck ((kd o1).1 = 102 ∧ inb p1 (kd o1).2) <|
  if (gI st o1 (ix p1)) = 0 then (
  b_X4_ownersFor_17 fu fu th 0 0  st)
  else (
  some (1 <<< (p1 &&& 31), st))
set_option maxHeartbeats 4000000 in
set_option maxRecDepth 100000 in
theorem t_X4_ownersFor {X : CX} {res : Int32 × St} (B : BI X cX4_ownersFor RX4 4 1 NN (some .int) res) (fu : Nat) (th : Nat) (p1 : Int32) (st : St) : WW X res NN 0 [(0, .ref (x_b X + th)), (1, .int p1)] [] st (f_X4_ownersFor fu th p1 st) := by
  have hX := B.1
  have hL := B.2.1
  unfold f_X4_ownersFor
  refine ww_aload_n hX 0 rfl dX4_ownersFor_0 rfl ?_
  refine ww_getR hX f_X4_24 (Or.inr ⟨_, rfl⟩) dX4_ownersFor_1 ?_
  refine ww_bdR (fun o1 => ?_)
  refine ww_iload_n hX 1 rfl dX4_ownersFor_4 rfl ?_
  refine ww_zaldc hX k_zald dX4_ownersFor_5 ?_
  refine ww_if_eq (tgt := 13) hX dX4_ownersFor_6 (by decide) ?_ ?_
  · refine ww_iconst (v := 0) hX rfl dX4_ownersFor_13 ?_
    refine ww_istore_n (lv' := [(2, .int 0), (0, .ref (x_b X + th)), (1, .int p1)]) hX hL dX4_ownersFor_14 rfl (by decide) rfl ?_
    refine ww_iconst (v := 0) hX rfl dX4_ownersFor_15 ?_
    refine ww_istore_n (lv' := [(3, .int 0), (2, .int 0), (0, .ref (x_b X + th)), (1, .int p1)]) hX hL dX4_ownersFor_16 rfl (by decide) rfl ?_
    exact ww_sub [2, 1, 0] rfl (t_X4_ownersFor_17 B fu fu th 0 0  st)
  · refine ww_iconst (v := 1) hX rfl dX4_ownersFor_9 ?_
    refine ww_iload_n hX 1 rfl dX4_ownersFor_10 rfl ?_
    refine ww_ishl hX dX4_ownersFor_11 ?_
    exact ww_iret B dX4_ownersFor_12
theorem c_X4_ownersFor (G : GX) (l : Launch) (fu : Nat) (th : Nat) (p1 : Int32) (st : St) : MI G NN l yX4_ownersFor cX4_ownersFor 4 (some .int) 1 [.ref (G.2.2.1 + th), .int p1] st (f_X4_ownersFor fu th p1 st) := mkI (by decide) (Nat.le_of_ble_eq_true rfl) (fun X res hl hG B => by subst hl; subst hG; exact t_X4_ownersFor B fu th p1 st)
/-! StageHouse$Hall.best(III)I -/
def b_X4_best_176 (fu : Nat) (k_17 : Nat → Int32 → Int32 → Int32 → Int32 → Int32 → Int32 → St → Option (Int32 × St)) (x0 : Nat) (x2 : Int32) (x3 : Int32) (x4 : Int32) (x5 : Int32) (x6 : Int32) (x7 : Int32)  (st : St) : Option (Int32 × St) :=
  bd (x7 + 1) fun v5 =>
  k_17 x0 x2 x3 x4 x5 x6 v5  st
set_option maxHeartbeats 4000000 in
set_option maxRecDepth 100000 in
theorem t_X4_best_176 {X : CX} {res : Int32 × St} (B : BI X cX4_best RX4 12 3 NN (some .int) res) (fu : Nat) (k_17 : Nat → Int32 → Int32 → Int32 → Int32 → Int32 → Int32 → St → Option (Int32 × St)) (h_17 : ∀ (x0 : Nat) (x2 : Int32) (x3 : Int32) (x4 : Int32) (x5 : Int32) (x6 : Int32) (x7 : Int32)  (st : St), WW X res NN 17 [(0, .ref (x_b X + x0)), (2, .int x2), (3, .int x3), (4, .int x4), (5, .int x5), (6, .int x6), (7, .int x7)] [] st (k_17 x0 x2 x3 x4 x5 x6 x7 st)) (x0 : Nat) (x2 : Int32) (x3 : Int32) (x4 : Int32) (x5 : Int32) (x6 : Int32) (x7 : Int32)  (st : St) : WW X res NN 176 [(0, .ref (x_b X + x0)), (2, .int x2), (3, .int x3), (4, .int x4), (5, .int x5), (6, .int x6), (7, .int x7)] [] st (b_X4_best_176 fu k_17 x0 x2 x3 x4 x5 x6 x7 st) := by
  have hX := B.1
  have hL := B.2.1
  unfold b_X4_best_176
  refine ww_iincb (lv' := fun v5 => [(7, .int v5), (0, .ref (x_b X + x0)), (2, .int x2), (3, .int x3), (4, .int x4), (5, .int x5), (6, .int x6)]) (c := 1) hX hL 6 rfl dX4_best_176 rfl (by decide) (fun _ => rfl) (fun v5 => ?_)
  refine ww_goto (tgt := 17) hX dX4_best_179 (by decide) ?_
  exact ww_sub [1, 2, 3, 4, 5, 6, 0] rfl (h_17 x0 x2 x3 x4 x5 x6 v5  st)
def b_X4_best_170 (fu : Nat) (k_17 : Nat → Int32 → Int32 → Int32 → Int32 → Int32 → Int32 → St → Option (Int32 × St)) (k_55 : Nat → Int32 → Int32 → Int32 → Int32 → Int32 → Int32 → Int32 → Int32 → St → Option (Int32 × St)) (x0 : Nat) (x2 : Int32) (x3 : Int32) (x4 : Int32) (x5 : Int32) (x6 : Int32) (x7 : Int32) (x8 : Int32) (x9 : Int32)  (st : St) : Option (Int32 × St) :=
  bd (x9 + 1) fun v11 =>
  k_55 x0 x2 x3 x4 x5 x6 x7 x8 v11  st
set_option maxHeartbeats 4000000 in
set_option maxRecDepth 100000 in
theorem t_X4_best_170 {X : CX} {res : Int32 × St} (B : BI X cX4_best RX4 12 3 NN (some .int) res) (fu : Nat) (k_17 : Nat → Int32 → Int32 → Int32 → Int32 → Int32 → Int32 → St → Option (Int32 × St)) (k_55 : Nat → Int32 → Int32 → Int32 → Int32 → Int32 → Int32 → Int32 → Int32 → St → Option (Int32 × St)) (h_17 : ∀ (x0 : Nat) (x2 : Int32) (x3 : Int32) (x4 : Int32) (x5 : Int32) (x6 : Int32) (x7 : Int32)  (st : St), WW X res NN 17 [(0, .ref (x_b X + x0)), (2, .int x2), (3, .int x3), (4, .int x4), (5, .int x5), (6, .int x6), (7, .int x7)] [] st (k_17 x0 x2 x3 x4 x5 x6 x7 st)) (h_55 : ∀ (x0 : Nat) (x2 : Int32) (x3 : Int32) (x4 : Int32) (x5 : Int32) (x6 : Int32) (x7 : Int32) (x8 : Int32) (x9 : Int32)  (st : St), WW X res NN 55 [(0, .ref (x_b X + x0)), (2, .int x2), (3, .int x3), (4, .int x4), (5, .int x5), (6, .int x6), (7, .int x7), (8, .int x8), (9, .int x9)] [] st (k_55 x0 x2 x3 x4 x5 x6 x7 x8 x9 st)) (x0 : Nat) (x2 : Int32) (x3 : Int32) (x4 : Int32) (x5 : Int32) (x6 : Int32) (x7 : Int32) (x8 : Int32) (x9 : Int32)  (st : St) : WW X res NN 170 [(0, .ref (x_b X + x0)), (2, .int x2), (3, .int x3), (4, .int x4), (5, .int x5), (6, .int x6), (7, .int x7), (8, .int x8), (9, .int x9)] [] st (b_X4_best_170 fu k_17 k_55 x0 x2 x3 x4 x5 x6 x7 x8 x9 st) := by
  have hX := B.1
  have hL := B.2.1
  unfold b_X4_best_170
  refine ww_iincb (lv' := fun v11 => [(9, .int v11), (0, .ref (x_b X + x0)), (2, .int x2), (3, .int x3), (4, .int x4), (5, .int x5), (6, .int x6), (7, .int x7), (8, .int x8)]) (c := 1) hX hL 8 rfl dX4_best_170 rfl (by decide) (fun _ => rfl) (fun v11 => ?_)
  refine ww_goto (tgt := 55) hX dX4_best_173 (by decide) ?_
  exact ww_sub [1, 2, 3, 4, 5, 6, 7, 8, 0] rfl (h_55 x0 x2 x3 x4 x5 x6 x7 x8 v11  st)
def b_X4_best_118 (fu : Nat) (k_17 : Nat → Int32 → Int32 → Int32 → Int32 → Int32 → Int32 → St → Option (Int32 × St)) (k_55 : Nat → Int32 → Int32 → Int32 → Int32 → Int32 → Int32 → Int32 → Int32 → St → Option (Int32 × St)) (x0 : Nat) (x2 : Int32) (x3 : Int32) (x4 : Int32) (x5 : Int32) (x6 : Int32) (x7 : Int32) (x9 : Int32) (y0 : Int32) (st : St) : Option (Int32 × St) :=
  if x3 ≤ y0 then (
  ck ((kd x0).1 = 4) <|
  ca (f_X4_badness fu x0 x7 ((x9 - x3) + 1) x9 st) fun r9 s10 =>
  if x6 ≤ r9 then (
  b_X4_best_170 fu k_17 k_55 x0 x2 x3 x4 x5 x6 x7 y0 x9  s10)
  else (
  bd ((((x7 * 30) + x9) - x3) + 1) fun v12 =>
  b_X4_best_170 fu k_17 k_55 x0 x2 x3 x4 v12 r9 x7 y0 x9  s10))
  else (
  b_X4_best_170 fu k_17 k_55 x0 x2 x3 x4 x5 x6 x7 y0 x9  st)
set_option maxHeartbeats 4000000 in
set_option maxRecDepth 100000 in
theorem t_X4_best_118 {X : CX} {res : Int32 × St} (B : BI X cX4_best RX4 12 3 NN (some .int) res) (fu : Nat) (k_17 : Nat → Int32 → Int32 → Int32 → Int32 → Int32 → Int32 → St → Option (Int32 × St)) (k_55 : Nat → Int32 → Int32 → Int32 → Int32 → Int32 → Int32 → Int32 → Int32 → St → Option (Int32 × St)) (h_17 : ∀ (x0 : Nat) (x2 : Int32) (x3 : Int32) (x4 : Int32) (x5 : Int32) (x6 : Int32) (x7 : Int32)  (st : St), WW X res NN 17 [(0, .ref (x_b X + x0)), (2, .int x2), (3, .int x3), (4, .int x4), (5, .int x5), (6, .int x6), (7, .int x7)] [] st (k_17 x0 x2 x3 x4 x5 x6 x7 st)) (h_55 : ∀ (x0 : Nat) (x2 : Int32) (x3 : Int32) (x4 : Int32) (x5 : Int32) (x6 : Int32) (x7 : Int32) (x8 : Int32) (x9 : Int32)  (st : St), WW X res NN 55 [(0, .ref (x_b X + x0)), (2, .int x2), (3, .int x3), (4, .int x4), (5, .int x5), (6, .int x6), (7, .int x7), (8, .int x8), (9, .int x9)] [] st (k_55 x0 x2 x3 x4 x5 x6 x7 x8 x9 st)) (x0 : Nat) (x2 : Int32) (x3 : Int32) (x4 : Int32) (x5 : Int32) (x6 : Int32) (x7 : Int32) (x9 : Int32) (y0 : Int32) (st : St) : WW X res NN 118 [(0, .ref (x_b X + x0)), (2, .int x2), (3, .int x3), (4, .int x4), (5, .int x5), (6, .int x6), (7, .int x7), (9, .int x9)] [.int y0] st (b_X4_best_118 fu k_17 k_55 x0 x2 x3 x4 x5 x6 x7 x9 y0 st) := by
  have hX := B.1
  have hL := B.2.1
  unfold b_X4_best_118
  refine ww_istore (lv' := [(8, .int y0), (0, .ref (x_b X + x0)), (2, .int x2), (3, .int x3), (4, .int x4), (5, .int x5), (6, .int x6), (7, .int x7), (9, .int x9)]) hX hL dX4_best_118 (by decide) rfl ?_
  refine ww_iload hX 0 rfl dX4_best_120 ?_
  refine ww_iload_n hX 3 rfl dX4_best_122 rfl ?_
  refine ww_icmp_ge (tgt := 129) hX dX4_best_123 (by decide) ?_ ?_
  · refine ww_aload_n hX 1 rfl dX4_best_129 rfl ?_
    refine ww_iload hX 7 rfl dX4_best_130 ?_
    refine ww_iload hX 8 rfl dX4_best_132 ?_
    refine ww_iload_n hX 3 rfl dX4_best_134 rfl ?_
    refine ww_isub hX dX4_best_135 ?_
    refine ww_iconst (v := 1) hX rfl dX4_best_136 ?_
    refine ww_iadd hX dX4_best_137 ?_
    refine ww_pc (b := 138) rfl ?_
    refine ww_iload hX 8 rfl dX4_best_138 ?_
    refine ww_callVI (As := [.int x7, .int ((x9 - x3) + 1), .int x9]) (rest := []) (o := x0) hX (Rk.of B.2.2.1 B.2.2.2.1 (by decide) (by decide)) g_X4_35 g_X4_35.in (fun _ => c_X4_badness (x_G X) (x_l X) fu x0 x7 ((x9 - x3) + 1) x9 st) rfl rfl (Nat.le_of_ble_eq_true rfl) dX4_best_140 (fun r9 s10 => ?_)
    refine ww_istore (lv' := [(11, .int r9), (8, .int y0), (0, .ref (x_b X + x0)), (2, .int x2), (3, .int x3), (4, .int x4), (5, .int x5), (6, .int x6), (7, .int x7), (9, .int x9)]) hX hL dX4_best_143 (by decide) rfl ?_
    refine ww_iload hX 0 rfl dX4_best_145 ?_
    refine ww_iload hX 7 rfl dX4_best_147 ?_
    refine ww_icmp_ge (tgt := 170) hX dX4_best_149 (by decide) ?_ ?_
    · exact ww_sub [2, 3, 4, 5, 6, 7, 8, 1, 9] rfl (t_X4_best_170 B fu k_17 k_55 h_17 h_55 x0 x2 x3 x4 x5 x6 x7 y0 x9  s10)
    · refine ww_iload hX 0 rfl dX4_best_152 ?_
      refine ww_istore (lv' := [(6, .int r9), (11, .int r9), (8, .int y0), (0, .ref (x_b X + x0)), (2, .int x2), (3, .int x3), (4, .int x4), (5, .int x5), (7, .int x7), (9, .int x9)]) hX hL dX4_best_154 (by decide) rfl ?_
      refine ww_iload hX 8 rfl dX4_best_156 ?_
      refine ww_bipush (v := 30) hX rfl dX4_best_158 ?_
      refine ww_imul hX dX4_best_160 ?_
      refine ww_iload hX 9 rfl dX4_best_161 ?_
      refine ww_iadd hX dX4_best_163 ?_
      refine ww_pc (b := 164) rfl ?_
      refine ww_iload_n hX 5 rfl dX4_best_164 rfl ?_
      refine ww_isub hX dX4_best_165 ?_
      refine ww_iconst (v := 1) hX rfl dX4_best_166 ?_
      refine ww_iadd hX dX4_best_167 ?_
      refine ww_bdi (fun v12 => ?_)
      refine ww_istore (lv' := [(5, .int v12), (6, .int r9), (11, .int r9), (8, .int y0), (0, .ref (x_b X + x0)), (2, .int x2), (3, .int x3), (4, .int x4), (7, .int x7), (9, .int x9)]) hX hL dX4_best_168 (by decide) rfl ?_
      exact ww_sub [4, 5, 6, 7, 0, 1, 8, 3, 9] rfl (t_X4_best_170 B fu k_17 k_55 h_17 h_55 x0 x2 x3 x4 v12 r9 x7 y0 x9  s10)
  · refine ww_goto (tgt := 170) hX dX4_best_126 (by decide) ?_
    exact ww_sub [1, 2, 3, 4, 5, 6, 7, 0, 8] rfl (t_X4_best_170 B fu k_17 k_55 h_17 h_55 x0 x2 x3 x4 x5 x6 x7 y0 x9  st)
def b_X4_best_103 (fu : Nat) (k_17 : Nat → Int32 → Int32 → Int32 → Int32 → Int32 → Int32 → St → Option (Int32 × St)) (k_55 : Nat → Int32 → Int32 → Int32 → Int32 → Int32 → Int32 → Int32 → Int32 → St → Option (Int32 × St)) (x0 : Nat) (x2 : Int32) (x3 : Int32) (x4 : Int32) (x5 : Int32) (x6 : Int32) (x7 : Int32) (x8 : Int32) (x9 : Int32) (y0 : Int32) (st : St) : Option (Int32 × St) :=
  if y0 = 0 then (
  b_X4_best_118 fu k_17 k_55 x0 x2 x3 x4 x5 x6 x7 x9 0 st)
  else (
  b_X4_best_118 fu k_17 k_55 x0 x2 x3 x4 x5 x6 x7 x9 (x8 + 1) st)
set_option maxHeartbeats 4000000 in
set_option maxRecDepth 100000 in
theorem t_X4_best_103 {X : CX} {res : Int32 × St} (B : BI X cX4_best RX4 12 3 NN (some .int) res) (fu : Nat) (k_17 : Nat → Int32 → Int32 → Int32 → Int32 → Int32 → Int32 → St → Option (Int32 × St)) (k_55 : Nat → Int32 → Int32 → Int32 → Int32 → Int32 → Int32 → Int32 → Int32 → St → Option (Int32 × St)) (h_17 : ∀ (x0 : Nat) (x2 : Int32) (x3 : Int32) (x4 : Int32) (x5 : Int32) (x6 : Int32) (x7 : Int32)  (st : St), WW X res NN 17 [(0, .ref (x_b X + x0)), (2, .int x2), (3, .int x3), (4, .int x4), (5, .int x5), (6, .int x6), (7, .int x7)] [] st (k_17 x0 x2 x3 x4 x5 x6 x7 st)) (h_55 : ∀ (x0 : Nat) (x2 : Int32) (x3 : Int32) (x4 : Int32) (x5 : Int32) (x6 : Int32) (x7 : Int32) (x8 : Int32) (x9 : Int32)  (st : St), WW X res NN 55 [(0, .ref (x_b X + x0)), (2, .int x2), (3, .int x3), (4, .int x4), (5, .int x5), (6, .int x6), (7, .int x7), (8, .int x8), (9, .int x9)] [] st (k_55 x0 x2 x3 x4 x5 x6 x7 x8 x9 st)) (x0 : Nat) (x2 : Int32) (x3 : Int32) (x4 : Int32) (x5 : Int32) (x6 : Int32) (x7 : Int32) (x8 : Int32) (x9 : Int32) (y0 : Int32) (st : St) : WW X res NN 103 [(0, .ref (x_b X + x0)), (2, .int x2), (3, .int x3), (4, .int x4), (5, .int x5), (6, .int x6), (7, .int x7), (8, .int x8), (9, .int x9)] [.int y0] st (b_X4_best_103 fu k_17 k_55 x0 x2 x3 x4 x5 x6 x7 x8 x9 y0 st) := by
  have hX := B.1
  have hL := B.2.1
  unfold b_X4_best_103
  refine ww_istore (lv' := [(10, .int y0), (0, .ref (x_b X + x0)), (2, .int x2), (3, .int x3), (4, .int x4), (5, .int x5), (6, .int x6), (7, .int x7), (8, .int x8), (9, .int x9)]) hX hL dX4_best_103 (by decide) rfl ?_
  refine ww_iload hX 0 rfl dX4_best_105 ?_
  refine ww_if_eq (tgt := 117) hX dX4_best_107 (by decide) ?_ ?_
  · refine ww_iconst (v := 0) hX rfl dX4_best_117 ?_
    exact ww_sub [1, 2, 3, 4, 5, 6, 7, 9] rfl (t_X4_best_118 B fu k_17 k_55 h_17 h_55 x0 x2 x3 x4 x5 x6 x7 x9 0 st)
  · refine ww_iload hX 8 rfl dX4_best_110 ?_
    refine ww_iconst (v := 1) hX rfl dX4_best_112 ?_
    refine ww_iadd hX dX4_best_113 ?_
    refine ww_goto (tgt := 118) hX dX4_best_114 (by decide) ?_
    exact ww_sub [1, 2, 3, 4, 5, 6, 7, 9] rfl (t_X4_best_118 B fu k_17 k_55 h_17 h_55 x0 x2 x3 x4 x5 x6 x7 x9 (x8 + 1) st)
def b_X4_best_102 (fu : Nat) (k_17 : Nat → Int32 → Int32 → Int32 → Int32 → Int32 → Int32 → St → Option (Int32 × St)) (k_55 : Nat → Int32 → Int32 → Int32 → Int32 → Int32 → Int32 → Int32 → Int32 → St → Option (Int32 × St)) (x0 : Nat) (x2 : Int32) (x3 : Int32) (x4 : Int32) (x5 : Int32) (x6 : Int32) (x7 : Int32) (x8 : Int32) (x9 : Int32)  (st : St) : Option (Int32 × St) :=
  b_X4_best_103 fu k_17 k_55 x0 x2 x3 x4 x5 x6 x7 x8 x9 0 st
set_option maxHeartbeats 4000000 in
set_option maxRecDepth 100000 in
theorem t_X4_best_102 {X : CX} {res : Int32 × St} (B : BI X cX4_best RX4 12 3 NN (some .int) res) (fu : Nat) (k_17 : Nat → Int32 → Int32 → Int32 → Int32 → Int32 → Int32 → St → Option (Int32 × St)) (k_55 : Nat → Int32 → Int32 → Int32 → Int32 → Int32 → Int32 → Int32 → Int32 → St → Option (Int32 × St)) (h_17 : ∀ (x0 : Nat) (x2 : Int32) (x3 : Int32) (x4 : Int32) (x5 : Int32) (x6 : Int32) (x7 : Int32)  (st : St), WW X res NN 17 [(0, .ref (x_b X + x0)), (2, .int x2), (3, .int x3), (4, .int x4), (5, .int x5), (6, .int x6), (7, .int x7)] [] st (k_17 x0 x2 x3 x4 x5 x6 x7 st)) (h_55 : ∀ (x0 : Nat) (x2 : Int32) (x3 : Int32) (x4 : Int32) (x5 : Int32) (x6 : Int32) (x7 : Int32) (x8 : Int32) (x9 : Int32)  (st : St), WW X res NN 55 [(0, .ref (x_b X + x0)), (2, .int x2), (3, .int x3), (4, .int x4), (5, .int x5), (6, .int x6), (7, .int x7), (8, .int x8), (9, .int x9)] [] st (k_55 x0 x2 x3 x4 x5 x6 x7 x8 x9 st)) (x0 : Nat) (x2 : Int32) (x3 : Int32) (x4 : Int32) (x5 : Int32) (x6 : Int32) (x7 : Int32) (x8 : Int32) (x9 : Int32)  (st : St) : WW X res NN 102 [(0, .ref (x_b X + x0)), (2, .int x2), (3, .int x3), (4, .int x4), (5, .int x5), (6, .int x6), (7, .int x7), (8, .int x8), (9, .int x9)] [] st (b_X4_best_102 fu k_17 k_55 x0 x2 x3 x4 x5 x6 x7 x8 x9 st) := by
  have hX := B.1
  have hL := B.2.1
  unfold b_X4_best_102
  refine ww_iconst (v := 0) hX rfl dX4_best_102 ?_
  exact t_X4_best_103 B fu k_17 k_55 h_17 h_55 x0 x2 x3 x4 x5 x6 x7 x8 x9 0 st
def b_X4_best_55_b (fu : Nat) (k_17 : Nat → Int32 → Int32 → Int32 → Int32 → Int32 → Int32 → St → Option (Int32 × St)) (k_55 : Nat → Int32 → Int32 → Int32 → Int32 → Int32 → Int32 → Int32 → Int32 → St → Option (Int32 × St)) (x0 : Nat) (x2 : Int32) (x3 : Int32) (x4 : Int32) (x5 : Int32) (x6 : Int32) (x7 : Int32) (x8 : Int32) (x9 : Int32)  (st : St) : Option (Int32 × St) :=
  ck (¬ gR st x0 2 = 0) <|
  ck ((kd x0).1 = 4) <|
  bd (gR st x0 2) fun o7 =>
  ck ((kd o7).1 = 100 ∧ inb x7 (kd o7).2) <|
  if (gI st o7 (ix x7)) ≤ x9 then (
  b_X4_best_176 fu k_17 x0 x2 x3 x4 x5 x6 x7  st)
  else (
  ck (¬ gR st x0 3 = 0) <|
  ck ((kd x0).1 = 4) <|
  bd (gR st x0 3) fun o8 =>
  ck ((kd o8).1 = 100 ∧ inb ((x7 * 30) + x9) (kd o8).2) <|
  if (gI st o8 (ix ((x7 * 30) + x9))) = 0 then (
  if ((x4 >>> (((x7 + x9) &&& 3) &&& 31)) &&& 1) = 0 then (
  b_X4_best_102 fu k_17 k_55 x0 x2 x3 x4 x5 x6 x7 x8 x9  st)
  else (
  b_X4_best_103 fu k_17 k_55 x0 x2 x3 x4 x5 x6 x7 x8 x9 1 st))
  else (
  b_X4_best_102 fu k_17 k_55 x0 x2 x3 x4 x5 x6 x7 x8 x9  st))
set_option maxHeartbeats 4000000 in
set_option maxRecDepth 100000 in
theorem t_X4_best_55_b {X : CX} {res : Int32 × St} (B : BI X cX4_best RX4 12 3 NN (some .int) res) (fu : Nat) (k_17 : Nat → Int32 → Int32 → Int32 → Int32 → Int32 → Int32 → St → Option (Int32 × St)) (k_55 : Nat → Int32 → Int32 → Int32 → Int32 → Int32 → Int32 → Int32 → Int32 → St → Option (Int32 × St)) (h_17 : ∀ (x0 : Nat) (x2 : Int32) (x3 : Int32) (x4 : Int32) (x5 : Int32) (x6 : Int32) (x7 : Int32)  (st : St), WW X res NN 17 [(0, .ref (x_b X + x0)), (2, .int x2), (3, .int x3), (4, .int x4), (5, .int x5), (6, .int x6), (7, .int x7)] [] st (k_17 x0 x2 x3 x4 x5 x6 x7 st)) (h_55 : ∀ (x0 : Nat) (x2 : Int32) (x3 : Int32) (x4 : Int32) (x5 : Int32) (x6 : Int32) (x7 : Int32) (x8 : Int32) (x9 : Int32)  (st : St), WW X res NN 55 [(0, .ref (x_b X + x0)), (2, .int x2), (3, .int x3), (4, .int x4), (5, .int x5), (6, .int x6), (7, .int x7), (8, .int x8), (9, .int x9)] [] st (k_55 x0 x2 x3 x4 x5 x6 x7 x8 x9 st)) (x0 : Nat) (x2 : Int32) (x3 : Int32) (x4 : Int32) (x5 : Int32) (x6 : Int32) (x7 : Int32) (x8 : Int32) (x9 : Int32)  (st : St) : WW X res NN 55 [(0, .ref (x_b X + x0)), (2, .int x2), (3, .int x3), (4, .int x4), (5, .int x5), (6, .int x6), (7, .int x7), (8, .int x8), (9, .int x9)] [] st (b_X4_best_55_b fu k_17 k_55 x0 x2 x3 x4 x5 x6 x7 x8 x9 st) := by
  have hX := B.1
  have hL := B.2.1
  unfold b_X4_best_55_b
  refine ww_iload hX 8 rfl dX4_best_55 ?_
  refine ww_aload_n hX 0 rfl dX4_best_57 rfl ?_
  refine ww_getR hX f_X4_18 (Or.inr ⟨_, rfl⟩) dX4_best_58 ?_
  refine ww_bdR (fun o7 => ?_)
  refine ww_iload hX 6 rfl dX4_best_61 ?_
  refine ww_ialdc hX k_iald dX4_best_63 ?_
  refine ww_icmp_ge (tgt := 176) hX dX4_best_64 (by decide) ?_ ?_
  · exact ww_sub [0, 1, 2, 3, 4, 5, 6] rfl (t_X4_best_176 B fu k_17 h_17 x0 x2 x3 x4 x5 x6 x7  st)
  · refine ww_aload_n hX 0 rfl dX4_best_67 rfl ?_
    refine ww_getR hX f_X4_21 (Or.inr ⟨_, rfl⟩) dX4_best_68 ?_
    refine ww_bdR (fun o8 => ?_)
    refine ww_iload hX 6 rfl dX4_best_71 ?_
    refine ww_bipush (v := 30) hX rfl dX4_best_73 ?_
    refine ww_imul hX dX4_best_75 ?_
    refine ww_iload hX 8 rfl dX4_best_76 ?_
    refine ww_iadd hX dX4_best_78 ?_
    refine ww_pc (b := 79) rfl ?_
    refine ww_ialdc hX k_iald dX4_best_79 ?_
    refine ww_if_ne (tgt := 102) hX dX4_best_80 (by decide) ?_ ?_
    · exact t_X4_best_102 B fu k_17 k_55 h_17 h_55 x0 x2 x3 x4 x5 x6 x7 x8 x9  st
    · refine ww_iload hX 3 rfl dX4_best_83 ?_
      refine ww_iload hX 6 rfl dX4_best_85 ?_
      refine ww_iload hX 8 rfl dX4_best_87 ?_
      refine ww_iadd hX dX4_best_89 ?_
      refine ww_iconst (v := 3) hX rfl dX4_best_90 ?_
      refine ww_iand hX dX4_best_91 ?_
      refine ww_ishr hX dX4_best_92 ?_
      refine ww_pc (b := 93) rfl ?_
      refine ww_iconst (v := 1) hX rfl dX4_best_93 ?_
      refine ww_iand hX dX4_best_94 ?_
      refine ww_if_eq (tgt := 102) hX dX4_best_95 (by decide) ?_ ?_
      · exact t_X4_best_102 B fu k_17 k_55 h_17 h_55 x0 x2 x3 x4 x5 x6 x7 x8 x9  st
      · refine ww_iconst (v := 1) hX rfl dX4_best_98 ?_
        refine ww_goto (tgt := 103) hX dX4_best_99 (by decide) ?_
        exact t_X4_best_103 B fu k_17 k_55 h_17 h_55 x0 x2 x3 x4 x5 x6 x7 x8 x9 1 st
def b_X4_best_55 (fu : Nat) (k_17 : Nat → Int32 → Int32 → Int32 → Int32 → Int32 → Int32 → St → Option (Int32 × St)) : Nat → Nat → Int32 → Int32 → Int32 → Int32 → Int32 → Int32 → Int32 → Int32 → St → Option (Int32 × St)
  | 0, _, _, _, _, _, _, _, _, _, _ => none
  | i + 1, x0, x2, x3, x4, x5, x6, x7, x8, x9, st => b_X4_best_55_b fu k_17 (b_X4_best_55 fu k_17 i) x0 x2 x3 x4 x5 x6 x7 x8 x9 st
theorem t_X4_best_55 {X : CX} {res : Int32 × St} (B : BI X cX4_best RX4 12 3 NN (some .int) res) (fu : Nat) (k_17 : Nat → Int32 → Int32 → Int32 → Int32 → Int32 → Int32 → St → Option (Int32 × St)) (h_17 : ∀ (x0 : Nat) (x2 : Int32) (x3 : Int32) (x4 : Int32) (x5 : Int32) (x6 : Int32) (x7 : Int32)  (st : St), WW X res NN 17 [(0, .ref (x_b X + x0)), (2, .int x2), (3, .int x3), (4, .int x4), (5, .int x5), (6, .int x6), (7, .int x7)] [] st (k_17 x0 x2 x3 x4 x5 x6 x7 st)) : ∀ (i : Nat) (x0 : Nat) (x2 : Int32) (x3 : Int32) (x4 : Int32) (x5 : Int32) (x6 : Int32) (x7 : Int32) (x8 : Int32) (x9 : Int32)  (st : St), WW X res NN 55 [(0, .ref (x_b X + x0)), (2, .int x2), (3, .int x3), (4, .int x4), (5, .int x5), (6, .int x6), (7, .int x7), (8, .int x8), (9, .int x9)] [] st (b_X4_best_55 fu k_17 i x0 x2 x3 x4 x5 x6 x7 x8 x9 st) := by
  intro i
  induction i with
  | zero => intro x0 x2 x3 x4 x5 x6 x7 x8 x9 st; exact ww_none
  | succ i ih => intro x0 x2 x3 x4 x5 x6 x7 x8 x9 st; exact t_X4_best_55_b B fu k_17 (b_X4_best_55 fu k_17 i) h_17 ih x0 x2 x3 x4 x5 x6 x7 x8 x9 st
def b_X4_best_17_b (fu : Nat) (k_17 : Nat → Int32 → Int32 → Int32 → Int32 → Int32 → Int32 → St → Option (Int32 × St)) (x0 : Nat) (x2 : Int32) (x3 : Int32) (x4 : Int32) (x5 : Int32) (x6 : Int32) (x7 : Int32)  (st : St) : Option (Int32 × St) :=
  if 40 ≤ x7 then (
  some (x5, st))
  else (
  ck (¬ gR st x0 2 = 0) <|
  ck ((kd x0).1 = 4) <|
  bd (gR st x0 2) fun o4 =>
  ck ((kd o4).1 = 100 ∧ inb x7 (kd o4).2) <|
  if (gI st o4 (ix x7)) < x3 then (
  b_X4_best_176 fu k_17 x0 x2 x3 x4 x5 x6 x7  st)
  else (
  ck (¬ gR st x0 1 = 0) <|
  ck ((kd x0).1 = 4) <|
  bd (gR st x0 1) fun o6 =>
  ck ((kd o6).1 = 100 ∧ inb x7 (kd o6).2) <|
  if (gI st o6 (ix x7)) = x2 then (
  b_X4_best_55 fu k_17 fu x0 x2 x3 x4 x5 x6 x7 0 0  st)
  else (
  b_X4_best_176 fu k_17 x0 x2 x3 x4 x5 x6 x7  st)))
set_option maxHeartbeats 4000000 in
set_option maxRecDepth 100000 in
theorem t_X4_best_17_b {X : CX} {res : Int32 × St} (B : BI X cX4_best RX4 12 3 NN (some .int) res) (fu : Nat) (k_17 : Nat → Int32 → Int32 → Int32 → Int32 → Int32 → Int32 → St → Option (Int32 × St)) (h_17 : ∀ (x0 : Nat) (x2 : Int32) (x3 : Int32) (x4 : Int32) (x5 : Int32) (x6 : Int32) (x7 : Int32)  (st : St), WW X res NN 17 [(0, .ref (x_b X + x0)), (2, .int x2), (3, .int x3), (4, .int x4), (5, .int x5), (6, .int x6), (7, .int x7)] [] st (k_17 x0 x2 x3 x4 x5 x6 x7 st)) (x0 : Nat) (x2 : Int32) (x3 : Int32) (x4 : Int32) (x5 : Int32) (x6 : Int32) (x7 : Int32)  (st : St) : WW X res NN 17 [(0, .ref (x_b X + x0)), (2, .int x2), (3, .int x3), (4, .int x4), (5, .int x5), (6, .int x6), (7, .int x7)] [] st (b_X4_best_17_b fu k_17 x0 x2 x3 x4 x5 x6 x7 st) := by
  have hX := B.1
  have hL := B.2.1
  unfold b_X4_best_17_b
  refine ww_iload hX 6 rfl dX4_best_17 ?_
  refine ww_bipush (v := 40) hX rfl dX4_best_19 ?_
  refine ww_icmp_ge (tgt := 182) hX dX4_best_21 (by decide) ?_ ?_
  · refine ww_iload hX 4 rfl dX4_best_182 ?_
    exact ww_iret B dX4_best_184
  · refine ww_aload_n hX 0 rfl dX4_best_24 rfl ?_
    refine ww_getR hX f_X4_18 (Or.inr ⟨_, rfl⟩) dX4_best_25 ?_
    refine ww_bdR (fun o4 => ?_)
    refine ww_iload hX 6 rfl dX4_best_28 ?_
    refine ww_ialdc hX k_iald dX4_best_30 ?_
    refine ww_iload_n hX 2 rfl dX4_best_31 rfl ?_
    refine ww_icmp_lt (tgt := 176) hX dX4_best_32 (by decide) ?_ ?_
    · exact t_X4_best_176 B fu k_17 h_17 x0 x2 x3 x4 x5 x6 x7  st
    · refine ww_aload_n hX 0 rfl dX4_best_35 rfl ?_
      refine ww_getR hX f_X4_15 (Or.inr ⟨_, rfl⟩) dX4_best_36 ?_
      refine ww_bdR (fun o6 => ?_)
      refine ww_iload hX 6 rfl dX4_best_39 ?_
      refine ww_ialdc hX k_iald dX4_best_41 ?_
      refine ww_iload_n hX 1 rfl dX4_best_42 rfl ?_
      refine ww_icmp_eq (tgt := 49) hX dX4_best_43 (by decide) ?_ ?_
      · refine ww_iconst (v := 0) hX rfl dX4_best_49 ?_
        refine ww_istore (lv' := [(8, .int 0), (0, .ref (x_b X + x0)), (2, .int x2), (3, .int x3), (4, .int x4), (5, .int x5), (6, .int x6), (7, .int x7)]) hX hL dX4_best_50 (by decide) rfl ?_
        refine ww_iconst (v := 0) hX rfl dX4_best_52 ?_
        refine ww_istore (lv' := [(9, .int 0), (8, .int 0), (0, .ref (x_b X + x0)), (2, .int x2), (3, .int x3), (4, .int x4), (5, .int x5), (6, .int x6), (7, .int x7)]) hX hL dX4_best_53 (by decide) rfl ?_
        exact ww_sub [2, 3, 4, 5, 6, 7, 8, 1, 0] rfl (t_X4_best_55 B fu k_17 h_17 fu x0 x2 x3 x4 x5 x6 x7 0 0  st)
      · refine ww_goto (tgt := 176) hX dX4_best_46 (by decide) ?_
        exact t_X4_best_176 B fu k_17 h_17 x0 x2 x3 x4 x5 x6 x7  st
def b_X4_best_17 (fu : Nat) : Nat → Nat → Int32 → Int32 → Int32 → Int32 → Int32 → Int32 → St → Option (Int32 × St)
  | 0, _, _, _, _, _, _, _, _ => none
  | i + 1, x0, x2, x3, x4, x5, x6, x7, st => b_X4_best_17_b fu (b_X4_best_17 fu i) x0 x2 x3 x4 x5 x6 x7 st
theorem t_X4_best_17 {X : CX} {res : Int32 × St} (B : BI X cX4_best RX4 12 3 NN (some .int) res) (fu : Nat) : ∀ (i : Nat) (x0 : Nat) (x2 : Int32) (x3 : Int32) (x4 : Int32) (x5 : Int32) (x6 : Int32) (x7 : Int32)  (st : St), WW X res NN 17 [(0, .ref (x_b X + x0)), (2, .int x2), (3, .int x3), (4, .int x4), (5, .int x5), (6, .int x6), (7, .int x7)] [] st (b_X4_best_17 fu i x0 x2 x3 x4 x5 x6 x7 st) := by
  intro i
  induction i with
  | zero => intro x0 x2 x3 x4 x5 x6 x7 st; exact ww_none
  | succ i ih => intro x0 x2 x3 x4 x5 x6 x7 st; exact t_X4_best_17_b B fu (b_X4_best_17 fu i) ih x0 x2 x3 x4 x5 x6 x7 st
def f_X4_best (fu : Nat) (th : Nat) (p1 : Int32) (p2 : Int32) (p3 : Int32) (st : St) : Option (Int32 × St) :=
  ck ((kd th).1 = 4) <|
  ca (f_X4_ownersFor fu th p1 st) fun r1 s2 =>
  bd ((-1)) fun v3 =>
  b_X4_best_17 fu fu th p2 p3 r1 v3 2147483647 0  s2
set_option maxHeartbeats 4000000 in
set_option maxRecDepth 100000 in
theorem t_X4_best {X : CX} {res : Int32 × St} (B : BI X cX4_best RX4 12 3 NN (some .int) res) (fu : Nat) (th : Nat) (p1 : Int32) (p2 : Int32) (p3 : Int32) (st : St) : WW X res NN 0 [(0, .ref (x_b X + th)), (1, .int p1), (2, .int p2), (3, .int p3)] [] st (f_X4_best fu th p1 p2 p3 st) := by
  have hX := B.1
  have hL := B.2.1
  unfold f_X4_best
  refine ww_aload_n hX 0 rfl dX4_best_0 rfl ?_
  refine ww_iload_n hX 1 rfl dX4_best_1 rfl ?_
  refine ww_callVI (As := [.int p1]) (rest := []) (o := th) hX (Rk.of B.2.2.1 B.2.2.2.1 (by decide) (by decide)) g_X4_28 g_X4_28.in (fun _ => c_X4_ownersFor (x_G X) (x_l X) fu th p1 st) rfl rfl (Nat.le_of_ble_eq_true rfl) dX4_best_2 (fun r1 s2 => ?_)
  refine ww_istore (lv' := [(4, .int r1), (0, .ref (x_b X + th)), (1, .int p1), (2, .int p2), (3, .int p3)]) hX hL dX4_best_5 (by decide) rfl ?_
  refine ww_iconst (v := (-1)) hX rfl dX4_best_7 ?_
  refine ww_bdi (fun v3 => ?_)
  refine ww_istore (lv' := [(5, .int v3), (4, .int r1), (0, .ref (x_b X + th)), (1, .int p1), (2, .int p2), (3, .int p3)]) hX hL dX4_best_8 (by decide) rfl ?_
  refine ww_ldc (v := 2147483647) hX k_X4_34 dX4_best_10 ?_
  refine ww_pc (b := 12) rfl ?_
  refine ww_istore (lv' := [(6, .int 2147483647), (5, .int v3), (4, .int r1), (0, .ref (x_b X + th)), (1, .int p1), (2, .int p2), (3, .int p3)]) hX hL dX4_best_12 (by decide) rfl ?_
  refine ww_iconst (v := 0) hX rfl dX4_best_14 ?_
  refine ww_istore (lv' := [(7, .int 0), (6, .int 2147483647), (5, .int v3), (4, .int r1), (0, .ref (x_b X + th)), (1, .int p1), (2, .int p2), (3, .int p3)]) hX hL dX4_best_15 (by decide) rfl ?_
  exact ww_sub [4, 6, 7, 3, 2, 1, 0] rfl (t_X4_best_17 B fu fu th p2 p3 r1 v3 2147483647 0  s2)
theorem c_X4_best (G : GX) (l : Launch) (fu : Nat) (th : Nat) (p1 : Int32) (p2 : Int32) (p3 : Int32) (st : St) : MI G NN l yX4_best cX4_best 12 (some .int) 3 [.ref (G.2.2.1 + th), .int p1, .int p2, .int p3] st (f_X4_best fu th p1 p2 p3 st) := mkI (by decide) (Nat.le_of_ble_eq_true rfl) (fun X res hl hG B => by subst hl; subst hG; exact t_X4_best B fu th p1 p2 p3 st)
/-! java/lang/Integer.bitCount(I)I -/
def f_J6_bitCount_0f7a4 (fu : Nat) (p0 : Int32) (st : St) : Option (Int32 × St) :=
  bd (p0 - (((p0.toUInt32 >>> ((1 : Int32).toUInt32 &&& Int32.toUInt32 31)).toInt32) &&& 1431655765)) fun v1 =>
  bd ((v1 &&& 858993459) + (((v1.toUInt32 >>> ((2 : Int32).toUInt32 &&& Int32.toUInt32 31)).toInt32) &&& 858993459)) fun v2 =>
  bd ((v2 + ((v2.toUInt32 >>> ((4 : Int32).toUInt32 &&& Int32.toUInt32 31)).toInt32)) &&& 252645135) fun v3 =>
  bd (v3 + ((v3.toUInt32 >>> ((8 : Int32).toUInt32 &&& Int32.toUInt32 31)).toInt32)) fun v4 =>
  bd (v4 + ((v4.toUInt32 >>> ((16 : Int32).toUInt32 &&& Int32.toUInt32 31)).toInt32)) fun v5 =>
  some (v5 &&& 63, st)
set_option maxHeartbeats 4000000 in
set_option maxRecDepth 100000 in
theorem t_J6_bitCount_0f7a4 {X : CX} {res : Int32 × St} (B : BI X cJ6_bitCount_0f7a4 RJ6 1 1 NN (some .int) res) (fu : Nat) (p0 : Int32) (st : St) : WW X res NN 0 [(0, .int p0)] [] st (f_J6_bitCount_0f7a4 fu p0 st) := by
  have hX := B.1
  have hL := B.2.1
  unfold f_J6_bitCount_0f7a4
  refine ww_iload_n hX 0 rfl dJ6_bitCount_0f7a4_0 rfl ?_
  refine ww_iload_n hX 0 rfl dJ6_bitCount_0f7a4_1 rfl ?_
  refine ww_iconst (v := 1) hX rfl dJ6_bitCount_0f7a4_2 ?_
  refine ww_iushr hX dJ6_bitCount_0f7a4_3 ?_
  refine ww_ldcw (v := 1431655765) hX k_J6_265 dJ6_bitCount_0f7a4_4 ?_
  refine ww_iand hX dJ6_bitCount_0f7a4_7 ?_
  refine ww_isub hX dJ6_bitCount_0f7a4_8 ?_
  refine ww_pc (b := 9) rfl ?_
  refine ww_bdi (fun v1 => ?_)
  refine ww_istore_n (lv' := [(0, .int v1)]) hX hL dJ6_bitCount_0f7a4_9 rfl (by decide) rfl ?_
  refine ww_iload_n hX 0 rfl dJ6_bitCount_0f7a4_10 rfl ?_
  refine ww_ldcw (v := 858993459) hX k_J6_266 dJ6_bitCount_0f7a4_11 ?_
  refine ww_iand hX dJ6_bitCount_0f7a4_14 ?_
  refine ww_iload_n hX 0 rfl dJ6_bitCount_0f7a4_15 rfl ?_
  refine ww_iconst (v := 2) hX rfl dJ6_bitCount_0f7a4_16 ?_
  refine ww_iushr hX dJ6_bitCount_0f7a4_17 ?_
  refine ww_ldcw (v := 858993459) hX k_J6_266 dJ6_bitCount_0f7a4_18 ?_
  refine ww_pc (b := 21) rfl ?_
  refine ww_iand hX dJ6_bitCount_0f7a4_21 ?_
  refine ww_iadd hX dJ6_bitCount_0f7a4_22 ?_
  refine ww_bdi (fun v2 => ?_)
  refine ww_istore_n (lv' := [(0, .int v2)]) hX hL dJ6_bitCount_0f7a4_23 rfl (by decide) rfl ?_
  refine ww_iload_n hX 0 rfl dJ6_bitCount_0f7a4_24 rfl ?_
  refine ww_iload_n hX 0 rfl dJ6_bitCount_0f7a4_25 rfl ?_
  refine ww_iconst (v := 4) hX rfl dJ6_bitCount_0f7a4_26 ?_
  refine ww_iushr hX dJ6_bitCount_0f7a4_27 ?_
  refine ww_iadd hX dJ6_bitCount_0f7a4_28 ?_
  refine ww_pc (b := 29) rfl ?_
  refine ww_ldcw (v := 252645135) hX k_J6_267 dJ6_bitCount_0f7a4_29 ?_
  refine ww_iand hX dJ6_bitCount_0f7a4_32 ?_
  refine ww_bdi (fun v3 => ?_)
  refine ww_istore_n (lv' := [(0, .int v3)]) hX hL dJ6_bitCount_0f7a4_33 rfl (by decide) rfl ?_
  refine ww_iload_n hX 0 rfl dJ6_bitCount_0f7a4_34 rfl ?_
  refine ww_iload_n hX 0 rfl dJ6_bitCount_0f7a4_35 rfl ?_
  refine ww_bipush (v := 8) hX rfl dJ6_bitCount_0f7a4_36 ?_
  refine ww_iushr hX dJ6_bitCount_0f7a4_38 ?_
  refine ww_iadd hX dJ6_bitCount_0f7a4_39 ?_
  refine ww_pc (b := 40) rfl ?_
  refine ww_bdi (fun v4 => ?_)
  refine ww_istore_n (lv' := [(0, .int v4)]) hX hL dJ6_bitCount_0f7a4_40 rfl (by decide) rfl ?_
  refine ww_iload_n hX 0 rfl dJ6_bitCount_0f7a4_41 rfl ?_
  refine ww_iload_n hX 0 rfl dJ6_bitCount_0f7a4_42 rfl ?_
  refine ww_bipush (v := 16) hX rfl dJ6_bitCount_0f7a4_43 ?_
  refine ww_iushr hX dJ6_bitCount_0f7a4_45 ?_
  refine ww_iadd hX dJ6_bitCount_0f7a4_46 ?_
  refine ww_bdi (fun v5 => ?_)
  refine ww_istore_n (lv' := [(0, .int v5)]) hX hL dJ6_bitCount_0f7a4_47 rfl (by decide) rfl ?_
  refine ww_iload_n hX 0 rfl dJ6_bitCount_0f7a4_48 rfl ?_
  refine ww_pc (b := 49) rfl ?_
  refine ww_bipush (v := 63) hX rfl dJ6_bitCount_0f7a4_49 ?_
  refine ww_iand hX dJ6_bitCount_0f7a4_51 ?_
  exact ww_iret B dJ6_bitCount_0f7a4_52
theorem c_J6_bitCount_0f7a4 (G : GX) (l : Launch) (fu : Nat) (p0 : Int32) (st : St) : MI G NN l yJ6_bitCount_0f7a4 cJ6_bitCount_0f7a4 1 (some .int) 1 [.int p0] st (f_J6_bitCount_0f7a4 fu p0 st) := mkI (by decide) (Nat.le_of_ble_eq_true rfl) (fun X res hl hG B => by subst hl; subst hG; exact t_J6_bitCount_0f7a4 B fu p0 st)
/-! StageHouse$Tape.fail(II)V -/
def b_X9_fail_17 (fu : Nat) (x0 : Nat)  (st : St) : Option (St) :=
  ck ((kd x0).1 = 9) <|
  bd (sI st x0 2 0) fun s1 =>
  ck ((kd x0).1 = 9) <|
  ck ((kd x0).1 = 9) <|
  bd (sI s1 x0 3 (gI s1 x0 1)) fun s2 =>
  ck ((kd x0).1 = 9) <|
  ck ((kd x0).1 = 9) <|
  bd (sI s2 x0 4 (gI s2 x0 1)) fun s3 =>
  some s3
set_option maxHeartbeats 4000000 in
set_option maxRecDepth 100000 in
theorem t_X9_fail_17 {X : CX} {res : St} (B : BV X cX9_fail RX9 3 1 NN none res) (fu : Nat) (x0 : Nat)  (st : St) : WW X res NN 17 [(0, .ref (x_b X + x0))] [] st (b_X9_fail_17 fu x0 st) := by
  have hX := B.1
  have hL := B.2.1
  unfold b_X9_fail_17
  refine ww_aload_n hX 0 rfl dX9_fail_17 rfl ?_
  refine ww_iconst (v := 0) hX rfl dX9_fail_18 ?_
  refine ww_putI hX f_X9_37 rfl dX9_fail_19 ?_
  refine ww_bds (fun s1 => ?_)
  refine ww_aload_n hX 0 rfl dX9_fail_22 rfl ?_
  refine ww_aload_n hX 0 rfl dX9_fail_23 rfl ?_
  refine ww_getI hX f_X9_15 (Or.inl rfl) dX9_fail_24 ?_
  refine ww_putI hX f_X9_40 rfl dX9_fail_27 ?_
  refine ww_bds (fun s2 => ?_)
  refine ww_pc (b := 30) rfl ?_
  refine ww_aload_n hX 0 rfl dX9_fail_30 rfl ?_
  refine ww_aload_n hX 0 rfl dX9_fail_31 rfl ?_
  refine ww_getI hX f_X9_15 (Or.inl rfl) dX9_fail_32 ?_
  refine ww_putI hX f_X9_31 rfl dX9_fail_35 ?_
  refine ww_bds (fun s3 => ?_)
  exact ww_vret B dX9_fail_38
def f_X9_fail (fu : Nat) (th : Nat) (p1 : Int32) (p2 : Int32) (st : St) : Option (St) :=
  ck ((kd th).1 = 9) <|
  if (gI st th 8) = 0 then (
  ck ((kd th).1 = 9) <|
  bd (sI st th 8 p1) fun s4 =>
  ck ((kd th).1 = 9) <|
  bd (sI s4 th 9 p2) fun s5 =>
  b_X9_fail_17 fu th  s5)
  else (
  b_X9_fail_17 fu th  st)
set_option maxHeartbeats 4000000 in
set_option maxRecDepth 100000 in
theorem t_X9_fail {X : CX} {res : St} (B : BV X cX9_fail RX9 3 1 NN none res) (fu : Nat) (th : Nat) (p1 : Int32) (p2 : Int32) (st : St) : WW X res NN 0 [(0, .ref (x_b X + th)), (1, .int p1), (2, .int p2)] [] st (f_X9_fail fu th p1 p2 st) := by
  have hX := B.1
  have hL := B.2.1
  unfold f_X9_fail
  refine ww_aload_n hX 0 rfl dX9_fail_0 rfl ?_
  refine ww_getI hX f_X9_25 (Or.inl rfl) dX9_fail_1 ?_
  refine ww_if_ne (tgt := 17) hX dX9_fail_4 (by decide) ?_ ?_
  · exact ww_sub [0] rfl (t_X9_fail_17 B fu th  st)
  · refine ww_aload_n hX 0 rfl dX9_fail_7 rfl ?_
    refine ww_iload_n hX 1 rfl dX9_fail_8 rfl ?_
    refine ww_putI hX f_X9_25 rfl dX9_fail_9 ?_
    refine ww_bds (fun s4 => ?_)
    refine ww_aload_n hX 0 rfl dX9_fail_12 rfl ?_
    refine ww_iload_n hX 2 rfl dX9_fail_13 rfl ?_
    refine ww_putI hX f_X9_28 rfl dX9_fail_14 ?_
    refine ww_bds (fun s5 => ?_)
    exact ww_sub [0] rfl (t_X9_fail_17 B fu th  s5)
theorem c_X9_fail (G : GX) (l : Launch) (fu : Nat) (th : Nat) (p1 : Int32) (p2 : Int32) (st : St) : MV G NN l yX9_fail cX9_fail 3 none 1 [.ref (G.2.2.1 + th), .int p1, .int p2] st (f_X9_fail fu th p1 p2 st) := mkV (by decide) (Nat.le_of_ble_eq_true rfl) (fun X res hl hG B => by subst hl; subst hG; exact t_X9_fail B fu th p1 p2 st)
/-! StageHouse$Tape.isSign(C)Z -/
def b_X9_isSign_21 (fu : Nat)  (y0 : Int32) (st : St) : Option (Int32 × St) :=
  ck (isb y0) (some (y0, st))
set_option maxHeartbeats 4000000 in
set_option maxRecDepth 100000 in
theorem t_X9_isSign_21 {X : CX} {res : Int32 × St} (B : BI X cX9_isSign RX9 2 1 NN (some .boolean) res) (fu : Nat)  (y0 : Int32) (st : St) : WW X res NN 21 [] [.int y0] st (b_X9_isSign_21 fu y0 st) := by
  have hX := B.1
  have hL := B.2.1
  unfold b_X9_isSign_21
  exact ww_zret B dX9_isSign_21
def b_X9_isSign_20 (fu : Nat)   (st : St) : Option (Int32 × St) :=
  b_X9_isSign_21 fu  0 st
set_option maxHeartbeats 4000000 in
set_option maxRecDepth 100000 in
theorem t_X9_isSign_20 {X : CX} {res : Int32 × St} (B : BI X cX9_isSign RX9 2 1 NN (some .boolean) res) (fu : Nat)   (st : St) : WW X res NN 20 [] [] st (b_X9_isSign_20 fu  st) := by
  have hX := B.1
  have hL := B.2.1
  unfold b_X9_isSign_20
  refine ww_iconst (v := 0) hX rfl dX9_isSign_20 ?_
  exact t_X9_isSign_21 B fu  0 st
def f_X9_isSign (fu : Nat) (th : Nat) (p1 : Int32) (st : St) : Option (Int32 × St) :=
  ck ((kd th).1 = 9) <|
  if (gI st th 2) = 3 then (
  ck ((kd th).1 = 9) <|
  if (gI st th 5) = p1 then (
  b_X9_isSign_21 fu  1 st)
  else (
  b_X9_isSign_20 fu   st))
  else (
  b_X9_isSign_20 fu   st)
set_option maxHeartbeats 4000000 in
set_option maxRecDepth 100000 in
theorem t_X9_isSign {X : CX} {res : Int32 × St} (B : BI X cX9_isSign RX9 2 1 NN (some .boolean) res) (fu : Nat) (th : Nat) (p1 : Int32) (st : St) : WW X res NN 0 [(0, .ref (x_b X + th)), (1, .int p1)] [] st (f_X9_isSign fu th p1 st) := by
  have hX := B.1
  have hL := B.2.1
  unfold f_X9_isSign
  refine ww_aload_n hX 0 rfl dX9_isSign_0 rfl ?_
  refine ww_getI hX f_X9_37 (Or.inl rfl) dX9_isSign_1 ?_
  refine ww_iconst (v := 3) hX rfl dX9_isSign_4 ?_
  refine ww_icmp_ne (tgt := 20) hX dX9_isSign_5 (by decide) ?_ ?_
  · exact ww_sub [] rfl (t_X9_isSign_20 B fu   st)
  · refine ww_aload_n hX 0 rfl dX9_isSign_8 rfl ?_
    refine ww_getI hX f_X9_65 (Or.inl rfl) dX9_isSign_9 ?_
    refine ww_iload_n hX 1 rfl dX9_isSign_12 rfl ?_
    refine ww_icmp_ne (tgt := 20) hX dX9_isSign_13 (by decide) ?_ ?_
    · exact ww_sub [] rfl (t_X9_isSign_20 B fu   st)
    · refine ww_iconst (v := 1) hX rfl dX9_isSign_16 ?_
      refine ww_goto (tgt := 21) hX dX9_isSign_17 (by decide) ?_
      exact ww_sub [] rfl (t_X9_isSign_21 B fu  1 st)
theorem c_X9_isSign (G : GX) (l : Launch) (fu : Nat) (th : Nat) (p1 : Int32) (st : St) : MI G NN l yX9_isSign cX9_isSign 2 (some .boolean) 1 [.ref (G.2.2.1 + th), .int p1] st (f_X9_isSign fu th p1 st) := mkI (by decide) (Nat.le_of_ble_eq_true rfl) (fun X res hl hG B => by subst hl; subst hG; exact t_X9_isSign B fu th p1 st)
/-! java/lang/String.isLatin1()Z -/
def b_J0_isLatin1_aae02_18 (fu : Nat)  (y0 : Int32) (st : St) : Option (Int32 × St) :=
  ck (isb y0) (some (y0, st))
set_option maxHeartbeats 4000000 in
set_option maxRecDepth 100000 in
theorem t_J0_isLatin1_aae02_18 {X : CX} {res : Int32 × St} (B : BI X cJ0_isLatin1_aae02 RJ0 1 1 NN (some .boolean) res) (fu : Nat)  (y0 : Int32) (st : St) : WW X res NN 18 [] [.int y0] st (b_J0_isLatin1_aae02_18 fu y0 st) := by
  have hX := B.1
  have hL := B.2.1
  unfold b_J0_isLatin1_aae02_18
  exact ww_zret B dJ0_isLatin1_aae02_18
def b_J0_isLatin1_aae02_17 (fu : Nat)   (st : St) : Option (Int32 × St) :=
  b_J0_isLatin1_aae02_18 fu  0 st
set_option maxHeartbeats 4000000 in
set_option maxRecDepth 100000 in
theorem t_J0_isLatin1_aae02_17 {X : CX} {res : Int32 × St} (B : BI X cJ0_isLatin1_aae02 RJ0 1 1 NN (some .boolean) res) (fu : Nat)   (st : St) : WW X res NN 17 [] [] st (b_J0_isLatin1_aae02_17 fu  st) := by
  have hX := B.1
  have hL := B.2.1
  unfold b_J0_isLatin1_aae02_17
  refine ww_iconst (v := 0) hX rfl dJ0_isLatin1_aae02_17 ?_
  exact t_J0_isLatin1_aae02_18 B fu  0 st
def f_J0_isLatin1_aae02 (fu : Nat) (th : Nat) (st : St) : Option (Int32 × St) :=
  if (1 : Int32) = 0 then (
  b_J0_isLatin1_aae02_17 fu   st)
  else (
  ck (th < sB.length) <|
  if (0 : Int32) = 0 then (
  b_J0_isLatin1_aae02_18 fu  1 st)
  else (
  b_J0_isLatin1_aae02_17 fu   st))
set_option maxHeartbeats 4000000 in
set_option maxRecDepth 100000 in
theorem t_J0_isLatin1_aae02 {X : CX} {res : Int32 × St} (B : BI X cJ0_isLatin1_aae02 RJ0 1 1 NN (some .boolean) res) (fu : Nat) (th : Nat) (st : St) : WW X res NN 0 [(0, .ref ((x_K X).1 th))] [] st (f_J0_isLatin1_aae02 fu th st) := by
  have hX := B.1
  have hL := B.2.1
  unfold f_J0_isLatin1_aae02
  refine ww_gcs hX (tb_t (List.mem_of_getElem? (i := 608) (by decide +kernel)) rfl) dJ0_isLatin1_aae02_0 ?_
  refine ww_if_eq (tgt := 17) hX dJ0_isLatin1_aae02_3 (by decide) ?_ ?_
  · exact ww_sub [] rfl (t_J0_isLatin1_aae02_17 B fu   st)
  · refine ww_aload_n hX 0 rfl dJ0_isLatin1_aae02_6 rfl ?_
    refine ww_gsc hX (tb_t (List.mem_of_getElem? (i := 2166) (by decide +kernel)) rfl) dJ0_isLatin1_aae02_7 ?_
    refine ww_if_ne (tgt := 17) hX dJ0_isLatin1_aae02_10 (by decide) ?_ ?_
    · exact ww_sub [] rfl (t_J0_isLatin1_aae02_17 B fu   st)
    · refine ww_iconst (v := 1) hX rfl dJ0_isLatin1_aae02_13 ?_
      refine ww_goto (tgt := 18) hX dJ0_isLatin1_aae02_14 (by decide) ?_
      exact ww_sub [] rfl (t_J0_isLatin1_aae02_18 B fu  1 st)
theorem c_J0_isLatin1_aae02 (G : GX) (l : Launch) (fu : Nat) (th : Nat) (st : St) : MI G NN l yJ0_isLatin1_aae02 cJ0_isLatin1_aae02 1 (some .boolean) 1 [.ref ((G.2.2.2).1 th)] st (f_J0_isLatin1_aae02 fu th st) := mkI (by decide) (Nat.le_of_ble_eq_true rfl) (fun X res hl hG B => by subst hl; subst hG; exact t_J0_isLatin1_aae02 B fu th st)
/-! jdk/internal/util/Preconditions.checkIndex(IILjava/util/function/BiFunction;)I -/
def f_J3_checkIndex_8e157 (fu : Nat) (p0 : Int32) (p1 : Int32) (p2 : Nat) (st : St) : Option (Int32 × St) :=
  if p0 < 0 then (
  none)
  else (
  if p0 < p1 then (
  some (p0, st))
  else (
  none))
set_option maxHeartbeats 4000000 in
set_option maxRecDepth 100000 in
theorem t_J3_checkIndex_8e157 {X : CX} {res : Int32 × St} (B : BI X cJ3_checkIndex_8e157 RJ3 3 1 NN (some .int) res) (fu : Nat) (p0 : Int32) (p1 : Int32) (p2 : Nat) (st : St) : WW X res NN 0 [(0, .int p0), (1, .int p1), (2, xfm (x_K X))] [] st (f_J3_checkIndex_8e157 fu p0 p1 p2 st) := by
  have hX := B.1
  have hL := B.2.1
  unfold f_J3_checkIndex_8e157
  refine ww_iload_n hX 0 rfl dJ3_checkIndex_8e157_0 rfl ?_
  refine ww_if_lt (tgt := 9) hX dJ3_checkIndex_8e157_1 (by decide) ?_ ?_
  · exact ww_none
  · refine ww_iload_n hX 0 rfl dJ3_checkIndex_8e157_4 rfl ?_
    refine ww_iload_n hX 1 rfl dJ3_checkIndex_8e157_5 rfl ?_
    refine ww_icmp_lt (tgt := 16) hX dJ3_checkIndex_8e157_6 (by decide) ?_ ?_
    · refine ww_iload_n hX 0 rfl dJ3_checkIndex_8e157_16 rfl ?_
      exact ww_iret B dJ3_checkIndex_8e157_17
    · exact ww_none
theorem c_J3_checkIndex_8e157 (G : GX) (l : Launch) (fu : Nat) (p0 : Int32) (p1 : Int32) (p2 : Nat) (st : St) : MI G NN l yJ3_checkIndex_8e157 cJ3_checkIndex_8e157 3 (some .int) 1 [.int p0, .int p1, xfm (G.2.2.2)] st (f_J3_checkIndex_8e157 fu p0 p1 p2 st) := mkI (by decide) (fm_len _ _ _) (fun X res hl hG B => by subst hl; subst hG; exact t_J3_checkIndex_8e157 B fu p0 p1 p2 st)
/-! java/lang/String.checkIndex(II)V -/
def f_J0_checkIndex_df160 (fu : Nat) (p0 : Int32) (p1 : Int32) (st : St) : Option (St) :=
  ca (f_J3_checkIndex_8e157 fu p0 p1 0 st) fun r1 s2 =>
  some s2
set_option maxHeartbeats 4000000 in
set_option maxRecDepth 100000 in
theorem t_J0_checkIndex_df160 {X : CX} {res : St} (B : BV X cJ0_checkIndex_df160 RJ0 2 2 NN none res) (fu : Nat) (p0 : Int32) (p1 : Int32) (st : St) : WW X res NN 0 [(0, .int p0), (1, .int p1)] [] st (f_J0_checkIndex_df160 fu p0 p1 st) := by
  have hX := B.1
  have hL := B.2.1
  unfold f_J0_checkIndex_df160
  refine ww_iload_n hX 0 rfl dJ0_checkIndex_df160_0 rfl ?_
  refine ww_iload_n hX 1 rfl dJ0_checkIndex_df160_1 rfl ?_
  refine ww_gfm hX (tb_t (List.mem_of_getElem? (i := 649) (by decide +kernel)) rfl) dJ0_checkIndex_df160_2 ?_
  refine ww_callSI (As := [.int p0, .int p1, xfm (x_K X)]) (rest := []) hX (Rk.of B.2.2.1 B.2.2.2.1 (by decide) (by decide)) g_J0_1059 (c_J3_checkIndex_8e157 (x_G X) (x_l X) fu p0 p1 0 st) rfl rfl (Nat.le_of_ble_eq_true rfl) dJ0_checkIndex_df160_5 (fun r1 s2 => ?_)
  refine ww_pop hX rfl dJ0_checkIndex_df160_8 ?_
  exact ww_vret B dJ0_checkIndex_df160_9
theorem c_J0_checkIndex_df160 (G : GX) (l : Launch) (fu : Nat) (p0 : Int32) (p1 : Int32) (st : St) : MV G NN l yJ0_checkIndex_df160 cJ0_checkIndex_df160 2 none 2 [.int p0, .int p1] st (f_J0_checkIndex_df160 fu p0 p1 st) := mkV (by decide) (Nat.le_of_ble_eq_true rfl) (fun X res hl hG B => by subst hl; subst hG; exact t_J0_checkIndex_df160 B fu p0 p1 st)
/-! java/lang/StringLatin1.charAt([BI)C -/
def f_J1_charAt_3b067 (fu : Nat) (p0 : Nat) (p1 : Int32) (st : St) : Option (Int32 × St) :=
  ck (p0 < sB.length) <|
  cv (f_J0_checkIndex_df160 fu p1 (Int32.ofNat (sB.getD p0 []).length) st) fun s1 =>
  ck (p0 < sB.length ∧ inb p1 (sB.getD p0 []).length) <|
  ck ((((((sB.getD p0 []).getD (ix p1) 0) &&& 255).toUInt32 % 65536).toInt32).toUInt32.toUInt16.toUInt32.toInt32 = (((((sB.getD p0 []).getD (ix p1) 0) &&& 255).toUInt32 % 65536).toInt32)) (some (((((sB.getD p0 []).getD (ix p1) 0) &&& 255).toUInt32 % 65536).toInt32, s1))
set_option maxHeartbeats 4000000 in
set_option maxRecDepth 100000 in
theorem t_J1_charAt_3b067 {X : CX} {res : Int32 × St} (B : BI X cJ1_charAt_3b067 RJ1 2 3 NN (some .char) res) (fu : Nat) (p0 : Nat) (p1 : Int32) (st : St) : WW X res NN 0 [(0, .ref ((x_K X).2 p0)), (1, .int p1)] [] st (f_J1_charAt_3b067 fu p0 p1 st) := by
  have hX := B.1
  have hL := B.2.1
  unfold f_J1_charAt_3b067
  refine ww_iload_n hX 1 rfl dJ1_charAt_3b067_0 rfl ?_
  refine ww_aload_n hX 0 rfl dJ1_charAt_3b067_1 rfl ?_
  refine ww_alenT hX dJ1_charAt_3b067_2 ?_
  refine ww_callSV (As := [.int p1, .int (Int32.ofNat (sB.getD p0 []).length)]) (rest := []) hX (Rk.of B.2.2.1 B.2.2.2.1 (by decide) (by decide)) g_J1_9 (c_J0_checkIndex_df160 (x_G X) (x_l X) fu p1 (Int32.ofNat (sB.getD p0 []).length) st) rfl rfl (Nat.le_of_ble_eq_true rfl) dJ1_charAt_3b067_3 (fun s1 => ?_)
  refine ww_aload_n hX 0 rfl dJ1_charAt_3b067_6 rfl ?_
  refine ww_iload_n hX 1 rfl dJ1_charAt_3b067_7 rfl ?_
  refine ww_baldT hX dJ1_charAt_3b067_8 ?_
  refine ww_pc (b := 9) rfl ?_
  refine ww_sipush (v := 255) hX rfl dJ1_charAt_3b067_9 ?_
  refine ww_iand hX dJ1_charAt_3b067_12 ?_
  refine ww_i2c hX dJ1_charAt_3b067_13 ?_
  exact ww_cret B dJ1_charAt_3b067_14
theorem c_J1_charAt_3b067 (G : GX) (l : Launch) (fu : Nat) (p0 : Nat) (p1 : Int32) (st : St) : MI G NN l yJ1_charAt_3b067 cJ1_charAt_3b067 2 (some .char) 3 [.ref ((G.2.2.2).2 p0), .int p1] st (f_J1_charAt_3b067 fu p0 p1 st) := mkI (by decide) (Nat.le_of_ble_eq_true rfl) (fun X res hl hG B => by subst hl; subst hG; exact t_J1_charAt_3b067 B fu p0 p1 st)
/-! java/lang/String.charAt(I)C -/
def f_J0_charAt_5068e (fu : Nat) (th : Nat) (p1 : Int32) (st : St) : Option (Int32 × St) :=
  ck (th < sB.length) <|
  ca (f_J0_isLatin1_aae02 fu th st) fun r1 s2 =>
  if r1 = 0 then (
  none)
  else (
  ck (th < sB.length) <|
  ca (f_J1_charAt_3b067 fu th p1 s2) fun r3 s4 =>
  ck (r3.toUInt32.toUInt16.toUInt32.toInt32 = r3) (some (r3, s4)))
set_option maxHeartbeats 4000000 in
set_option maxRecDepth 100000 in
theorem t_J0_charAt_5068e {X : CX} {res : Int32 × St} (B : BI X cJ0_charAt_5068e RJ0 2 4 NN (some .char) res) (fu : Nat) (th : Nat) (p1 : Int32) (st : St) : WW X res NN 0 [(0, .ref ((x_K X).1 th)), (1, .int p1)] [] st (f_J0_charAt_5068e fu th p1 st) := by
  have hX := B.1
  have hL := B.2.1
  unfold f_J0_charAt_5068e
  refine ww_aload_n hX 0 rfl dJ0_charAt_5068e_0 rfl ?_
  refine ww_callsI (As := []) (rest := []) (w := th) hX (Rk.of B.2.2.1 B.2.2.2.1 (by decide) (by decide)) g_J0_492 (c_J0_isLatin1_aae02 (x_G X) (x_l X) fu th st) rfl rfl (Nat.le_of_ble_eq_true rfl) dJ0_charAt_5068e_1 (fun r1 s2 => ?_)
  refine ww_if_eq (tgt := 16) hX dJ0_charAt_5068e_4 (by decide) ?_ ?_
  · exact ww_none
  · refine ww_aload_n hX 0 rfl dJ0_charAt_5068e_7 rfl ?_
    refine ww_gsv hX (tb_t (List.mem_of_getElem? (i := 2167) (by decide +kernel)) rfl) dJ0_charAt_5068e_8 ?_
    refine ww_iload_n hX 1 rfl dJ0_charAt_5068e_11 rfl ?_
    refine ww_callSI (As := [.ref ((x_K X).2 th), .int p1]) (rest := []) hX (Rk.of B.2.2.1 B.2.2.2.1 (by decide) (by decide)) g_J0_495 (c_J1_charAt_3b067 (x_G X) (x_l X) fu th p1 s2) rfl rfl (Nat.le_of_ble_eq_true rfl) dJ0_charAt_5068e_12 (fun r3 s4 => ?_)
    exact ww_cret B dJ0_charAt_5068e_15
theorem c_J0_charAt_5068e (G : GX) (l : Launch) (fu : Nat) (th : Nat) (p1 : Int32) (st : St) : MI G NN l yJ0_charAt_5068e cJ0_charAt_5068e 2 (some .char) 4 [.ref ((G.2.2.2).1 th), .int p1] st (f_J0_charAt_5068e fu th p1 st) := mkI (by decide) (Nat.le_of_ble_eq_true rfl) (fun X res hl hG B => by subst hl; subst hG; exact t_J0_charAt_5068e B fu th p1 st)
/-! java/lang/String.coder()B -/
def b_J0_coder_7d493_14 (fu : Nat)  (y0 : Int32) (st : St) : Option (Int32 × St) :=
  ck (y0.toInt8.toInt32 = y0) (some (y0, st))
set_option maxHeartbeats 4000000 in
set_option maxRecDepth 100000 in
theorem t_J0_coder_7d493_14 {X : CX} {res : Int32 × St} (B : BI X cJ0_coder_7d493 RJ0 1 1 NN (some .byte) res) (fu : Nat)  (y0 : Int32) (st : St) : WW X res NN 14 [] [.int y0] st (b_J0_coder_7d493_14 fu y0 st) := by
  have hX := B.1
  have hL := B.2.1
  unfold b_J0_coder_7d493_14
  exact ww_bret B dJ0_coder_7d493_14
def f_J0_coder_7d493 (fu : Nat) (th : Nat) (st : St) : Option (Int32 × St) :=
  if (1 : Int32) = 0 then (
  b_J0_coder_7d493_14 fu  1 st)
  else (
  ck (th < sB.length) <|
  b_J0_coder_7d493_14 fu  0 st)
set_option maxHeartbeats 4000000 in
set_option maxRecDepth 100000 in
theorem t_J0_coder_7d493 {X : CX} {res : Int32 × St} (B : BI X cJ0_coder_7d493 RJ0 1 1 NN (some .byte) res) (fu : Nat) (th : Nat) (st : St) : WW X res NN 0 [(0, .ref ((x_K X).1 th))] [] st (f_J0_coder_7d493 fu th st) := by
  have hX := B.1
  have hL := B.2.1
  unfold f_J0_coder_7d493
  refine ww_gcs hX (tb_t (List.mem_of_getElem? (i := 608) (by decide +kernel)) rfl) dJ0_coder_7d493_0 ?_
  refine ww_if_eq (tgt := 13) hX dJ0_coder_7d493_3 (by decide) ?_ ?_
  · refine ww_iconst (v := 1) hX rfl dJ0_coder_7d493_13 ?_
    exact ww_sub [] rfl (t_J0_coder_7d493_14 B fu  1 st)
  · refine ww_aload_n hX 0 rfl dJ0_coder_7d493_6 rfl ?_
    refine ww_gsc hX (tb_t (List.mem_of_getElem? (i := 2166) (by decide +kernel)) rfl) dJ0_coder_7d493_7 ?_
    refine ww_goto (tgt := 14) hX dJ0_coder_7d493_10 (by decide) ?_
    exact ww_sub [] rfl (t_J0_coder_7d493_14 B fu  0 st)
theorem c_J0_coder_7d493 (G : GX) (l : Launch) (fu : Nat) (th : Nat) (st : St) : MI G NN l yJ0_coder_7d493 cJ0_coder_7d493 1 (some .byte) 1 [.ref ((G.2.2.2).1 th)] st (f_J0_coder_7d493 fu th st) := mkI (by decide) (Nat.le_of_ble_eq_true rfl) (fun X res hl hG B => by subst hl; subst hG; exact t_J0_coder_7d493 B fu th st)
/-! java/lang/String.length()I -/
def f_J0_length_8abf5 (fu : Nat) (th : Nat) (st : St) : Option (Int32 × St) :=
  ck (th < sB.length) <|
  ck (th < sB.length) <|
  ck (th < sB.length) <|
  ca (f_J0_coder_7d493 fu th st) fun r1 s2 =>
  some ((Int32.ofNat (sB.getD th []).length) >>> (r1 &&& 31), s2)
set_option maxHeartbeats 4000000 in
set_option maxRecDepth 100000 in
theorem t_J0_length_8abf5 {X : CX} {res : Int32 × St} (B : BI X cJ0_length_8abf5 RJ0 1 2 NN (some .int) res) (fu : Nat) (th : Nat) (st : St) : WW X res NN 0 [(0, .ref ((x_K X).1 th))] [] st (f_J0_length_8abf5 fu th st) := by
  have hX := B.1
  have hL := B.2.1
  unfold f_J0_length_8abf5
  refine ww_aload_n hX 0 rfl dJ0_length_8abf5_0 rfl ?_
  refine ww_gsv hX (tb_t (List.mem_of_getElem? (i := 2167) (by decide +kernel)) rfl) dJ0_length_8abf5_1 ?_
  refine ww_alenT hX dJ0_length_8abf5_4 ?_
  refine ww_aload_n hX 0 rfl dJ0_length_8abf5_5 rfl ?_
  refine ww_callsI (As := []) (rest := [.int (Int32.ofNat (sB.getD th []).length)]) (w := th) hX (Rk.of B.2.2.1 B.2.2.2.1 (by decide) (by decide)) g_J0_335 (c_J0_coder_7d493 (x_G X) (x_l X) fu th st) rfl rfl (Nat.le_of_ble_eq_true rfl) dJ0_length_8abf5_6 (fun r1 s2 => ?_)
  refine ww_ishr hX dJ0_length_8abf5_9 ?_
  exact ww_iret B dJ0_length_8abf5_10
theorem c_J0_length_8abf5 (G : GX) (l : Launch) (fu : Nat) (th : Nat) (st : St) : MI G NN l yJ0_length_8abf5 cJ0_length_8abf5 1 (some .int) 2 [.ref ((G.2.2.2).1 th)] st (f_J0_length_8abf5 fu th st) := mkI (by decide) (Nat.le_of_ble_eq_true rfl) (fun X res hl hG B => by subst hl; subst hG; exact t_J0_length_8abf5 B fu th st)
/-! StageHouse$Tape.isWord(Ljava/lang/String;)Z -/
def b_X9_isWord_24 (fu : Nat)   (st : St) : Option (Int32 × St) :=
  ck (isb 0) (some (0, st))
set_option maxHeartbeats 4000000 in
set_option maxRecDepth 100000 in
theorem t_X9_isWord_24 {X : CX} {res : Int32 × St} (B : BI X cX9_isWord RX9 3 5 NN (some .boolean) res) (fu : Nat)   (st : St) : WW X res NN 24 [] [] st (b_X9_isWord_24 fu  st) := by
  have hX := B.1
  have hL := B.2.1
  unfold b_X9_isWord_24
  refine ww_iconst (v := 0) hX rfl dX9_isWord_24 ?_
  exact ww_zret B dX9_isWord_25
def b_X9_isWord_76 (fu : Nat)   (st : St) : Option (Int32 × St) :=
  ck (isb 1) (some (1, st))
set_option maxHeartbeats 4000000 in
set_option maxRecDepth 100000 in
theorem t_X9_isWord_76 {X : CX} {res : Int32 × St} (B : BI X cX9_isWord RX9 3 5 NN (some .boolean) res) (fu : Nat)   (st : St) : WW X res NN 76 [] [] st (b_X9_isWord_76 fu  st) := by
  have hX := B.1
  have hL := B.2.1
  unfold b_X9_isWord_76
  refine ww_iconst (v := 1) hX rfl dX9_isWord_76 ?_
  exact ww_zret B dX9_isWord_77
def b_X9_isWord_28_b (fu : Nat) (k_28 : Nat → Nat → Int32 → St → Option (Int32 × St)) (x0 : Nat) (x1 : Nat) (x2 : Int32)  (st : St) : Option (Int32 × St) :=
  ck (x1 < sB.length) <|
  ca (f_J0_length_8abf5 fu x1 st) fun r3 s4 =>
  if r3 ≤ x2 then (
  b_X9_isWord_76 fu   s4)
  else (
  ck ((kd x0).1 = 9) <|
  ck ((kd x0).1 = 9) <|
  if (gI s4 x0 1) ≤ ((gI s4 x0 3) + x2) then (
  b_X9_isWord_76 fu   s4)
  else (
  ck (¬ gR s4 x0 0 = 0) <|
  ck ((kd x0).1 = 9) <|
  bd (gR s4 x0 0) fun o5 =>
  ck ((kd x0).1 = 9) <|
  ck ((kd o5).1 = 101 ∧ inb ((gI s4 x0 3) + x2) (kd o5).2) <|
  ck (x1 < sB.length) <|
  ca (f_J0_charAt_5068e fu x1 x2 s4) fun r6 s7 =>
  if (gI s4 o5 (ix ((gI s4 x0 3) + x2))) = r6 then (
  bd (x2 + 1) fun v8 =>
  k_28 x0 x1 v8  s7)
  else (
  ck (isb 0) (some (0, s7)))))
set_option maxHeartbeats 4000000 in
set_option maxRecDepth 100000 in
theorem t_X9_isWord_28_b {X : CX} {res : Int32 × St} (B : BI X cX9_isWord RX9 3 5 NN (some .boolean) res) (fu : Nat) (k_28 : Nat → Nat → Int32 → St → Option (Int32 × St)) (h_28 : ∀ (x0 : Nat) (x1 : Nat) (x2 : Int32)  (st : St), WW X res NN 28 [(0, .ref (x_b X + x0)), (1, .ref ((x_K X).1 x1)), (2, .int x2)] [] st (k_28 x0 x1 x2 st)) (x0 : Nat) (x1 : Nat) (x2 : Int32)  (st : St) : WW X res NN 28 [(0, .ref (x_b X + x0)), (1, .ref ((x_K X).1 x1)), (2, .int x2)] [] st (b_X9_isWord_28_b fu k_28 x0 x1 x2 st) := by
  have hX := B.1
  have hL := B.2.1
  unfold b_X9_isWord_28_b
  refine ww_iload_n hX 2 rfl dX9_isWord_28 rfl ?_
  refine ww_aload_n hX 1 rfl dX9_isWord_29 rfl ?_
  refine ww_callsI (As := []) (rest := [.int x2]) (w := x1) hX (Rk.of B.2.2.1 B.2.2.2.1 (by decide) (by decide)) g_X9_80 (c_J0_length_8abf5 (x_G X) (x_l X) fu x1 st) rfl rfl (Nat.le_of_ble_eq_true rfl) dX9_isWord_30 (fun r3 s4 => ?_)
  refine ww_icmp_ge (tgt := 76) hX dX9_isWord_33 (by decide) ?_ ?_
  · exact ww_sub [] rfl (t_X9_isWord_76 B fu   s4)
  · refine ww_aload_n hX 0 rfl dX9_isWord_36 rfl ?_
    refine ww_getI hX f_X9_40 (Or.inl rfl) dX9_isWord_37 ?_
    refine ww_iload_n hX 2 rfl dX9_isWord_40 rfl ?_
    refine ww_iadd hX dX9_isWord_41 ?_
    refine ww_aload_n hX 0 rfl dX9_isWord_42 rfl ?_
    refine ww_getI hX f_X9_15 (Or.inl rfl) dX9_isWord_43 ?_
    refine ww_icmp_ge (tgt := 76) hX dX9_isWord_46 (by decide) ?_ ?_
    · exact ww_sub [] rfl (t_X9_isWord_76 B fu   s4)
    · refine ww_aload_n hX 0 rfl dX9_isWord_49 rfl ?_
      refine ww_getR hX f_X9_11 (Or.inr ⟨_, rfl⟩) dX9_isWord_50 ?_
      refine ww_bdR (fun o5 => ?_)
      refine ww_aload_n hX 0 rfl dX9_isWord_53 rfl ?_
      refine ww_getI hX f_X9_40 (Or.inl rfl) dX9_isWord_54 ?_
      refine ww_iload_n hX 2 rfl dX9_isWord_57 rfl ?_
      refine ww_iadd hX dX9_isWord_58 ?_
      refine ww_baldc hX k_bald dX9_isWord_59 ?_
      refine ww_pc (b := 60) rfl ?_
      refine ww_aload_n hX 1 rfl dX9_isWord_60 rfl ?_
      refine ww_iload_n hX 2 rfl dX9_isWord_61 rfl ?_
      refine ww_callsI (As := [.int x2]) (rest := [.int (gI s4 o5 (ix ((gI s4 x0 3) + x2)))]) (w := x1) hX (Rk.of B.2.2.1 B.2.2.2.1 (by decide) (by decide)) g_X9_83 (c_J0_charAt_5068e (x_G X) (x_l X) fu x1 x2 s4) rfl rfl (Nat.le_of_ble_eq_true rfl) dX9_isWord_62 (fun r6 s7 => ?_)
      refine ww_icmp_eq (tgt := 70) hX dX9_isWord_65 (by decide) ?_ ?_
      · refine ww_iincb (lv' := fun v8 => [(2, .int v8), (0, .ref (x_b X + x0)), (1, .ref ((x_K X).1 x1))]) (c := 1) hX hL 2 rfl dX9_isWord_70 rfl (by decide) (fun _ => rfl) (fun v8 => ?_)
        refine ww_goto (tgt := 28) hX dX9_isWord_73 (by decide) ?_
        exact ww_sub [1, 2, 0] rfl (h_28 x0 x1 v8  s7)
      · refine ww_iconst (v := 0) hX rfl dX9_isWord_68 ?_
        exact ww_zret B dX9_isWord_69
def b_X9_isWord_28 (fu : Nat) : Nat → Nat → Nat → Int32 → St → Option (Int32 × St)
  | 0, _, _, _, _ => none
  | i + 1, x0, x1, x2, st => b_X9_isWord_28_b fu (b_X9_isWord_28 fu i) x0 x1 x2 st
theorem t_X9_isWord_28 {X : CX} {res : Int32 × St} (B : BI X cX9_isWord RX9 3 5 NN (some .boolean) res) (fu : Nat) : ∀ (i : Nat) (x0 : Nat) (x1 : Nat) (x2 : Int32)  (st : St), WW X res NN 28 [(0, .ref (x_b X + x0)), (1, .ref ((x_K X).1 x1)), (2, .int x2)] [] st (b_X9_isWord_28 fu i x0 x1 x2 st) := by
  intro i
  induction i with
  | zero => intro x0 x1 x2 st; exact ww_none
  | succ i ih => intro x0 x1 x2 st; exact t_X9_isWord_28_b B fu (b_X9_isWord_28 fu i) ih x0 x1 x2 st
def f_X9_isWord (fu : Nat) (th : Nat) (p1 : Nat) (st : St) : Option (Int32 × St) :=
  ck ((kd th).1 = 9) <|
  if (gI st th 2) = 1 then (
  ck ((kd th).1 = 9) <|
  ck ((kd th).1 = 9) <|
  ck (p1 < sB.length) <|
  ca (f_J0_length_8abf5 fu p1 st) fun r1 s2 =>
  if ((gI st th 4) - (gI st th 3)) = r1 then (
  b_X9_isWord_28 fu fu th p1 0  s2)
  else (
  b_X9_isWord_24 fu   s2))
  else (
  b_X9_isWord_24 fu   st)
set_option maxHeartbeats 4000000 in
set_option maxRecDepth 100000 in
theorem t_X9_isWord {X : CX} {res : Int32 × St} (B : BI X cX9_isWord RX9 3 5 NN (some .boolean) res) (fu : Nat) (th : Nat) (p1 : Nat) (st : St) : WW X res NN 0 [(0, .ref (x_b X + th)), (1, .ref ((x_K X).1 p1))] [] st (f_X9_isWord fu th p1 st) := by
  have hX := B.1
  have hL := B.2.1
  unfold f_X9_isWord
  refine ww_aload_n hX 0 rfl dX9_isWord_0 rfl ?_
  refine ww_getI hX f_X9_37 (Or.inl rfl) dX9_isWord_1 ?_
  refine ww_iconst (v := 1) hX rfl dX9_isWord_4 ?_
  refine ww_icmp_ne (tgt := 24) hX dX9_isWord_5 (by decide) ?_ ?_
  · exact ww_sub [] rfl (t_X9_isWord_24 B fu   st)
  · refine ww_aload_n hX 0 rfl dX9_isWord_8 rfl ?_
    refine ww_getI hX f_X9_31 (Or.inl rfl) dX9_isWord_9 ?_
    refine ww_aload_n hX 0 rfl dX9_isWord_12 rfl ?_
    refine ww_getI hX f_X9_40 (Or.inl rfl) dX9_isWord_13 ?_
    refine ww_isub hX dX9_isWord_16 ?_
    refine ww_aload_n hX 1 rfl dX9_isWord_17 rfl ?_
    refine ww_callsI (As := []) (rest := [.int ((gI st th 4) - (gI st th 3))]) (w := p1) hX (Rk.of B.2.2.1 B.2.2.2.1 (by decide) (by decide)) g_X9_80 (c_J0_length_8abf5 (x_G X) (x_l X) fu p1 st) rfl rfl (Nat.le_of_ble_eq_true rfl) dX9_isWord_18 (fun r1 s2 => ?_)
    refine ww_pc (b := 21) rfl ?_
    refine ww_icmp_eq (tgt := 26) hX dX9_isWord_21 (by decide) ?_ ?_
    · refine ww_iconst (v := 0) hX rfl dX9_isWord_26 ?_
      refine ww_istore_n (lv' := [(2, .int 0), (0, .ref (x_b X + th)), (1, .ref ((x_K X).1 p1))]) hX hL dX9_isWord_27 rfl (by decide) rfl ?_
      exact ww_sub [1, 2, 0] rfl (t_X9_isWord_28 B fu fu th p1 0  s2)
    · exact ww_sub [] rfl (t_X9_isWord_24 B fu   s2)
theorem c_X9_isWord (G : GX) (l : Launch) (fu : Nat) (th : Nat) (p1 : Nat) (st : St) : MI G NN l yX9_isWord cX9_isWord 3 (some .boolean) 5 [.ref (G.2.2.1 + th), .ref ((G.2.2.2).1 p1)] st (f_X9_isWord fu th p1 st) := mkI (by decide) (Nat.le_of_ble_eq_true rfl) (fun X res hl hG B => by subst hl; subst hG; exact t_X9_isWord B fu th p1 st)
/-! java/lang/StringLatin1.canEncode(I)Z -/
def b_J1_canEncode_9a6ad_16 (fu : Nat)  (y0 : Int32) (st : St) : Option (Int32 × St) :=
  ck (isb y0) (some (y0, st))
set_option maxHeartbeats 4000000 in
set_option maxRecDepth 100000 in
theorem t_J1_canEncode_9a6ad_16 {X : CX} {res : Int32 × St} (B : BI X cJ1_canEncode_9a6ad RJ1 1 1 NN (some .boolean) res) (fu : Nat)  (y0 : Int32) (st : St) : WW X res NN 16 [] [.int y0] st (b_J1_canEncode_9a6ad_16 fu y0 st) := by
  have hX := B.1
  have hL := B.2.1
  unfold b_J1_canEncode_9a6ad_16
  exact ww_zret B dJ1_canEncode_9a6ad_16
def b_J1_canEncode_9a6ad_15 (fu : Nat)   (st : St) : Option (Int32 × St) :=
  b_J1_canEncode_9a6ad_16 fu  0 st
set_option maxHeartbeats 4000000 in
set_option maxRecDepth 100000 in
theorem t_J1_canEncode_9a6ad_15 {X : CX} {res : Int32 × St} (B : BI X cJ1_canEncode_9a6ad RJ1 1 1 NN (some .boolean) res) (fu : Nat)   (st : St) : WW X res NN 15 [] [] st (b_J1_canEncode_9a6ad_15 fu  st) := by
  have hX := B.1
  have hL := B.2.1
  unfold b_J1_canEncode_9a6ad_15
  refine ww_iconst (v := 0) hX rfl dJ1_canEncode_9a6ad_15 ?_
  exact t_J1_canEncode_9a6ad_16 B fu  0 st
def f_J1_canEncode_9a6ad (fu : Nat) (p0 : Int32) (st : St) : Option (Int32 × St) :=
  if p0 < 0 then (
  b_J1_canEncode_9a6ad_15 fu   st)
  else (
  if 255 < p0 then (
  b_J1_canEncode_9a6ad_15 fu   st)
  else (
  b_J1_canEncode_9a6ad_16 fu  1 st))
set_option maxHeartbeats 4000000 in
set_option maxRecDepth 100000 in
theorem t_J1_canEncode_9a6ad {X : CX} {res : Int32 × St} (B : BI X cJ1_canEncode_9a6ad RJ1 1 1 NN (some .boolean) res) (fu : Nat) (p0 : Int32) (st : St) : WW X res NN 0 [(0, .int p0)] [] st (f_J1_canEncode_9a6ad fu p0 st) := by
  have hX := B.1
  have hL := B.2.1
  unfold f_J1_canEncode_9a6ad
  refine ww_iload_n hX 0 rfl dJ1_canEncode_9a6ad_0 rfl ?_
  refine ww_if_lt (tgt := 15) hX dJ1_canEncode_9a6ad_1 (by decide) ?_ ?_
  · exact ww_sub [] rfl (t_J1_canEncode_9a6ad_15 B fu   st)
  · refine ww_iload_n hX 0 rfl dJ1_canEncode_9a6ad_4 rfl ?_
    refine ww_sipush (v := 255) hX rfl dJ1_canEncode_9a6ad_5 ?_
    refine ww_icmp_gt (tgt := 15) hX dJ1_canEncode_9a6ad_8 (by decide) ?_ ?_
    · exact ww_sub [] rfl (t_J1_canEncode_9a6ad_15 B fu   st)
    · refine ww_iconst (v := 1) hX rfl dJ1_canEncode_9a6ad_11 ?_
      refine ww_goto (tgt := 16) hX dJ1_canEncode_9a6ad_12 (by decide) ?_
      exact ww_sub [] rfl (t_J1_canEncode_9a6ad_16 B fu  1 st)
theorem c_J1_canEncode_9a6ad (G : GX) (l : Launch) (fu : Nat) (p0 : Int32) (st : St) : MI G NN l yJ1_canEncode_9a6ad cJ1_canEncode_9a6ad 1 (some .boolean) 1 [.int p0] st (f_J1_canEncode_9a6ad fu p0 st) := mkI (by decide) (Nat.le_of_ble_eq_true rfl) (fun X res hl hG B => by subst hl; subst hG; exact t_J1_canEncode_9a6ad B fu p0 st)
/-! java/lang/StringLatin1.indexOfChar([BIII)I -/
def b_J1_indexOfChar_4cfef_7_b (fu : Nat) (k_7 : Nat → Int32 → Int32 → Int32 → St → Option (Int32 × St)) (x0 : Nat) (x3 : Int32) (x4 : Int32) (x5 : Int32)  (st : St) : Option (Int32 × St) :=
  if x3 ≤ x5 then (
  some ((-1), st))
  else (
  ck (x0 < sB.length ∧ inb x5 (sB.getD x0 []).length) <|
  if ((sB.getD x0 []).getD (ix x5) 0) = x4 then (
  some (x5, st))
  else (
  bd (x5 + 1) fun v1 =>
  k_7 x0 x3 x4 v1  st))
set_option maxHeartbeats 4000000 in
set_option maxRecDepth 100000 in
theorem t_J1_indexOfChar_4cfef_7_b {X : CX} {res : Int32 × St} (B : BI X cJ1_indexOfChar_4cfef RJ1 6 1 NN (some .int) res) (fu : Nat) (k_7 : Nat → Int32 → Int32 → Int32 → St → Option (Int32 × St)) (h_7 : ∀ (x0 : Nat) (x3 : Int32) (x4 : Int32) (x5 : Int32)  (st : St), WW X res NN 7 [(0, .ref ((x_K X).2 x0)), (3, .int x3), (4, .int x4), (5, .int x5)] [] st (k_7 x0 x3 x4 x5 st)) (x0 : Nat) (x3 : Int32) (x4 : Int32) (x5 : Int32)  (st : St) : WW X res NN 7 [(0, .ref ((x_K X).2 x0)), (3, .int x3), (4, .int x4), (5, .int x5)] [] st (b_J1_indexOfChar_4cfef_7_b fu k_7 x0 x3 x4 x5 st) := by
  have hX := B.1
  have hL := B.2.1
  unfold b_J1_indexOfChar_4cfef_7_b
  refine ww_iload hX 3 rfl dJ1_indexOfChar_4cfef_7 ?_
  refine ww_iload_n hX 1 rfl dJ1_indexOfChar_4cfef_9 rfl ?_
  refine ww_icmp_ge (tgt := 31) hX dJ1_indexOfChar_4cfef_10 (by decide) ?_ ?_
  · refine ww_iconst (v := (-1)) hX rfl dJ1_indexOfChar_4cfef_31 ?_
    exact ww_iret B dJ1_indexOfChar_4cfef_32
  · refine ww_aload_n hX 0 rfl dJ1_indexOfChar_4cfef_13 rfl ?_
    refine ww_iload hX 3 rfl dJ1_indexOfChar_4cfef_14 ?_
    refine ww_baldT hX dJ1_indexOfChar_4cfef_16 ?_
    refine ww_iload hX 2 rfl dJ1_indexOfChar_4cfef_17 ?_
    refine ww_icmp_ne (tgt := 25) hX dJ1_indexOfChar_4cfef_19 (by decide) ?_ ?_
    · refine ww_iincb (lv' := fun v1 => [(5, .int v1), (0, .ref ((x_K X).2 x0)), (3, .int x3), (4, .int x4)]) (c := 1) hX hL 3 rfl dJ1_indexOfChar_4cfef_25 rfl (by decide) (fun _ => rfl) (fun v1 => ?_)
      refine ww_goto (tgt := 7) hX dJ1_indexOfChar_4cfef_28 (by decide) ?_
      exact ww_sub [1, 2, 3, 0] rfl (h_7 x0 x3 x4 v1  st)
    · refine ww_iload hX 3 rfl dJ1_indexOfChar_4cfef_22 ?_
      exact ww_iret B dJ1_indexOfChar_4cfef_24
def b_J1_indexOfChar_4cfef_7 (fu : Nat) : Nat → Nat → Int32 → Int32 → Int32 → St → Option (Int32 × St)
  | 0, _, _, _, _, _ => none
  | i + 1, x0, x3, x4, x5, st => b_J1_indexOfChar_4cfef_7_b fu (b_J1_indexOfChar_4cfef_7 fu i) x0 x3 x4 x5 st
theorem t_J1_indexOfChar_4cfef_7 {X : CX} {res : Int32 × St} (B : BI X cJ1_indexOfChar_4cfef RJ1 6 1 NN (some .int) res) (fu : Nat) : ∀ (i : Nat) (x0 : Nat) (x3 : Int32) (x4 : Int32) (x5 : Int32)  (st : St), WW X res NN 7 [(0, .ref ((x_K X).2 x0)), (3, .int x3), (4, .int x4), (5, .int x5)] [] st (b_J1_indexOfChar_4cfef_7 fu i x0 x3 x4 x5 st) := by
  intro i
  induction i with
  | zero => intro x0 x3 x4 x5 st; exact ww_none
  | succ i ih => intro x0 x3 x4 x5 st; exact t_J1_indexOfChar_4cfef_7_b B fu (b_J1_indexOfChar_4cfef_7 fu i) ih x0 x3 x4 x5 st
def f_J1_indexOfChar_4cfef (fu : Nat) (p0 : Nat) (p1 : Int32) (p2 : Int32) (p3 : Int32) (st : St) : Option (Int32 × St) :=
  b_J1_indexOfChar_4cfef_7 fu fu p0 p3 p1.toInt8.toInt32 p2  st
set_option maxHeartbeats 4000000 in
set_option maxRecDepth 100000 in
theorem t_J1_indexOfChar_4cfef {X : CX} {res : Int32 × St} (B : BI X cJ1_indexOfChar_4cfef RJ1 6 1 NN (some .int) res) (fu : Nat) (p0 : Nat) (p1 : Int32) (p2 : Int32) (p3 : Int32) (st : St) : WW X res NN 0 [(0, .ref ((x_K X).2 p0)), (1, .int p1), (2, .int p2), (3, .int p3)] [] st (f_J1_indexOfChar_4cfef fu p0 p1 p2 p3 st) := by
  have hX := B.1
  have hL := B.2.1
  unfold f_J1_indexOfChar_4cfef
  refine ww_iload_n hX 1 rfl dJ1_indexOfChar_4cfef_0 rfl ?_
  refine ww_i2b hX dJ1_indexOfChar_4cfef_1 ?_
  refine ww_istore (lv' := [(4, .int p1.toInt8.toInt32), (0, .ref ((x_K X).2 p0)), (1, .int p1), (2, .int p2), (3, .int p3)]) hX hL dJ1_indexOfChar_4cfef_2 (by decide) rfl ?_
  refine ww_iload_n hX 3 rfl dJ1_indexOfChar_4cfef_4 rfl ?_
  refine ww_istore (lv' := [(5, .int p2), (4, .int p1.toInt8.toInt32), (0, .ref ((x_K X).2 p0)), (1, .int p1), (2, .int p2), (3, .int p3)]) hX hL dJ1_indexOfChar_4cfef_5 (by decide) rfl ?_
  exact ww_sub [2, 5, 1, 0] rfl (t_J1_indexOfChar_4cfef_7 B fu fu p0 p3 p1.toInt8.toInt32 p2  st)
theorem c_J1_indexOfChar_4cfef (G : GX) (l : Launch) (fu : Nat) (p0 : Nat) (p1 : Int32) (p2 : Int32) (p3 : Int32) (st : St) : MI G NN l yJ1_indexOfChar_4cfef cJ1_indexOfChar_4cfef 6 (some .int) 1 [.ref ((G.2.2.2).2 p0), .int p1, .int p2, .int p3] st (f_J1_indexOfChar_4cfef fu p0 p1 p2 p3 st) := mkI (by decide) (Nat.le_of_ble_eq_true rfl) (fun X res hl hG B => by subst hl; subst hG; exact t_J1_indexOfChar_4cfef B fu p0 p1 p2 p3 st)
/-! java/lang/StringLatin1.indexOf([BIII)I -/
def f_J1_indexOf_4cfef (fu : Nat) (p0 : Nat) (p1 : Int32) (p2 : Int32) (p3 : Int32) (st : St) : Option (Int32 × St) :=
  ca (f_J1_canEncode_9a6ad fu p1 st) fun r1 s2 =>
  if r1 = 0 then (
  some ((-1), s2))
  else (
  ca (f_J9_max_7cf53 fu p2 0 s2) fun r3 s4 =>
  ck (p0 < sB.length) <|
  ca (f_J9_min_7cf53 fu p3 (Int32.ofNat (sB.getD p0 []).length) s4) fun r5 s6 =>
  if r3 < r5 then (
  ca (f_J1_indexOfChar_4cfef fu p0 p1 r3 r5 s6) fun r7 s8 =>
  some (r7, s8))
  else (
  some ((-1), s6)))
set_option maxHeartbeats 4000000 in
set_option maxRecDepth 100000 in
theorem t_J1_indexOf_4cfef {X : CX} {res : Int32 × St} (B : BI X cJ1_indexOf_4cfef RJ1 4 2 NN (some .int) res) (fu : Nat) (p0 : Nat) (p1 : Int32) (p2 : Int32) (p3 : Int32) (st : St) : WW X res NN 0 [(0, .ref ((x_K X).2 p0)), (1, .int p1), (2, .int p2), (3, .int p3)] [] st (f_J1_indexOf_4cfef fu p0 p1 p2 p3 st) := by
  have hX := B.1
  have hL := B.2.1
  unfold f_J1_indexOf_4cfef
  refine ww_iload_n hX 1 rfl dJ1_indexOf_4cfef_0 rfl ?_
  refine ww_callSI (As := [.int p1]) (rest := []) hX (Rk.of B.2.2.1 B.2.2.2.1 (by decide) (by decide)) g_J1_88 (c_J1_canEncode_9a6ad (x_G X) (x_l X) fu p1 st) rfl rfl (Nat.le_of_ble_eq_true rfl) dJ1_indexOf_4cfef_1 (fun r1 s2 => ?_)
  refine ww_if_ne (tgt := 9) hX dJ1_indexOf_4cfef_4 (by decide) ?_ ?_
  · refine ww_iload_n hX 2 rfl dJ1_indexOf_4cfef_9 rfl ?_
    refine ww_iconst (v := 0) hX rfl dJ1_indexOf_4cfef_10 ?_
    refine ww_callSI (As := [.int p2, .int 0]) (rest := []) hX (Rk.of B.2.2.1 B.2.2.2.1 (by decide) (by decide)) g_J1_92 (c_J9_max_7cf53 (x_G X) (x_l X) fu p2 0 s2) rfl rfl (Nat.le_of_ble_eq_true rfl) dJ1_indexOf_4cfef_11 (fun r3 s4 => ?_)
    refine ww_istore_n (lv' := [(2, .int r3), (0, .ref ((x_K X).2 p0)), (1, .int p1), (3, .int p3)]) hX hL dJ1_indexOf_4cfef_14 rfl (by decide) rfl ?_
    refine ww_iload_n hX 3 rfl dJ1_indexOf_4cfef_15 rfl ?_
    refine ww_aload_n hX 1 rfl dJ1_indexOf_4cfef_16 rfl ?_
    refine ww_alenT hX dJ1_indexOf_4cfef_17 ?_
    refine ww_pc (b := 18) rfl ?_
    refine ww_callSI (As := [.int p3, .int (Int32.ofNat (sB.getD p0 []).length)]) (rest := []) hX (Rk.of B.2.2.1 B.2.2.2.1 (by decide) (by decide)) g_J1_38 (c_J9_min_7cf53 (x_G X) (x_l X) fu p3 (Int32.ofNat (sB.getD p0 []).length) s4) rfl rfl (Nat.le_of_ble_eq_true rfl) dJ1_indexOf_4cfef_18 (fun r5 s6 => ?_)
    refine ww_istore_n (lv' := [(3, .int r5), (2, .int r3), (0, .ref ((x_K X).2 p0)), (1, .int p1)]) hX hL dJ1_indexOf_4cfef_21 rfl (by decide) rfl ?_
    refine ww_iload_n hX 1 rfl dJ1_indexOf_4cfef_22 rfl ?_
    refine ww_iload_n hX 0 rfl dJ1_indexOf_4cfef_23 rfl ?_
    refine ww_icmp_lt (tgt := 29) hX dJ1_indexOf_4cfef_24 (by decide) ?_ ?_
    · refine ww_aload_n hX 2 rfl dJ1_indexOf_4cfef_29 rfl ?_
      refine ww_iload_n hX 3 rfl dJ1_indexOf_4cfef_30 rfl ?_
      refine ww_iload_n hX 1 rfl dJ1_indexOf_4cfef_31 rfl ?_
      refine ww_iload_n hX 0 rfl dJ1_indexOf_4cfef_32 rfl ?_
      refine ww_callSI (As := [.ref ((x_K X).2 p0), .int p1, .int r3, .int r5]) (rest := []) hX (Rk.of B.2.2.1 B.2.2.2.1 (by decide) (by decide)) g_J1_95 (c_J1_indexOfChar_4cfef (x_G X) (x_l X) fu p0 p1 r3 r5 s6) rfl rfl (Nat.le_of_ble_eq_true rfl) dJ1_indexOf_4cfef_33 (fun r7 s8 => ?_)
      exact ww_iret B dJ1_indexOf_4cfef_36
    · refine ww_iconst (v := (-1)) hX rfl dJ1_indexOf_4cfef_27 ?_
      exact ww_iret B dJ1_indexOf_4cfef_28
  · refine ww_iconst (v := (-1)) hX rfl dJ1_indexOf_4cfef_7 ?_
    exact ww_iret B dJ1_indexOf_4cfef_8
theorem c_J1_indexOf_4cfef (G : GX) (l : Launch) (fu : Nat) (p0 : Nat) (p1 : Int32) (p2 : Int32) (p3 : Int32) (st : St) : MI G NN l yJ1_indexOf_4cfef cJ1_indexOf_4cfef 4 (some .int) 2 [.ref ((G.2.2.2).2 p0), .int p1, .int p2, .int p3] st (f_J1_indexOf_4cfef fu p0 p1 p2 p3 st) := mkI (by decide) (Nat.le_of_ble_eq_true rfl) (fun X res hl hG B => by subst hl; subst hG; exact t_J1_indexOf_4cfef B fu p0 p1 p2 p3 st)
/-! java/lang/String.indexOf(II)I -/
def b_J0_indexOf_7cf53_36 (fu : Nat)  (y0 : Int32) (st : St) : Option (Int32 × St) :=
  some (y0, st)
set_option maxHeartbeats 4000000 in
set_option maxRecDepth 100000 in
theorem t_J0_indexOf_7cf53_36 {X : CX} {res : Int32 × St} (B : BI X cJ0_indexOf_7cf53 RJ0 3 3 NN (some .int) res) (fu : Nat)  (y0 : Int32) (st : St) : WW X res NN 36 [] [.int y0] st (b_J0_indexOf_7cf53_36 fu y0 st) := by
  have hX := B.1
  have hL := B.2.1
  unfold b_J0_indexOf_7cf53_36
  exact ww_iret B dJ0_indexOf_7cf53_36
def f_J0_indexOf_7cf53 (fu : Nat) (th : Nat) (p1 : Int32) (p2 : Int32) (st : St) : Option (Int32 × St) :=
  ck (th < sB.length) <|
  ca (f_J0_isLatin1_aae02 fu th st) fun r1 s2 =>
  if r1 = 0 then (
  none)
  else (
  ck (th < sB.length) <|
  ck (th < sB.length) <|
  ca (f_J0_length_8abf5 fu th s2) fun r5 s6 =>
  ca (f_J1_indexOf_4cfef fu th p1 p2 r5 s6) fun r7 s8 =>
  b_J0_indexOf_7cf53_36 fu  r7 s8)
set_option maxHeartbeats 4000000 in
set_option maxRecDepth 100000 in
theorem t_J0_indexOf_7cf53 {X : CX} {res : Int32 × St} (B : BI X cJ0_indexOf_7cf53 RJ0 3 3 NN (some .int) res) (fu : Nat) (th : Nat) (p1 : Int32) (p2 : Int32) (st : St) : WW X res NN 0 [(0, .ref ((x_K X).1 th)), (1, .int p1), (2, .int p2)] [] st (f_J0_indexOf_7cf53 fu th p1 p2 st) := by
  have hX := B.1
  have hL := B.2.1
  unfold f_J0_indexOf_7cf53
  refine ww_aload_n hX 0 rfl dJ0_indexOf_7cf53_0 rfl ?_
  refine ww_callsI (As := []) (rest := []) (w := th) hX (Rk.of B.2.2.1 B.2.2.2.1 (by decide) (by decide)) g_J0_492 (c_J0_isLatin1_aae02 (x_G X) (x_l X) fu th st) rfl rfl (Nat.le_of_ble_eq_true rfl) dJ0_indexOf_7cf53_1 (fun r1 s2 => ?_)
  refine ww_if_eq (tgt := 23) hX dJ0_indexOf_7cf53_4 (by decide) ?_ ?_
  · exact ww_none
  · refine ww_aload_n hX 0 rfl dJ0_indexOf_7cf53_7 rfl ?_
    refine ww_gsv hX (tb_t (List.mem_of_getElem? (i := 2167) (by decide +kernel)) rfl) dJ0_indexOf_7cf53_8 ?_
    refine ww_iload_n hX 1 rfl dJ0_indexOf_7cf53_11 rfl ?_
    refine ww_iload_n hX 2 rfl dJ0_indexOf_7cf53_12 rfl ?_
    refine ww_aload_n hX 0 rfl dJ0_indexOf_7cf53_13 rfl ?_
    refine ww_callsI (As := []) (rest := [.int p2, .int p1, .ref ((x_K X).2 th)]) (w := th) hX (Rk.of B.2.2.1 B.2.2.2.1 (by decide) (by decide)) g_J0_505 (c_J0_length_8abf5 (x_G X) (x_l X) fu th s2) rfl rfl (Nat.le_of_ble_eq_true rfl) dJ0_indexOf_7cf53_14 (fun r5 s6 => ?_)
    refine ww_callSI (As := [.ref ((x_K X).2 th), .int p1, .int p2, .int r5]) (rest := []) hX (Rk.of B.2.2.1 B.2.2.2.1 (by decide) (by decide)) g_J0_637 (c_J1_indexOf_4cfef (x_G X) (x_l X) fu th p1 p2 r5 s6) rfl rfl (Nat.le_of_ble_eq_true rfl) dJ0_indexOf_7cf53_17 (fun r7 s8 => ?_)
    refine ww_pc (b := 20) rfl ?_
    refine ww_goto (tgt := 36) hX dJ0_indexOf_7cf53_20 (by decide) ?_
    exact ww_sub [] rfl (t_J0_indexOf_7cf53_36 B fu  r7 s8)
theorem c_J0_indexOf_7cf53 (G : GX) (l : Launch) (fu : Nat) (th : Nat) (p1 : Int32) (p2 : Int32) (st : St) : MI G NN l yJ0_indexOf_7cf53 cJ0_indexOf_7cf53 3 (some .int) 3 [.ref ((G.2.2.2).1 th), .int p1, .int p2] st (f_J0_indexOf_7cf53 fu th p1 p2 st) := mkI (by decide) (Nat.le_of_ble_eq_true rfl) (fun X res hl hG B => by subst hl; subst hG; exact t_J0_indexOf_7cf53 B fu th p1 p2 st)
/-! java/lang/String.indexOf(I)I -/
def f_J0_indexOf_0f7a4 (fu : Nat) (th : Nat) (p1 : Int32) (st : St) : Option (Int32 × St) :=
  ck (th < sB.length) <|
  ca (f_J0_indexOf_7cf53 fu th p1 0 st) fun r1 s2 =>
  some (r1, s2)
set_option maxHeartbeats 4000000 in
set_option maxRecDepth 100000 in
theorem t_J0_indexOf_0f7a4 {X : CX} {res : Int32 × St} (B : BI X cJ0_indexOf_0f7a4 RJ0 2 4 NN (some .int) res) (fu : Nat) (th : Nat) (p1 : Int32) (st : St) : WW X res NN 0 [(0, .ref ((x_K X).1 th)), (1, .int p1)] [] st (f_J0_indexOf_0f7a4 fu th p1 st) := by
  have hX := B.1
  have hL := B.2.1
  unfold f_J0_indexOf_0f7a4
  refine ww_aload_n hX 0 rfl dJ0_indexOf_0f7a4_0 rfl ?_
  refine ww_iload_n hX 1 rfl dJ0_indexOf_0f7a4_1 rfl ?_
  refine ww_iconst (v := 0) hX rfl dJ0_indexOf_0f7a4_2 ?_
  refine ww_callsI (As := [.int p1, .int 0]) (rest := []) (w := th) hX (Rk.of B.2.2.1 B.2.2.2.1 (by decide) (by decide)) g_J0_633 (c_J0_indexOf_7cf53 (x_G X) (x_l X) fu th p1 0 st) rfl rfl (Nat.le_of_ble_eq_true rfl) dJ0_indexOf_0f7a4_3 (fun r1 s2 => ?_)
  exact ww_iret B dJ0_indexOf_0f7a4_6
theorem c_J0_indexOf_0f7a4 (G : GX) (l : Launch) (fu : Nat) (th : Nat) (p1 : Int32) (st : St) : MI G NN l yJ0_indexOf_0f7a4 cJ0_indexOf_0f7a4 2 (some .int) 4 [.ref ((G.2.2.2).1 th), .int p1] st (f_J0_indexOf_0f7a4 fu th p1 st) := mkI (by decide) (Nat.le_of_ble_eq_true rfl) (fun X res hl hG B => by subst hl; subst hG; exact t_J0_indexOf_0f7a4 B fu th p1 st)
/-! StageHouse$Tape.isBlank(I)Z -/
def b_X9_isBlank_29 (fu : Nat)  (y0 : Int32) (st : St) : Option (Int32 × St) :=
  ck (isb y0) (some (y0, st))
set_option maxHeartbeats 4000000 in
set_option maxRecDepth 100000 in
theorem t_X9_isBlank_29 {X : CX} {res : Int32 × St} (B : BI X cX9_isBlank RX9 1 1 NN (some .boolean) res) (fu : Nat)  (y0 : Int32) (st : St) : WW X res NN 29 [] [.int y0] st (b_X9_isBlank_29 fu y0 st) := by
  have hX := B.1
  have hL := B.2.1
  unfold b_X9_isBlank_29
  exact ww_zret B dX9_isBlank_29
def b_X9_isBlank_24 (fu : Nat)   (st : St) : Option (Int32 × St) :=
  b_X9_isBlank_29 fu  1 st
set_option maxHeartbeats 4000000 in
set_option maxRecDepth 100000 in
theorem t_X9_isBlank_24 {X : CX} {res : Int32 × St} (B : BI X cX9_isBlank RX9 1 1 NN (some .boolean) res) (fu : Nat)   (st : St) : WW X res NN 24 [] [] st (b_X9_isBlank_24 fu  st) := by
  have hX := B.1
  have hL := B.2.1
  unfold b_X9_isBlank_24
  refine ww_iconst (v := 1) hX rfl dX9_isBlank_24 ?_
  refine ww_goto (tgt := 29) hX dX9_isBlank_25 (by decide) ?_
  exact t_X9_isBlank_29 B fu  1 st
def f_X9_isBlank (fu : Nat) (p0 : Int32) (st : St) : Option (Int32 × St) :=
  if p0 = 32 then (
  b_X9_isBlank_24 fu   st)
  else (
  if p0 = 9 then (
  b_X9_isBlank_24 fu   st)
  else (
  if p0 = 13 then (
  b_X9_isBlank_24 fu   st)
  else (
  if p0 = 10 then (
  b_X9_isBlank_24 fu   st)
  else (
  b_X9_isBlank_29 fu  0 st))))
set_option maxHeartbeats 4000000 in
set_option maxRecDepth 100000 in
theorem t_X9_isBlank {X : CX} {res : Int32 × St} (B : BI X cX9_isBlank RX9 1 1 NN (some .boolean) res) (fu : Nat) (p0 : Int32) (st : St) : WW X res NN 0 [(0, .int p0)] [] st (f_X9_isBlank fu p0 st) := by
  have hX := B.1
  have hL := B.2.1
  unfold f_X9_isBlank
  refine ww_iload_n hX 0 rfl dX9_isBlank_0 rfl ?_
  refine ww_bipush (v := 32) hX rfl dX9_isBlank_1 ?_
  refine ww_icmp_eq (tgt := 24) hX dX9_isBlank_3 (by decide) ?_ ?_
  · exact ww_sub [] rfl (t_X9_isBlank_24 B fu   st)
  · refine ww_iload_n hX 0 rfl dX9_isBlank_6 rfl ?_
    refine ww_bipush (v := 9) hX rfl dX9_isBlank_7 ?_
    refine ww_icmp_eq (tgt := 24) hX dX9_isBlank_9 (by decide) ?_ ?_
    · exact ww_sub [] rfl (t_X9_isBlank_24 B fu   st)
    · refine ww_iload_n hX 0 rfl dX9_isBlank_12 rfl ?_
      refine ww_bipush (v := 13) hX rfl dX9_isBlank_13 ?_
      refine ww_icmp_eq (tgt := 24) hX dX9_isBlank_15 (by decide) ?_ ?_
      · exact ww_sub [] rfl (t_X9_isBlank_24 B fu   st)
      · refine ww_iload_n hX 0 rfl dX9_isBlank_18 rfl ?_
        refine ww_bipush (v := 10) hX rfl dX9_isBlank_19 ?_
        refine ww_icmp_ne (tgt := 28) hX dX9_isBlank_21 (by decide) ?_ ?_
        · refine ww_iconst (v := 0) hX rfl dX9_isBlank_28 ?_
          exact ww_sub [] rfl (t_X9_isBlank_29 B fu  0 st)
        · exact ww_sub [] rfl (t_X9_isBlank_24 B fu   st)
theorem c_X9_isBlank (G : GX) (l : Launch) (fu : Nat) (p0 : Int32) (st : St) : MI G NN l yX9_isBlank cX9_isBlank 1 (some .boolean) 1 [.int p0] st (f_X9_isBlank fu p0 st) := mkI (by decide) (Nat.le_of_ble_eq_true rfl) (fun X res hl hG B => by subst hl; subst hG; exact t_X9_isBlank B fu p0 st)
/-! StageHouse$Tape.scanNumber()V -/
def b_X9_scanNumber_115 (fu : Nat) (x0 : Nat) (x1 : Int32) (x2 : Int32) (y0 : Nat) (y1 : Int32) (st : St) : Option (St) :=
  ck ((kd y0).1 = 9) <|
  bd (sI st y0 2 y1) fun s2 =>
  ck ((kd x0).1 = 9) <|
  bd (sI s2 x0 5 x2) fun s3 =>
  ck ((kd x0).1 = 9) <|
  bd (sI s3 x0 4 x1) fun s4 =>
  some s4
set_option maxHeartbeats 4000000 in
set_option maxRecDepth 100000 in
theorem t_X9_scanNumber_115 {X : CX} {res : St} (B : BV X cX9_scanNumber RX9 4 2 NN none res) (fu : Nat) (x0 : Nat) (x1 : Int32) (x2 : Int32) (y0 : Nat) (y1 : Int32) (st : St) : WW X res NN 115 [(0, .ref (x_b X + x0)), (1, .int x1), (2, .int x2)] [.int y1, .ref (x_b X + y0)] st (b_X9_scanNumber_115 fu x0 x1 x2 y0 y1 st) := by
  have hX := B.1
  have hL := B.2.1
  unfold b_X9_scanNumber_115
  refine ww_putI hX f_X9_37 rfl dX9_scanNumber_115 ?_
  refine ww_bds (fun s2 => ?_)
  refine ww_aload_n hX 0 rfl dX9_scanNumber_118 rfl ?_
  refine ww_iload_n hX 2 rfl dX9_scanNumber_119 rfl ?_
  refine ww_putI hX f_X9_65 rfl dX9_scanNumber_120 ?_
  refine ww_bds (fun s3 => ?_)
  refine ww_aload_n hX 0 rfl dX9_scanNumber_123 rfl ?_
  refine ww_iload_n hX 1 rfl dX9_scanNumber_124 rfl ?_
  refine ww_putI hX f_X9_31 rfl dX9_scanNumber_125 ?_
  refine ww_bds (fun s4 => ?_)
  refine ww_pc (b := 128) rfl ?_
  exact ww_vret B dX9_scanNumber_128
def b_X9_scanNumber_110 (fu : Nat) (x0 : Nat) (x1 : Int32) (x2 : Int32) (y0 : Nat) (st : St) : Option (St) :=
  b_X9_scanNumber_115 fu x0 x1 x2 y0 4 st
set_option maxHeartbeats 4000000 in
set_option maxRecDepth 100000 in
theorem t_X9_scanNumber_110 {X : CX} {res : St} (B : BV X cX9_scanNumber RX9 4 2 NN none res) (fu : Nat) (x0 : Nat) (x1 : Int32) (x2 : Int32) (y0 : Nat) (st : St) : WW X res NN 110 [(0, .ref (x_b X + x0)), (1, .int x1), (2, .int x2)] [.ref (x_b X + y0)] st (b_X9_scanNumber_110 fu x0 x1 x2 y0 st) := by
  have hX := B.1
  have hL := B.2.1
  unfold b_X9_scanNumber_110
  refine ww_iconst (v := 4) hX rfl dX9_scanNumber_110 ?_
  refine ww_goto (tgt := 115) hX dX9_scanNumber_111 (by decide) ?_
  exact t_X9_scanNumber_115 B fu x0 x1 x2 y0 4 st
def b_X9_scanNumber_98 (fu : Nat) (x0 : Nat) (x1 : Int32) (x2 : Int32) (y0 : Int32) (st : St) : Option (St) :=
  if 99999 < x2 then (
  b_X9_scanNumber_110 fu x0 x1 x2 x0 st)
  else (
  if y0 = 0 then (
  b_X9_scanNumber_115 fu x0 x1 x2 x0 2 st)
  else (
  b_X9_scanNumber_110 fu x0 x1 x2 x0 st))
set_option maxHeartbeats 4000000 in
set_option maxRecDepth 100000 in
theorem t_X9_scanNumber_98 {X : CX} {res : St} (B : BV X cX9_scanNumber RX9 4 2 NN none res) (fu : Nat) (x0 : Nat) (x1 : Int32) (x2 : Int32) (y0 : Int32) (st : St) : WW X res NN 98 [(0, .ref (x_b X + x0)), (1, .int x1), (2, .int x2)] [.int y0] st (b_X9_scanNumber_98 fu x0 x1 x2 y0 st) := by
  have hX := B.1
  have hL := B.2.1
  unfold b_X9_scanNumber_98
  refine ww_istore_n (lv' := [(3, .int y0), (0, .ref (x_b X + x0)), (1, .int x1), (2, .int x2)]) hX hL dX9_scanNumber_98 rfl (by decide) rfl ?_
  refine ww_aload_n hX 1 rfl dX9_scanNumber_99 rfl ?_
  refine ww_iload_n hX 3 rfl dX9_scanNumber_100 rfl ?_
  refine ww_ldc (v := 99999) hX k_X9_75 dX9_scanNumber_101 ?_
  refine ww_icmp_gt (tgt := 110) hX dX9_scanNumber_103 (by decide) ?_ ?_
  · exact ww_sub [1, 2, 3] rfl (t_X9_scanNumber_110 B fu x0 x1 x2 x0 st)
  · refine ww_iload_n hX 0 rfl dX9_scanNumber_106 rfl ?_
    refine ww_if_eq (tgt := 114) hX dX9_scanNumber_107 (by decide) ?_ ?_
    · refine ww_iconst (v := 2) hX rfl dX9_scanNumber_114 ?_
      exact ww_sub [1, 2, 3] rfl (t_X9_scanNumber_115 B fu x0 x1 x2 x0 2 st)
    · exact ww_sub [1, 2, 3] rfl (t_X9_scanNumber_110 B fu x0 x1 x2 x0 st)
def b_X9_scanNumber_97 (fu : Nat) (x0 : Nat) (x1 : Int32) (x2 : Int32)  (st : St) : Option (St) :=
  b_X9_scanNumber_98 fu x0 x1 x2 0 st
set_option maxHeartbeats 4000000 in
set_option maxRecDepth 100000 in
theorem t_X9_scanNumber_97 {X : CX} {res : St} (B : BV X cX9_scanNumber RX9 4 2 NN none res) (fu : Nat) (x0 : Nat) (x1 : Int32) (x2 : Int32)  (st : St) : WW X res NN 97 [(0, .ref (x_b X + x0)), (1, .int x1), (2, .int x2)] [] st (b_X9_scanNumber_97 fu x0 x1 x2 st) := by
  have hX := B.1
  have hL := B.2.1
  unfold b_X9_scanNumber_97
  refine ww_iconst (v := 0) hX rfl dX9_scanNumber_97 ?_
  exact t_X9_scanNumber_98 B fu x0 x1 x2 0 st
def b_X9_scanNumber_63 (fu : Nat) (x0 : Nat) (x1 : Int32) (x2 : Int32)  (st : St) : Option (St) :=
  ck ((kd x0).1 = 9) <|
  if (gI st x0 1) ≤ x1 then (
  b_X9_scanNumber_97 fu x0 x1 x2  st)
  else (
  ck (¬ gR st x0 0 = 0) <|
  ck ((kd x0).1 = 9) <|
  bd (gR st x0 0) fun o5 =>
  ck ((kd o5).1 = 101 ∧ inb x1 (kd o5).2) <|
  if (gI st o5 (ix x1)) < 97 then (
  b_X9_scanNumber_97 fu x0 x1 x2  st)
  else (
  ck (¬ gR st x0 0 = 0) <|
  ck ((kd x0).1 = 9) <|
  bd (gR st x0 0) fun o6 =>
  ck ((kd o6).1 = 101 ∧ inb x1 (kd o6).2) <|
  if 122 < (gI st o6 (ix x1)) then (
  b_X9_scanNumber_97 fu x0 x1 x2  st)
  else (
  b_X9_scanNumber_98 fu x0 x1 x2 1 st)))
set_option maxHeartbeats 4000000 in
set_option maxRecDepth 100000 in
theorem t_X9_scanNumber_63 {X : CX} {res : St} (B : BV X cX9_scanNumber RX9 4 2 NN none res) (fu : Nat) (x0 : Nat) (x1 : Int32) (x2 : Int32)  (st : St) : WW X res NN 63 [(0, .ref (x_b X + x0)), (1, .int x1), (2, .int x2)] [] st (b_X9_scanNumber_63 fu x0 x1 x2 st) := by
  have hX := B.1
  have hL := B.2.1
  unfold b_X9_scanNumber_63
  refine ww_iload_n hX 1 rfl dX9_scanNumber_63 rfl ?_
  refine ww_aload_n hX 0 rfl dX9_scanNumber_64 rfl ?_
  refine ww_getI hX f_X9_15 (Or.inl rfl) dX9_scanNumber_65 ?_
  refine ww_icmp_ge (tgt := 97) hX dX9_scanNumber_68 (by decide) ?_ ?_
  · exact t_X9_scanNumber_97 B fu x0 x1 x2  st
  · refine ww_aload_n hX 0 rfl dX9_scanNumber_71 rfl ?_
    refine ww_getR hX f_X9_11 (Or.inr ⟨_, rfl⟩) dX9_scanNumber_72 ?_
    refine ww_bdR (fun o5 => ?_)
    refine ww_iload_n hX 1 rfl dX9_scanNumber_75 rfl ?_
    refine ww_baldc hX k_bald dX9_scanNumber_76 ?_
    refine ww_bipush (v := 97) hX rfl dX9_scanNumber_77 ?_
    refine ww_icmp_lt (tgt := 97) hX dX9_scanNumber_79 (by decide) ?_ ?_
    · exact t_X9_scanNumber_97 B fu x0 x1 x2  st
    · refine ww_aload_n hX 0 rfl dX9_scanNumber_82 rfl ?_
      refine ww_getR hX f_X9_11 (Or.inr ⟨_, rfl⟩) dX9_scanNumber_83 ?_
      refine ww_bdR (fun o6 => ?_)
      refine ww_iload_n hX 1 rfl dX9_scanNumber_86 rfl ?_
      refine ww_baldc hX k_bald dX9_scanNumber_87 ?_
      refine ww_bipush (v := 122) hX rfl dX9_scanNumber_88 ?_
      refine ww_icmp_gt (tgt := 97) hX dX9_scanNumber_90 (by decide) ?_ ?_
      · exact t_X9_scanNumber_97 B fu x0 x1 x2  st
      · refine ww_iconst (v := 1) hX rfl dX9_scanNumber_93 ?_
        refine ww_goto (tgt := 98) hX dX9_scanNumber_94 (by decide) ?_
        exact t_X9_scanNumber_98 B fu x0 x1 x2 1 st
def b_X9_scanNumber_7_b (fu : Nat) (k_7 : Nat → Int32 → Int32 → St → Option (St)) (x0 : Nat) (x1 : Int32) (x2 : Int32)  (st : St) : Option (St) :=
  ck ((kd x0).1 = 9) <|
  if (gI st x0 1) ≤ x1 then (
  b_X9_scanNumber_63 fu x0 x1 x2  st)
  else (
  ck (¬ gR st x0 0 = 0) <|
  ck ((kd x0).1 = 9) <|
  bd (gR st x0 0) fun o7 =>
  ck ((kd o7).1 = 101 ∧ inb x1 (kd o7).2) <|
  if (gI st o7 (ix x1)) < 48 then (
  b_X9_scanNumber_63 fu x0 x1 x2  st)
  else (
  ck (¬ gR st x0 0 = 0) <|
  ck ((kd x0).1 = 9) <|
  bd (gR st x0 0) fun o8 =>
  ck ((kd o8).1 = 101 ∧ inb x1 (kd o8).2) <|
  if 57 < (gI st o8 (ix x1)) then (
  b_X9_scanNumber_63 fu x0 x1 x2  st)
  else (
  ck (¬ gR st x0 0 = 0) <|
  ck ((kd x0).1 = 9) <|
  bd (gR st x0 0) fun o9 =>
  ck ((kd o9).1 = 101 ∧ inb x1 (kd o9).2) <|
  ca (f_J9_min_7cf53 fu 100000 (((x2 * 10) + (gI st o9 (ix x1))) - 48) st) fun r10 s11 =>
  bd (x1 + 1) fun v12 =>
  k_7 x0 v12 r10  s11)))
set_option maxHeartbeats 4000000 in
set_option maxRecDepth 100000 in
theorem t_X9_scanNumber_7_b {X : CX} {res : St} (B : BV X cX9_scanNumber RX9 4 2 NN none res) (fu : Nat) (k_7 : Nat → Int32 → Int32 → St → Option (St)) (h_7 : ∀ (x0 : Nat) (x1 : Int32) (x2 : Int32)  (st : St), WW X res NN 7 [(0, .ref (x_b X + x0)), (1, .int x1), (2, .int x2)] [] st (k_7 x0 x1 x2 st)) (x0 : Nat) (x1 : Int32) (x2 : Int32)  (st : St) : WW X res NN 7 [(0, .ref (x_b X + x0)), (1, .int x1), (2, .int x2)] [] st (b_X9_scanNumber_7_b fu k_7 x0 x1 x2 st) := by
  have hX := B.1
  have hL := B.2.1
  unfold b_X9_scanNumber_7_b
  refine ww_iload_n hX 1 rfl dX9_scanNumber_7 rfl ?_
  refine ww_aload_n hX 0 rfl dX9_scanNumber_8 rfl ?_
  refine ww_getI hX f_X9_15 (Or.inl rfl) dX9_scanNumber_9 ?_
  refine ww_icmp_ge (tgt := 63) hX dX9_scanNumber_12 (by decide) ?_ ?_
  · exact t_X9_scanNumber_63 B fu x0 x1 x2  st
  · refine ww_aload_n hX 0 rfl dX9_scanNumber_15 rfl ?_
    refine ww_getR hX f_X9_11 (Or.inr ⟨_, rfl⟩) dX9_scanNumber_16 ?_
    refine ww_bdR (fun o7 => ?_)
    refine ww_iload_n hX 1 rfl dX9_scanNumber_19 rfl ?_
    refine ww_baldc hX k_bald dX9_scanNumber_20 ?_
    refine ww_bipush (v := 48) hX rfl dX9_scanNumber_21 ?_
    refine ww_icmp_lt (tgt := 63) hX dX9_scanNumber_23 (by decide) ?_ ?_
    · exact t_X9_scanNumber_63 B fu x0 x1 x2  st
    · refine ww_aload_n hX 0 rfl dX9_scanNumber_26 rfl ?_
      refine ww_getR hX f_X9_11 (Or.inr ⟨_, rfl⟩) dX9_scanNumber_27 ?_
      refine ww_bdR (fun o8 => ?_)
      refine ww_iload_n hX 1 rfl dX9_scanNumber_30 rfl ?_
      refine ww_baldc hX k_bald dX9_scanNumber_31 ?_
      refine ww_bipush (v := 57) hX rfl dX9_scanNumber_32 ?_
      refine ww_icmp_gt (tgt := 63) hX dX9_scanNumber_34 (by decide) ?_ ?_
      · exact t_X9_scanNumber_63 B fu x0 x1 x2  st
      · refine ww_ldc (v := 100000) hX k_X9_68 dX9_scanNumber_37 ?_
        refine ww_iload_n hX 2 rfl dX9_scanNumber_39 rfl ?_
        refine ww_bipush (v := 10) hX rfl dX9_scanNumber_40 ?_
        refine ww_imul hX dX9_scanNumber_42 ?_
        refine ww_aload_n hX 0 rfl dX9_scanNumber_43 rfl ?_
        refine ww_getR hX f_X9_11 (Or.inr ⟨_, rfl⟩) dX9_scanNumber_44 ?_
        refine ww_bdR (fun o9 => ?_)
        refine ww_iload_n hX 1 rfl dX9_scanNumber_47 rfl ?_
        refine ww_pc (b := 48) rfl ?_
        refine ww_baldc hX k_bald dX9_scanNumber_48 ?_
        refine ww_iadd hX dX9_scanNumber_49 ?_
        refine ww_bipush (v := 48) hX rfl dX9_scanNumber_50 ?_
        refine ww_isub hX dX9_scanNumber_52 ?_
        refine ww_callSI (As := [.int 100000, .int (((x2 * 10) + (gI st o9 (ix x1))) - 48)]) (rest := []) hX (Rk.of B.2.2.1 B.2.2.2.1 (by decide) (by decide)) g_X9_69 (c_J9_min_7cf53 (x_G X) (x_l X) fu 100000 (((x2 * 10) + (gI st o9 (ix x1))) - 48) st) rfl rfl (Nat.le_of_ble_eq_true rfl) dX9_scanNumber_53 (fun r10 s11 => ?_)
        refine ww_istore_n (lv' := [(2, .int r10), (0, .ref (x_b X + x0)), (1, .int x1)]) hX hL dX9_scanNumber_56 rfl (by decide) rfl ?_
        refine ww_iincb (lv' := fun v12 => [(1, .int v12), (2, .int r10), (0, .ref (x_b X + x0))]) (c := 1) hX hL 2 rfl dX9_scanNumber_57 rfl (by decide) (fun _ => rfl) (fun v12 => ?_)
        refine ww_goto (tgt := 7) hX dX9_scanNumber_60 (by decide) ?_
        exact ww_sub [2, 0, 1] rfl (h_7 x0 v12 r10  s11)
def b_X9_scanNumber_7 (fu : Nat) : Nat → Nat → Int32 → Int32 → St → Option (St)
  | 0, _, _, _, _ => none
  | i + 1, x0, x1, x2, st => b_X9_scanNumber_7_b fu (b_X9_scanNumber_7 fu i) x0 x1 x2 st
theorem t_X9_scanNumber_7 {X : CX} {res : St} (B : BV X cX9_scanNumber RX9 4 2 NN none res) (fu : Nat) : ∀ (i : Nat) (x0 : Nat) (x1 : Int32) (x2 : Int32)  (st : St), WW X res NN 7 [(0, .ref (x_b X + x0)), (1, .int x1), (2, .int x2)] [] st (b_X9_scanNumber_7 fu i x0 x1 x2 st) := by
  intro i
  induction i with
  | zero => intro x0 x1 x2 st; exact ww_none
  | succ i ih => intro x0 x1 x2 st; exact t_X9_scanNumber_7_b B fu (b_X9_scanNumber_7 fu i) ih x0 x1 x2 st
def f_X9_scanNumber (fu : Nat) (th : Nat) (st : St) : Option (St) :=
  ck ((kd th).1 = 9) <|
  bd (gI st th 3) fun v1 =>
  b_X9_scanNumber_7 fu fu th v1 0  st
set_option maxHeartbeats 4000000 in
set_option maxRecDepth 100000 in
theorem t_X9_scanNumber {X : CX} {res : St} (B : BV X cX9_scanNumber RX9 4 2 NN none res) (fu : Nat) (th : Nat) (st : St) : WW X res NN 0 [(0, .ref (x_b X + th))] [] st (f_X9_scanNumber fu th st) := by
  have hX := B.1
  have hL := B.2.1
  unfold f_X9_scanNumber
  refine ww_aload_n hX 0 rfl dX9_scanNumber_0 rfl ?_
  refine ww_getI hX f_X9_40 (Or.inl rfl) dX9_scanNumber_1 ?_
  refine ww_bdi (fun v1 => ?_)
  refine ww_istore_n (lv' := [(1, .int v1), (0, .ref (x_b X + th))]) hX hL dX9_scanNumber_4 rfl (by decide) rfl ?_
  refine ww_iconst (v := 0) hX rfl dX9_scanNumber_5 ?_
  refine ww_istore_n (lv' := [(2, .int 0), (1, .int v1), (0, .ref (x_b X + th))]) hX hL dX9_scanNumber_6 rfl (by decide) rfl ?_
  exact ww_sub [2, 1, 0] rfl (t_X9_scanNumber_7 B fu fu th v1 0  st)
theorem c_X9_scanNumber (G : GX) (l : Launch) (fu : Nat) (th : Nat) (st : St) : MV G NN l yX9_scanNumber cX9_scanNumber 4 none 2 [.ref (G.2.2.1 + th)] st (f_X9_scanNumber fu th st) := mkV (by decide) (Nat.le_of_ble_eq_true rfl) (fun X res hl hG B => by subst hl; subst hG; exact t_X9_scanNumber B fu th st)
/-! StageHouse$Tape.scanWord()V -/
def b_X9_scanWord_58 (fu : Nat) (x0 : Nat) (x1 : Int32) (y0 : Nat) (y1 : Int32) (st : St) : Option (St) :=
  ck ((kd y0).1 = 9) <|
  bd (sI st y0 2 y1) fun s2 =>
  ck ((kd x0).1 = 9) <|
  bd (sI s2 x0 4 x1) fun s3 =>
  some s3
set_option maxHeartbeats 4000000 in
set_option maxRecDepth 100000 in
theorem t_X9_scanWord_58 {X : CX} {res : St} (B : BV X cX9_scanWord RX9 2 1 NN none res) (fu : Nat) (x0 : Nat) (x1 : Int32) (y0 : Nat) (y1 : Int32) (st : St) : WW X res NN 58 [(0, .ref (x_b X + x0)), (1, .int x1)] [.int y1, .ref (x_b X + y0)] st (b_X9_scanWord_58 fu x0 x1 y0 y1 st) := by
  have hX := B.1
  have hL := B.2.1
  unfold b_X9_scanWord_58
  refine ww_putI hX f_X9_37 rfl dX9_scanWord_58 ?_
  refine ww_bds (fun s2 => ?_)
  refine ww_aload_n hX 0 rfl dX9_scanWord_61 rfl ?_
  refine ww_iload_n hX 1 rfl dX9_scanWord_62 rfl ?_
  refine ww_putI hX f_X9_31 rfl dX9_scanWord_63 ?_
  refine ww_bds (fun s3 => ?_)
  exact ww_vret B dX9_scanWord_66
def b_X9_scanWord_41 (fu : Nat) (x0 : Nat) (x1 : Int32)  (st : St) : Option (St) :=
  ck ((kd x0).1 = 9) <|
  if 12 < (x1 - (gI st x0 3)) then (
  b_X9_scanWord_58 fu x0 x1 x0 4 st)
  else (
  b_X9_scanWord_58 fu x0 x1 x0 1 st)
set_option maxHeartbeats 4000000 in
set_option maxRecDepth 100000 in
theorem t_X9_scanWord_41 {X : CX} {res : St} (B : BV X cX9_scanWord RX9 2 1 NN none res) (fu : Nat) (x0 : Nat) (x1 : Int32)  (st : St) : WW X res NN 41 [(0, .ref (x_b X + x0)), (1, .int x1)] [] st (b_X9_scanWord_41 fu x0 x1 st) := by
  have hX := B.1
  have hL := B.2.1
  unfold b_X9_scanWord_41
  refine ww_aload_n hX 0 rfl dX9_scanWord_41 rfl ?_
  refine ww_iload_n hX 1 rfl dX9_scanWord_42 rfl ?_
  refine ww_aload_n hX 0 rfl dX9_scanWord_43 rfl ?_
  refine ww_getI hX f_X9_40 (Or.inl rfl) dX9_scanWord_44 ?_
  refine ww_isub hX dX9_scanWord_47 ?_
  refine ww_bipush (v := 12) hX rfl dX9_scanWord_48 ?_
  refine ww_icmp_gt (tgt := 57) hX dX9_scanWord_50 (by decide) ?_ ?_
  · refine ww_iconst (v := 4) hX rfl dX9_scanWord_57 ?_
    exact t_X9_scanWord_58 B fu x0 x1 x0 4 st
  · refine ww_iconst (v := 1) hX rfl dX9_scanWord_53 ?_
    refine ww_goto (tgt := 58) hX dX9_scanWord_54 (by decide) ?_
    exact t_X9_scanWord_58 B fu x0 x1 x0 1 st
def b_X9_scanWord_5_b (fu : Nat) (k_5 : Nat → Int32 → St → Option (St)) (x0 : Nat) (x1 : Int32)  (st : St) : Option (St) :=
  ck ((kd x0).1 = 9) <|
  if (gI st x0 1) ≤ x1 then (
  b_X9_scanWord_41 fu x0 x1  st)
  else (
  ck (¬ gR st x0 0 = 0) <|
  ck ((kd x0).1 = 9) <|
  bd (gR st x0 0) fun o4 =>
  ck ((kd o4).1 = 101 ∧ inb x1 (kd o4).2) <|
  if (gI st o4 (ix x1)) < 97 then (
  b_X9_scanWord_41 fu x0 x1  st)
  else (
  ck (¬ gR st x0 0 = 0) <|
  ck ((kd x0).1 = 9) <|
  bd (gR st x0 0) fun o5 =>
  ck ((kd o5).1 = 101 ∧ inb x1 (kd o5).2) <|
  if 122 < (gI st o5 (ix x1)) then (
  b_X9_scanWord_41 fu x0 x1  st)
  else (
  bd (x1 + 1) fun v6 =>
  k_5 x0 v6  st)))
set_option maxHeartbeats 4000000 in
set_option maxRecDepth 100000 in
theorem t_X9_scanWord_5_b {X : CX} {res : St} (B : BV X cX9_scanWord RX9 2 1 NN none res) (fu : Nat) (k_5 : Nat → Int32 → St → Option (St)) (h_5 : ∀ (x0 : Nat) (x1 : Int32)  (st : St), WW X res NN 5 [(0, .ref (x_b X + x0)), (1, .int x1)] [] st (k_5 x0 x1 st)) (x0 : Nat) (x1 : Int32)  (st : St) : WW X res NN 5 [(0, .ref (x_b X + x0)), (1, .int x1)] [] st (b_X9_scanWord_5_b fu k_5 x0 x1 st) := by
  have hX := B.1
  have hL := B.2.1
  unfold b_X9_scanWord_5_b
  refine ww_iload_n hX 1 rfl dX9_scanWord_5 rfl ?_
  refine ww_aload_n hX 0 rfl dX9_scanWord_6 rfl ?_
  refine ww_getI hX f_X9_15 (Or.inl rfl) dX9_scanWord_7 ?_
  refine ww_icmp_ge (tgt := 41) hX dX9_scanWord_10 (by decide) ?_ ?_
  · exact t_X9_scanWord_41 B fu x0 x1  st
  · refine ww_aload_n hX 0 rfl dX9_scanWord_13 rfl ?_
    refine ww_getR hX f_X9_11 (Or.inr ⟨_, rfl⟩) dX9_scanWord_14 ?_
    refine ww_bdR (fun o4 => ?_)
    refine ww_iload_n hX 1 rfl dX9_scanWord_17 rfl ?_
    refine ww_baldc hX k_bald dX9_scanWord_18 ?_
    refine ww_bipush (v := 97) hX rfl dX9_scanWord_19 ?_
    refine ww_icmp_lt (tgt := 41) hX dX9_scanWord_21 (by decide) ?_ ?_
    · exact t_X9_scanWord_41 B fu x0 x1  st
    · refine ww_aload_n hX 0 rfl dX9_scanWord_24 rfl ?_
      refine ww_getR hX f_X9_11 (Or.inr ⟨_, rfl⟩) dX9_scanWord_25 ?_
      refine ww_bdR (fun o5 => ?_)
      refine ww_iload_n hX 1 rfl dX9_scanWord_28 rfl ?_
      refine ww_baldc hX k_bald dX9_scanWord_29 ?_
      refine ww_bipush (v := 122) hX rfl dX9_scanWord_30 ?_
      refine ww_icmp_gt (tgt := 41) hX dX9_scanWord_32 (by decide) ?_ ?_
      · exact t_X9_scanWord_41 B fu x0 x1  st
      · refine ww_iincb (lv' := fun v6 => [(1, .int v6), (0, .ref (x_b X + x0))]) (c := 1) hX hL 1 rfl dX9_scanWord_35 rfl (by decide) (fun _ => rfl) (fun v6 => ?_)
        refine ww_goto (tgt := 5) hX dX9_scanWord_38 (by decide) ?_
        exact ww_sub [1, 0] rfl (h_5 x0 v6  st)
def b_X9_scanWord_5 (fu : Nat) : Nat → Nat → Int32 → St → Option (St)
  | 0, _, _, _ => none
  | i + 1, x0, x1, st => b_X9_scanWord_5_b fu (b_X9_scanWord_5 fu i) x0 x1 st
theorem t_X9_scanWord_5 {X : CX} {res : St} (B : BV X cX9_scanWord RX9 2 1 NN none res) (fu : Nat) : ∀ (i : Nat) (x0 : Nat) (x1 : Int32)  (st : St), WW X res NN 5 [(0, .ref (x_b X + x0)), (1, .int x1)] [] st (b_X9_scanWord_5 fu i x0 x1 st) := by
  intro i
  induction i with
  | zero => intro x0 x1 st; exact ww_none
  | succ i ih => intro x0 x1 st; exact t_X9_scanWord_5_b B fu (b_X9_scanWord_5 fu i) ih x0 x1 st
def f_X9_scanWord (fu : Nat) (th : Nat) (st : St) : Option (St) :=
  ck ((kd th).1 = 9) <|
  bd (gI st th 3) fun v1 =>
  b_X9_scanWord_5 fu fu th v1  st
set_option maxHeartbeats 4000000 in
set_option maxRecDepth 100000 in
theorem t_X9_scanWord {X : CX} {res : St} (B : BV X cX9_scanWord RX9 2 1 NN none res) (fu : Nat) (th : Nat) (st : St) : WW X res NN 0 [(0, .ref (x_b X + th))] [] st (f_X9_scanWord fu th st) := by
  have hX := B.1
  have hL := B.2.1
  unfold f_X9_scanWord
  refine ww_aload_n hX 0 rfl dX9_scanWord_0 rfl ?_
  refine ww_getI hX f_X9_40 (Or.inl rfl) dX9_scanWord_1 ?_
  refine ww_bdi (fun v1 => ?_)
  refine ww_istore_n (lv' := [(1, .int v1), (0, .ref (x_b X + th))]) hX hL dX9_scanWord_4 rfl (by decide) rfl ?_
  exact ww_sub [1, 0] rfl (t_X9_scanWord_5 B fu fu th v1  st)
theorem c_X9_scanWord (G : GX) (l : Launch) (fu : Nat) (th : Nat) (st : St) : MV G NN l yX9_scanWord cX9_scanWord 2 none 1 [.ref (G.2.2.1 + th)] st (f_X9_scanWord fu th st) := mkV (by decide) (Nat.le_of_ble_eq_true rfl) (fun X res hl hG B => by subst hl; subst hG; exact t_X9_scanWord B fu th st)
/-! StageHouse$Tape.next()V -/
def b_X9_next_169 (fu : Nat)   (st : St) : Option (St) :=
  some st
set_option maxHeartbeats 4000000 in
set_option maxRecDepth 100000 in
theorem t_X9_next_169 {X : CX} {res : St} (B : BV X cX9_next RX9 3 5 NN none res) (fu : Nat)   (st : St) : WW X res NN 169 [] [] st (b_X9_next_169 fu  st) := by
  have hX := B.1
  have hL := B.2.1
  unfold b_X9_next_169
  exact ww_vret B dX9_next_169
def b_X9_next_154 (fu : Nat) (x0 : Nat) (x1 : Int32) (x2 : Int32) (y0 : Nat) (y1 : Int32) (st : St) : Option (St) :=
  ck ((kd y0).1 = 9) <|
  bd (sI st y0 2 y1) fun s6 =>
  ck ((kd x0).1 = 9) <|
  bd (sI s6 x0 5 x2) fun s7 =>
  ck ((kd x0).1 = 9) <|
  bd (sI s7 x0 4 (x1 + 1)) fun s8 =>
  b_X9_next_169 fu   s8
set_option maxHeartbeats 4000000 in
set_option maxRecDepth 100000 in
theorem t_X9_next_154 {X : CX} {res : St} (B : BV X cX9_next RX9 3 5 NN none res) (fu : Nat) (x0 : Nat) (x1 : Int32) (x2 : Int32) (y0 : Nat) (y1 : Int32) (st : St) : WW X res NN 154 [(0, .ref (x_b X + x0)), (1, .int x1), (2, .int x2)] [.int y1, .ref (x_b X + y0)] st (b_X9_next_154 fu x0 x1 x2 y0 y1 st) := by
  have hX := B.1
  have hL := B.2.1
  unfold b_X9_next_154
  refine ww_putI hX f_X9_37 rfl dX9_next_154 ?_
  refine ww_bds (fun s6 => ?_)
  refine ww_aload_n hX 0 rfl dX9_next_157 rfl ?_
  refine ww_iload_n hX 2 rfl dX9_next_158 rfl ?_
  refine ww_putI hX f_X9_65 rfl dX9_next_159 ?_
  refine ww_bds (fun s7 => ?_)
  refine ww_aload_n hX 0 rfl dX9_next_162 rfl ?_
  refine ww_iload_n hX 1 rfl dX9_next_163 rfl ?_
  refine ww_iconst (v := 1) hX rfl dX9_next_164 ?_
  refine ww_pc (b := 165) rfl ?_
  refine ww_iadd hX dX9_next_165 ?_
  refine ww_putI hX f_X9_31 rfl dX9_next_166 ?_
  refine ww_bds (fun s8 => ?_)
  exact ww_sub [] rfl (t_X9_next_169 B fu   s8)
def b_X9_next_153 (fu : Nat) (x0 : Nat) (x1 : Int32) (x2 : Int32) (y0 : Nat) (st : St) : Option (St) :=
  b_X9_next_154 fu x0 x1 x2 y0 4 st
set_option maxHeartbeats 4000000 in
set_option maxRecDepth 100000 in
theorem t_X9_next_153 {X : CX} {res : St} (B : BV X cX9_next RX9 3 5 NN none res) (fu : Nat) (x0 : Nat) (x1 : Int32) (x2 : Int32) (y0 : Nat) (st : St) : WW X res NN 153 [(0, .ref (x_b X + x0)), (1, .int x1), (2, .int x2)] [.ref (x_b X + y0)] st (b_X9_next_153 fu x0 x1 x2 y0 st) := by
  have hX := B.1
  have hL := B.2.1
  unfold b_X9_next_153
  refine ww_iconst (v := 4) hX rfl dX9_next_153 ?_
  exact t_X9_next_154 B fu x0 x1 x2 y0 4 st
def b_X9_next_134 (fu : Nat) (x0 : Nat) (x1 : Int32) (x2 : Int32)  (st : St) : Option (St) :=
  if x2 ≤ 0 then (
  b_X9_next_153 fu x0 x1 x2 x0 st)
  else (
  ck (0 < sB.length) <|
  ca (f_J0_indexOf_0f7a4 fu 0 ((x2.toUInt32 % 65536).toInt32) st) fun r9 s10 =>
  if r9 < 0 then (
  b_X9_next_153 fu x0 x1 x2 x0 s10)
  else (
  b_X9_next_154 fu x0 x1 x2 x0 3 s10))
set_option maxHeartbeats 4000000 in
set_option maxRecDepth 100000 in
theorem t_X9_next_134 {X : CX} {res : St} (B : BV X cX9_next RX9 3 5 NN none res) (fu : Nat) (x0 : Nat) (x1 : Int32) (x2 : Int32)  (st : St) : WW X res NN 134 [(0, .ref (x_b X + x0)), (1, .int x1), (2, .int x2)] [] st (b_X9_next_134 fu x0 x1 x2 st) := by
  have hX := B.1
  have hL := B.2.1
  unfold b_X9_next_134
  refine ww_aload_n hX 0 rfl dX9_next_134 rfl ?_
  refine ww_iload_n hX 2 rfl dX9_next_135 rfl ?_
  refine ww_if_le (tgt := 153) hX dX9_next_136 (by decide) ?_ ?_
  · exact t_X9_next_153 B fu x0 x1 x2 x0 st
  · refine ww_ldcS (q := 0) hX rfl dX9_next_139 ?_
    refine ww_iload_n hX 2 rfl dX9_next_141 rfl ?_
    refine ww_i2c hX dX9_next_142 ?_
    refine ww_callsI (As := [.int ((x2.toUInt32 % 65536).toInt32)]) (rest := [.ref (x_b X + x0)]) (w := 0) hX (Rk.of B.2.2.1 B.2.2.2.1 (by decide) (by decide)) g_X9_59 (c_J0_indexOf_0f7a4 (x_G X) (x_l X) fu 0 ((x2.toUInt32 % 65536).toInt32) st) rfl rfl (Nat.le_of_ble_eq_true rfl) dX9_next_143 (fun r9 s10 => ?_)
    refine ww_if_lt (tgt := 153) hX dX9_next_146 (by decide) ?_ ?_
    · exact t_X9_next_153 B fu x0 x1 x2 x0 s10
    · refine ww_iconst (v := 3) hX rfl dX9_next_149 ?_
      refine ww_goto (tgt := 154) hX dX9_next_150 (by decide) ?_
      exact t_X9_next_154 B fu x0 x1 x2 x0 3 s10
def b_X9_next_115 (fu : Nat) (x0 : Nat) (x1 : Int32) (x2 : Int32)  (st : St) : Option (St) :=
  if x2 < 48 then (
  b_X9_next_134 fu x0 x1 x2  st)
  else (
  if 57 < x2 then (
  b_X9_next_134 fu x0 x1 x2  st)
  else (
  ck ((kd x0).1 = 9) <|
  cv (f_X9_scanNumber fu x0 st) fun s11 =>
  b_X9_next_169 fu   s11))
set_option maxHeartbeats 4000000 in
set_option maxRecDepth 100000 in
theorem t_X9_next_115 {X : CX} {res : St} (B : BV X cX9_next RX9 3 5 NN none res) (fu : Nat) (x0 : Nat) (x1 : Int32) (x2 : Int32)  (st : St) : WW X res NN 115 [(0, .ref (x_b X + x0)), (1, .int x1), (2, .int x2)] [] st (b_X9_next_115 fu x0 x1 x2 st) := by
  have hX := B.1
  have hL := B.2.1
  unfold b_X9_next_115
  refine ww_iload_n hX 2 rfl dX9_next_115 rfl ?_
  refine ww_bipush (v := 48) hX rfl dX9_next_116 ?_
  refine ww_icmp_lt (tgt := 134) hX dX9_next_118 (by decide) ?_ ?_
  · exact t_X9_next_134 B fu x0 x1 x2  st
  · refine ww_iload_n hX 2 rfl dX9_next_121 rfl ?_
    refine ww_bipush (v := 57) hX rfl dX9_next_122 ?_
    refine ww_icmp_gt (tgt := 134) hX dX9_next_124 (by decide) ?_ ?_
    · exact t_X9_next_134 B fu x0 x1 x2  st
    · refine ww_aload_n hX 0 rfl dX9_next_127 rfl ?_
      refine ww_callVV (As := []) (rest := []) (o := x0) hX (Rk.of B.2.2.1 B.2.2.2.1 (by decide) (by decide)) g_X9_54 g_X9_54.in (fun _ => c_X9_scanNumber (x_G X) (x_l X) fu x0 st) rfl rfl (Nat.le_of_ble_eq_true rfl) dX9_next_128 (fun s11 => ?_)
      refine ww_goto (tgt := 169) hX dX9_next_131 (by decide) ?_
      exact ww_sub [] rfl (t_X9_next_169 B fu   s11)
def b_X9_next_62 (fu : Nat) (x0 : Nat) (x1 : Int32)  (st : St) : Option (St) :=
  ck ((kd x0).1 = 9) <|
  bd (sI st x0 3 x1) fun s3 =>
  ck ((kd x0).1 = 9) <|
  if x1 < (gI s3 x0 1) then (
  ck (¬ gR s3 x0 0 = 0) <|
  ck ((kd x0).1 = 9) <|
  bd (gR s3 x0 0) fun o4 =>
  ck ((kd o4).1 = 101 ∧ inb x1 (kd o4).2) <|
  bd (gI s3 o4 (ix x1)) fun v5 =>
  if v5 < 97 then (
  b_X9_next_115 fu x0 x1 v5  s3)
  else (
  if 122 < v5 then (
  b_X9_next_115 fu x0 x1 v5  s3)
  else (
  ck ((kd x0).1 = 9) <|
  cv (f_X9_scanWord fu x0 s3) fun s12 =>
  b_X9_next_169 fu   s12)))
  else (
  ck ((kd x0).1 = 9) <|
  bd (sI s3 x0 2 0) fun s13 =>
  ck ((kd x0).1 = 9) <|
  ck ((kd x0).1 = 9) <|
  bd (sI s13 x0 4 (gI s13 x0 1)) fun s14 =>
  some s14)
set_option maxHeartbeats 4000000 in
set_option maxRecDepth 100000 in
theorem t_X9_next_62 {X : CX} {res : St} (B : BV X cX9_next RX9 3 5 NN none res) (fu : Nat) (x0 : Nat) (x1 : Int32)  (st : St) : WW X res NN 62 [(0, .ref (x_b X + x0)), (1, .int x1)] [] st (b_X9_next_62 fu x0 x1 st) := by
  have hX := B.1
  have hL := B.2.1
  unfold b_X9_next_62
  refine ww_aload_n hX 0 rfl dX9_next_62 rfl ?_
  refine ww_iload_n hX 1 rfl dX9_next_63 rfl ?_
  refine ww_putI hX f_X9_40 rfl dX9_next_64 ?_
  refine ww_bds (fun s3 => ?_)
  refine ww_iload_n hX 1 rfl dX9_next_67 rfl ?_
  refine ww_aload_n hX 0 rfl dX9_next_68 rfl ?_
  refine ww_getI hX f_X9_15 (Or.inl rfl) dX9_next_69 ?_
  refine ww_icmp_lt (tgt := 89) hX dX9_next_72 (by decide) ?_ ?_
  · refine ww_aload_n hX 0 rfl dX9_next_89 rfl ?_
    refine ww_getR hX f_X9_11 (Or.inr ⟨_, rfl⟩) dX9_next_90 ?_
    refine ww_bdR (fun o4 => ?_)
    refine ww_iload_n hX 1 rfl dX9_next_93 rfl ?_
    refine ww_baldc hX k_bald dX9_next_94 ?_
    refine ww_bdi (fun v5 => ?_)
    refine ww_istore_n (lv' := [(2, .int v5), (0, .ref (x_b X + x0)), (1, .int x1)]) hX hL dX9_next_95 rfl (by decide) rfl ?_
    refine ww_iload_n hX 0 rfl dX9_next_96 rfl ?_
    refine ww_bipush (v := 97) hX rfl dX9_next_97 ?_
    refine ww_pc (b := 99) rfl ?_
    refine ww_icmp_lt (tgt := 115) hX dX9_next_99 (by decide) ?_ ?_
    · exact ww_sub [1, 2, 0] rfl (t_X9_next_115 B fu x0 x1 v5  s3)
    · refine ww_iload_n hX 0 rfl dX9_next_102 rfl ?_
      refine ww_bipush (v := 122) hX rfl dX9_next_103 ?_
      refine ww_icmp_gt (tgt := 115) hX dX9_next_105 (by decide) ?_ ?_
      · exact ww_sub [1, 2, 0] rfl (t_X9_next_115 B fu x0 x1 v5  s3)
      · refine ww_aload_n hX 1 rfl dX9_next_108 rfl ?_
        refine ww_callVV (As := []) (rest := []) (o := x0) hX (Rk.of B.2.2.1 B.2.2.2.1 (by decide) (by decide)) g_X9_51 g_X9_51.in (fun _ => c_X9_scanWord (x_G X) (x_l X) fu x0 s3) rfl rfl (Nat.le_of_ble_eq_true rfl) dX9_next_109 (fun s12 => ?_)
        refine ww_goto (tgt := 169) hX dX9_next_112 (by decide) ?_
        exact ww_sub [] rfl (t_X9_next_169 B fu   s12)
  · refine ww_aload_n hX 0 rfl dX9_next_75 rfl ?_
    refine ww_iconst (v := 0) hX rfl dX9_next_76 ?_
    refine ww_putI hX f_X9_37 rfl dX9_next_77 ?_
    refine ww_bds (fun s13 => ?_)
    refine ww_aload_n hX 0 rfl dX9_next_80 rfl ?_
    refine ww_aload_n hX 0 rfl dX9_next_81 rfl ?_
    refine ww_getI hX f_X9_15 (Or.inl rfl) dX9_next_82 ?_
    refine ww_putI hX f_X9_31 rfl dX9_next_85 ?_
    refine ww_bds (fun s14 => ?_)
    refine ww_pc (b := 88) rfl ?_
    exact ww_vret B dX9_next_88
def b_X9_next_36_b (fu : Nat) (k_36 : Nat → Int32 → St → Option (St)) (x0 : Nat) (x1 : Int32)  (st : St) : Option (St) :=
  ck ((kd x0).1 = 9) <|
  if (gI st x0 1) ≤ x1 then (
  b_X9_next_62 fu x0 x1  st)
  else (
  ck (¬ gR st x0 0 = 0) <|
  ck ((kd x0).1 = 9) <|
  bd (gR st x0 0) fun o15 =>
  ck ((kd o15).1 = 101 ∧ inb x1 (kd o15).2) <|
  ca (f_X9_isBlank fu (gI st o15 (ix x1)) st) fun r16 s17 =>
  if r16 = 0 then (
  b_X9_next_62 fu x0 x1  s17)
  else (
  bd (x1 + 1) fun v18 =>
  k_36 x0 v18  s17))
set_option maxHeartbeats 4000000 in
set_option maxRecDepth 100000 in
theorem t_X9_next_36_b {X : CX} {res : St} (B : BV X cX9_next RX9 3 5 NN none res) (fu : Nat) (k_36 : Nat → Int32 → St → Option (St)) (h_36 : ∀ (x0 : Nat) (x1 : Int32)  (st : St), WW X res NN 36 [(0, .ref (x_b X + x0)), (1, .int x1)] [] st (k_36 x0 x1 st)) (x0 : Nat) (x1 : Int32)  (st : St) : WW X res NN 36 [(0, .ref (x_b X + x0)), (1, .int x1)] [] st (b_X9_next_36_b fu k_36 x0 x1 st) := by
  have hX := B.1
  have hL := B.2.1
  unfold b_X9_next_36_b
  refine ww_iload_n hX 1 rfl dX9_next_36 rfl ?_
  refine ww_aload_n hX 0 rfl dX9_next_37 rfl ?_
  refine ww_getI hX f_X9_15 (Or.inl rfl) dX9_next_38 ?_
  refine ww_icmp_ge (tgt := 62) hX dX9_next_41 (by decide) ?_ ?_
  · exact t_X9_next_62 B fu x0 x1  st
  · refine ww_aload_n hX 0 rfl dX9_next_44 rfl ?_
    refine ww_getR hX f_X9_11 (Or.inr ⟨_, rfl⟩) dX9_next_45 ?_
    refine ww_bdR (fun o15 => ?_)
    refine ww_iload_n hX 1 rfl dX9_next_48 rfl ?_
    refine ww_baldc hX k_bald dX9_next_49 ?_
    refine ww_callSI (As := [.int (gI st o15 (ix x1))]) (rest := []) hX (Rk.of B.2.2.1 B.2.2.2.1 (by decide) (by decide)) g_X9_47 (c_X9_isBlank (x_G X) (x_l X) fu (gI st o15 (ix x1)) st) rfl rfl (Nat.le_of_ble_eq_true rfl) dX9_next_50 (fun r16 s17 => ?_)
    refine ww_if_eq (tgt := 62) hX dX9_next_53 (by decide) ?_ ?_
    · exact t_X9_next_62 B fu x0 x1  s17
    · refine ww_iincb (lv' := fun v18 => [(1, .int v18), (0, .ref (x_b X + x0))]) (c := 1) hX hL 1 rfl dX9_next_56 rfl (by decide) (fun _ => rfl) (fun v18 => ?_)
      refine ww_goto (tgt := 36) hX dX9_next_59 (by decide) ?_
      exact ww_sub [1, 0] rfl (h_36 x0 v18  s17)
def b_X9_next_36 (fu : Nat) : Nat → Nat → Int32 → St → Option (St)
  | 0, _, _, _ => none
  | i + 1, x0, x1, st => b_X9_next_36_b fu (b_X9_next_36 fu i) x0 x1 st
theorem t_X9_next_36 {X : CX} {res : St} (B : BV X cX9_next RX9 3 5 NN none res) (fu : Nat) : ∀ (i : Nat) (x0 : Nat) (x1 : Int32)  (st : St), WW X res NN 36 [(0, .ref (x_b X + x0)), (1, .int x1)] [] st (b_X9_next_36 fu i x0 x1 st) := by
  intro i
  induction i with
  | zero => intro x0 x1 st; exact ww_none
  | succ i ih => intro x0 x1 st; exact t_X9_next_36_b B fu (b_X9_next_36 fu i) ih x0 x1 st
def f_X9_next (fu : Nat) (th : Nat) (st : St) : Option (St) :=
  ck ((kd th).1 = 9) <|
  ck ((kd th).1 = 9) <|
  bd (sI st th 6 ((gI st th 6) + 1)) fun s1 =>
  ck ((kd th).1 = 9) <|
  ck ((kd th).1 = 9) <|
  if (gI s1 th 6) ≤ (gI s1 th 7) then (
  ck ((kd th).1 = 9) <|
  bd (gI s1 th 4) fun v2 =>
  b_X9_next_36 fu fu th v2  s1)
  else (
  ck ((kd th).1 = 9) <|
  ck ((kd th).1 = 9) <|
  cv (f_X9_fail fu th 2 (gI s1 th 3) s1) fun s19 =>
  some s19)
set_option maxHeartbeats 4000000 in
set_option maxRecDepth 100000 in
theorem t_X9_next {X : CX} {res : St} (B : BV X cX9_next RX9 3 5 NN none res) (fu : Nat) (th : Nat) (st : St) : WW X res NN 0 [(0, .ref (x_b X + th))] [] st (f_X9_next fu th st) := by
  have hX := B.1
  have hL := B.2.1
  unfold f_X9_next
  refine ww_aload_n hX 0 rfl dX9_next_0 rfl ?_
  refine ww_dup hX rfl dX9_next_1 ?_
  refine ww_getI hX f_X9_22 (Or.inl rfl) dX9_next_2 ?_
  refine ww_iconst (v := 1) hX rfl dX9_next_5 ?_
  refine ww_iadd hX dX9_next_6 ?_
  refine ww_putI hX f_X9_22 rfl dX9_next_7 ?_
  refine ww_bds (fun s1 => ?_)
  refine ww_aload_n hX 0 rfl dX9_next_10 rfl ?_
  refine ww_pc (b := 11) rfl ?_
  refine ww_getI hX f_X9_22 (Or.inl rfl) dX9_next_11 ?_
  refine ww_aload_n hX 0 rfl dX9_next_14 rfl ?_
  refine ww_getI hX f_X9_19 (Or.inl rfl) dX9_next_15 ?_
  refine ww_icmp_le (tgt := 31) hX dX9_next_18 (by decide) ?_ ?_
  · refine ww_aload_n hX 0 rfl dX9_next_31 rfl ?_
    refine ww_getI hX f_X9_31 (Or.inl rfl) dX9_next_32 ?_
    refine ww_bdi (fun v2 => ?_)
    refine ww_istore_n (lv' := [(1, .int v2), (0, .ref (x_b X + th))]) hX hL dX9_next_35 rfl (by decide) rfl ?_
    exact ww_sub [1, 0] rfl (t_X9_next_36 B fu fu th v2  s1)
  · refine ww_aload_n hX 0 rfl dX9_next_21 rfl ?_
    refine ww_iconst (v := 2) hX rfl dX9_next_22 ?_
    refine ww_aload_n hX 0 rfl dX9_next_23 rfl ?_
    refine ww_getI hX f_X9_40 (Or.inl rfl) dX9_next_24 ?_
    refine ww_callVV (As := [.int 2, .int (gI s1 th 3)]) (rest := []) (o := th) hX (Rk.of B.2.2.1 B.2.2.2.1 (by decide) (by decide)) g_X9_43 g_X9_43.in (fun _ => c_X9_fail (x_G X) (x_l X) fu th 2 (gI s1 th 3) s1) rfl rfl (Nat.le_of_ble_eq_true rfl) dX9_next_27 (fun s19 => ?_)
    exact ww_vret B dX9_next_30
theorem c_X9_next (G : GX) (l : Launch) (fu : Nat) (th : Nat) (st : St) : MV G NN l yX9_next cX9_next 3 none 5 [.ref (G.2.2.1 + th)] st (f_X9_next fu th st) := mkV (by decide) (Nat.le_of_ble_eq_true rfl) (fun X res hl hG B => by subst hl; subst hG; exact t_X9_next B fu th st)
/-! StageHouse$Tape.needWord(Ljava/lang/String;)V -/
def b_X9_needWord_24 (fu : Nat)   (st : St) : Option (St) :=
  some st
set_option maxHeartbeats 4000000 in
set_option maxRecDepth 100000 in
theorem t_X9_needWord_24 {X : CX} {res : St} (B : BV X cX9_needWord RX9 2 6 NN none res) (fu : Nat)   (st : St) : WW X res NN 24 [] [] st (b_X9_needWord_24 fu  st) := by
  have hX := B.1
  have hL := B.2.1
  unfold b_X9_needWord_24
  exact ww_vret B dX9_needWord_24
def f_X9_needWord (fu : Nat) (th : Nat) (p1 : Nat) (st : St) : Option (St) :=
  ck ((kd th).1 = 9) <|
  ca (f_X9_isWord fu th p1 st) fun r1 s2 =>
  if r1 = 0 then (
  ck ((kd th).1 = 9) <|
  ck ((kd th).1 = 9) <|
  cv (f_X9_fail fu th 1 (gI s2 th 3) s2) fun s3 =>
  b_X9_needWord_24 fu   s3)
  else (
  ck ((kd th).1 = 9) <|
  cv (f_X9_next fu th s2) fun s4 =>
  b_X9_needWord_24 fu   s4)
set_option maxHeartbeats 4000000 in
set_option maxRecDepth 100000 in
theorem t_X9_needWord {X : CX} {res : St} (B : BV X cX9_needWord RX9 2 6 NN none res) (fu : Nat) (th : Nat) (p1 : Nat) (st : St) : WW X res NN 0 [(0, .ref (x_b X + th)), (1, .ref ((x_K X).1 p1))] [] st (f_X9_needWord fu th p1 st) := by
  have hX := B.1
  have hL := B.2.1
  unfold f_X9_needWord
  refine ww_aload_n hX 0 rfl dX9_needWord_0 rfl ?_
  refine ww_aload_n hX 1 rfl dX9_needWord_1 rfl ?_
  refine ww_callVI (As := [.ref ((x_K X).1 p1)]) (rest := []) (o := th) hX (Rk.of B.2.2.1 B.2.2.2.1 (by decide) (by decide)) g_X9_87 g_X9_87.in (fun _ => c_X9_isWord (x_G X) (x_l X) fu th p1 st) rfl rfl (Nat.le_of_ble_eq_true rfl) dX9_needWord_2 (fun r1 s2 => ?_)
  refine ww_if_eq (tgt := 15) hX dX9_needWord_5 (by decide) ?_ ?_
  · refine ww_aload_n hX 0 rfl dX9_needWord_15 rfl ?_
    refine ww_iconst (v := 1) hX rfl dX9_needWord_16 ?_
    refine ww_aload_n hX 0 rfl dX9_needWord_17 rfl ?_
    refine ww_getI hX f_X9_40 (Or.inl rfl) dX9_needWord_18 ?_
    refine ww_callVV (As := [.int 1, .int (gI s2 th 3)]) (rest := []) (o := th) hX (Rk.of B.2.2.1 B.2.2.2.1 (by decide) (by decide)) g_X9_43 g_X9_43.in (fun _ => c_X9_fail (x_G X) (x_l X) fu th 1 (gI s2 th 3) s2) rfl rfl (Nat.le_of_ble_eq_true rfl) dX9_needWord_21 (fun s3 => ?_)
    exact ww_sub [] rfl (t_X9_needWord_24 B fu   s3)
  · refine ww_aload_n hX 0 rfl dX9_needWord_8 rfl ?_
    refine ww_callVV (As := []) (rest := []) (o := th) hX (Rk.of B.2.2.1 B.2.2.2.1 (by decide) (by decide)) g_X9_34 g_X9_34.in (fun _ => c_X9_next (x_G X) (x_l X) fu th s2) rfl rfl (Nat.le_of_ble_eq_true rfl) dX9_needWord_9 (fun s4 => ?_)
    refine ww_goto (tgt := 24) hX dX9_needWord_12 (by decide) ?_
    exact ww_sub [] rfl (t_X9_needWord_24 B fu   s4)
theorem c_X9_needWord (G : GX) (l : Launch) (fu : Nat) (th : Nat) (p1 : Nat) (st : St) : MV G NN l yX9_needWord cX9_needWord 2 none 6 [.ref (G.2.2.1 + th), .ref ((G.2.2.2).1 p1)] st (f_X9_needWord fu th p1 st) := mkV (by decide) (Nat.le_of_ble_eq_true rfl) (fun X res hl hG B => by subst hl; subst hG; exact t_X9_needWord B fu th p1 st)
/-! StageHouse$Tape.number(II)I -/
def b_X9_number_34 (fu : Nat) (x0 : Nat) (x1 : Int32)  (st : St) : Option (Int32 × St) :=
  ck ((kd x0).1 = 9) <|
  ck ((kd x0).1 = 9) <|
  cv (f_X9_fail fu x0 2 (gI st x0 3) st) fun s2 =>
  some (x1, s2)
set_option maxHeartbeats 4000000 in
set_option maxRecDepth 100000 in
theorem t_X9_number_34 {X : CX} {res : Int32 × St} (B : BI X cX9_number RX9 4 6 NN (some .int) res) (fu : Nat) (x0 : Nat) (x1 : Int32)  (st : St) : WW X res NN 34 [(0, .ref (x_b X + x0)), (1, .int x1)] [] st (b_X9_number_34 fu x0 x1 st) := by
  have hX := B.1
  have hL := B.2.1
  unfold b_X9_number_34
  refine ww_aload_n hX 0 rfl dX9_number_34 rfl ?_
  refine ww_iconst (v := 2) hX rfl dX9_number_35 ?_
  refine ww_aload_n hX 0 rfl dX9_number_36 rfl ?_
  refine ww_getI hX f_X9_40 (Or.inl rfl) dX9_number_37 ?_
  refine ww_callVV (As := [.int 2, .int (gI st x0 3)]) (rest := []) (o := x0) hX (Rk.of B.2.2.1 B.2.2.2.1 (by decide) (by decide)) g_X9_43 g_X9_43.in (fun _ => c_X9_fail (x_G X) (x_l X) fu x0 2 (gI st x0 3) st) rfl rfl (Nat.le_of_ble_eq_true rfl) dX9_number_40 (fun s2 => ?_)
  refine ww_iload_n hX 1 rfl dX9_number_43 rfl ?_
  exact ww_iret B dX9_number_44
def f_X9_number (fu : Nat) (th : Nat) (p1 : Int32) (p2 : Int32) (st : St) : Option (Int32 × St) :=
  ck ((kd th).1 = 9) <|
  if (gI st th 2) = 2 then (
  ck ((kd th).1 = 9) <|
  bd (gI st th 5) fun v1 =>
  if v1 < p1 then (
  b_X9_number_34 fu th p1  st)
  else (
  if v1 ≤ p2 then (
  ck ((kd th).1 = 9) <|
  cv (f_X9_next fu th st) fun s3 =>
  some (v1, s3))
  else (
  b_X9_number_34 fu th p1  st)))
  else (
  ck ((kd th).1 = 9) <|
  ck ((kd th).1 = 9) <|
  cv (f_X9_fail fu th 1 (gI st th 3) st) fun s4 =>
  some (p1, s4))
set_option maxHeartbeats 4000000 in
set_option maxRecDepth 100000 in
theorem t_X9_number {X : CX} {res : Int32 × St} (B : BI X cX9_number RX9 4 6 NN (some .int) res) (fu : Nat) (th : Nat) (p1 : Int32) (p2 : Int32) (st : St) : WW X res NN 0 [(0, .ref (x_b X + th)), (1, .int p1), (2, .int p2)] [] st (f_X9_number fu th p1 p2 st) := by
  have hX := B.1
  have hL := B.2.1
  unfold f_X9_number
  refine ww_aload_n hX 0 rfl dX9_number_0 rfl ?_
  refine ww_getI hX f_X9_37 (Or.inl rfl) dX9_number_1 ?_
  refine ww_iconst (v := 2) hX rfl dX9_number_4 ?_
  refine ww_icmp_eq (tgt := 19) hX dX9_number_5 (by decide) ?_ ?_
  · refine ww_aload_n hX 0 rfl dX9_number_19 rfl ?_
    refine ww_getI hX f_X9_65 (Or.inl rfl) dX9_number_20 ?_
    refine ww_bdi (fun v1 => ?_)
    refine ww_istore_n (lv' := [(3, .int v1), (0, .ref (x_b X + th)), (1, .int p1), (2, .int p2)]) hX hL dX9_number_23 rfl (by decide) rfl ?_
    refine ww_iload_n hX 0 rfl dX9_number_24 rfl ?_
    refine ww_iload_n hX 2 rfl dX9_number_25 rfl ?_
    refine ww_icmp_lt (tgt := 34) hX dX9_number_26 (by decide) ?_ ?_
    · exact ww_sub [1, 2] rfl (t_X9_number_34 B fu th p1  st)
    · refine ww_iload_n hX 0 rfl dX9_number_29 rfl ?_
      refine ww_iload_n hX 3 rfl dX9_number_30 rfl ?_
      refine ww_icmp_le (tgt := 45) hX dX9_number_31 (by decide) ?_ ?_
      · refine ww_aload_n hX 1 rfl dX9_number_45 rfl ?_
        refine ww_callVV (As := []) (rest := []) (o := th) hX (Rk.of B.2.2.1 B.2.2.2.1 (by decide) (by decide)) g_X9_34 g_X9_34.in (fun _ => c_X9_next (x_G X) (x_l X) fu th st) rfl rfl (Nat.le_of_ble_eq_true rfl) dX9_number_46 (fun s3 => ?_)
        refine ww_iload_n hX 0 rfl dX9_number_49 rfl ?_
        exact ww_iret B dX9_number_50
      · exact ww_sub [1, 2] rfl (t_X9_number_34 B fu th p1  st)
  · refine ww_aload_n hX 0 rfl dX9_number_8 rfl ?_
    refine ww_iconst (v := 1) hX rfl dX9_number_9 ?_
    refine ww_aload_n hX 0 rfl dX9_number_10 rfl ?_
    refine ww_getI hX f_X9_40 (Or.inl rfl) dX9_number_11 ?_
    refine ww_callVV (As := [.int 1, .int (gI st th 3)]) (rest := []) (o := th) hX (Rk.of B.2.2.1 B.2.2.2.1 (by decide) (by decide)) g_X9_43 g_X9_43.in (fun _ => c_X9_fail (x_G X) (x_l X) fu th 1 (gI st th 3) st) rfl rfl (Nat.le_of_ble_eq_true rfl) dX9_number_14 (fun s4 => ?_)
    refine ww_iload_n hX 1 rfl dX9_number_17 rfl ?_
    exact ww_iret B dX9_number_18
theorem c_X9_number (G : GX) (l : Launch) (fu : Nat) (th : Nat) (p1 : Int32) (p2 : Int32) (st : St) : MI G NN l yX9_number cX9_number 4 (some .int) 6 [.ref (G.2.2.1 + th), .int p1, .int p2] st (f_X9_number fu th p1 p2 st) := mkI (by decide) (Nat.le_of_ble_eq_true rfl) (fun X res hl hG B => by subst hl; subst hG; exact t_X9_number B fu th p1 p2 st)
/-! StageHouse$Tape.takesWord(Ljava/lang/String;)Z -/
def f_X9_takesWord (fu : Nat) (th : Nat) (p1 : Nat) (st : St) : Option (Int32 × St) :=
  ck ((kd th).1 = 9) <|
  ca (f_X9_isWord fu th p1 st) fun r1 s2 =>
  if r1 = 0 then (
  ck (isb 0) (some (0, s2)))
  else (
  ck ((kd th).1 = 9) <|
  cv (f_X9_next fu th s2) fun s3 =>
  ck (isb 1) (some (1, s3)))
set_option maxHeartbeats 4000000 in
set_option maxRecDepth 100000 in
theorem t_X9_takesWord {X : CX} {res : Int32 × St} (B : BI X cX9_takesWord RX9 2 6 NN (some .boolean) res) (fu : Nat) (th : Nat) (p1 : Nat) (st : St) : WW X res NN 0 [(0, .ref (x_b X + th)), (1, .ref ((x_K X).1 p1))] [] st (f_X9_takesWord fu th p1 st) := by
  have hX := B.1
  have hL := B.2.1
  unfold f_X9_takesWord
  refine ww_aload_n hX 0 rfl dX9_takesWord_0 rfl ?_
  refine ww_aload_n hX 1 rfl dX9_takesWord_1 rfl ?_
  refine ww_callVI (As := [.ref ((x_K X).1 p1)]) (rest := []) (o := th) hX (Rk.of B.2.2.1 B.2.2.2.1 (by decide) (by decide)) g_X9_87 g_X9_87.in (fun _ => c_X9_isWord (x_G X) (x_l X) fu th p1 st) rfl rfl (Nat.le_of_ble_eq_true rfl) dX9_takesWord_2 (fun r1 s2 => ?_)
  refine ww_if_ne (tgt := 10) hX dX9_takesWord_5 (by decide) ?_ ?_
  · refine ww_aload_n hX 0 rfl dX9_takesWord_10 rfl ?_
    refine ww_callVV (As := []) (rest := []) (o := th) hX (Rk.of B.2.2.1 B.2.2.2.1 (by decide) (by decide)) g_X9_34 g_X9_34.in (fun _ => c_X9_next (x_G X) (x_l X) fu th s2) rfl rfl (Nat.le_of_ble_eq_true rfl) dX9_takesWord_11 (fun s3 => ?_)
    refine ww_iconst (v := 1) hX rfl dX9_takesWord_14 ?_
    exact ww_zret B dX9_takesWord_15
  · refine ww_iconst (v := 0) hX rfl dX9_takesWord_8 ?_
    exact ww_zret B dX9_takesWord_9
theorem c_X9_takesWord (G : GX) (l : Launch) (fu : Nat) (th : Nat) (p1 : Nat) (st : St) : MI G NN l yX9_takesWord cX9_takesWord 2 (some .boolean) 6 [.ref (G.2.2.1 + th), .ref ((G.2.2.2).1 p1)] st (f_X9_takesWord fu th p1 st) := mkI (by decide) (Nat.le_of_ble_eq_true rfl) (fun X res hl hG B => by subst hl; subst hG; exact t_X9_takesWord B fu th p1 st)
/-! StageHouse$Parties.readTerm(LStageHouse$Tape;I)V -/
def b_X5_readTerm_80 (fu : Nat) (x0 : Nat) (x2 : Int32) (x4 : Int32) (y0 : Int32) (st : St) : Option (St) :=
  ck (¬ gR st x0 1 = 0) <|
  ck ((kd x0).1 = 5) <|
  bd (gR st x0 1) fun o12 =>
  bd (x2 + y0) fun v13 =>
  ck ((kd o12).1 = 100 ∧ inb v13 (kd o12).2) <|
  ck ((kd o12).1 = 100 ∧ inb v13 (kd o12).2) <|
  bd (sI st o12 (ix v13) ((gI st o12 (ix v13)) + x4)) fun s14 =>
  some s14
set_option maxHeartbeats 4000000 in
set_option maxRecDepth 100000 in
theorem t_X5_readTerm_80 {X : CX} {res : St} (B : BV X cX5_readTerm RX5 6 7 NN none res) (fu : Nat) (x0 : Nat) (x2 : Int32) (x4 : Int32) (y0 : Int32) (st : St) : WW X res NN 80 [(0, .ref (x_b X + x0)), (2, .int x2), (4, .int x4)] [.int y0] st (b_X5_readTerm_80 fu x0 x2 x4 y0 st) := by
  have hX := B.1
  have hL := B.2.1
  unfold b_X5_readTerm_80
  refine ww_istore (lv' := [(5, .int y0), (0, .ref (x_b X + x0)), (2, .int x2), (4, .int x4)]) hX hL dX5_readTerm_80 (by decide) rfl ?_
  refine ww_aload_n hX 1 rfl dX5_readTerm_82 rfl ?_
  refine ww_getR hX f_X5_13 (Or.inr ⟨_, rfl⟩) dX5_readTerm_83 ?_
  refine ww_bdR (fun o12 => ?_)
  refine ww_iload_n hX 2 rfl dX5_readTerm_86 rfl ?_
  refine ww_iload hX 0 rfl dX5_readTerm_87 ?_
  refine ww_iadd hX dX5_readTerm_89 ?_
  refine ww_bdi (fun v13 => ?_)
  refine ww_dup2_11 hX rfl rfl dX5_readTerm_90 ?_
  refine ww_pc (b := 91) rfl ?_
  refine ww_ialdc hX k_iald dX5_readTerm_91 ?_
  refine ww_iload hX 3 rfl dX5_readTerm_92 ?_
  refine ww_iadd hX dX5_readTerm_94 ?_
  refine ww_iastc hX k_iast dX5_readTerm_95 ?_
  refine ww_bds (fun s14 => ?_)
  exact ww_vret B dX5_readTerm_96
def f_X5_readTerm (fu : Nat) (th : Nat) (p1 : Nat) (p2 : Int32) (st : St) : Option (St) :=
  ck ((kd p1).1 = 9) <|
  bd (gI st p1 3) fun v1 =>
  ck ((kd p1).1 = 9) <|
  ca (f_X9_number fu p1 0 99999 st) fun r2 s3 =>
  ck ((kd p1).1 = 9) <|
  ca (f_X9_isSign fu p1 37 s3) fun r4 s5 =>
  if r4 = 0 then (
  ck (¬ gR s5 th 1 = 0) <|
  ck ((kd th).1 = 5) <|
  bd (gR s5 th 1) fun o16 =>
  bd (p2 + 4) fun v17 =>
  ck ((kd o16).1 = 100 ∧ inb v17 (kd o16).2) <|
  ck ((kd o16).1 = 100 ∧ inb v17 (kd o16).2) <|
  bd (sI s5 o16 (ix v17) ((gI s5 o16 (ix v17)) + r2)) fun s18 =>
  some s18)
  else (
  if r2 ≤ 100 then (
  ck ((kd p1).1 = 9) <|
  cv (f_X9_next fu p1 s5) fun s6 =>
  ck ((kd p1).1 = 9) <|
  cv (f_X9_needWord fu p1 22 s6) fun s7 =>
  ck ((kd p1).1 = 9) <|
  ca (f_X9_takesWord fu p1 23 s7) fun r8 s9 =>
  if r8 = 0 then (
  ck ((kd p1).1 = 9) <|
  ca (f_X9_number fu p1 0 2 s9) fun r10 s11 =>
  b_X5_readTerm_80 fu th p2 r2 r10 s11)
  else (
  b_X5_readTerm_80 fu th p2 r2 3 s9))
  else (
  ck ((kd p1).1 = 9) <|
  cv (f_X9_fail fu p1 2 v1 s5) fun s15 =>
  some s15))
set_option maxHeartbeats 4000000 in
set_option maxRecDepth 100000 in
theorem t_X5_readTerm {X : CX} {res : St} (B : BV X cX5_readTerm RX5 6 7 NN none res) (fu : Nat) (th : Nat) (p1 : Nat) (p2 : Int32) (st : St) : WW X res NN 0 [(0, .ref (x_b X + th)), (1, .ref (x_b X + p1)), (2, .int p2)] [] st (f_X5_readTerm fu th p1 p2 st) := by
  have hX := B.1
  have hL := B.2.1
  unfold f_X5_readTerm
  refine ww_aload_n hX 1 rfl dX5_readTerm_0 rfl ?_
  refine ww_getI hX f_X5_39 (Or.inl rfl) dX5_readTerm_1 ?_
  refine ww_bdi (fun v1 => ?_)
  refine ww_istore_n (lv' := [(3, .int v1), (0, .ref (x_b X + th)), (1, .ref (x_b X + p1)), (2, .int p2)]) hX hL dX5_readTerm_4 rfl (by decide) rfl ?_
  refine ww_aload_n hX 2 rfl dX5_readTerm_5 rfl ?_
  refine ww_iconst (v := 0) hX rfl dX5_readTerm_6 ?_
  refine ww_ldc (v := 99999) hX k_X5_77 dX5_readTerm_7 ?_
  refine ww_callVI (As := [.int 0, .int 99999]) (rest := []) (o := p1) hX (Rk.of B.2.2.1 B.2.2.2.1 (by decide) (by decide)) g_X5_42 g_X5_42.in (fun _ => c_X9_number (x_G X) (x_l X) fu p1 0 99999 st) rfl rfl (Nat.le_of_ble_eq_true rfl) dX5_readTerm_9 (fun r2 s3 => ?_)
  refine ww_pc (b := 12) rfl ?_
  refine ww_istore (lv' := [(4, .int r2), (3, .int v1), (0, .ref (x_b X + th)), (1, .ref (x_b X + p1)), (2, .int p2)]) hX hL dX5_readTerm_12 (by decide) rfl ?_
  refine ww_aload_n hX 3 rfl dX5_readTerm_14 rfl ?_
  refine ww_bipush (v := 37) hX rfl dX5_readTerm_15 ?_
  refine ww_callVI (As := [.int 37]) (rest := []) (o := p1) hX (Rk.of B.2.2.1 B.2.2.2.1 (by decide) (by decide)) g_X5_78 g_X5_78.in (fun _ => c_X9_isSign (x_G X) (x_l X) fu p1 37 s3) rfl rfl (Nat.le_of_ble_eq_true rfl) dX5_readTerm_17 (fun r4 s5 => ?_)
  refine ww_if_ne (tgt := 37) hX dX5_readTerm_20 (by decide) ?_ ?_
  · refine ww_iload hX 0 rfl dX5_readTerm_37 ?_
    refine ww_bipush (v := 100) hX rfl dX5_readTerm_39 ?_
    refine ww_icmp_le (tgt := 51) hX dX5_readTerm_41 (by decide) ?_ ?_
    · refine ww_aload_n hX 3 rfl dX5_readTerm_51 rfl ?_
      refine ww_callVV (As := []) (rest := []) (o := p1) hX (Rk.of B.2.2.1 B.2.2.2.1 (by decide) (by decide)) g_X5_81 g_X5_81.in (fun _ => c_X9_next (x_G X) (x_l X) fu p1 s5) rfl rfl (Nat.le_of_ble_eq_true rfl) dX5_readTerm_52 (fun s6 => ?_)
      refine ww_aload_n hX 3 rfl dX5_readTerm_55 rfl ?_
      refine ww_ldcS (q := 23) hX rfl dX5_readTerm_56 ?_
      refine ww_callVV (As := [.ref ((x_K X).1 22)]) (rest := []) (o := p1) hX (Rk.of B.2.2.1 B.2.2.2.1 (by decide) (by decide)) g_X5_86 g_X5_86.in (fun _ => c_X9_needWord (x_G X) (x_l X) fu p1 22 s6) rfl rfl (Nat.le_of_ble_eq_true rfl) dX5_readTerm_58 (fun s7 => ?_)
      refine ww_aload_n hX 3 rfl dX5_readTerm_61 rfl ?_
      refine ww_ldcS (q := 24) hX rfl dX5_readTerm_62 ?_
      refine ww_pc (b := 64) rfl ?_
      refine ww_callVI (As := [.ref ((x_K X).1 23)]) (rest := []) (o := p1) hX (Rk.of B.2.2.1 B.2.2.2.1 (by decide) (by decide)) g_X5_92 g_X5_92.in (fun _ => c_X9_takesWord (x_G X) (x_l X) fu p1 23 s7) rfl rfl (Nat.le_of_ble_eq_true rfl) dX5_readTerm_64 (fun r8 s9 => ?_)
      refine ww_if_eq (tgt := 74) hX dX5_readTerm_67 (by decide) ?_ ?_
      · refine ww_aload_n hX 3 rfl dX5_readTerm_74 rfl ?_
        refine ww_iconst (v := 0) hX rfl dX5_readTerm_75 ?_
        refine ww_iconst (v := 2) hX rfl dX5_readTerm_76 ?_
        refine ww_callVI (As := [.int 0, .int 2]) (rest := []) (o := p1) hX (Rk.of B.2.2.1 B.2.2.2.1 (by decide) (by decide)) g_X5_42 g_X5_42.in (fun _ => c_X9_number (x_G X) (x_l X) fu p1 0 2 s9) rfl rfl (Nat.le_of_ble_eq_true rfl) dX5_readTerm_77 (fun r10 s11 => ?_)
        exact ww_sub [2, 4, 0] rfl (t_X5_readTerm_80 B fu th p2 r2 r10 s11)
      · refine ww_iconst (v := 3) hX rfl dX5_readTerm_70 ?_
        refine ww_goto (tgt := 80) hX dX5_readTerm_71 (by decide) ?_
        exact ww_sub [2, 4, 0] rfl (t_X5_readTerm_80 B fu th p2 r2 3 s9)
    · refine ww_aload_n hX 3 rfl dX5_readTerm_44 rfl ?_
      refine ww_iconst (v := 2) hX rfl dX5_readTerm_45 ?_
      refine ww_iload_n hX 1 rfl dX5_readTerm_46 rfl ?_
      refine ww_callVV (As := [.int 2, .int v1]) (rest := []) (o := p1) hX (Rk.of B.2.2.1 B.2.2.2.1 (by decide) (by decide)) g_X5_49 g_X5_49.in (fun _ => c_X9_fail (x_G X) (x_l X) fu p1 2 v1 s5) rfl rfl (Nat.le_of_ble_eq_true rfl) dX5_readTerm_47 (fun s15 => ?_)
      exact ww_vret B dX5_readTerm_50
  · refine ww_aload_n hX 2 rfl dX5_readTerm_23 rfl ?_
    refine ww_getR hX f_X5_13 (Or.inr ⟨_, rfl⟩) dX5_readTerm_24 ?_
    refine ww_bdR (fun o16 => ?_)
    refine ww_iload_n hX 4 rfl dX5_readTerm_27 rfl ?_
    refine ww_iconst (v := 4) hX rfl dX5_readTerm_28 ?_
    refine ww_iadd hX dX5_readTerm_29 ?_
    refine ww_bdi (fun v17 => ?_)
    refine ww_dup2_11 hX rfl rfl dX5_readTerm_30 ?_
    refine ww_ialdc hX k_iald dX5_readTerm_31 ?_
    refine ww_pc (b := 32) rfl ?_
    refine ww_iload hX 0 rfl dX5_readTerm_32 ?_
    refine ww_iadd hX dX5_readTerm_34 ?_
    refine ww_iastc hX k_iast dX5_readTerm_35 ?_
    refine ww_bds (fun s18 => ?_)
    exact ww_vret B dX5_readTerm_36
theorem c_X5_readTerm (G : GX) (l : Launch) (fu : Nat) (th : Nat) (p1 : Nat) (p2 : Int32) (st : St) : MV G NN l yX5_readTerm cX5_readTerm 6 none 7 [.ref (G.2.2.1 + th), .ref (G.2.2.1 + p1), .int p2] st (f_X5_readTerm fu th p1 p2 st) := mkV (by decide) (Nat.le_of_ble_eq_true rfl) (fun X res hl hG B => by subst hl; subst hG; exact t_X5_readTerm B fu th p1 p2 st)
/-! StageHouse$Tape.takes(C)Z -/
def f_X9_takes (fu : Nat) (th : Nat) (p1 : Int32) (st : St) : Option (Int32 × St) :=
  ck ((kd th).1 = 9) <|
  ca (f_X9_isSign fu th p1 st) fun r1 s2 =>
  if r1 = 0 then (
  ck (isb 0) (some (0, s2)))
  else (
  ck ((kd th).1 = 9) <|
  cv (f_X9_next fu th s2) fun s3 =>
  ck (isb 1) (some (1, s3)))
set_option maxHeartbeats 4000000 in
set_option maxRecDepth 100000 in
theorem t_X9_takes {X : CX} {res : Int32 × St} (B : BI X cX9_takes RX9 2 6 NN (some .boolean) res) (fu : Nat) (th : Nat) (p1 : Int32) (st : St) : WW X res NN 0 [(0, .ref (x_b X + th)), (1, .int p1)] [] st (f_X9_takes fu th p1 st) := by
  have hX := B.1
  have hL := B.2.1
  unfold f_X9_takes
  refine ww_aload_n hX 0 rfl dX9_takes_0 rfl ?_
  refine ww_iload_n hX 1 rfl dX9_takes_1 rfl ?_
  refine ww_callVI (As := [.int p1]) (rest := []) (o := th) hX (Rk.of B.2.2.1 B.2.2.2.1 (by decide) (by decide)) g_X9_76 g_X9_76.in (fun _ => c_X9_isSign (x_G X) (x_l X) fu th p1 st) rfl rfl (Nat.le_of_ble_eq_true rfl) dX9_takes_2 (fun r1 s2 => ?_)
  refine ww_if_ne (tgt := 10) hX dX9_takes_5 (by decide) ?_ ?_
  · refine ww_aload_n hX 0 rfl dX9_takes_10 rfl ?_
    refine ww_callVV (As := []) (rest := []) (o := th) hX (Rk.of B.2.2.1 B.2.2.2.1 (by decide) (by decide)) g_X9_34 g_X9_34.in (fun _ => c_X9_next (x_G X) (x_l X) fu th s2) rfl rfl (Nat.le_of_ble_eq_true rfl) dX9_takes_11 (fun s3 => ?_)
    refine ww_iconst (v := 1) hX rfl dX9_takes_14 ?_
    exact ww_zret B dX9_takes_15
  · refine ww_iconst (v := 0) hX rfl dX9_takes_8 ?_
    exact ww_zret B dX9_takes_9
theorem c_X9_takes (G : GX) (l : Launch) (fu : Nat) (th : Nat) (p1 : Int32) (st : St) : MI G NN l yX9_takes cX9_takes 2 (some .boolean) 6 [.ref (G.2.2.1 + th), .int p1] st (f_X9_takes fu th p1 st) := mkI (by decide) (Nat.le_of_ble_eq_true rfl) (fun X res hl hG B => by subst hl; subst hG; exact t_X9_takes B fu th p1 st)
/-! StageHouse$Parties.readTerms(LStageHouse$Tape;I)V -/
def b_X5_readTerms_53 (fu : Nat)   (st : St) : Option (St) :=
  some st
set_option maxHeartbeats 4000000 in
set_option maxRecDepth 100000 in
theorem t_X5_readTerms_53 {X : CX} {res : St} (B : BV X cX5_readTerms RX5 4 8 NN none res) (fu : Nat)   (st : St) : WW X res NN 53 [] [] st (b_X5_readTerms_53 fu  st) := by
  have hX := B.1
  have hL := B.2.1
  unfold b_X5_readTerms_53
  exact ww_vret B dX5_readTerms_53
def b_X5_readTerms_29 (fu : Nat) (k_2 : Nat → Nat → Int32 → Int32 → St → Option (St)) (x0 : Nat) (x1 : Nat) (x2 : Int32) (x3 : Int32)  (st : St) : Option (St) :=
  ck ((kd x0).1 = 5) <|
  cv (f_X5_readTerm fu x0 x1 x2 st) fun s1 =>
  ck ((kd x1).1 = 9) <|
  ca (f_X9_takes fu x1 43 s1) fun r2 s3 =>
  if r2 = 0 then (
  b_X5_readTerms_53 fu   s3)
  else (
  bd (x3 + 1) fun v4 =>
  k_2 x0 x1 x2 v4  s3)
set_option maxHeartbeats 4000000 in
set_option maxRecDepth 100000 in
theorem t_X5_readTerms_29 {X : CX} {res : St} (B : BV X cX5_readTerms RX5 4 8 NN none res) (fu : Nat) (k_2 : Nat → Nat → Int32 → Int32 → St → Option (St)) (h_2 : ∀ (x0 : Nat) (x1 : Nat) (x2 : Int32) (x3 : Int32)  (st : St), WW X res NN 2 [(0, .ref (x_b X + x0)), (1, .ref (x_b X + x1)), (2, .int x2), (3, .int x3)] [] st (k_2 x0 x1 x2 x3 st)) (x0 : Nat) (x1 : Nat) (x2 : Int32) (x3 : Int32)  (st : St) : WW X res NN 29 [(0, .ref (x_b X + x0)), (1, .ref (x_b X + x1)), (2, .int x2), (3, .int x3)] [] st (b_X5_readTerms_29 fu k_2 x0 x1 x2 x3 st) := by
  have hX := B.1
  have hL := B.2.1
  unfold b_X5_readTerms_29
  refine ww_aload_n hX 0 rfl dX5_readTerms_29 rfl ?_
  refine ww_aload_n hX 1 rfl dX5_readTerms_30 rfl ?_
  refine ww_iload_n hX 2 rfl dX5_readTerms_31 rfl ?_
  refine ww_callVV (As := [.ref (x_b X + x1), .int x2]) (rest := []) (o := x0) hX (Rk.of B.2.2.1 B.2.2.2.1 (by decide) (by decide)) g_X5_70 g_X5_70.in (fun _ => c_X5_readTerm (x_G X) (x_l X) fu x0 x1 x2 st) rfl rfl (Nat.le_of_ble_eq_true rfl) dX5_readTerms_32 (fun s1 => ?_)
  refine ww_aload_n hX 1 rfl dX5_readTerms_35 rfl ?_
  refine ww_bipush (v := 43) hX rfl dX5_readTerms_36 ?_
  refine ww_callVI (As := [.int 43]) (rest := []) (o := x1) hX (Rk.of B.2.2.1 B.2.2.2.1 (by decide) (by decide)) g_X5_73 g_X5_73.in (fun _ => c_X9_takes (x_G X) (x_l X) fu x1 43 s1) rfl rfl (Nat.le_of_ble_eq_true rfl) dX5_readTerms_38 (fun r2 s3 => ?_)
  refine ww_pc (b := 41) rfl ?_
  refine ww_if_ne (tgt := 47) hX dX5_readTerms_41 (by decide) ?_ ?_
  · refine ww_iincb (lv' := fun v4 => [(3, .int v4), (0, .ref (x_b X + x0)), (1, .ref (x_b X + x1)), (2, .int x2)]) (c := 1) hX hL 3 rfl dX5_readTerms_47 rfl (by decide) (fun _ => rfl) (fun v4 => ?_)
    refine ww_goto (tgt := 2) hX dX5_readTerms_50 (by decide) ?_
    exact ww_sub [1, 2, 3, 0] rfl (h_2 x0 x1 x2 v4  s3)
  · refine ww_goto (tgt := 53) hX dX5_readTerms_44 (by decide) ?_
    exact ww_sub [] rfl (t_X5_readTerms_53 B fu   s3)
def b_X5_readTerms_2_b (fu : Nat) (k_2 : Nat → Nat → Int32 → Int32 → St → Option (St)) (x0 : Nat) (x1 : Nat) (x2 : Int32) (x3 : Int32)  (st : St) : Option (St) :=
  if 5 ≤ x3 then (
  b_X5_readTerms_53 fu   st)
  else (
  if x3 = 4 then (
  ck ((kd x1).1 = 9) <|
  if (gI st x1 2) = 2 then (
  ck ((kd x1).1 = 9) <|
  ck ((kd x1).1 = 9) <|
  cv (f_X9_fail fu x1 2 (gI st x1 3) st) fun s5 =>
  b_X5_readTerms_29 fu k_2 x0 x1 x2 x3  s5)
  else (
  b_X5_readTerms_29 fu k_2 x0 x1 x2 x3  st))
  else (
  b_X5_readTerms_29 fu k_2 x0 x1 x2 x3  st))
set_option maxHeartbeats 4000000 in
set_option maxRecDepth 100000 in
theorem t_X5_readTerms_2_b {X : CX} {res : St} (B : BV X cX5_readTerms RX5 4 8 NN none res) (fu : Nat) (k_2 : Nat → Nat → Int32 → Int32 → St → Option (St)) (h_2 : ∀ (x0 : Nat) (x1 : Nat) (x2 : Int32) (x3 : Int32)  (st : St), WW X res NN 2 [(0, .ref (x_b X + x0)), (1, .ref (x_b X + x1)), (2, .int x2), (3, .int x3)] [] st (k_2 x0 x1 x2 x3 st)) (x0 : Nat) (x1 : Nat) (x2 : Int32) (x3 : Int32)  (st : St) : WW X res NN 2 [(0, .ref (x_b X + x0)), (1, .ref (x_b X + x1)), (2, .int x2), (3, .int x3)] [] st (b_X5_readTerms_2_b fu k_2 x0 x1 x2 x3 st) := by
  have hX := B.1
  have hL := B.2.1
  unfold b_X5_readTerms_2_b
  refine ww_iload_n hX 3 rfl dX5_readTerms_2 rfl ?_
  refine ww_iconst (v := 5) hX rfl dX5_readTerms_3 ?_
  refine ww_icmp_ge (tgt := 53) hX dX5_readTerms_4 (by decide) ?_ ?_
  · exact ww_sub [] rfl (t_X5_readTerms_53 B fu   st)
  · refine ww_iload_n hX 3 rfl dX5_readTerms_7 rfl ?_
    refine ww_iconst (v := 4) hX rfl dX5_readTerms_8 ?_
    refine ww_icmp_ne (tgt := 29) hX dX5_readTerms_9 (by decide) ?_ ?_
    · exact t_X5_readTerms_29 B fu k_2 h_2 x0 x1 x2 x3  st
    · refine ww_aload_n hX 1 rfl dX5_readTerms_12 rfl ?_
      refine ww_getI hX f_X5_35 (Or.inl rfl) dX5_readTerms_13 ?_
      refine ww_iconst (v := 2) hX rfl dX5_readTerms_16 ?_
      refine ww_icmp_ne (tgt := 29) hX dX5_readTerms_17 (by decide) ?_ ?_
      · exact t_X5_readTerms_29 B fu k_2 h_2 x0 x1 x2 x3  st
      · refine ww_aload_n hX 1 rfl dX5_readTerms_20 rfl ?_
        refine ww_iconst (v := 2) hX rfl dX5_readTerms_21 ?_
        refine ww_aload_n hX 1 rfl dX5_readTerms_22 rfl ?_
        refine ww_getI hX f_X5_39 (Or.inl rfl) dX5_readTerms_23 ?_
        refine ww_callVV (As := [.int 2, .int (gI st x1 3)]) (rest := []) (o := x1) hX (Rk.of B.2.2.1 B.2.2.2.1 (by decide) (by decide)) g_X5_49 g_X5_49.in (fun _ => c_X9_fail (x_G X) (x_l X) fu x1 2 (gI st x1 3) st) rfl rfl (Nat.le_of_ble_eq_true rfl) dX5_readTerms_26 (fun s5 => ?_)
        exact t_X5_readTerms_29 B fu k_2 h_2 x0 x1 x2 x3  s5
def b_X5_readTerms_2 (fu : Nat) : Nat → Nat → Nat → Int32 → Int32 → St → Option (St)
  | 0, _, _, _, _, _ => none
  | i + 1, x0, x1, x2, x3, st => b_X5_readTerms_2_b fu (b_X5_readTerms_2 fu i) x0 x1 x2 x3 st
theorem t_X5_readTerms_2 {X : CX} {res : St} (B : BV X cX5_readTerms RX5 4 8 NN none res) (fu : Nat) : ∀ (i : Nat) (x0 : Nat) (x1 : Nat) (x2 : Int32) (x3 : Int32)  (st : St), WW X res NN 2 [(0, .ref (x_b X + x0)), (1, .ref (x_b X + x1)), (2, .int x2), (3, .int x3)] [] st (b_X5_readTerms_2 fu i x0 x1 x2 x3 st) := by
  intro i
  induction i with
  | zero => intro x0 x1 x2 x3 st; exact ww_none
  | succ i ih => intro x0 x1 x2 x3 st; exact t_X5_readTerms_2_b B fu (b_X5_readTerms_2 fu i) ih x0 x1 x2 x3 st
def f_X5_readTerms (fu : Nat) (th : Nat) (p1 : Nat) (p2 : Int32) (st : St) : Option (St) :=
  b_X5_readTerms_2 fu fu th p1 p2 0  st
set_option maxHeartbeats 4000000 in
set_option maxRecDepth 100000 in
theorem t_X5_readTerms {X : CX} {res : St} (B : BV X cX5_readTerms RX5 4 8 NN none res) (fu : Nat) (th : Nat) (p1 : Nat) (p2 : Int32) (st : St) : WW X res NN 0 [(0, .ref (x_b X + th)), (1, .ref (x_b X + p1)), (2, .int p2)] [] st (f_X5_readTerms fu th p1 p2 st) := by
  have hX := B.1
  have hL := B.2.1
  unfold f_X5_readTerms
  refine ww_iconst (v := 0) hX rfl dX5_readTerms_0 ?_
  refine ww_istore_n (lv' := [(3, .int 0), (0, .ref (x_b X + th)), (1, .ref (x_b X + p1)), (2, .int p2)]) hX hL dX5_readTerms_1 rfl (by decide) rfl ?_
  exact ww_sub [1, 2, 3, 0] rfl (t_X5_readTerms_2 B fu fu th p1 p2 0  st)
theorem c_X5_readTerms (G : GX) (l : Launch) (fu : Nat) (th : Nat) (p1 : Nat) (p2 : Int32) (st : St) : MV G NN l yX5_readTerms cX5_readTerms 4 none 8 [.ref (G.2.2.1 + th), .ref (G.2.2.1 + p1), .int p2] st (f_X5_readTerms fu th p1 p2 st) := mkV (by decide) (Nat.le_of_ble_eq_true rfl) (fun X res hl hG B => by subst hl; subst hG; exact t_X5_readTerms B fu th p1 p2 st)
/-! StageHouse$Tape.need(C)V -/
def b_X9_need_24 (fu : Nat)   (st : St) : Option (St) :=
  some st
set_option maxHeartbeats 4000000 in
set_option maxRecDepth 100000 in
theorem t_X9_need_24 {X : CX} {res : St} (B : BV X cX9_need RX9 2 6 NN none res) (fu : Nat)   (st : St) : WW X res NN 24 [] [] st (b_X9_need_24 fu  st) := by
  have hX := B.1
  have hL := B.2.1
  unfold b_X9_need_24
  exact ww_vret B dX9_need_24
def f_X9_need (fu : Nat) (th : Nat) (p1 : Int32) (st : St) : Option (St) :=
  ck ((kd th).1 = 9) <|
  ca (f_X9_isSign fu th p1 st) fun r1 s2 =>
  if r1 = 0 then (
  ck ((kd th).1 = 9) <|
  ck ((kd th).1 = 9) <|
  cv (f_X9_fail fu th 1 (gI s2 th 3) s2) fun s3 =>
  b_X9_need_24 fu   s3)
  else (
  ck ((kd th).1 = 9) <|
  cv (f_X9_next fu th s2) fun s4 =>
  b_X9_need_24 fu   s4)
set_option maxHeartbeats 4000000 in
set_option maxRecDepth 100000 in
theorem t_X9_need {X : CX} {res : St} (B : BV X cX9_need RX9 2 6 NN none res) (fu : Nat) (th : Nat) (p1 : Int32) (st : St) : WW X res NN 0 [(0, .ref (x_b X + th)), (1, .int p1)] [] st (f_X9_need fu th p1 st) := by
  have hX := B.1
  have hL := B.2.1
  unfold f_X9_need
  refine ww_aload_n hX 0 rfl dX9_need_0 rfl ?_
  refine ww_iload_n hX 1 rfl dX9_need_1 rfl ?_
  refine ww_callVI (As := [.int p1]) (rest := []) (o := th) hX (Rk.of B.2.2.1 B.2.2.2.1 (by decide) (by decide)) g_X9_76 g_X9_76.in (fun _ => c_X9_isSign (x_G X) (x_l X) fu th p1 st) rfl rfl (Nat.le_of_ble_eq_true rfl) dX9_need_2 (fun r1 s2 => ?_)
  refine ww_if_eq (tgt := 15) hX dX9_need_5 (by decide) ?_ ?_
  · refine ww_aload_n hX 0 rfl dX9_need_15 rfl ?_
    refine ww_iconst (v := 1) hX rfl dX9_need_16 ?_
    refine ww_aload_n hX 0 rfl dX9_need_17 rfl ?_
    refine ww_getI hX f_X9_40 (Or.inl rfl) dX9_need_18 ?_
    refine ww_callVV (As := [.int 1, .int (gI s2 th 3)]) (rest := []) (o := th) hX (Rk.of B.2.2.1 B.2.2.2.1 (by decide) (by decide)) g_X9_43 g_X9_43.in (fun _ => c_X9_fail (x_G X) (x_l X) fu th 1 (gI s2 th 3) s2) rfl rfl (Nat.le_of_ble_eq_true rfl) dX9_need_21 (fun s3 => ?_)
    exact ww_sub [] rfl (t_X9_need_24 B fu   s3)
  · refine ww_aload_n hX 0 rfl dX9_need_8 rfl ?_
    refine ww_callVV (As := []) (rest := []) (o := th) hX (Rk.of B.2.2.1 B.2.2.2.1 (by decide) (by decide)) g_X9_34 g_X9_34.in (fun _ => c_X9_next (x_G X) (x_l X) fu th s2) rfl rfl (Nat.le_of_ble_eq_true rfl) dX9_need_9 (fun s4 => ?_)
    refine ww_goto (tgt := 24) hX dX9_need_12 (by decide) ?_
    exact ww_sub [] rfl (t_X9_need_24 B fu   s4)
theorem c_X9_need (G : GX) (l : Launch) (fu : Nat) (th : Nat) (p1 : Int32) (st : St) : MV G NN l yX9_need cX9_need 2 none 6 [.ref (G.2.2.1 + th), .int p1] st (f_X9_need fu th p1 st) := mkV (by decide) (Nat.le_of_ble_eq_true rfl) (fun X res hl hG B => by subst hl; subst hG; exact t_X9_need B fu th p1 st)
/-! StageHouse$Tape.open(I)V -/
def f_X9_open (fu : Nat) (th : Nat) (p1 : Int32) (st : St) : Option (St) :=
  ck ((kd th).1 = 9) <|
  bd (sI st th 7 p1) fun s1 =>
  ck ((kd th).1 = 9) <|
  bd (sI s1 th 6 ((-1))) fun s2 =>
  ck ((kd th).1 = 9) <|
  bd (sI s2 th 8 0) fun s3 =>
  ck ((kd th).1 = 9) <|
  bd (sI s3 th 9 0) fun s4 =>
  ck ((kd th).1 = 9) <|
  bd (sI s4 th 4 0) fun s5 =>
  ck ((kd th).1 = 9) <|
  cv (f_X9_next fu th s5) fun s6 =>
  some s6
set_option maxHeartbeats 4000000 in
set_option maxRecDepth 100000 in
theorem t_X9_open {X : CX} {res : St} (B : BV X cX9_open RX9 2 6 NN none res) (fu : Nat) (th : Nat) (p1 : Int32) (st : St) : WW X res NN 0 [(0, .ref (x_b X + th)), (1, .int p1)] [] st (f_X9_open fu th p1 st) := by
  have hX := B.1
  have hL := B.2.1
  unfold f_X9_open
  refine ww_aload_n hX 0 rfl dX9_open_0 rfl ?_
  refine ww_iload_n hX 1 rfl dX9_open_1 rfl ?_
  refine ww_putI hX f_X9_19 rfl dX9_open_2 ?_
  refine ww_bds (fun s1 => ?_)
  refine ww_aload_n hX 0 rfl dX9_open_5 rfl ?_
  refine ww_iconst (v := (-1)) hX rfl dX9_open_6 ?_
  refine ww_putI hX f_X9_22 rfl dX9_open_7 ?_
  refine ww_bds (fun s2 => ?_)
  refine ww_aload_n hX 0 rfl dX9_open_10 rfl ?_
  refine ww_pc (b := 11) rfl ?_
  refine ww_iconst (v := 0) hX rfl dX9_open_11 ?_
  refine ww_putI hX f_X9_25 rfl dX9_open_12 ?_
  refine ww_bds (fun s3 => ?_)
  refine ww_aload_n hX 0 rfl dX9_open_15 rfl ?_
  refine ww_iconst (v := 0) hX rfl dX9_open_16 ?_
  refine ww_putI hX f_X9_28 rfl dX9_open_17 ?_
  refine ww_bds (fun s4 => ?_)
  refine ww_aload_n hX 0 rfl dX9_open_20 rfl ?_
  refine ww_iconst (v := 0) hX rfl dX9_open_21 ?_
  refine ww_putI hX f_X9_31 rfl dX9_open_22 ?_
  refine ww_bds (fun s5 => ?_)
  refine ww_pc (b := 25) rfl ?_
  refine ww_aload_n hX 0 rfl dX9_open_25 rfl ?_
  refine ww_callVV (As := []) (rest := []) (o := th) hX (Rk.of B.2.2.1 B.2.2.2.1 (by decide) (by decide)) g_X9_34 g_X9_34.in (fun _ => c_X9_next (x_G X) (x_l X) fu th s5) rfl rfl (Nat.le_of_ble_eq_true rfl) dX9_open_26 (fun s6 => ?_)
  exact ww_vret B dX9_open_29
theorem c_X9_open (G : GX) (l : Launch) (fu : Nat) (th : Nat) (p1 : Int32) (st : St) : MV G NN l yX9_open cX9_open 2 none 6 [.ref (G.2.2.1 + th), .int p1] st (f_X9_open fu th p1 st) := mkV (by decide) (Nat.le_of_ble_eq_true rfl) (fun X res hl hG B => by subst hl; subst hG; exact t_X9_open B fu th p1 st)
/-! StageHouse$Parties.read(LStageHouse$Tape;)V -/
def b_X5_read_135 (fu : Nat)   (st : St) : Option (St) :=
  some st
set_option maxHeartbeats 4000000 in
set_option maxRecDepth 100000 in
theorem t_X5_read_135 {X : CX} {res : St} (B : BV X cX5_read RX5 6 9 NN none res) (fu : Nat)   (st : St) : WW X res NN 135 [] [] st (b_X5_read_135 fu  st) := by
  have hX := B.1
  have hL := B.2.1
  unfold b_X5_read_135
  exact ww_vret B dX5_read_135
def b_X5_read_102 (fu : Nat) (x0 : Nat) (x1 : Nat) (x2 : Int32)  (st : St) : Option (St) :=
  ck ((kd x1).1 = 9) <|
  if (gI st x1 8) = 0 then (
  ck (¬ gR st x0 0 = 0) <|
  ck ((kd x0).1 = 5) <|
  bd (gR st x0 0) fun o4 =>
  ck (¬ gR st x0 1 = 0) <|
  ck ((kd x0).1 = 5) <|
  bd (gR st x0 1) fun o5 =>
  ck (¬ o5 = 0) <|
  ck ((kd x0).1 = 5) <|
  bd (sR st x0 0 o5) fun s6 =>
  ck (¬ o4 = 0) <|
  ck ((kd x0).1 = 5) <|
  bd (sR s6 x0 1 o4) fun s7 =>
  ca (f_J6_bitCount_0f7a4 fu x2 s7) fun r8 s9 =>
  ck ((kd x0).1 = 5) <|
  bd (sI s9 x0 2 r8) fun s10 =>
  b_X5_read_135 fu   s10)
  else (
  b_X5_read_135 fu   st)
set_option maxHeartbeats 4000000 in
set_option maxRecDepth 100000 in
theorem t_X5_read_102 {X : CX} {res : St} (B : BV X cX5_read RX5 6 9 NN none res) (fu : Nat) (x0 : Nat) (x1 : Nat) (x2 : Int32)  (st : St) : WW X res NN 102 [(0, .ref (x_b X + x0)), (1, .ref (x_b X + x1)), (2, .int x2)] [] st (b_X5_read_102 fu x0 x1 x2 st) := by
  have hX := B.1
  have hL := B.2.1
  unfold b_X5_read_102
  refine ww_aload_n hX 1 rfl dX5_read_102 rfl ?_
  refine ww_getI hX f_X5_46 (Or.inl rfl) dX5_read_103 ?_
  refine ww_if_ne (tgt := 135) hX dX5_read_106 (by decide) ?_ ?_
  · exact ww_sub [] rfl (t_X5_read_135 B fu   st)
  · refine ww_aload_n hX 0 rfl dX5_read_109 rfl ?_
    refine ww_getR hX f_X5_9 (Or.inr ⟨_, rfl⟩) dX5_read_110 ?_
    refine ww_bdR (fun o4 => ?_)
    refine ww_astore_n (lv' := [(3, .ref (x_b X + o4)), (0, .ref (x_b X + x0)), (1, .ref (x_b X + x1)), (2, .int x2)]) hX hL dX5_read_113 rfl (by decide) rfl ?_
    refine ww_aload_n hX 1 rfl dX5_read_114 rfl ?_
    refine ww_aload_n hX 1 rfl dX5_read_115 rfl ?_
    refine ww_getR hX f_X5_13 (Or.inr ⟨_, rfl⟩) dX5_read_116 ?_
    refine ww_bdR (fun o5 => ?_)
    refine ww_putR hX f_X5_9 (Or.inr ⟨_, rfl⟩) dX5_read_119 ?_
    refine ww_bds (fun s6 => ?_)
    refine ww_pc (b := 122) rfl ?_
    refine ww_aload_n hX 1 rfl dX5_read_122 rfl ?_
    refine ww_aload_n hX 0 rfl dX5_read_123 rfl ?_
    refine ww_putR hX f_X5_13 (Or.inr ⟨_, rfl⟩) dX5_read_124 ?_
    refine ww_bds (fun s7 => ?_)
    refine ww_aload_n hX 1 rfl dX5_read_127 rfl ?_
    refine ww_iload_n hX 3 rfl dX5_read_128 rfl ?_
    refine ww_callSI (As := [.int x2]) (rest := [.ref (x_b X + x0)]) hX (Rk.of B.2.2.1 B.2.2.2.1 (by decide) (by decide)) g_X5_61 (c_J6_bitCount_0f7a4 (x_G X) (x_l X) fu x2 s7) rfl rfl (Nat.le_of_ble_eq_true rfl) dX5_read_129 (fun r8 s9 => ?_)
    refine ww_putI hX f_X5_67 rfl dX5_read_132 ?_
    refine ww_bds (fun s10 => ?_)
    exact ww_sub [] rfl (t_X5_read_135 B fu   s10)
def b_X5_read_68 (fu : Nat) (k_19 : Nat → Nat → Int32 → Int32 → St → Option (St)) (x0 : Nat) (x1 : Nat) (x2 : Int32) (x3 : Int32) (x5 : Int32)  (st : St) : Option (St) :=
  bd (x2 ||| (1 <<< (x5 &&& 31))) fun v14 =>
  ck ((kd x1).1 = 9) <|
  cv (f_X9_need fu x1 58 st) fun s15 =>
  ck ((kd x0).1 = 5) <|
  cv (f_X5_readTerms fu x0 x1 (x5 * 5) s15) fun s16 =>
  ck ((kd x1).1 = 9) <|
  cv (f_X9_need fu x1 59 s16) fun s17 =>
  bd (x3 + 1) fun v18 =>
  k_19 x0 x1 v14 v18  s17
set_option maxHeartbeats 4000000 in
set_option maxRecDepth 100000 in
theorem t_X5_read_68 {X : CX} {res : St} (B : BV X cX5_read RX5 6 9 NN none res) (fu : Nat) (k_19 : Nat → Nat → Int32 → Int32 → St → Option (St)) (h_19 : ∀ (x0 : Nat) (x1 : Nat) (x2 : Int32) (x3 : Int32)  (st : St), WW X res NN 19 [(0, .ref (x_b X + x0)), (1, .ref (x_b X + x1)), (2, .int x2), (3, .int x3)] [] st (k_19 x0 x1 x2 x3 st)) (x0 : Nat) (x1 : Nat) (x2 : Int32) (x3 : Int32) (x5 : Int32)  (st : St) : WW X res NN 68 [(0, .ref (x_b X + x0)), (1, .ref (x_b X + x1)), (2, .int x2), (3, .int x3), (5, .int x5)] [] st (b_X5_read_68 fu k_19 x0 x1 x2 x3 x5 st) := by
  have hX := B.1
  have hL := B.2.1
  unfold b_X5_read_68
  refine ww_iload_n hX 2 rfl dX5_read_68 rfl ?_
  refine ww_iconst (v := 1) hX rfl dX5_read_69 ?_
  refine ww_iload hX 4 rfl dX5_read_70 ?_
  refine ww_ishl hX dX5_read_72 ?_
  refine ww_ior hX dX5_read_73 ?_
  refine ww_bdi (fun v14 => ?_)
  refine ww_istore_n (lv' := [(2, .int v14), (0, .ref (x_b X + x0)), (1, .ref (x_b X + x1)), (3, .int x3), (5, .int x5)]) hX hL dX5_read_74 rfl (by decide) rfl ?_
  refine ww_aload_n hX 2 rfl dX5_read_75 rfl ?_
  refine ww_pc (b := 76) rfl ?_
  refine ww_bipush (v := 58) hX rfl dX5_read_76 ?_
  refine ww_callVV (As := [.int 58]) (rest := []) (o := x1) hX (Rk.of B.2.2.1 B.2.2.2.1 (by decide) (by decide)) g_X5_53 g_X5_53.in (fun _ => c_X9_need (x_G X) (x_l X) fu x1 58 st) rfl rfl (Nat.le_of_ble_eq_true rfl) dX5_read_78 (fun s15 => ?_)
  refine ww_aload_n hX 1 rfl dX5_read_81 rfl ?_
  refine ww_aload_n hX 2 rfl dX5_read_82 rfl ?_
  refine ww_iload hX 4 rfl dX5_read_83 ?_
  refine ww_iconst (v := 5) hX rfl dX5_read_85 ?_
  refine ww_imul hX dX5_read_86 ?_
  refine ww_callVV (As := [.ref (x_b X + x1), .int (x5 * 5)]) (rest := []) (o := x0) hX (Rk.of B.2.2.1 B.2.2.2.1 (by decide) (by decide)) g_X5_57 g_X5_57.in (fun _ => c_X5_readTerms (x_G X) (x_l X) fu x0 x1 (x5 * 5) s15) rfl rfl (Nat.le_of_ble_eq_true rfl) dX5_read_87 (fun s16 => ?_)
  refine ww_pc (b := 90) rfl ?_
  refine ww_aload_n hX 2 rfl dX5_read_90 rfl ?_
  refine ww_bipush (v := 59) hX rfl dX5_read_91 ?_
  refine ww_callVV (As := [.int 59]) (rest := []) (o := x1) hX (Rk.of B.2.2.1 B.2.2.2.1 (by decide) (by decide)) g_X5_53 g_X5_53.in (fun _ => c_X9_need (x_G X) (x_l X) fu x1 59 s16) rfl rfl (Nat.le_of_ble_eq_true rfl) dX5_read_93 (fun s17 => ?_)
  refine ww_iincb (lv' := fun v18 => [(3, .int v18), (2, .int v14), (0, .ref (x_b X + x0)), (1, .ref (x_b X + x1)), (5, .int x5)]) (c := 1) hX hL 3 rfl dX5_read_96 rfl (by decide) (fun _ => rfl) (fun v18 => ?_)
  refine ww_goto (tgt := 19) hX dX5_read_99 (by decide) ?_
  exact ww_sub [2, 3, 1, 0] rfl (h_19 x0 x1 v14 v18  s17)
def b_X5_read_19_b (fu : Nat) (k_19 : Nat → Nat → Int32 → Int32 → St → Option (St)) (x0 : Nat) (x1 : Nat) (x2 : Int32) (x3 : Int32)  (st : St) : Option (St) :=
  if 4 ≤ x3 then (
  b_X5_read_102 fu x0 x1 x2  st)
  else (
  ck ((kd x1).1 = 9) <|
  if (gI st x1 2) = 0 then (
  b_X5_read_102 fu x0 x1 x2  st)
  else (
  ck ((kd x1).1 = 9) <|
  bd (gI st x1 3) fun v11 =>
  ck ((kd x1).1 = 9) <|
  ca (f_X9_number fu x1 0 2 st) fun r12 s13 =>
  ck ((kd x1).1 = 9) <|
  if (gI s13 x1 8) = 0 then (
  if ((x2 >>> (r12 &&& 31)) &&& 1) = 0 then (
  b_X5_read_68 fu k_19 x0 x1 x2 x3 r12  s13)
  else (
  ck ((kd x1).1 = 9) <|
  cv (f_X9_fail fu x1 3 v11 s13) fun s19 =>
  b_X5_read_68 fu k_19 x0 x1 x2 x3 r12  s19))
  else (
  b_X5_read_68 fu k_19 x0 x1 x2 x3 r12  s13)))
set_option maxHeartbeats 4000000 in
set_option maxRecDepth 100000 in
theorem t_X5_read_19_b {X : CX} {res : St} (B : BV X cX5_read RX5 6 9 NN none res) (fu : Nat) (k_19 : Nat → Nat → Int32 → Int32 → St → Option (St)) (h_19 : ∀ (x0 : Nat) (x1 : Nat) (x2 : Int32) (x3 : Int32)  (st : St), WW X res NN 19 [(0, .ref (x_b X + x0)), (1, .ref (x_b X + x1)), (2, .int x2), (3, .int x3)] [] st (k_19 x0 x1 x2 x3 st)) (x0 : Nat) (x1 : Nat) (x2 : Int32) (x3 : Int32)  (st : St) : WW X res NN 19 [(0, .ref (x_b X + x0)), (1, .ref (x_b X + x1)), (2, .int x2), (3, .int x3)] [] st (b_X5_read_19_b fu k_19 x0 x1 x2 x3 st) := by
  have hX := B.1
  have hL := B.2.1
  unfold b_X5_read_19_b
  refine ww_iload_n hX 3 rfl dX5_read_19 rfl ?_
  refine ww_iconst (v := 4) hX rfl dX5_read_20 ?_
  refine ww_icmp_ge (tgt := 102) hX dX5_read_21 (by decide) ?_ ?_
  · exact ww_sub [0, 1, 2] rfl (t_X5_read_102 B fu x0 x1 x2  st)
  · refine ww_aload_n hX 1 rfl dX5_read_24 rfl ?_
    refine ww_getI hX f_X5_35 (Or.inl rfl) dX5_read_25 ?_
    refine ww_if_eq (tgt := 102) hX dX5_read_28 (by decide) ?_ ?_
    · exact ww_sub [0, 1, 2] rfl (t_X5_read_102 B fu x0 x1 x2  st)
    · refine ww_aload_n hX 1 rfl dX5_read_31 rfl ?_
      refine ww_getI hX f_X5_39 (Or.inl rfl) dX5_read_32 ?_
      refine ww_bdi (fun v11 => ?_)
      refine ww_istore (lv' := [(4, .int v11), (0, .ref (x_b X + x0)), (1, .ref (x_b X + x1)), (2, .int x2), (3, .int x3)]) hX hL dX5_read_35 (by decide) rfl ?_
      refine ww_aload_n hX 2 rfl dX5_read_37 rfl ?_
      refine ww_iconst (v := 0) hX rfl dX5_read_38 ?_
      refine ww_iconst (v := 2) hX rfl dX5_read_39 ?_
      refine ww_callVI (As := [.int 0, .int 2]) (rest := []) (o := x1) hX (Rk.of B.2.2.1 B.2.2.2.1 (by decide) (by decide)) g_X5_42 g_X5_42.in (fun _ => c_X9_number (x_G X) (x_l X) fu x1 0 2 st) rfl rfl (Nat.le_of_ble_eq_true rfl) dX5_read_40 (fun r12 s13 => ?_)
      refine ww_pc (b := 43) rfl ?_
      refine ww_istore (lv' := [(5, .int r12), (4, .int v11), (0, .ref (x_b X + x0)), (1, .ref (x_b X + x1)), (2, .int x2), (3, .int x3)]) hX hL dX5_read_43 (by decide) rfl ?_
      refine ww_aload_n hX 3 rfl dX5_read_45 rfl ?_
      refine ww_getI hX f_X5_46 (Or.inl rfl) dX5_read_46 ?_
      refine ww_if_ne (tgt := 68) hX dX5_read_49 (by decide) ?_ ?_
      · exact ww_sub [2, 3, 4, 5, 0] rfl (t_X5_read_68 B fu k_19 h_19 x0 x1 x2 x3 r12  s13)
      · refine ww_iload_n hX 4 rfl dX5_read_52 rfl ?_
        refine ww_iload hX 0 rfl dX5_read_53 ?_
        refine ww_ishr hX dX5_read_55 ?_
        refine ww_iconst (v := 1) hX rfl dX5_read_56 ?_
        refine ww_iand hX dX5_read_57 ?_
        refine ww_if_eq (tgt := 68) hX dX5_read_58 (by decide) ?_ ?_
        · exact ww_sub [2, 3, 4, 5, 0] rfl (t_X5_read_68 B fu k_19 h_19 x0 x1 x2 x3 r12  s13)
        · refine ww_aload_n hX 3 rfl dX5_read_61 rfl ?_
          refine ww_iconst (v := 3) hX rfl dX5_read_62 ?_
          refine ww_iload hX 1 rfl dX5_read_63 ?_
          refine ww_callVV (As := [.int 3, .int v11]) (rest := []) (o := x1) hX (Rk.of B.2.2.1 B.2.2.2.1 (by decide) (by decide)) g_X5_49 g_X5_49.in (fun _ => c_X9_fail (x_G X) (x_l X) fu x1 3 v11 s13) rfl rfl (Nat.le_of_ble_eq_true rfl) dX5_read_65 (fun s19 => ?_)
          exact ww_sub [2, 3, 4, 5, 0] rfl (t_X5_read_68 B fu k_19 h_19 x0 x1 x2 x3 r12  s19)
def b_X5_read_19 (fu : Nat) : Nat → Nat → Nat → Int32 → Int32 → St → Option (St)
  | 0, _, _, _, _, _ => none
  | i + 1, x0, x1, x2, x3, st => b_X5_read_19_b fu (b_X5_read_19 fu i) x0 x1 x2 x3 st
theorem t_X5_read_19 {X : CX} {res : St} (B : BV X cX5_read RX5 6 9 NN none res) (fu : Nat) : ∀ (i : Nat) (x0 : Nat) (x1 : Nat) (x2 : Int32) (x3 : Int32)  (st : St), WW X res NN 19 [(0, .ref (x_b X + x0)), (1, .ref (x_b X + x1)), (2, .int x2), (3, .int x3)] [] st (b_X5_read_19 fu i x0 x1 x2 x3 st) := by
  intro i
  induction i with
  | zero => intro x0 x1 x2 x3 st; exact ww_none
  | succ i ih => intro x0 x1 x2 x3 st; exact t_X5_read_19_b B fu (b_X5_read_19 fu i) ih x0 x1 x2 x3 st
def f_X5_read (fu : Nat) (th : Nat) (p1 : Nat) (st : St) : Option (St) :=
  ck (¬ gR st th 1 = 0) <|
  ck ((kd th).1 = 5) <|
  bd (gR st th 1) fun o1 =>
  cv (f_J7_fill_53178 fu o1 0 st) fun s2 =>
  ck ((kd p1).1 = 9) <|
  cv (f_X9_open fu p1 4000 s2) fun s3 =>
  b_X5_read_19 fu fu th p1 0 0  s3
set_option maxHeartbeats 4000000 in
set_option maxRecDepth 100000 in
theorem t_X5_read {X : CX} {res : St} (B : BV X cX5_read RX5 6 9 NN none res) (fu : Nat) (th : Nat) (p1 : Nat) (st : St) : WW X res NN 0 [(0, .ref (x_b X + th)), (1, .ref (x_b X + p1))] [] st (f_X5_read fu th p1 st) := by
  have hX := B.1
  have hL := B.2.1
  unfold f_X5_read
  refine ww_iconst (v := 0) hX rfl dX5_read_0 ?_
  refine ww_istore_n (lv' := [(2, .int 0), (0, .ref (x_b X + th)), (1, .ref (x_b X + p1))]) hX hL dX5_read_1 rfl (by decide) rfl ?_
  refine ww_aload_n hX 1 rfl dX5_read_2 rfl ?_
  refine ww_getR hX f_X5_13 (Or.inr ⟨_, rfl⟩) dX5_read_3 ?_
  refine ww_bdR (fun o1 => ?_)
  refine ww_iconst (v := 0) hX rfl dX5_read_6 ?_
  refine ww_callSV (As := [.ref (x_b X + o1), .int 0]) (rest := []) hX (Rk.of B.2.2.1 B.2.2.2.1 (by decide) (by decide)) g_X5_23 (c_J7_fill_53178 (x_G X) (x_l X) fu o1 0 st) rfl rfl (Nat.le_of_ble_eq_true rfl) dX5_read_7 (fun s2 => ?_)
  refine ww_aload_n hX 2 rfl dX5_read_10 rfl ?_
  refine ww_pc (b := 11) rfl ?_
  refine ww_sipush (v := 4000) hX rfl dX5_read_11 ?_
  refine ww_callVV (As := [.int 4000]) (rest := []) (o := p1) hX (Rk.of B.2.2.1 B.2.2.2.1 (by decide) (by decide)) g_X5_31 g_X5_31.in (fun _ => c_X9_open (x_G X) (x_l X) fu p1 4000 s2) rfl rfl (Nat.le_of_ble_eq_true rfl) dX5_read_14 (fun s3 => ?_)
  refine ww_iconst (v := 0) hX rfl dX5_read_17 ?_
  refine ww_istore_n (lv' := [(3, .int 0), (2, .int 0), (0, .ref (x_b X + th)), (1, .ref (x_b X + p1))]) hX hL dX5_read_18 rfl (by decide) rfl ?_
  exact ww_sub [2, 3, 1, 0] rfl (t_X5_read_19 B fu fu th p1 0 0  s3)
theorem c_X5_read (G : GX) (l : Launch) (fu : Nat) (th : Nat) (p1 : Nat) (st : St) : MV G NN l yX5_read cX5_read 6 none 9 [.ref (G.2.2.1 + th), .ref (G.2.2.1 + p1)] st (f_X5_read fu th p1 st) := mkV (by decide) (Nat.le_of_ble_eq_true rfl) (fun X res hl hG B => by subst hl; subst hG; exact t_X5_read B fu th p1 st)
