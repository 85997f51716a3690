/-! StageHouse$Axis.place(IIII)V -/
def f_X0_place (fu : Nat) (th : Nat) (p1 : Int32) (p2 : Int32) (p3 : Int32) (p4 : Int32) (st : St) : Option (St) :=
  ck (isb 1) <|
  ck ((kd th).1 = 0) <|
  bd (sI st th 0 1) fun s1 =>
  ck ((kd th).1 = 0) <|
  bd (sI s1 th 1 p1) fun s2 =>
  ck ((kd th).1 = 0) <|
  bd (sI s2 th 2 p2) fun s3 =>
  ck ((kd th).1 = 0) <|
  bd (sI s3 th 3 p3) fun s4 =>
  ck ((kd th).1 = 0) <|
  bd (sI s4 th 4 p4) fun s5 =>
  ck ((kd th).1 = 0) <|
  bd (sI s5 th 5 p1) fun s6 =>
  ck ((kd th).1 = 0) <|
  bd (sI s6 th 6 0) fun s7 =>
  ck ((kd th).1 = 0) <|
  bd (sI s7 th 7 ((-1))) fun s8 =>
  ck ((kd th).1 = 0) <|
  bd (sI s8 th 8 p1) fun s9 =>
  ck ((kd th).1 = 0) <|
  bd (sI s9 th 9 p1) fun s10 =>
  ck ((kd th).1 = 0) <|
  bd (sI s10 th 10 0) fun s11 =>
  some s11
set_option maxHeartbeats 4000000 in
set_option maxRecDepth 100000 in
theorem t_X0_place {X : CX} {res : St} (B : BV X cX0_place RX0 5 1 NN none res) (fu : Nat) (th : Nat) (p1 : Int32) (p2 : Int32) (p3 : Int32) (p4 : Int32) (st : St) : WW X res NN 0 [(0, .ref (x_b X + th)), (1, .int p1), (2, .int p2), (3, .int p3), (4, .int p4)] [] st (f_X0_place fu th p1 p2 p3 p4 st) := by
  have hX := B.1
  have hL := B.2.1
  unfold f_X0_place
  refine ww_aload_n hX 0 rfl dX0_place_0 rfl ?_
  refine ww_iconst (v := 1) hX rfl dX0_place_1 ?_
  refine ww_putZ hX f_X0_21 rfl dX0_place_2 ?_
  refine ww_bds (fun s1 => ?_)
  refine ww_aload_n hX 0 rfl dX0_place_5 rfl ?_
  refine ww_iload_n hX 1 rfl dX0_place_6 rfl ?_
  refine ww_putI hX f_X0_25 rfl dX0_place_7 ?_
  refine ww_bds (fun s2 => ?_)
  refine ww_aload_n hX 0 rfl dX0_place_10 rfl ?_
  refine ww_pc (b := 11) rfl ?_
  refine ww_iload_n hX 2 rfl dX0_place_11 rfl ?_
  refine ww_putI hX f_X0_28 rfl dX0_place_12 ?_
  refine ww_bds (fun s3 => ?_)
  refine ww_aload_n hX 0 rfl dX0_place_15 rfl ?_
  refine ww_iload_n hX 3 rfl dX0_place_16 rfl ?_
  refine ww_putI hX f_X0_31 rfl dX0_place_17 ?_
  refine ww_bds (fun s4 => ?_)
  refine ww_aload_n hX 0 rfl dX0_place_20 rfl ?_
  refine ww_iload hX 4 rfl dX0_place_21 ?_
  refine ww_putI hX f_X0_34 rfl dX0_place_23 ?_
  refine ww_bds (fun s5 => ?_)
  refine ww_pc (b := 26) rfl ?_
  refine ww_aload_n hX 0 rfl dX0_place_26 rfl ?_
  refine ww_iload_n hX 1 rfl dX0_place_27 rfl ?_
  refine ww_putI hX f_X0_37 rfl dX0_place_28 ?_
  refine ww_bds (fun s6 => ?_)
  refine ww_aload_n hX 0 rfl dX0_place_31 rfl ?_
  refine ww_iconst (v := 0) hX rfl dX0_place_32 ?_
  refine ww_putI hX f_X0_40 rfl dX0_place_33 ?_
  refine ww_bds (fun s7 => ?_)
  refine ww_aload_n hX 0 rfl dX0_place_36 rfl ?_
  refine ww_iconst (v := (-1)) hX rfl dX0_place_37 ?_
  refine ww_pc (b := 38) rfl ?_
  refine ww_putI hX f_X0_9 rfl dX0_place_38 ?_
  refine ww_bds (fun s8 => ?_)
  refine ww_aload_n hX 0 rfl dX0_place_41 rfl ?_
  refine ww_iload_n hX 1 rfl dX0_place_42 rfl ?_
  refine ww_putI hX f_X0_43 rfl dX0_place_43 ?_
  refine ww_bds (fun s9 => ?_)
  refine ww_aload_n hX 0 rfl dX0_place_46 rfl ?_
  refine ww_iload_n hX 1 rfl dX0_place_47 rfl ?_
  refine ww_putI hX f_X0_46 rfl dX0_place_48 ?_
  refine ww_bds (fun s10 => ?_)
  refine ww_aload_n hX 0 rfl dX0_place_51 rfl ?_
  refine ww_pc (b := 52) rfl ?_
  refine ww_iconst (v := 0) hX rfl dX0_place_52 ?_
  refine ww_putI hX f_X0_49 rfl dX0_place_53 ?_
  refine ww_bds (fun s11 => ?_)
  exact ww_vret B dX0_place_56
theorem c_X0_place (G : GX) (l : Launch) (fu : Nat) (th : Nat) (p1 : Int32) (p2 : Int32) (p3 : Int32) (p4 : Int32) (st : St) : MV G NN l yX0_place cX0_place 5 none 1 [.ref (G.2.2.1 + th), .int p1, .int p2, .int p3, .int p4] st (f_X0_place fu th p1 p2 p3 p4 st) := mkV (by decide) (Nat.le_of_ble_eq_true rfl) (fun X res hl hG B => by subst hl; subst hG; exact t_X0_place B fu th p1 p2 p3 p4 st)
/-! StageHouse$Axis.fail(I)V -/
def b_X0_fail_16 (fu : Nat)   (st : St) : Option (St) :=
  some st
set_option maxHeartbeats 4000000 in
set_option maxRecDepth 100000 in
theorem t_X0_fail_16 {X : CX} {res : St} (B : BV X cX0_fail RX0 2 1 NN none res) (fu : Nat)   (st : St) : WW X res NN 16 [] [] st (b_X0_fail_16 fu  st) := by
  have hX := B.1
  have hL := B.2.1
  unfold b_X0_fail_16
  exact ww_vret B dX0_fail_16
def f_X0_fail (fu : Nat) (th : Nat) (p1 : Int32) (st : St) : Option (St) :=
  ck ((kd th).1 = 0) <|
  bd (sI st th 10 p1) fun s1 =>
  if (p1 &&& 1) = 0 then (
  b_X0_fail_16 fu   s1)
  else (
  ck ((kd th).1 = 0) <|
  bd (sI s1 th 7 ((-1))) fun s2 =>
  b_X0_fail_16 fu   s2)
set_option maxHeartbeats 4000000 in
set_option maxRecDepth 100000 in
theorem t_X0_fail {X : CX} {res : St} (B : BV X cX0_fail RX0 2 1 NN none res) (fu : Nat) (th : Nat) (p1 : Int32) (st : St) : WW X res NN 0 [(0, .ref (x_b X + th)), (1, .int p1)] [] st (f_X0_fail fu th p1 st) := by
  have hX := B.1
  have hL := B.2.1
  unfold f_X0_fail
  refine ww_aload_n hX 0 rfl dX0_fail_0 rfl ?_
  refine ww_iload_n hX 1 rfl dX0_fail_1 rfl ?_
  refine ww_putI hX f_X0_49 rfl dX0_fail_2 ?_
  refine ww_bds (fun s1 => ?_)
  refine ww_iload_n hX 1 rfl dX0_fail_5 rfl ?_
  refine ww_iconst (v := 1) hX rfl dX0_fail_6 ?_
  refine ww_iand hX dX0_fail_7 ?_
  refine ww_if_eq (tgt := 16) hX dX0_fail_8 (by decide) ?_ ?_
  · exact ww_sub [] rfl (t_X0_fail_16 B fu   s1)
  · refine ww_aload_n hX 0 rfl dX0_fail_11 rfl ?_
    refine ww_iconst (v := (-1)) hX rfl dX0_fail_12 ?_
    refine ww_putI hX f_X0_9 rfl dX0_fail_13 ?_
    refine ww_bds (fun s2 => ?_)
    exact ww_sub [] rfl (t_X0_fail_16 B fu   s2)
theorem c_X0_fail (G : GX) (l : Launch) (fu : Nat) (th : Nat) (p1 : Int32) (st : St) : MV G NN l yX0_fail cX0_fail 2 none 1 [.ref (G.2.2.1 + th), .int p1] st (f_X0_fail fu th p1 st) := mkV (by decide) (Nat.le_of_ble_eq_true rfl) (fun X res hl hG B => by subst hl; subst hG; exact t_X0_fail B fu th p1 st)
/-! StageHouse$Axis.tell(I)I -/
def b_X0_tell_16 (fu : Nat)  (y0 : Int32) (st : St) : Option (Int32 × St) :=
  some (y0, st)
set_option maxHeartbeats 4000000 in
set_option maxRecDepth 100000 in
theorem t_X0_tell_16 {X : CX} {res : Int32 × St} (B : BI X cX0_tell RX0 2 1 NN (some .int) res) (fu : Nat)  (y0 : Int32) (st : St) : WW X res NN 16 [] [.int y0] st (b_X0_tell_16 fu y0 st) := by
  have hX := B.1
  have hL := B.2.1
  unfold b_X0_tell_16
  exact ww_iret B dX0_tell_16
def f_X0_tell (fu : Nat) (th : Nat) (p1 : Int32) (st : St) : Option (Int32 × St) :=
  if p1 = 0 then (
  ck ((kd th).1 = 0) <|
  if (gI st th 0) = 0 then (
  b_X0_tell_16 fu  0 st)
  else (
  b_X0_tell_16 fu  1 st))
  else (
  if p1 = 7 then (
  ck ((kd th).1 = 0) <|
  some (gI st th 11, st))
  else (
  ck ((kd th).1 = 0) <|
  if (gI st th 0) = 0 then (
  some ((-1), st))
  else (
  if p1 = 1 then (
  ck ((kd th).1 = 0) <|
  some (gI st th 5, st))
  else if p1 = 2 then (
  ck ((kd th).1 = 0) <|
  some (gI st th 6, st))
  else if p1 = 3 then (
  ck ((kd th).1 = 0) <|
  some (gI st th 7, st))
  else if p1 = 4 then (
  ck ((kd th).1 = 0) <|
  some (gI st th 8, st))
  else if p1 = 5 then (
  ck ((kd th).1 = 0) <|
  some (gI st th 10, st))
  else (
  some ((-1), st)))))
set_option maxHeartbeats 4000000 in
set_option maxRecDepth 100000 in
theorem t_X0_tell {X : CX} {res : Int32 × St} (B : BI X cX0_tell RX0 2 1 NN (some .int) res) (fu : Nat) (th : Nat) (p1 : Int32) (st : St) : WW X res NN 0 [(0, .ref (x_b X + th)), (1, .int p1)] [] st (f_X0_tell fu th p1 st) := by
  have hX := B.1
  have hL := B.2.1
  unfold f_X0_tell
  refine ww_iload_n hX 1 rfl dX0_tell_0 rfl ?_
  refine ww_if_ne (tgt := 17) hX dX0_tell_1 (by decide) ?_ ?_
  · refine ww_iload_n hX 1 rfl dX0_tell_17 rfl ?_
    refine ww_bipush (v := 7) hX rfl dX0_tell_18 ?_
    refine ww_icmp_ne (tgt := 28) hX dX0_tell_20 (by decide) ?_ ?_
    · refine ww_aload_n hX 0 rfl dX0_tell_28 rfl ?_
      refine ww_getI hX f_X0_21 (Or.inr rfl) dX0_tell_29 ?_
      refine ww_if_ne (tgt := 37) hX dX0_tell_32 (by decide) ?_ ?_
      · refine ww_iload_n hX 1 rfl dX0_tell_37 rfl ?_
        refine ww_if (fun c38_0 => ?_) (fun c38_0 => ?_)
        · refine ww_tsw (off := 34) (tgt := 72) hX dX0_tell_38 (by rw [c38_0]; decide) (by rw [c38_0]; decide) (by rw [c38_0]; rfl) (by decide) ?_
          refine ww_aload_n hX 0 rfl dX0_tell_72 rfl ?_
          refine ww_getI hX f_X0_37 (Or.inl rfl) dX0_tell_73 ?_
          exact ww_iret B dX0_tell_76
        refine ww_if (fun c38_1 => ?_) (fun c38_1 => ?_)
        · refine ww_tsw (off := 39) (tgt := 77) hX dX0_tell_38 (by rw [c38_1]; decide) (by rw [c38_1]; decide) (by rw [c38_1]; rfl) (by decide) ?_
          refine ww_aload_n hX 0 rfl dX0_tell_77 rfl ?_
          refine ww_getI hX f_X0_40 (Or.inl rfl) dX0_tell_78 ?_
          exact ww_iret B dX0_tell_81
        refine ww_if (fun c38_2 => ?_) (fun c38_2 => ?_)
        · refine ww_tsw (off := 44) (tgt := 82) hX dX0_tell_38 (by rw [c38_2]; decide) (by rw [c38_2]; decide) (by rw [c38_2]; rfl) (by decide) ?_
          refine ww_aload_n hX 0 rfl dX0_tell_82 rfl ?_
          refine ww_getI hX f_X0_9 (Or.inl rfl) dX0_tell_83 ?_
          exact ww_iret B dX0_tell_86
        refine ww_if (fun c38_3 => ?_) (fun c38_3 => ?_)
        · refine ww_tsw (off := 49) (tgt := 87) hX dX0_tell_38 (by rw [c38_3]; decide) (by rw [c38_3]; decide) (by rw [c38_3]; rfl) (by decide) ?_
          refine ww_aload_n hX 0 rfl dX0_tell_87 rfl ?_
          refine ww_getI hX f_X0_43 (Or.inl rfl) dX0_tell_88 ?_
          exact ww_iret B dX0_tell_91
        refine ww_if (fun c38_4 => ?_) (fun c38_4 => ?_)
        · refine ww_tsw (off := 54) (tgt := 92) hX dX0_tell_38 (by rw [c38_4]; decide) (by rw [c38_4]; decide) (by rw [c38_4]; rfl) (by decide) ?_
          refine ww_aload_n hX 0 rfl dX0_tell_92 rfl ?_
          refine ww_getI hX f_X0_49 (Or.inl rfl) dX0_tell_93 ?_
          exact ww_iret B dX0_tell_96
        refine ww_tswd (tgt := 97) hX dX0_tell_38 (by have z0 : p1.toInt ≠ 1 := fun q => c38_0 (Int32.toInt_inj.mp (q.trans (by decide))); have z1 : p1.toInt ≠ 2 := fun q => c38_1 (Int32.toInt_inj.mp (q.trans (by decide))); have z2 : p1.toInt ≠ 3 := fun q => c38_2 (Int32.toInt_inj.mp (q.trans (by decide))); have z3 : p1.toInt ≠ 4 := fun q => c38_3 (Int32.toInt_inj.mp (q.trans (by decide))); have z4 : p1.toInt ≠ 5 := fun q => c38_4 (Int32.toInt_inj.mp (q.trans (by decide))); omega) (by decide) ?_
        refine ww_iconst (v := (-1)) hX rfl dX0_tell_97 ?_
        exact ww_iret B dX0_tell_98
      · refine ww_iconst (v := (-1)) hX rfl dX0_tell_35 ?_
        exact ww_iret B dX0_tell_36
    · refine ww_aload_n hX 0 rfl dX0_tell_23 rfl ?_
      refine ww_getI hX f_X0_52 (Or.inl rfl) dX0_tell_24 ?_
      exact ww_iret B dX0_tell_27
  · refine ww_aload_n hX 0 rfl dX0_tell_4 rfl ?_
    refine ww_getI hX f_X0_21 (Or.inr rfl) dX0_tell_5 ?_
    refine ww_if_eq (tgt := 15) hX dX0_tell_8 (by decide) ?_ ?_
    · refine ww_iconst (v := 0) hX rfl dX0_tell_15 ?_
      exact ww_sub [] rfl (t_X0_tell_16 B fu  0 st)
    · refine ww_iconst (v := 1) hX rfl dX0_tell_11 ?_
      refine ww_goto (tgt := 16) hX dX0_tell_12 (by decide) ?_
      exact ww_sub [] rfl (t_X0_tell_16 B fu  1 st)
theorem c_X0_tell (G : GX) (l : Launch) (fu : Nat) (th : Nat) (p1 : Int32) (st : St) : MI G NN l yX0_tell cX0_tell 2 (some .int) 1 [.ref (G.2.2.1 + th), .int p1] st (f_X0_tell fu th p1 st) := mkI (by decide) (Nat.le_of_ble_eq_true rfl) (fun X res hl hG B => by subst hl; subst hG; exact t_X0_tell B fu th p1 st)
/-! java/lang/Math.abs(I)I -/
def b_J9_abs_0f7a4_10 (fu : Nat)  (y0 : Int32) (st : St) : Option (Int32 × St) :=
  some (y0, st)
set_option maxHeartbeats 4000000 in
set_option maxRecDepth 100000 in
theorem t_J9_abs_0f7a4_10 {X : CX} {res : Int32 × St} (B : BI X cJ9_abs_0f7a4 RJ9 1 1 NN (some .int) res) (fu : Nat)  (y0 : Int32) (st : St) : WW X res NN 10 [] [.int y0] st (b_J9_abs_0f7a4_10 fu y0 st) := by
  have hX := B.1
  have hL := B.2.1
  unfold b_J9_abs_0f7a4_10
  exact ww_iret B dJ9_abs_0f7a4_10
def f_J9_abs_0f7a4 (fu : Nat) (p0 : Int32) (st : St) : Option (Int32 × St) :=
  if 0 ≤ p0 then (
  b_J9_abs_0f7a4_10 fu  p0 st)
  else (
  b_J9_abs_0f7a4_10 fu  (-p0) st)
set_option maxHeartbeats 4000000 in
set_option maxRecDepth 100000 in
theorem t_J9_abs_0f7a4 {X : CX} {res : Int32 × St} (B : BI X cJ9_abs_0f7a4 RJ9 1 1 NN (some .int) res) (fu : Nat) (p0 : Int32) (st : St) : WW X res NN 0 [(0, .int p0)] [] st (f_J9_abs_0f7a4 fu p0 st) := by
  have hX := B.1
  have hL := B.2.1
  unfold f_J9_abs_0f7a4
  refine ww_iload_n hX 0 rfl dJ9_abs_0f7a4_0 rfl ?_
  refine ww_if_ge (tgt := 9) hX dJ9_abs_0f7a4_1 (by decide) ?_ ?_
  · refine ww_iload_n hX 0 rfl dJ9_abs_0f7a4_9 rfl ?_
    exact ww_sub [] rfl (t_J9_abs_0f7a4_10 B fu  p0 st)
  · refine ww_iload_n hX 0 rfl dJ9_abs_0f7a4_4 rfl ?_
    refine ww_ineg hX dJ9_abs_0f7a4_5 ?_
    refine ww_goto (tgt := 10) hX dJ9_abs_0f7a4_6 (by decide) ?_
    exact ww_sub [] rfl (t_J9_abs_0f7a4_10 B fu  (-p0) st)
theorem c_J9_abs_0f7a4 (G : GX) (l : Launch) (fu : Nat) (p0 : Int32) (st : St) : MI G NN l yJ9_abs_0f7a4 cJ9_abs_0f7a4 1 (some .int) 1 [.int p0] st (f_J9_abs_0f7a4 fu p0 st) := mkIF (by decide +kernel) (Nat.le_of_ble_eq_true rfl) (fun X res hl hG B => by subst hl; subst hG; exact t_J9_abs_0f7a4 B fu p0 st)
/-! java/lang/Math.max(II)I -/
def b_J9_max_7cf53_10 (fu : Nat)  (y0 : Int32) (st : St) : Option (Int32 × St) :=
  some (y0, st)
set_option maxHeartbeats 4000000 in
set_option maxRecDepth 100000 in
theorem t_J9_max_7cf53_10 {X : CX} {res : Int32 × St} (B : BI X cJ9_max_7cf53 RJ9 2 1 NN (some .int) res) (fu : Nat)  (y0 : Int32) (st : St) : WW X res NN 10 [] [.int y0] st (b_J9_max_7cf53_10 fu y0 st) := by
  have hX := B.1
  have hL := B.2.1
  unfold b_J9_max_7cf53_10
  exact ww_iret B dJ9_max_7cf53_10
def f_J9_max_7cf53 (fu : Nat) (p0 : Int32) (p1 : Int32) (st : St) : Option (Int32 × St) :=
  if p0 < p1 then (
  b_J9_max_7cf53_10 fu  p1 st)
  else (
  b_J9_max_7cf53_10 fu  p0 st)
set_option maxHeartbeats 4000000 in
set_option maxRecDepth 100000 in
theorem t_J9_max_7cf53 {X : CX} {res : Int32 × St} (B : BI X cJ9_max_7cf53 RJ9 2 1 NN (some .int) res) (fu : Nat) (p0 : Int32) (p1 : Int32) (st : St) : WW X res NN 0 [(0, .int p0), (1, .int p1)] [] st (f_J9_max_7cf53 fu p0 p1 st) := by
  have hX := B.1
  have hL := B.2.1
  unfold f_J9_max_7cf53
  refine ww_iload_n hX 0 rfl dJ9_max_7cf53_0 rfl ?_
  refine ww_iload_n hX 1 rfl dJ9_max_7cf53_1 rfl ?_
  refine ww_icmp_lt (tgt := 9) hX dJ9_max_7cf53_2 (by decide) ?_ ?_
  · refine ww_iload_n hX 1 rfl dJ9_max_7cf53_9 rfl ?_
    exact ww_sub [] rfl (t_J9_max_7cf53_10 B fu  p1 st)
  · refine ww_iload_n hX 0 rfl dJ9_max_7cf53_5 rfl ?_
    refine ww_goto (tgt := 10) hX dJ9_max_7cf53_6 (by decide) ?_
    exact ww_sub [] rfl (t_J9_max_7cf53_10 B fu  p0 st)
theorem c_J9_max_7cf53 (G : GX) (l : Launch) (fu : Nat) (p0 : Int32) (p1 : Int32) (st : St) : MI G NN l yJ9_max_7cf53 cJ9_max_7cf53 2 (some .int) 1 [.int p0, .int p1] st (f_J9_max_7cf53 fu p0 p1 st) := mkIF (by decide +kernel) (Nat.le_of_ble_eq_true rfl) (fun X res hl hG B => by subst hl; subst hG; exact t_J9_max_7cf53 B fu p0 p1 st)
/-! java/lang/Math.min(II)I -/
def b_J9_min_7cf53_10 (fu : Nat)  (y0 : Int32) (st : St) : Option (Int32 × St) :=
  some (y0, st)
set_option maxHeartbeats 4000000 in
set_option maxRecDepth 100000 in
theorem t_J9_min_7cf53_10 {X : CX} {res : Int32 × St} (B : BI X cJ9_min_7cf53 RJ9 2 1 NN (some .int) res) (fu : Nat)  (y0 : Int32) (st : St) : WW X res NN 10 [] [.int y0] st (b_J9_min_7cf53_10 fu y0 st) := by
  have hX := B.1
  have hL := B.2.1
  unfold b_J9_min_7cf53_10
  exact ww_iret B dJ9_min_7cf53_10
def f_J9_min_7cf53 (fu : Nat) (p0 : Int32) (p1 : Int32) (st : St) : Option (Int32 × St) :=
  if p1 < p0 then (
  b_J9_min_7cf53_10 fu  p1 st)
  else (
  b_J9_min_7cf53_10 fu  p0 st)
set_option maxHeartbeats 4000000 in
set_option maxRecDepth 100000 in
theorem t_J9_min_7cf53 {X : CX} {res : Int32 × St} (B : BI X cJ9_min_7cf53 RJ9 2 1 NN (some .int) res) (fu : Nat) (p0 : Int32) (p1 : Int32) (st : St) : WW X res NN 0 [(0, .int p0), (1, .int p1)] [] st (f_J9_min_7cf53 fu p0 p1 st) := by
  have hX := B.1
  have hL := B.2.1
  unfold f_J9_min_7cf53
  refine ww_iload_n hX 0 rfl dJ9_min_7cf53_0 rfl ?_
  refine ww_iload_n hX 1 rfl dJ9_min_7cf53_1 rfl ?_
  refine ww_icmp_gt (tgt := 9) hX dJ9_min_7cf53_2 (by decide) ?_ ?_
  · refine ww_iload_n hX 1 rfl dJ9_min_7cf53_9 rfl ?_
    exact ww_sub [] rfl (t_J9_min_7cf53_10 B fu  p1 st)
  · refine ww_iload_n hX 0 rfl dJ9_min_7cf53_5 rfl ?_
    refine ww_goto (tgt := 10) hX dJ9_min_7cf53_6 (by decide) ?_
    exact ww_sub [] rfl (t_J9_min_7cf53_10 B fu  p0 st)
theorem c_J9_min_7cf53 (G : GX) (l : Launch) (fu : Nat) (p0 : Int32) (p1 : Int32) (st : St) : MI G NN l yJ9_min_7cf53 cJ9_min_7cf53 2 (some .int) 1 [.int p0, .int p1] st (f_J9_min_7cf53 fu p0 p1 st) := mkIF (by decide +kernel) (Nat.le_of_ble_eq_true rfl) (fun X res hl hG B => by subst hl; subst hG; exact t_J9_min_7cf53 B fu p0 p1 st)
/-! StageHouse$Axis.restsWithin(II)Z -/
def b_X0_restsWithin_51 (fu : Nat)  (y0 : Int32) (st : St) : Option (Int32 × St) :=
  ck (isb y0) (some (y0, st))
set_option maxHeartbeats 4000000 in
set_option maxRecDepth 100000 in
theorem t_X0_restsWithin_51 {X : CX} {res : Int32 × St} (B : BI X cX0_restsWithin RX0 4 1 NN (some .boolean) res) (fu : Nat)  (y0 : Int32) (st : St) : WW X res NN 51 [] [.int y0] st (b_X0_restsWithin_51 fu y0 st) := by
  have hX := B.1
  have hL := B.2.1
  unfold b_X0_restsWithin_51
  exact ww_zret B dX0_restsWithin_51
def b_X0_restsWithin_23 (fu : Nat) (x0 : Nat) (x1 : Int32) (x2 : Int32) (y0 : Int32) (st : St) : Option (Int32 × St) :=
  ck ((kd x0).1 = 0) <|
  ck (¬ 2 = 0) <|
  if x2 < ((x1 + (y0 * x1)) - ((((gI st x0 4) * y0) * (y0 + 1)) / 2)) then (
  b_X0_restsWithin_51 fu  0 st)
  else (
  b_X0_restsWithin_51 fu  1 st)
set_option maxHeartbeats 4000000 in
set_option maxRecDepth 100000 in
theorem t_X0_restsWithin_23 {X : CX} {res : Int32 × St} (B : BI X cX0_restsWithin RX0 4 1 NN (some .boolean) res) (fu : Nat) (x0 : Nat) (x1 : Int32) (x2 : Int32) (y0 : Int32) (st : St) : WW X res NN 23 [(0, .ref (x_b X + x0)), (1, .int x1), (2, .int x2)] [.int y0] st (b_X0_restsWithin_23 fu x0 x1 x2 y0 st) := by
  have hX := B.1
  have hL := B.2.1
  unfold b_X0_restsWithin_23
  refine ww_istore_n (lv' := [(3, .int y0), (0, .ref (x_b X + x0)), (1, .int x1), (2, .int x2)]) hX hL dX0_restsWithin_23 rfl (by decide) rfl ?_
  refine ww_iload_n hX 2 rfl dX0_restsWithin_24 rfl ?_
  refine ww_iload_n hX 0 rfl dX0_restsWithin_25 rfl ?_
  refine ww_iload_n hX 2 rfl dX0_restsWithin_26 rfl ?_
  refine ww_imul hX dX0_restsWithin_27 ?_
  refine ww_iadd hX dX0_restsWithin_28 ?_
  refine ww_aload_n hX 1 rfl dX0_restsWithin_29 rfl ?_
  refine ww_pc (b := 30) rfl ?_
  refine ww_getI hX f_X0_34 (Or.inl rfl) dX0_restsWithin_30 ?_
  refine ww_iload_n hX 0 rfl dX0_restsWithin_33 rfl ?_
  refine ww_imul hX dX0_restsWithin_34 ?_
  refine ww_iload_n hX 0 rfl dX0_restsWithin_35 rfl ?_
  refine ww_iconst (v := 1) hX rfl dX0_restsWithin_36 ?_
  refine ww_iadd hX dX0_restsWithin_37 ?_
  refine ww_imul hX dX0_restsWithin_38 ?_
  refine ww_iconst (v := 2) hX rfl dX0_restsWithin_39 ?_
  refine ww_pc (b := 40) rfl ?_
  refine ww_idiv hX dX0_restsWithin_40 ?_
  refine ww_isub hX dX0_restsWithin_41 ?_
  refine ww_iload_n hX 3 rfl dX0_restsWithin_42 rfl ?_
  refine ww_icmp_gt (tgt := 50) hX dX0_restsWithin_43 (by decide) ?_ ?_
  · refine ww_iconst (v := 0) hX rfl dX0_restsWithin_50 ?_
    exact ww_sub [] rfl (t_X0_restsWithin_51 B fu  0 st)
  · refine ww_iconst (v := 1) hX rfl dX0_restsWithin_46 ?_
    refine ww_goto (tgt := 51) hX dX0_restsWithin_47 (by decide) ?_
    exact ww_sub [] rfl (t_X0_restsWithin_51 B fu  1 st)
def b_X0_restsWithin_22 (fu : Nat) (x0 : Nat) (x1 : Int32) (x2 : Int32)  (st : St) : Option (Int32 × St) :=
  b_X0_restsWithin_23 fu x0 x1 x2 0 st
set_option maxHeartbeats 4000000 in
set_option maxRecDepth 100000 in
theorem t_X0_restsWithin_22 {X : CX} {res : Int32 × St} (B : BI X cX0_restsWithin RX0 4 1 NN (some .boolean) res) (fu : Nat) (x0 : Nat) (x1 : Int32) (x2 : Int32)  (st : St) : WW X res NN 22 [(0, .ref (x_b X + x0)), (1, .int x1), (2, .int x2)] [] st (b_X0_restsWithin_22 fu x0 x1 x2 st) := by
  have hX := B.1
  have hL := B.2.1
  unfold b_X0_restsWithin_22
  refine ww_iconst (v := 0) hX rfl dX0_restsWithin_22 ?_
  exact t_X0_restsWithin_23 B fu x0 x1 x2 0 st
def f_X0_restsWithin (fu : Nat) (th : Nat) (p1 : Int32) (p2 : Int32) (st : St) : Option (Int32 × St) :=
  if p1 ≤ 0 then (
  b_X0_restsWithin_22 fu th p1 p2  st)
  else (
  ck ((kd th).1 = 0) <|
  if (gI st th 4) ≤ 0 then (
  b_X0_restsWithin_22 fu th p1 p2  st)
  else (
  ck ((kd th).1 = 0) <|
  ck (¬ (gI st th 4) = 0) <|
  b_X0_restsWithin_23 fu th p1 p2 ((p1 - 1) / (gI st th 4)) st))
set_option maxHeartbeats 4000000 in
set_option maxRecDepth 100000 in
theorem t_X0_restsWithin {X : CX} {res : Int32 × St} (B : BI X cX0_restsWithin RX0 4 1 NN (some .boolean) res) (fu : Nat) (th : Nat) (p1 : Int32) (p2 : Int32) (st : St) : WW X res NN 0 [(0, .ref (x_b X + th)), (1, .int p1), (2, .int p2)] [] st (f_X0_restsWithin fu th p1 p2 st) := by
  have hX := B.1
  have hL := B.2.1
  unfold f_X0_restsWithin
  refine ww_iload_n hX 1 rfl dX0_restsWithin_0 rfl ?_
  refine ww_if_le (tgt := 22) hX dX0_restsWithin_1 (by decide) ?_ ?_
  · exact t_X0_restsWithin_22 B fu th p1 p2  st
  · refine ww_aload_n hX 0 rfl dX0_restsWithin_4 rfl ?_
    refine ww_getI hX f_X0_34 (Or.inl rfl) dX0_restsWithin_5 ?_
    refine ww_if_le (tgt := 22) hX dX0_restsWithin_8 (by decide) ?_ ?_
    · exact t_X0_restsWithin_22 B fu th p1 p2  st
    · refine ww_iload_n hX 1 rfl dX0_restsWithin_11 rfl ?_
      refine ww_iconst (v := 1) hX rfl dX0_restsWithin_12 ?_
      refine ww_isub hX dX0_restsWithin_13 ?_
      refine ww_aload_n hX 0 rfl dX0_restsWithin_14 rfl ?_
      refine ww_getI hX f_X0_34 (Or.inl rfl) dX0_restsWithin_15 ?_
      refine ww_idiv hX dX0_restsWithin_18 ?_
      refine ww_goto (tgt := 23) hX dX0_restsWithin_19 (by decide) ?_
      exact t_X0_restsWithin_23 B fu th p1 p2 ((p1 - 1) / (gI st th 4)) st
theorem c_X0_restsWithin (G : GX) (l : Launch) (fu : Nat) (th : Nat) (p1 : Int32) (p2 : Int32) (st : St) : MI G NN l yX0_restsWithin cX0_restsWithin 4 (some .boolean) 1 [.ref (G.2.2.1 + th), .int p1, .int p2] st (f_X0_restsWithin fu th p1 p2 st) := mkI (by decide) (Nat.le_of_ble_eq_true rfl) (fun X res hl hG B => by subst hl; subst hG; exact t_X0_restsWithin B fu th p1 p2 st)
/-! StageHouse$Axis.paceFor(II)I -/
def b_X0_paceFor_68 (fu : Nat) (x4 : Int32)  (st : St) : Option (Int32 × St) :=
  some (x4, st)
set_option maxHeartbeats 4000000 in
set_option maxRecDepth 100000 in
theorem t_X0_paceFor_68 {X : CX} {res : Int32 × St} (B : BI X cX0_paceFor RX0 8 2 NN (some .int) res) (fu : Nat) (x4 : Int32)  (st : St) : WW X res NN 68 [(4, .int x4)] [] st (b_X0_paceFor_68 fu x4 st) := by
  have hX := B.1
  have hL := B.2.1
  unfold b_X0_paceFor_68
  refine ww_iload hX 0 rfl dX0_paceFor_68 ?_
  exact ww_iret B dX0_paceFor_70
def b_X0_paceFor_128 (fu : Nat) (x4 : Int32)  (st : St) : Option (Int32 × St) :=
  some (x4, st)
set_option maxHeartbeats 4000000 in
set_option maxRecDepth 100000 in
theorem t_X0_paceFor_128 {X : CX} {res : Int32 × St} (B : BI X cX0_paceFor RX0 8 2 NN (some .int) res) (fu : Nat) (x4 : Int32)  (st : St) : WW X res NN 128 [(4, .int x4)] [] st (b_X0_paceFor_128 fu x4 st) := by
  have hX := B.1
  have hL := B.2.1
  unfold b_X0_paceFor_128
  refine ww_iload hX 0 rfl dX0_paceFor_128 ?_
  exact ww_iret B dX0_paceFor_130
def b_X0_paceFor_122 (fu : Nat) (k_74 : Nat → Int32 → Int32 → Int32 → Int32 → St → Option (Int32 × St)) (x0 : Nat) (x2 : Int32) (x4 : Int32) (x5 : Int32) (x6 : Int32)  (st : St) : Option (Int32 × St) :=
  bd (x6 + 1) fun v11 =>
  k_74 x0 x2 x4 x5 v11  st
set_option maxHeartbeats 4000000 in
set_option maxRecDepth 100000 in
theorem t_X0_paceFor_122 {X : CX} {res : Int32 × St} (B : BI X cX0_paceFor RX0 8 2 NN (some .int) res) (fu : Nat) (k_74 : Nat → Int32 → Int32 → Int32 → Int32 → St → Option (Int32 × St)) (h_74 : ∀ (x0 : Nat) (x2 : Int32) (x4 : Int32) (x5 : Int32) (x6 : Int32)  (st : St), WW X res NN 74 [(0, .ref (x_b X + x0)), (2, .int x2), (4, .int x4), (5, .int x5), (6, .int x6)] [] st (k_74 x0 x2 x4 x5 x6 st)) (x0 : Nat) (x2 : Int32) (x4 : Int32) (x5 : Int32) (x6 : Int32)  (st : St) : WW X res NN 122 [(0, .ref (x_b X + x0)), (2, .int x2), (4, .int x4), (5, .int x5), (6, .int x6)] [] st (b_X0_paceFor_122 fu k_74 x0 x2 x4 x5 x6 st) := by
  have hX := B.1
  have hL := B.2.1
  unfold b_X0_paceFor_122
  refine ww_iincb (lv' := fun v11 => [(6, .int v11), (0, .ref (x_b X + x0)), (2, .int x2), (4, .int x4), (5, .int x5)]) (c := 1) hX hL 4 rfl dX0_paceFor_122 rfl (by decide) (fun _ => rfl) (fun v11 => ?_)
  refine ww_goto (tgt := 74) hX dX0_paceFor_125 (by decide) ?_
  exact ww_sub [1, 2, 3, 4, 0] rfl (h_74 x0 x2 x4 x5 v11  st)
def b_X0_paceFor_74_b (fu : Nat) (k_74 : Nat → Int32 → Int32 → Int32 → Int32 → St → Option (Int32 × St)) (x0 : Nat) (x2 : Int32) (x4 : Int32) (x5 : Int32) (x6 : Int32)  (st : St) : Option (Int32 × St) :=
  if 12 ≤ x6 then (
  b_X0_paceFor_128 fu x4  st)
  else (
  if x5 ≤ x4 then (
  b_X0_paceFor_128 fu x4  st)
  else (
  ck (¬ 2 = 0) <|
  bd (((x4 + x5) + 1) / 2) fun v7 =>
  ck ((kd x0).1 = 0) <|
  ca (f_X0_restsWithin fu x0 v7 x2 st) fun r8 s9 =>
  if r8 = 0 then (
  bd (v7 - 1) fun v10 =>
  b_X0_paceFor_122 fu k_74 x0 x2 x4 v10 x6  s9)
  else (
  b_X0_paceFor_122 fu k_74 x0 x2 v7 x5 x6  s9)))
set_option maxHeartbeats 4000000 in
set_option maxRecDepth 100000 in
theorem t_X0_paceFor_74_b {X : CX} {res : Int32 × St} (B : BI X cX0_paceFor RX0 8 2 NN (some .int) res) (fu : Nat) (k_74 : Nat → Int32 → Int32 → Int32 → Int32 → St → Option (Int32 × St)) (h_74 : ∀ (x0 : Nat) (x2 : Int32) (x4 : Int32) (x5 : Int32) (x6 : Int32)  (st : St), WW X res NN 74 [(0, .ref (x_b X + x0)), (2, .int x2), (4, .int x4), (5, .int x5), (6, .int x6)] [] st (k_74 x0 x2 x4 x5 x6 st)) (x0 : Nat) (x2 : Int32) (x4 : Int32) (x5 : Int32) (x6 : Int32)  (st : St) : WW X res NN 74 [(0, .ref (x_b X + x0)), (2, .int x2), (4, .int x4), (5, .int x5), (6, .int x6)] [] st (b_X0_paceFor_74_b fu k_74 x0 x2 x4 x5 x6 st) := by
  have hX := B.1
  have hL := B.2.1
  unfold b_X0_paceFor_74_b
  refine ww_iload hX 4 rfl dX0_paceFor_74 ?_
  refine ww_bipush (v := 12) hX rfl dX0_paceFor_76 ?_
  refine ww_icmp_ge (tgt := 128) hX dX0_paceFor_78 (by decide) ?_ ?_
  · exact ww_sub [2] rfl (t_X0_paceFor_128 B fu x4  st)
  · refine ww_iload hX 2 rfl dX0_paceFor_81 ?_
    refine ww_iload hX 3 rfl dX0_paceFor_83 ?_
    refine ww_icmp_ge (tgt := 128) hX dX0_paceFor_85 (by decide) ?_ ?_
    · exact ww_sub [2] rfl (t_X0_paceFor_128 B fu x4  st)
    · refine ww_iload hX 2 rfl dX0_paceFor_88 ?_
      refine ww_iload hX 3 rfl dX0_paceFor_90 ?_
      refine ww_iadd hX dX0_paceFor_92 ?_
      refine ww_iconst (v := 1) hX rfl dX0_paceFor_93 ?_
      refine ww_iadd hX dX0_paceFor_94 ?_
      refine ww_iconst (v := 2) hX rfl dX0_paceFor_95 ?_
      refine ww_idiv hX dX0_paceFor_96 ?_
      refine ww_pc (b := 97) rfl ?_
      refine ww_bdi (fun v7 => ?_)
      refine ww_istore (lv' := [(7, .int v7), (0, .ref (x_b X + x0)), (2, .int x2), (4, .int x4), (5, .int x5), (6, .int x6)]) hX hL dX0_paceFor_97 (by decide) rfl ?_
      refine ww_aload_n hX 1 rfl dX0_paceFor_99 rfl ?_
      refine ww_iload hX 0 rfl dX0_paceFor_100 ?_
      refine ww_iload_n hX 2 rfl dX0_paceFor_102 rfl ?_
      refine ww_callVI (As := [.int v7, .int x2]) (rest := []) (o := x0) hX (Rk.of B.2.2.1 B.2.2.2.1 (by decide) (by decide)) g_X0_71 g_X0_71.in (fun _ => c_X0_restsWithin (x_G X) (x_l X) fu x0 v7 x2 st) rfl rfl (Nat.le_of_ble_eq_true rfl) dX0_paceFor_103 (fun r8 s9 => ?_)
      refine ww_if_eq (tgt := 116) hX dX0_paceFor_106 (by decide) ?_ ?_
      · refine ww_iload hX 0 rfl dX0_paceFor_116 ?_
        refine ww_iconst (v := 1) hX rfl dX0_paceFor_118 ?_
        refine ww_isub hX dX0_paceFor_119 ?_
        refine ww_bdi (fun v10 => ?_)
        refine ww_istore (lv' := [(5, .int v10), (7, .int v7), (0, .ref (x_b X + x0)), (2, .int x2), (4, .int x4), (6, .int x6)]) hX hL dX0_paceFor_120 (by decide) rfl ?_
        exact ww_sub [2, 3, 4, 0, 5] rfl (t_X0_paceFor_122 B fu k_74 h_74 x0 x2 x4 v10 x6  s9)
      · refine ww_iload hX 0 rfl dX0_paceFor_109 ?_
        refine ww_istore (lv' := [(4, .int v7), (7, .int v7), (0, .ref (x_b X + x0)), (2, .int x2), (5, .int x5), (6, .int x6)]) hX hL dX0_paceFor_111 (by decide) rfl ?_
        refine ww_goto (tgt := 122) hX dX0_paceFor_113 (by decide) ?_
        exact ww_sub [2, 3, 0, 4, 5] rfl (t_X0_paceFor_122 B fu k_74 h_74 x0 x2 v7 x5 x6  s9)
def b_X0_paceFor_74 (fu : Nat) : Nat → Nat → Int32 → Int32 → Int32 → Int32 → St → Option (Int32 × St)
  | 0, _, _, _, _, _, _ => none
  | i + 1, x0, x2, x4, x5, x6, st => b_X0_paceFor_74_b fu (b_X0_paceFor_74 fu i) x0 x2 x4 x5 x6 st
theorem t_X0_paceFor_74 {X : CX} {res : Int32 × St} (B : BI X cX0_paceFor RX0 8 2 NN (some .int) res) (fu : Nat) : ∀ (i : Nat) (x0 : Nat) (x2 : Int32) (x4 : Int32) (x5 : Int32) (x6 : Int32)  (st : St), WW X res NN 74 [(0, .ref (x_b X + x0)), (2, .int x2), (4, .int x4), (5, .int x5), (6, .int x6)] [] st (b_X0_paceFor_74 fu i x0 x2 x4 x5 x6 st) := by
  intro i
  induction i with
  | zero => intro x0 x2 x4 x5 x6 st; exact ww_none
  | succ i ih => intro x0 x2 x4 x5 x6 st; exact t_X0_paceFor_74_b B fu (b_X0_paceFor_74 fu i) ih x0 x2 x4 x5 x6 st
def b_X0_paceFor_26 (fu : Nat) (x0 : Nat) (x1 : Int32) (x2 : Int32) (y0 : Int32) (st : St) : Option (Int32 × St) :=
  ck ((kd x0).1 = 0) <|
  ca (f_J9_max_7cf53 fu 0 (x1 - (gI st x0 4)) st) fun r1 s2 =>
  ck ((kd x0).1 = 0) <|
  ca (f_J9_min_7cf53 fu (x1 + (gI s2 x0 4)) y0 s2) fun r3 s4 =>
  if r3 ≤ r1 then (
  b_X0_paceFor_68 fu r1  s4)
  else (
  ck ((kd x0).1 = 0) <|
  ca (f_X0_restsWithin fu x0 r1 x2 s4) fun r5 s6 =>
  if r5 = 0 then (
  b_X0_paceFor_68 fu r1  s6)
  else (
  b_X0_paceFor_74 fu fu x0 x2 r1 r3 0  s6))
set_option maxHeartbeats 4000000 in
set_option maxRecDepth 100000 in
theorem t_X0_paceFor_26 {X : CX} {res : Int32 × St} (B : BI X cX0_paceFor RX0 8 2 NN (some .int) res) (fu : Nat) (x0 : Nat) (x1 : Int32) (x2 : Int32) (y0 : Int32) (st : St) : WW X res NN 26 [(0, .ref (x_b X + x0)), (1, .int x1), (2, .int x2)] [.int y0] st (b_X0_paceFor_26 fu x0 x1 x2 y0 st) := by
  have hX := B.1
  have hL := B.2.1
  unfold b_X0_paceFor_26
  refine ww_istore_n (lv' := [(3, .int y0), (0, .ref (x_b X + x0)), (1, .int x1), (2, .int x2)]) hX hL dX0_paceFor_26 rfl (by decide) rfl ?_
  refine ww_iconst (v := 0) hX rfl dX0_paceFor_27 ?_
  refine ww_iload_n hX 2 rfl dX0_paceFor_28 rfl ?_
  refine ww_aload_n hX 1 rfl dX0_paceFor_29 rfl ?_
  refine ww_getI hX f_X0_34 (Or.inl rfl) dX0_paceFor_30 ?_
  refine ww_isub hX dX0_paceFor_33 ?_
  refine ww_callSI (As := [.int 0, .int (x1 - (gI st x0 4))]) (rest := []) hX (Rk.of B.2.2.1 B.2.2.2.1 (by decide) (by decide)) g_X0_55 (c_J9_max_7cf53 (x_G X) (x_l X) fu 0 (x1 - (gI st x0 4)) st) rfl rfl (Nat.le_of_ble_eq_true rfl) dX0_paceFor_34 (fun r1 s2 => ?_)
  refine ww_pc (b := 37) rfl ?_
  refine ww_istore (lv' := [(4, .int r1), (3, .int y0), (0, .ref (x_b X + x0)), (1, .int x1), (2, .int x2)]) hX hL dX0_paceFor_37 (by decide) rfl ?_
  refine ww_iload_n hX 3 rfl dX0_paceFor_39 rfl ?_
  refine ww_aload_n hX 2 rfl dX0_paceFor_40 rfl ?_
  refine ww_getI hX f_X0_34 (Or.inl rfl) dX0_paceFor_41 ?_
  refine ww_iadd hX dX0_paceFor_44 ?_
  refine ww_iload_n hX 1 rfl dX0_paceFor_45 rfl ?_
  refine ww_callSI (As := [.int (x1 + (gI s2 x0 4)), .int y0]) (rest := []) hX (Rk.of B.2.2.1 B.2.2.2.1 (by decide) (by decide)) g_X0_61 (c_J9_min_7cf53 (x_G X) (x_l X) fu (x1 + (gI s2 x0 4)) y0 s2) rfl rfl (Nat.le_of_ble_eq_true rfl) dX0_paceFor_46 (fun r3 s4 => ?_)
  refine ww_istore (lv' := [(5, .int r3), (4, .int r1), (3, .int y0), (0, .ref (x_b X + x0)), (1, .int x1), (2, .int x2)]) hX hL dX0_paceFor_49 (by decide) rfl ?_
  refine ww_pc (b := 51) rfl ?_
  refine ww_iload hX 0 rfl dX0_paceFor_51 ?_
  refine ww_iload hX 1 rfl dX0_paceFor_53 ?_
  refine ww_icmp_le (tgt := 68) hX dX0_paceFor_55 (by decide) ?_ ?_
  · exact ww_sub [1] rfl (t_X0_paceFor_68 B fu r1  s4)
  · refine ww_aload_n hX 3 rfl dX0_paceFor_58 rfl ?_
    refine ww_iload hX 1 rfl dX0_paceFor_59 ?_
    refine ww_iload_n hX 5 rfl dX0_paceFor_61 rfl ?_
    refine ww_callVI (As := [.int r1, .int x2]) (rest := []) (o := x0) hX (Rk.of B.2.2.1 B.2.2.2.1 (by decide) (by decide)) g_X0_71 g_X0_71.in (fun _ => c_X0_restsWithin (x_G X) (x_l X) fu x0 r1 x2 s4) rfl rfl (Nat.le_of_ble_eq_true rfl) dX0_paceFor_62 (fun r5 s6 => ?_)
    refine ww_if_ne (tgt := 71) hX dX0_paceFor_65 (by decide) ?_ ?_
    · refine ww_iconst (v := 0) hX rfl dX0_paceFor_71 ?_
      refine ww_istore (lv' := [(6, .int 0), (5, .int r3), (4, .int r1), (3, .int y0), (0, .ref (x_b X + x0)), (1, .int x1), (2, .int x2)]) hX hL dX0_paceFor_72 (by decide) rfl ?_
      exact ww_sub [4, 6, 2, 1, 0] rfl (t_X0_paceFor_74 B fu fu x0 x2 r1 r3 0  s6)
    · exact ww_sub [1] rfl (t_X0_paceFor_68 B fu r1  s6)
def f_X0_paceFor (fu : Nat) (th : Nat) (p1 : Int32) (p2 : Int32) (st : St) : Option (Int32 × St) :=
  ck ((kd th).1 = 0) <|
  if ((gI st th 10) &&& 4) = 0 then (
  ck ((kd th).1 = 0) <|
  b_X0_paceFor_26 fu th p1 p2 (gI st th 3) st)
  else (
  ck ((kd th).1 = 0) <|
  ck (¬ 2 = 0) <|
  ca (f_J9_max_7cf53 fu 1 ((gI st th 3) / 2) st) fun r12 s13 =>
  b_X0_paceFor_26 fu th p1 p2 r12 s13)
set_option maxHeartbeats 4000000 in
set_option maxRecDepth 100000 in
theorem t_X0_paceFor {X : CX} {res : Int32 × St} (B : BI X cX0_paceFor RX0 8 2 NN (some .int) res) (fu : Nat) (th : Nat) (p1 : Int32) (p2 : Int32) (st : St) : WW X res NN 0 [(0, .ref (x_b X + th)), (1, .int p1), (2, .int p2)] [] st (f_X0_paceFor fu th p1 p2 st) := by
  have hX := B.1
  have hL := B.2.1
  unfold f_X0_paceFor
  refine ww_aload_n hX 0 rfl dX0_paceFor_0 rfl ?_
  refine ww_getI hX f_X0_49 (Or.inl rfl) dX0_paceFor_1 ?_
  refine ww_iconst (v := 4) hX rfl dX0_paceFor_4 ?_
  refine ww_iand hX dX0_paceFor_5 ?_
  refine ww_if_eq (tgt := 22) hX dX0_paceFor_6 (by decide) ?_ ?_
  · refine ww_aload_n hX 0 rfl dX0_paceFor_22 rfl ?_
    refine ww_getI hX f_X0_31 (Or.inl rfl) dX0_paceFor_23 ?_
    exact t_X0_paceFor_26 B fu th p1 p2 (gI st th 3) st
  · refine ww_iconst (v := 1) hX rfl dX0_paceFor_9 ?_
    refine ww_aload_n hX 0 rfl dX0_paceFor_10 rfl ?_
    refine ww_getI hX f_X0_31 (Or.inl rfl) dX0_paceFor_11 ?_
    refine ww_iconst (v := 2) hX rfl dX0_paceFor_14 ?_
    refine ww_idiv hX dX0_paceFor_15 ?_
    refine ww_callSI (As := [.int 1, .int ((gI st th 3) / 2)]) (rest := []) hX (Rk.of B.2.2.1 B.2.2.2.1 (by decide) (by decide)) g_X0_55 (c_J9_max_7cf53 (x_G X) (x_l X) fu 1 ((gI st th 3) / 2) st) rfl rfl (Nat.le_of_ble_eq_true rfl) dX0_paceFor_16 (fun r12 s13 => ?_)
    refine ww_goto (tgt := 26) hX dX0_paceFor_19 (by decide) ?_
    exact t_X0_paceFor_26 B fu th p1 p2 r12 s13
theorem c_X0_paceFor (G : GX) (l : Launch) (fu : Nat) (th : Nat) (p1 : Int32) (p2 : Int32) (st : St) : MI G NN l yX0_paceFor cX0_paceFor 8 (some .int) 2 [.ref (G.2.2.1 + th), .int p1, .int p2] st (f_X0_paceFor fu th p1 p2 st) := mkI (by decide) (Nat.le_of_ble_eq_true rfl) (fun X res hl hG B => by subst hl; subst hG; exact t_X0_paceFor B fu th p1 p2 st)
/-! StageHouse$Axis.move()V -/
def b_X0_move_190 (fu : Nat)   (st : St) : Option (St) :=
  some st
set_option maxHeartbeats 4000000 in
set_option maxRecDepth 100000 in
theorem t_X0_move_190 {X : CX} {res : St} (B : BV X cX0_move RX0 5 3 NN none res) (fu : Nat)   (st : St) : WW X res NN 190 [] [] st (b_X0_move_190 fu  st) := by
  have hX := B.1
  have hL := B.2.1
  unfold b_X0_move_190
  exact ww_vret B dX0_move_190
def b_X0_move_151 (fu : Nat) (x0 : Nat) (y0 : Nat) (y1 : Int32) (st : St) : Option (St) :=
  ck ((kd y0).1 = 0) <|
  bd (sI st y0 6 y1) fun s6 =>
  ck ((kd x0).1 = 0) <|
  ck ((kd x0).1 = 0) <|
  ck ((kd x0).1 = 0) <|
  bd (sI s6 x0 5 ((gI s6 x0 5) + (gI s6 x0 6))) fun s7 =>
  ck ((kd x0).1 = 0) <|
  ck ((kd x0).1 = 0) <|
  if (gI s7 x0 5) = (gI s7 x0 7) then (
  ck ((kd x0).1 = 0) <|
  if (gI s7 x0 6) = 0 then (
  ck ((kd x0).1 = 0) <|
  bd (sI s7 x0 7 ((-1))) fun s8 =>
  b_X0_move_190 fu   s8)
  else (
  b_X0_move_190 fu   s7))
  else (
  b_X0_move_190 fu   s7)
set_option maxHeartbeats 4000000 in
set_option maxRecDepth 100000 in
theorem t_X0_move_151 {X : CX} {res : St} (B : BV X cX0_move RX0 5 3 NN none res) (fu : Nat) (x0 : Nat) (y0 : Nat) (y1 : Int32) (st : St) : WW X res NN 151 [(0, .ref (x_b X + x0))] [.int y1, .ref (x_b X + y0)] st (b_X0_move_151 fu x0 y0 y1 st) := by
  have hX := B.1
  have hL := B.2.1
  unfold b_X0_move_151
  refine ww_putI hX f_X0_40 rfl dX0_move_151 ?_
  refine ww_bds (fun s6 => ?_)
  refine ww_aload_n hX 0 rfl dX0_move_154 rfl ?_
  refine ww_dup hX rfl dX0_move_155 ?_
  refine ww_getI hX f_X0_37 (Or.inl rfl) dX0_move_156 ?_
  refine ww_aload_n hX 0 rfl dX0_move_159 rfl ?_
  refine ww_getI hX f_X0_40 (Or.inl rfl) dX0_move_160 ?_
  refine ww_iadd hX dX0_move_163 ?_
  refine ww_pc (b := 164) rfl ?_
  refine ww_putI hX f_X0_37 rfl dX0_move_164 ?_
  refine ww_bds (fun s7 => ?_)
  refine ww_aload_n hX 0 rfl dX0_move_167 rfl ?_
  refine ww_getI hX f_X0_37 (Or.inl rfl) dX0_move_168 ?_
  refine ww_aload_n hX 0 rfl dX0_move_171 rfl ?_
  refine ww_getI hX f_X0_9 (Or.inl rfl) dX0_move_172 ?_
  refine ww_icmp_ne (tgt := 190) hX dX0_move_175 (by decide) ?_ ?_
  · exact ww_sub [] rfl (t_X0_move_190 B fu   s7)
  · refine ww_aload_n hX 0 rfl dX0_move_178 rfl ?_
    refine ww_getI hX f_X0_40 (Or.inl rfl) dX0_move_179 ?_
    refine ww_if_ne (tgt := 190) hX dX0_move_182 (by decide) ?_ ?_
    · exact ww_sub [] rfl (t_X0_move_190 B fu   s7)
    · refine ww_aload_n hX 0 rfl dX0_move_185 rfl ?_
      refine ww_iconst (v := (-1)) hX rfl dX0_move_186 ?_
      refine ww_putI hX f_X0_9 rfl dX0_move_187 ?_
      refine ww_bds (fun s8 => ?_)
      exact ww_sub [] rfl (t_X0_move_190 B fu   s8)
def b_X0_move_136 (fu : Nat) (x0 : Nat) (x2 : Int32) (y0 : Int32) (st : St) : Option (St) :=
  if x2 = 0 then (
  b_X0_move_151 fu x0 x0 (-y0) st)
  else (
  b_X0_move_151 fu x0 x0 y0 st)
set_option maxHeartbeats 4000000 in
set_option maxRecDepth 100000 in
theorem t_X0_move_136 {X : CX} {res : St} (B : BV X cX0_move RX0 5 3 NN none res) (fu : Nat) (x0 : Nat) (x2 : Int32) (y0 : Int32) (st : St) : WW X res NN 136 [(0, .ref (x_b X + x0)), (2, .int x2)] [.int y0] st (b_X0_move_136 fu x0 x2 y0 st) := by
  have hX := B.1
  have hL := B.2.1
  unfold b_X0_move_136
  refine ww_istore (lv' := [(4, .int y0), (0, .ref (x_b X + x0)), (2, .int x2)]) hX hL dX0_move_136 (by decide) rfl ?_
  refine ww_aload_n hX 1 rfl dX0_move_138 rfl ?_
  refine ww_iload_n hX 2 rfl dX0_move_139 rfl ?_
  refine ww_if_eq (tgt := 148) hX dX0_move_140 (by decide) ?_ ?_
  · refine ww_iload hX 0 rfl dX0_move_148 ?_
    refine ww_ineg hX dX0_move_150 ?_
    exact ww_sub [1] rfl (t_X0_move_151 B fu x0 x0 (-y0) st)
  · refine ww_iload hX 0 rfl dX0_move_143 ?_
    refine ww_goto (tgt := 151) hX dX0_move_145 (by decide) ?_
    exact ww_sub [1] rfl (t_X0_move_151 B fu x0 x0 y0 st)
def b_X0_move_109 (fu : Nat) (x0 : Nat) (x1 : Int32) (x2 : Int32) (y0 : Int32) (st : St) : Option (St) :=
  if 0 ≤ y0 then (
  ca (f_J9_abs_0f7a4 fu x1 st) fun r2 s3 =>
  ck ((kd x0).1 = 0) <|
  ca (f_X0_paceFor fu x0 y0 r2 s3) fun r4 s5 =>
  b_X0_move_136 fu x0 x2 r4 s5)
  else (
  ck ((kd x0).1 = 0) <|
  ca (f_J9_min_7cf53 fu 0 (y0 + (gI st x0 4)) st) fun r9 s10 =>
  b_X0_move_136 fu x0 x2 r9 s10)
set_option maxHeartbeats 4000000 in
set_option maxRecDepth 100000 in
theorem t_X0_move_109 {X : CX} {res : St} (B : BV X cX0_move RX0 5 3 NN none res) (fu : Nat) (x0 : Nat) (x1 : Int32) (x2 : Int32) (y0 : Int32) (st : St) : WW X res NN 109 [(0, .ref (x_b X + x0)), (1, .int x1), (2, .int x2)] [.int y0] st (b_X0_move_109 fu x0 x1 x2 y0 st) := by
  have hX := B.1
  have hL := B.2.1
  unfold b_X0_move_109
  refine ww_istore_n (lv' := [(3, .int y0), (0, .ref (x_b X + x0)), (1, .int x1), (2, .int x2)]) hX hL dX0_move_109 rfl (by decide) rfl ?_
  refine ww_iload_n hX 0 rfl dX0_move_110 rfl ?_
  refine ww_if_ge (tgt := 127) hX dX0_move_111 (by decide) ?_ ?_
  · refine ww_aload_n hX 1 rfl dX0_move_127 rfl ?_
    refine ww_iload_n hX 0 rfl dX0_move_128 rfl ?_
    refine ww_iload_n hX 2 rfl dX0_move_129 rfl ?_
    refine ww_callSI (As := [.int x1]) (rest := [.int y0, .ref (x_b X + x0)]) hX (Rk.of B.2.2.1 B.2.2.2.1 (by decide) (by decide)) g_X0_64 (c_J9_abs_0f7a4 (x_G X) (x_l X) fu x1 st) rfl rfl (Nat.le_of_ble_eq_true rfl) dX0_move_130 (fun r2 s3 => ?_)
    refine ww_callVI (As := [.int y0, .int r2]) (rest := []) (o := x0) hX (Rk.of B.2.2.1 B.2.2.2.1 (by decide) (by decide)) g_X0_68 g_X0_68.in (fun _ => c_X0_paceFor (x_G X) (x_l X) fu x0 y0 r2 s3) rfl rfl (Nat.le_of_ble_eq_true rfl) dX0_move_133 (fun r4 s5 => ?_)
    exact ww_sub [1, 3] rfl (t_X0_move_136 B fu x0 x2 r4 s5)
  · refine ww_iconst (v := 0) hX rfl dX0_move_114 ?_
    refine ww_iload_n hX 0 rfl dX0_move_115 rfl ?_
    refine ww_aload_n hX 1 rfl dX0_move_116 rfl ?_
    refine ww_getI hX f_X0_34 (Or.inl rfl) dX0_move_117 ?_
    refine ww_iadd hX dX0_move_120 ?_
    refine ww_callSI (As := [.int 0, .int (y0 + (gI st x0 4))]) (rest := []) hX (Rk.of B.2.2.1 B.2.2.2.1 (by decide) (by decide)) g_X0_61 (c_J9_min_7cf53 (x_G X) (x_l X) fu 0 (y0 + (gI st x0 4)) st) rfl rfl (Nat.le_of_ble_eq_true rfl) dX0_move_121 (fun r9 s10 => ?_)
    refine ww_goto (tgt := 136) hX dX0_move_124 (by decide) ?_
    exact ww_sub [1, 3] rfl (t_X0_move_136 B fu x0 x2 r9 s10)
def b_X0_move_92 (fu : Nat) (x0 : Nat) (x1 : Int32) (y0 : Int32) (st : St) : Option (St) :=
  if y0 = 0 then (
  ck ((kd x0).1 = 0) <|
  b_X0_move_109 fu x0 x1 y0 (-(gI st x0 6)) st)
  else (
  ck ((kd x0).1 = 0) <|
  b_X0_move_109 fu x0 x1 y0 (gI st x0 6) st)
set_option maxHeartbeats 4000000 in
set_option maxRecDepth 100000 in
theorem t_X0_move_92 {X : CX} {res : St} (B : BV X cX0_move RX0 5 3 NN none res) (fu : Nat) (x0 : Nat) (x1 : Int32) (y0 : Int32) (st : St) : WW X res NN 92 [(0, .ref (x_b X + x0)), (1, .int x1)] [.int y0] st (b_X0_move_92 fu x0 x1 y0 st) := by
  have hX := B.1
  have hL := B.2.1
  unfold b_X0_move_92
  refine ww_istore_n (lv' := [(2, .int y0), (0, .ref (x_b X + x0)), (1, .int x1)]) hX hL dX0_move_92 rfl (by decide) rfl ?_
  refine ww_iload_n hX 0 rfl dX0_move_93 rfl ?_
  refine ww_if_eq (tgt := 104) hX dX0_move_94 (by decide) ?_ ?_
  · refine ww_aload_n hX 1 rfl dX0_move_104 rfl ?_
    refine ww_getI hX f_X0_40 (Or.inl rfl) dX0_move_105 ?_
    refine ww_ineg hX dX0_move_108 ?_
    exact ww_sub [1, 2, 0] rfl (t_X0_move_109 B fu x0 x1 y0 (-(gI st x0 6)) st)
  · refine ww_aload_n hX 1 rfl dX0_move_97 rfl ?_
    refine ww_getI hX f_X0_40 (Or.inl rfl) dX0_move_98 ?_
    refine ww_goto (tgt := 109) hX dX0_move_101 (by decide) ?_
    exact ww_sub [1, 2, 0] rfl (t_X0_move_109 B fu x0 x1 y0 (gI st x0 6) st)
def b_X0_move_87 (fu : Nat) (x0 : Nat) (x1 : Int32)  (st : St) : Option (St) :=
  b_X0_move_92 fu x0 x1 1 st
set_option maxHeartbeats 4000000 in
set_option maxRecDepth 100000 in
theorem t_X0_move_87 {X : CX} {res : St} (B : BV X cX0_move RX0 5 3 NN none res) (fu : Nat) (x0 : Nat) (x1 : Int32)  (st : St) : WW X res NN 87 [(0, .ref (x_b X + x0)), (1, .int x1)] [] st (b_X0_move_87 fu x0 x1 st) := by
  have hX := B.1
  have hL := B.2.1
  unfold b_X0_move_87
  refine ww_iconst (v := 1) hX rfl dX0_move_87 ?_
  refine ww_goto (tgt := 92) hX dX0_move_88 (by decide) ?_
  exact t_X0_move_92 B fu x0 x1 1 st
def b_X0_move_91 (fu : Nat) (x0 : Nat) (x1 : Int32)  (st : St) : Option (St) :=
  b_X0_move_92 fu x0 x1 0 st
set_option maxHeartbeats 4000000 in
set_option maxRecDepth 100000 in
theorem t_X0_move_91 {X : CX} {res : St} (B : BV X cX0_move RX0 5 3 NN none res) (fu : Nat) (x0 : Nat) (x1 : Int32)  (st : St) : WW X res NN 91 [(0, .ref (x_b X + x0)), (1, .int x1)] [] st (b_X0_move_91 fu x0 x1 st) := by
  have hX := B.1
  have hL := B.2.1
  unfold b_X0_move_91
  refine ww_iconst (v := 0) hX rfl dX0_move_91 ?_
  exact t_X0_move_92 B fu x0 x1 0 st
def b_X0_move_45 (fu : Nat) (x0 : Nat) (y0 : Nat) (y1 : Int32) (st : St) : Option (St) :=
  ck ((kd y0).1 = 0) <|
  bd (sI st y0 6 y1) fun s13 =>
  ck ((kd x0).1 = 0) <|
  ck ((kd x0).1 = 0) <|
  ck ((kd x0).1 = 0) <|
  bd (sI s13 x0 5 ((gI s13 x0 5) + (gI s13 x0 6))) fun s14 =>
  some s14
set_option maxHeartbeats 4000000 in
set_option maxRecDepth 100000 in
theorem t_X0_move_45 {X : CX} {res : St} (B : BV X cX0_move RX0 5 3 NN none res) (fu : Nat) (x0 : Nat) (y0 : Nat) (y1 : Int32) (st : St) : WW X res NN 45 [(0, .ref (x_b X + x0))] [.int y1, .ref (x_b X + y0)] st (b_X0_move_45 fu x0 y0 y1 st) := by
  have hX := B.1
  have hL := B.2.1
  unfold b_X0_move_45
  refine ww_putI hX f_X0_40 rfl dX0_move_45 ?_
  refine ww_bds (fun s13 => ?_)
  refine ww_aload_n hX 0 rfl dX0_move_48 rfl ?_
  refine ww_dup hX rfl dX0_move_49 ?_
  refine ww_getI hX f_X0_37 (Or.inl rfl) dX0_move_50 ?_
  refine ww_aload_n hX 0 rfl dX0_move_53 rfl ?_
  refine ww_getI hX f_X0_40 (Or.inl rfl) dX0_move_54 ?_
  refine ww_iadd hX dX0_move_57 ?_
  refine ww_pc (b := 58) rfl ?_
  refine ww_putI hX f_X0_37 rfl dX0_move_58 ?_
  refine ww_bds (fun s14 => ?_)
  exact ww_vret B dX0_move_61
def f_X0_move (fu : Nat) (th : Nat) (st : St) : Option (St) :=
  ck ((kd th).1 = 0) <|
  if (gI st th 7) = ((-1)) then (
  ck ((kd th).1 = 0) <|
  if (gI st th 6) ≤ 0 then (
  ck ((kd th).1 = 0) <|
  ck ((kd th).1 = 0) <|
  ca (f_J9_min_7cf53 fu 0 ((gI st th 6) + (gI st th 4)) st) fun r11 s12 =>
  b_X0_move_45 fu th th r11 s12)
  else (
  ck ((kd th).1 = 0) <|
  ck ((kd th).1 = 0) <|
  ca (f_J9_max_7cf53 fu 0 ((gI st th 6) - (gI st th 4)) st) fun r15 s16 =>
  b_X0_move_45 fu th th r15 s16))
  else (
  ck ((kd th).1 = 0) <|
  ck ((kd th).1 = 0) <|
  bd ((gI st th 7) - (gI st th 5)) fun v1 =>
  if 0 < v1 then (
  b_X0_move_87 fu th v1  st)
  else (
  if v1 = 0 then (
  ck ((kd th).1 = 0) <|
  if (gI st th 6) ≤ 0 then (
  b_X0_move_91 fu th v1  st)
  else (
  b_X0_move_87 fu th v1  st))
  else (
  b_X0_move_91 fu th v1  st)))
set_option maxHeartbeats 4000000 in
set_option maxRecDepth 100000 in
theorem t_X0_move {X : CX} {res : St} (B : BV X cX0_move RX0 5 3 NN none res) (fu : Nat) (th : Nat) (st : St) : WW X res NN 0 [(0, .ref (x_b X + th))] [] st (f_X0_move fu th st) := by
  have hX := B.1
  have hL := B.2.1
  unfold f_X0_move
  refine ww_aload_n hX 0 rfl dX0_move_0 rfl ?_
  refine ww_getI hX f_X0_9 (Or.inl rfl) dX0_move_1 ?_
  refine ww_iconst (v := (-1)) hX rfl dX0_move_4 ?_
  refine ww_icmp_ne (tgt := 62) hX dX0_move_5 (by decide) ?_ ?_
  · refine ww_aload_n hX 0 rfl dX0_move_62 rfl ?_
    refine ww_getI hX f_X0_9 (Or.inl rfl) dX0_move_63 ?_
    refine ww_aload_n hX 0 rfl dX0_move_66 rfl ?_
    refine ww_getI hX f_X0_37 (Or.inl rfl) dX0_move_67 ?_
    refine ww_isub hX dX0_move_70 ?_
    refine ww_bdi (fun v1 => ?_)
    refine ww_istore_n (lv' := [(1, .int v1), (0, .ref (x_b X + th))]) hX hL dX0_move_71 rfl (by decide) rfl ?_
    refine ww_iload_n hX 0 rfl dX0_move_72 rfl ?_
    refine ww_pc (b := 73) rfl ?_
    refine ww_if_gt (tgt := 87) hX dX0_move_73 (by decide) ?_ ?_
    · exact ww_sub [1, 0] rfl (t_X0_move_87 B fu th v1  st)
    · refine ww_iload_n hX 0 rfl dX0_move_76 rfl ?_
      refine ww_if_ne (tgt := 91) hX dX0_move_77 (by decide) ?_ ?_
      · exact ww_sub [1, 0] rfl (t_X0_move_91 B fu th v1  st)
      · refine ww_aload_n hX 1 rfl dX0_move_80 rfl ?_
        refine ww_getI hX f_X0_40 (Or.inl rfl) dX0_move_81 ?_
        refine ww_if_le (tgt := 91) hX dX0_move_84 (by decide) ?_ ?_
        · exact ww_sub [1, 0] rfl (t_X0_move_91 B fu th v1  st)
        · exact ww_sub [1, 0] rfl (t_X0_move_87 B fu th v1  st)
  · refine ww_aload_n hX 0 rfl dX0_move_8 rfl ?_
    refine ww_aload_n hX 0 rfl dX0_move_9 rfl ?_
    refine ww_getI hX f_X0_40 (Or.inl rfl) dX0_move_10 ?_
    refine ww_if_le (tgt := 32) hX dX0_move_13 (by decide) ?_ ?_
    · refine ww_iconst (v := 0) hX rfl dX0_move_32 ?_
      refine ww_aload_n hX 0 rfl dX0_move_33 rfl ?_
      refine ww_getI hX f_X0_40 (Or.inl rfl) dX0_move_34 ?_
      refine ww_aload_n hX 0 rfl dX0_move_37 rfl ?_
      refine ww_getI hX f_X0_34 (Or.inl rfl) dX0_move_38 ?_
      refine ww_iadd hX dX0_move_41 ?_
      refine ww_callSI (As := [.int 0, .int ((gI st th 6) + (gI st th 4))]) (rest := [.ref (x_b X + th)]) hX (Rk.of B.2.2.1 B.2.2.2.1 (by decide) (by decide)) g_X0_61 (c_J9_min_7cf53 (x_G X) (x_l X) fu 0 ((gI st th 6) + (gI st th 4)) st) rfl rfl (Nat.le_of_ble_eq_true rfl) dX0_move_42 (fun r11 s12 => ?_)
      exact t_X0_move_45 B fu th th r11 s12
    · refine ww_iconst (v := 0) hX rfl dX0_move_16 ?_
      refine ww_aload_n hX 0 rfl dX0_move_17 rfl ?_
      refine ww_getI hX f_X0_40 (Or.inl rfl) dX0_move_18 ?_
      refine ww_aload_n hX 0 rfl dX0_move_21 rfl ?_
      refine ww_getI hX f_X0_34 (Or.inl rfl) dX0_move_22 ?_
      refine ww_isub hX dX0_move_25 ?_
      refine ww_callSI (As := [.int 0, .int ((gI st th 6) - (gI st th 4))]) (rest := [.ref (x_b X + th)]) hX (Rk.of B.2.2.1 B.2.2.2.1 (by decide) (by decide)) g_X0_55 (c_J9_max_7cf53 (x_G X) (x_l X) fu 0 ((gI st th 6) - (gI st th 4)) st) rfl rfl (Nat.le_of_ble_eq_true rfl) dX0_move_26 (fun r15 s16 => ?_)
      refine ww_pc (b := 29) rfl ?_
      refine ww_goto (tgt := 45) hX dX0_move_29 (by decide) ?_
      exact t_X0_move_45 B fu th th r15 s16
theorem c_X0_move (G : GX) (l : Launch) (fu : Nat) (th : Nat) (st : St) : MV G NN l yX0_move cX0_move 5 none 3 [.ref (G.2.2.1 + th)] st (f_X0_move fu th st) := mkV (by decide) (Nat.le_of_ble_eq_true rfl) (fun X res hl hG B => by subst hl; subst hG; exact t_X0_move B fu th st)
/-! StageHouse$Axis.look()V -/
def b_X0_look_25 (fu : Nat)   (st : St) : Option (St) :=
  some st
set_option maxHeartbeats 4000000 in
set_option maxRecDepth 100000 in
theorem t_X0_look_25 {X : CX} {res : St} (B : BV X cX0_look RX0 1 1 NN none res) (fu : Nat)   (st : St) : WW X res NN 25 [] [] st (b_X0_look_25 fu  st) := by
  have hX := B.1
  have hL := B.2.1
  unfold b_X0_look_25
  exact ww_vret B dX0_look_25
def f_X0_look (fu : Nat) (th : Nat) (st : St) : Option (St) :=
  ck ((kd th).1 = 0) <|
  ck ((kd th).1 = 0) <|
  bd (sI st th 9 (gI st th 8)) fun s1 =>
  ck ((kd th).1 = 0) <|
  if ((gI s1 th 10) &&& 2) = 0 then (
  ck ((kd th).1 = 0) <|
  ck ((kd th).1 = 0) <|
  bd (sI s1 th 8 (gI s1 th 5)) fun s2 =>
  b_X0_look_25 fu   s2)
  else (
  b_X0_look_25 fu   s1)
set_option maxHeartbeats 4000000 in
set_option maxRecDepth 100000 in
theorem t_X0_look {X : CX} {res : St} (B : BV X cX0_look RX0 1 1 NN none res) (fu : Nat) (th : Nat) (st : St) : WW X res NN 0 [(0, .ref (x_b X + th))] [] st (f_X0_look fu th st) := by
  have hX := B.1
  have hL := B.2.1
  unfold f_X0_look
  refine ww_aload_n hX 0 rfl dX0_look_0 rfl ?_
  refine ww_aload_n hX 0 rfl dX0_look_1 rfl ?_
  refine ww_getI hX f_X0_43 (Or.inl rfl) dX0_look_2 ?_
  refine ww_putI hX f_X0_46 rfl dX0_look_5 ?_
  refine ww_bds (fun s1 => ?_)
  refine ww_aload_n hX 0 rfl dX0_look_8 rfl ?_
  refine ww_getI hX f_X0_49 (Or.inl rfl) dX0_look_9 ?_
  refine ww_iconst (v := 2) hX rfl dX0_look_12 ?_
  refine ww_pc (b := 13) rfl ?_
  refine ww_iand hX dX0_look_13 ?_
  refine ww_if_ne (tgt := 25) hX dX0_look_14 (by decide) ?_ ?_
  · exact ww_sub [] rfl (t_X0_look_25 B fu   s1)
  · refine ww_aload_n hX 0 rfl dX0_look_17 rfl ?_
    refine ww_aload_n hX 0 rfl dX0_look_18 rfl ?_
    refine ww_getI hX f_X0_37 (Or.inl rfl) dX0_look_19 ?_
    refine ww_putI hX f_X0_43 rfl dX0_look_22 ?_
    refine ww_bds (fun s2 => ?_)
    exact ww_sub [] rfl (t_X0_look_25 B fu   s2)
theorem c_X0_look (G : GX) (l : Launch) (fu : Nat) (th : Nat) (st : St) : MV G NN l yX0_look cX0_look 1 none 1 [.ref (G.2.2.1 + th)] st (f_X0_look fu th st) := mkV (by decide) (Nat.le_of_ble_eq_true rfl) (fun X res hl hG B => by subst hl; subst hG; exact t_X0_look B fu th st)
/-! java/util/Arrays.fill([II)V -/
def b_J7_fill_53178_5_b (fu : Nat) (k_5 : Nat → Int32 → Int32 → Int32 → St → Option (St)) (x0 : Nat) (x1 : Int32) (x2 : Int32) (x3 : Int32)  (st : St) : Option (St) :=
  if x3 ≤ x2 then (
  some st)
  else (
  ck ((kd x0).1 = 100 ∧ inb x2 (kd x0).2) <|
  bd (sI st x0 (ix x2) x1) fun s2 =>
  bd (x2 + 1) fun v3 =>
  k_5 x0 x1 v3 x3  s2)
set_option maxHeartbeats 4000000 in
set_option maxRecDepth 100000 in
theorem t_J7_fill_53178_5_b {X : CX} {res : St} (B : BV X cJ7_fill_53178 RJ7 4 1 NN none res) (fu : Nat) (k_5 : Nat → Int32 → Int32 → Int32 → St → Option (St)) (h_5 : ∀ (x0 : Nat) (x1 : Int32) (x2 : Int32) (x3 : Int32)  (st : St), WW X res NN 5 [(0, .ref (x_b X + x0)), (1, .int x1), (2, .int x2), (3, .int x3)] [] st (k_5 x0 x1 x2 x3 st)) (x0 : Nat) (x1 : Int32) (x2 : Int32) (x3 : Int32)  (st : St) : WW X res NN 5 [(0, .ref (x_b X + x0)), (1, .int x1), (2, .int x2), (3, .int x3)] [] st (b_J7_fill_53178_5_b fu k_5 x0 x1 x2 x3 st) := by
  have hX := B.1
  have hL := B.2.1
  unfold b_J7_fill_53178_5_b
  refine ww_iload_n hX 2 rfl dJ7_fill_53178_5 rfl ?_
  refine ww_iload_n hX 3 rfl dJ7_fill_53178_6 rfl ?_
  refine ww_icmp_ge (tgt := 20) hX dJ7_fill_53178_7 (by decide) ?_ ?_
  · exact ww_vret B dJ7_fill_53178_20
  · refine ww_aload_n hX 0 rfl dJ7_fill_53178_10 rfl ?_
    refine ww_iload_n hX 2 rfl dJ7_fill_53178_11 rfl ?_
    refine ww_iload_n hX 1 rfl dJ7_fill_53178_12 rfl ?_
    refine ww_iastc hX k_iast dJ7_fill_53178_13 ?_
    refine ww_bds (fun s2 => ?_)
    refine ww_iincb (lv' := fun v3 => [(2, .int v3), (0, .ref (x_b X + x0)), (1, .int x1), (3, .int x3)]) (c := 1) hX hL 2 rfl dJ7_fill_53178_14 rfl (by decide) (fun _ => rfl) (fun v3 => ?_)
    refine ww_goto (tgt := 5) hX dJ7_fill_53178_17 (by decide) ?_
    exact ww_sub [1, 2, 0, 3] rfl (h_5 x0 x1 v3 x3  s2)
def b_J7_fill_53178_5 (fu : Nat) : Nat → Nat → Int32 → Int32 → Int32 → St → Option (St)
  | 0, _, _, _, _, _ => none
  | i + 1, x0, x1, x2, x3, st => b_J7_fill_53178_5_b fu (b_J7_fill_53178_5 fu i) x0 x1 x2 x3 st
theorem t_J7_fill_53178_5 {X : CX} {res : St} (B : BV X cJ7_fill_53178 RJ7 4 1 NN none res) (fu : Nat) : ∀ (i : Nat) (x0 : Nat) (x1 : Int32) (x2 : Int32) (x3 : Int32)  (st : St), WW X res NN 5 [(0, .ref (x_b X + x0)), (1, .int x1), (2, .int x2), (3, .int x3)] [] st (b_J7_fill_53178_5 fu i x0 x1 x2 x3 st) := by
  intro i
  induction i with
  | zero => intro x0 x1 x2 x3 st; exact ww_none
  | succ i ih => intro x0 x1 x2 x3 st; exact t_J7_fill_53178_5_b B fu (b_J7_fill_53178_5 fu i) ih x0 x1 x2 x3 st
def f_J7_fill_53178 (fu : Nat) (p0 : Nat) (p1 : Int32) (st : St) : Option (St) :=
  ck ((kd p0).1 = 100) <|
  bd (Int32.ofNat (kd p0).2) fun v1 =>
  b_J7_fill_53178_5 fu fu p0 p1 0 v1  st
set_option maxHeartbeats 4000000 in
set_option maxRecDepth 100000 in
theorem t_J7_fill_53178 {X : CX} {res : St} (B : BV X cJ7_fill_53178 RJ7 4 1 NN none res) (fu : Nat) (p0 : Nat) (p1 : Int32) (st : St) : WW X res NN 0 [(0, .ref (x_b X + p0)), (1, .int p1)] [] st (f_J7_fill_53178 fu p0 p1 st) := by
  have hX := B.1
  have hL := B.2.1
  unfold f_J7_fill_53178
  refine ww_iconst (v := 0) hX rfl dJ7_fill_53178_0 ?_
  refine ww_istore_n (lv' := [(2, .int 0), (0, .ref (x_b X + p0)), (1, .int p1)]) hX hL dJ7_fill_53178_1 rfl (by decide) rfl ?_
  refine ww_aload_n hX 1 rfl dJ7_fill_53178_2 rfl ?_
  refine ww_alenc hX k_alen dJ7_fill_53178_3 ?_
  refine ww_bdi (fun v1 => ?_)
  refine ww_istore_n (lv' := [(3, .int v1), (2, .int 0), (0, .ref (x_b X + p0)), (1, .int p1)]) hX hL dJ7_fill_53178_4 rfl (by decide) rfl ?_
  exact ww_sub [2, 3, 1, 0] rfl (t_J7_fill_53178_5 B fu fu p0 p1 0 v1  st)
theorem c_J7_fill_53178 (G : GX) (l : Launch) (fu : Nat) (p0 : Nat) (p1 : Int32) (st : St) : MV G NN l yJ7_fill_53178 cJ7_fill_53178 4 none 1 [.ref (G.2.2.1 + p0), .int p1] st (f_J7_fill_53178 fu p0 p1 st) := mkV (by decide) (Nat.le_of_ble_eq_true rfl) (fun X res hl hG B => by subst hl; subst hG; exact t_J7_fill_53178 B fu p0 p1 st)
/-! StageHouse$CueList.reset()V -/
def f_X3_reset (fu : Nat) (th : Nat) (st : St) : Option (St) :=
  ck (¬ gR st th 1 = 0) <|
  ck ((kd th).1 = 3) <|
  bd (gR st th 1) fun o1 =>
  cv (f_J7_fill_53178 fu o1 0 st) fun s2 =>
  ck (¬ gR s2 th 4 = 0) <|
  ck ((kd th).1 = 3) <|
  bd (gR s2 th 4) fun o3 =>
  cv (f_J7_fill_53178 fu o3 0 s2) fun s4 =>
  ck ((kd th).1 = 3) <|
  bd (sI s4 th 5 ((-1))) fun s5 =>
  ck (isb 0) <|
  ck ((kd th).1 = 3) <|
  bd (sI s5 th 6 0) fun s6 =>
  ck ((kd th).1 = 3) <|
  bd (sI s6 th 8 ((-1))) fun s7 =>
  ck ((kd th).1 = 3) <|
  bd (sI s7 th 9 255) fun s8 =>
  some s8
set_option maxHeartbeats 4000000 in
set_option maxRecDepth 100000 in
theorem t_X3_reset {X : CX} {res : St} (B : BV X cX3_reset RX3 1 2 NN none res) (fu : Nat) (th : Nat) (st : St) : WW X res NN 0 [(0, .ref (x_b X + th))] [] st (f_X3_reset fu th st) := by
  have hX := B.1
  have hL := B.2.1
  unfold f_X3_reset
  refine ww_aload_n hX 0 rfl dX3_reset_0 rfl ?_
  refine ww_getR hX f_X3_18 (Or.inr ⟨_, rfl⟩) dX3_reset_1 ?_
  refine ww_bdR (fun o1 => ?_)
  refine ww_iconst (v := 0) hX rfl dX3_reset_4 ?_
  refine ww_callSV (As := [.ref (x_b X + o1), .int 0]) (rest := []) hX (Rk.of B.2.2.1 B.2.2.2.1 (by decide) (by decide)) g_X3_41 (c_J7_fill_53178 (x_G X) (x_l X) fu o1 0 st) rfl rfl (Nat.le_of_ble_eq_true rfl) dX3_reset_5 (fun s2 => ?_)
  refine ww_aload_n hX 0 rfl dX3_reset_8 rfl ?_
  refine ww_getR hX f_X3_28 (Or.inr ⟨_, rfl⟩) dX3_reset_9 ?_
  refine ww_bdR (fun o3 => ?_)
  refine ww_iconst (v := 0) hX rfl dX3_reset_12 ?_
  refine ww_pc (b := 13) rfl ?_
  refine ww_callSV (As := [.ref (x_b X + o3), .int 0]) (rest := []) hX (Rk.of B.2.2.1 B.2.2.2.1 (by decide) (by decide)) g_X3_41 (c_J7_fill_53178 (x_G X) (x_l X) fu o3 0 s2) rfl rfl (Nat.le_of_ble_eq_true rfl) dX3_reset_13 (fun s4 => ?_)
  refine ww_aload_n hX 0 rfl dX3_reset_16 rfl ?_
  refine ww_iconst (v := (-1)) hX rfl dX3_reset_17 ?_
  refine ww_putI hX f_X3_31 rfl dX3_reset_18 ?_
  refine ww_bds (fun s5 => ?_)
  refine ww_aload_n hX 0 rfl dX3_reset_21 rfl ?_
  refine ww_iconst (v := 0) hX rfl dX3_reset_22 ?_
  refine ww_putZ hX f_X3_47 rfl dX3_reset_23 ?_
  refine ww_bds (fun s6 => ?_)
  refine ww_aload_n hX 0 rfl dX3_reset_26 rfl ?_
  refine ww_pc (b := 27) rfl ?_
  refine ww_iconst (v := (-1)) hX rfl dX3_reset_27 ?_
  refine ww_putI hX f_X3_35 rfl dX3_reset_28 ?_
  refine ww_bds (fun s7 => ?_)
  refine ww_aload_n hX 0 rfl dX3_reset_31 rfl ?_
  refine ww_sipush (v := 255) hX rfl dX3_reset_32 ?_
  refine ww_putI hX f_X3_38 rfl dX3_reset_35 ?_
  refine ww_bds (fun s8 => ?_)
  exact ww_vret B dX3_reset_38
theorem c_X3_reset (G : GX) (l : Launch) (fu : Nat) (th : Nat) (st : St) : MV G NN l yX3_reset cX3_reset 1 none 2 [.ref (G.2.2.1 + th)] st (f_X3_reset fu th st) := mkV (by decide) (Nat.le_of_ble_eq_true rfl) (fun X res hl hG B => by subst hl; subst hG; exact t_X3_reset B fu th st)
/-! StageHouse$Board.adopt(I)V -/
def b_X1_adopt_58 (fu : Nat) (k_32 : Nat → Int32 → Int32 → St → Option (St)) (x0 : Nat) (x1 : Int32) (x4 : Int32)  (st : St) : Option (St) :=
  bd (x4 + 1) fun v9 =>
  k_32 x0 x1 v9  st
set_option maxHeartbeats 4000000 in
set_option maxRecDepth 100000 in
theorem t_X1_adopt_58 {X : CX} {res : St} (B : BV X cX1_adopt RX1 5 3 NN none res) (fu : Nat) (k_32 : Nat → Int32 → Int32 → St → Option (St)) (h_32 : ∀ (x0 : Nat) (x1 : Int32) (x4 : Int32)  (st : St), WW X res NN 32 [(0, .ref (x_b X + x0)), (1, .int x1), (4, .int x4)] [] st (k_32 x0 x1 x4 st)) (x0 : Nat) (x1 : Int32) (x4 : Int32)  (st : St) : WW X res NN 58 [(0, .ref (x_b X + x0)), (1, .int x1), (4, .int x4)] [] st (b_X1_adopt_58 fu k_32 x0 x1 x4 st) := by
  have hX := B.1
  have hL := B.2.1
  unfold b_X1_adopt_58
  refine ww_iincb (lv' := fun v9 => [(4, .int v9), (0, .ref (x_b X + x0)), (1, .int x1)]) (c := 1) hX hL 2 rfl dX1_adopt_58 rfl (by decide) (fun _ => rfl) (fun v9 => ?_)
  refine ww_goto (tgt := 32) hX dX1_adopt_61 (by decide) ?_
  exact ww_sub [1, 2, 0] rfl (h_32 x0 x1 v9  st)
def b_X1_adopt_32_b (fu : Nat) (k_32 : Nat → Int32 → Int32 → St → Option (St)) (x0 : Nat) (x1 : Int32) (x4 : Int32)  (st : St) : Option (St) :=
  if 64 ≤ x4 then (
  some st)
  else (
  ck (¬ gR st x0 1 = 0) <|
  ck ((kd x0).1 = 1) <|
  bd (gR st x0 1) fun o8 =>
  ck ((kd o8).1 = 100 ∧ inb x4 (kd o8).2) <|
  if (gI st o8 (ix x4)) = x1 then (
  ck (¬ gR st x0 1 = 0) <|
  ck ((kd x0).1 = 1) <|
  bd (gR st x0 1) fun o10 =>
  ck ((kd o10).1 = 100 ∧ inb x4 (kd o10).2) <|
  bd (sI st o10 (ix x4) ((-1))) fun s11 =>
  b_X1_adopt_58 fu k_32 x0 x1 x4  s11)
  else (
  b_X1_adopt_58 fu k_32 x0 x1 x4  st))
set_option maxHeartbeats 4000000 in
set_option maxRecDepth 100000 in
theorem t_X1_adopt_32_b {X : CX} {res : St} (B : BV X cX1_adopt RX1 5 3 NN none res) (fu : Nat) (k_32 : Nat → Int32 → Int32 → St → Option (St)) (h_32 : ∀ (x0 : Nat) (x1 : Int32) (x4 : Int32)  (st : St), WW X res NN 32 [(0, .ref (x_b X + x0)), (1, .int x1), (4, .int x4)] [] st (k_32 x0 x1 x4 st)) (x0 : Nat) (x1 : Int32) (x4 : Int32)  (st : St) : WW X res NN 32 [(0, .ref (x_b X + x0)), (1, .int x1), (4, .int x4)] [] st (b_X1_adopt_32_b fu k_32 x0 x1 x4 st) := by
  have hX := B.1
  have hL := B.2.1
  unfold b_X1_adopt_32_b
  refine ww_iload hX 2 rfl dX1_adopt_32 ?_
  refine ww_bipush (v := 64) hX rfl dX1_adopt_34 ?_
  refine ww_icmp_ge (tgt := 64) hX dX1_adopt_36 (by decide) ?_ ?_
  · exact ww_vret B dX1_adopt_64
  · refine ww_aload_n hX 0 rfl dX1_adopt_39 rfl ?_
    refine ww_getR hX f_X1_17 (Or.inr ⟨_, rfl⟩) dX1_adopt_40 ?_
    refine ww_bdR (fun o8 => ?_)
    refine ww_iload hX 2 rfl dX1_adopt_43 ?_
    refine ww_ialdc hX k_iald dX1_adopt_45 ?_
    refine ww_iload_n hX 1 rfl dX1_adopt_46 rfl ?_
    refine ww_icmp_ne (tgt := 58) hX dX1_adopt_47 (by decide) ?_ ?_
    · exact t_X1_adopt_58 B fu k_32 h_32 x0 x1 x4  st
    · refine ww_aload_n hX 0 rfl dX1_adopt_50 rfl ?_
      refine ww_getR hX f_X1_17 (Or.inr ⟨_, rfl⟩) dX1_adopt_51 ?_
      refine ww_bdR (fun o10 => ?_)
      refine ww_iload hX 2 rfl dX1_adopt_54 ?_
      refine ww_iconst (v := (-1)) hX rfl dX1_adopt_56 ?_
      refine ww_iastc hX k_iast dX1_adopt_57 ?_
      refine ww_bds (fun s11 => ?_)
      exact t_X1_adopt_58 B fu k_32 h_32 x0 x1 x4  s11
def b_X1_adopt_32 (fu : Nat) : Nat → Nat → Int32 → Int32 → St → Option (St)
  | 0, _, _, _, _ => none
  | i + 1, x0, x1, x4, st => b_X1_adopt_32_b fu (b_X1_adopt_32 fu i) x0 x1 x4 st
theorem t_X1_adopt_32 {X : CX} {res : St} (B : BV X cX1_adopt RX1 5 3 NN none res) (fu : Nat) : ∀ (i : Nat) (x0 : Nat) (x1 : Int32) (x4 : Int32)  (st : St), WW X res NN 32 [(0, .ref (x_b X + x0)), (1, .int x1), (4, .int x4)] [] st (b_X1_adopt_32 fu i x0 x1 x4 st) := by
  intro i
  induction i with
  | zero => intro x0 x1 x4 st; exact ww_none
  | succ i ih => intro x0 x1 x4 st; exact t_X1_adopt_32_b B fu (b_X1_adopt_32 fu i) ih x0 x1 x4 st
def f_X1_adopt (fu : Nat) (th : Nat) (p1 : Int32) (st : St) : Option (St) :=
  ck (¬ gR st th 0 = 0) <|
  ck ((kd th).1 = 1) <|
  bd (gR st th 0) fun o1 =>
  ck (¬ gR st o1 (ix p1) = 0) <|
  ck ((kd o1).1 = 104 ∧ inb p1 (kd o1).2) <|
  bd (gR st o1 (ix p1)) fun o2 =>
  ck (¬ gR st o2 0 = 0) <|
  ck ((kd o2).1 = 3) <|
  bd (gR st o2 0) fun o3 =>
  ck (¬ gR st th 6 = 0) <|
  ck ((kd th).1 = 1) <|
  bd (gR st th 6) fun o4 =>
  ck (¬ o4 = 0) <|
  ck ((kd o2).1 = 3) <|
  bd (sR st o2 0 o4) fun s5 =>
  ck (¬ o3 = 0) <|
  ck ((kd th).1 = 1) <|
  bd (sR s5 th 6 o3) fun s6 =>
  ck ((kd o2).1 = 3) <|
  cv (f_X3_reset fu o2 s6) fun s7 =>
  b_X1_adopt_32 fu fu th p1 0  s7
set_option maxHeartbeats 4000000 in
set_option maxRecDepth 100000 in
theorem t_X1_adopt {X : CX} {res : St} (B : BV X cX1_adopt RX1 5 3 NN none res) (fu : Nat) (th : Nat) (p1 : Int32) (st : St) : WW X res NN 0 [(0, .ref (x_b X + th)), (1, .int p1)] [] st (f_X1_adopt fu th p1 st) := by
  have hX := B.1
  have hL := B.2.1
  unfold f_X1_adopt
  refine ww_aload_n hX 0 rfl dX1_adopt_0 rfl ?_
  refine ww_getR hX f_X1_11 (Or.inr ⟨_, rfl⟩) dX1_adopt_1 ?_
  refine ww_bdR (fun o1 => ?_)
  refine ww_iload_n hX 1 rfl dX1_adopt_4 rfl ?_
  refine ww_aald104c hX k_aald104 dX1_adopt_5 ?_
  refine ww_bdR (fun o2 => ?_)
  refine ww_astore_n (lv' := [(2, .ref (x_b X + o2)), (0, .ref (x_b X + th)), (1, .int p1)]) hX hL dX1_adopt_6 rfl (by decide) rfl ?_
  refine ww_aload_n hX 0 rfl dX1_adopt_7 rfl ?_
  refine ww_getR hX f_X1_52 (Or.inl ⟨_, rfl⟩) dX1_adopt_8 ?_
  refine ww_bdR (fun o3 => ?_)
  refine ww_pc (b := 11) rfl ?_
  refine ww_astore_n (lv' := [(3, .ref (x_b X + o3)), (2, .ref (x_b X + o2)), (0, .ref (x_b X + th)), (1, .int p1)]) hX hL dX1_adopt_11 rfl (by decide) rfl ?_
  refine ww_aload_n hX 1 rfl dX1_adopt_12 rfl ?_
  refine ww_aload_n hX 2 rfl dX1_adopt_13 rfl ?_
  refine ww_getR hX f_X1_33 (Or.inl ⟨_, rfl⟩) dX1_adopt_14 ?_
  refine ww_bdR (fun o4 => ?_)
  refine ww_putR hX f_X1_52 (Or.inl ⟨_, rfl⟩) dX1_adopt_17 ?_
  refine ww_bds (fun s5 => ?_)
  refine ww_aload_n hX 2 rfl dX1_adopt_20 rfl ?_
  refine ww_aload_n hX 0 rfl dX1_adopt_21 rfl ?_
  refine ww_putR hX f_X1_33 (Or.inl ⟨_, rfl⟩) dX1_adopt_22 ?_
  refine ww_bds (fun s6 => ?_)
  refine ww_pc (b := 25) rfl ?_
  refine ww_aload_n hX 1 rfl dX1_adopt_25 rfl ?_
  refine ww_callVV (As := []) (rest := []) (o := o2) hX (Rk.of B.2.2.1 B.2.2.2.1 (by decide) (by decide)) g_X1_55 g_X1_55.in (fun _ => c_X3_reset (x_G X) (x_l X) fu o2 s6) rfl rfl (Nat.le_of_ble_eq_true rfl) dX1_adopt_26 (fun s7 => ?_)
  refine ww_iconst (v := 0) hX rfl dX1_adopt_29 ?_
  refine ww_istore (lv' := [(4, .int 0), (3, .ref (x_b X + o3)), (2, .ref (x_b X + o2)), (0, .ref (x_b X + th)), (1, .int p1)]) hX hL dX1_adopt_30 (by decide) rfl ?_
  exact ww_sub [3, 4, 0] rfl (t_X1_adopt_32 B fu fu th p1 0  s7)
theorem c_X1_adopt (G : GX) (l : Launch) (fu : Nat) (th : Nat) (p1 : Int32) (st : St) : MV G NN l yX1_adopt cX1_adopt 5 none 3 [.ref (G.2.2.1 + th), .int p1] st (f_X1_adopt fu th p1 st) := mkV (by decide) (Nat.le_of_ble_eq_true rfl) (fun X res hl hG B => by subst hl; subst hG; exact t_X1_adopt B fu th p1 st)
/-! StageHouse$CueList.arm(II)V -/
def f_X3_arm (fu : Nat) (th : Nat) (p1 : Int32) (p2 : Int32) (st : St) : Option (St) :=
  ck ((kd th).1 = 3) <|
  bd (sI st th 5 p1) fun s1 =>
  ck (isb 1) <|
  ck ((kd th).1 = 3) <|
  bd (sI s1 th 6 1) fun s2 =>
  ck ((kd th).1 = 3) <|
  bd (sI s2 th 7 p2) fun s3 =>
  ck ((kd th).1 = 3) <|
  bd (sI s3 th 8 ((-1))) fun s4 =>
  some s4
set_option maxHeartbeats 4000000 in
set_option maxRecDepth 100000 in
theorem t_X3_arm {X : CX} {res : St} (B : BV X cX3_arm RX3 3 1 NN none res) (fu : Nat) (th : Nat) (p1 : Int32) (p2 : Int32) (st : St) : WW X res NN 0 [(0, .ref (x_b X + th)), (1, .int p1), (2, .int p2)] [] st (f_X3_arm fu th p1 p2 st) := by
  have hX := B.1
  have hL := B.2.1
  unfold f_X3_arm
  refine ww_aload_n hX 0 rfl dX3_arm_0 rfl ?_
  refine ww_iload_n hX 1 rfl dX3_arm_1 rfl ?_
  refine ww_putI hX f_X3_31 rfl dX3_arm_2 ?_
  refine ww_bds (fun s1 => ?_)
  refine ww_aload_n hX 0 rfl dX3_arm_5 rfl ?_
  refine ww_iconst (v := 1) hX rfl dX3_arm_6 ?_
  refine ww_putZ hX f_X3_47 rfl dX3_arm_7 ?_
  refine ww_bds (fun s2 => ?_)
  refine ww_aload_n hX 0 rfl dX3_arm_10 rfl ?_
  refine ww_pc (b := 11) rfl ?_
  refine ww_iload_n hX 2 rfl dX3_arm_11 rfl ?_
  refine ww_putI hX f_X3_64 rfl dX3_arm_12 ?_
  refine ww_bds (fun s3 => ?_)
  refine ww_aload_n hX 0 rfl dX3_arm_15 rfl ?_
  refine ww_iconst (v := (-1)) hX rfl dX3_arm_16 ?_
  refine ww_putI hX f_X3_35 rfl dX3_arm_17 ?_
  refine ww_bds (fun s4 => ?_)
  exact ww_vret B dX3_arm_20
theorem c_X3_arm (G : GX) (l : Launch) (fu : Nat) (th : Nat) (p1 : Int32) (p2 : Int32) (st : St) : MV G NN l yX3_arm cX3_arm 3 none 1 [.ref (G.2.2.1 + th), .int p1, .int p2] st (f_X3_arm fu th p1 p2 st) := mkV (by decide) (Nat.le_of_ble_eq_true rfl) (fun X res hl hG B => by subst hl; subst hG; exact t_X3_arm B fu th p1 p2 st)
/-! StageHouse$Script.find(I)I -/
def b_X8_find_2_b (fu : Nat) (k_2 : Nat → Int32 → Int32 → St → Option (Int32 × St)) (x0 : Nat) (x1 : Int32) (x2 : Int32)  (st : St) : Option (Int32 × St) :=
  ck ((kd x0).1 = 8) <|
  if (gI st x0 12) ≤ x2 then (
  some ((-1), st))
  else (
  ck (¬ gR st x0 0 = 0) <|
  ck ((kd x0).1 = 8) <|
  bd (gR st x0 0) fun o1 =>
  ck ((kd o1).1 = 100 ∧ inb x2 (kd o1).2) <|
  if (gI st o1 (ix x2)) = x1 then (
  some (x2, st))
  else (
  bd (x2 + 1) fun v2 =>
  k_2 x0 x1 v2  st))
set_option maxHeartbeats 4000000 in
set_option maxRecDepth 100000 in
theorem t_X8_find_2_b {X : CX} {res : Int32 × St} (B : BI X cX8_find RX8 3 1 NN (some .int) res) (fu : Nat) (k_2 : Nat → Int32 → Int32 → St → Option (Int32 × St)) (h_2 : ∀ (x0 : Nat) (x1 : Int32) (x2 : Int32)  (st : St), WW X res NN 2 [(0, .ref (x_b X + x0)), (1, .int x1), (2, .int x2)] [] st (k_2 x0 x1 x2 st)) (x0 : Nat) (x1 : Int32) (x2 : Int32)  (st : St) : WW X res NN 2 [(0, .ref (x_b X + x0)), (1, .int x1), (2, .int x2)] [] st (b_X8_find_2_b fu k_2 x0 x1 x2 st) := by
  have hX := B.1
  have hL := B.2.1
  unfold b_X8_find_2_b
  refine ww_iload_n hX 2 rfl dX8_find_2 rfl ?_
  refine ww_aload_n hX 0 rfl dX8_find_3 rfl ?_
  refine ww_getI hX f_X8_49 (Or.inl rfl) dX8_find_4 ?_
  refine ww_icmp_ge (tgt := 28) hX dX8_find_7 (by decide) ?_ ?_
  · refine ww_iconst (v := (-1)) hX rfl dX8_find_28 ?_
    exact ww_iret B dX8_find_29
  · refine ww_aload_n hX 0 rfl dX8_find_10 rfl ?_
    refine ww_getR hX f_X8_11 (Or.inr ⟨_, rfl⟩) dX8_find_11 ?_
    refine ww_bdR (fun o1 => ?_)
    refine ww_iload_n hX 2 rfl dX8_find_14 rfl ?_
    refine ww_ialdc hX k_iald dX8_find_15 ?_
    refine ww_iload_n hX 1 rfl dX8_find_16 rfl ?_
    refine ww_icmp_ne (tgt := 22) hX dX8_find_17 (by decide) ?_ ?_
    · refine ww_iincb (lv' := fun v2 => [(2, .int v2), (0, .ref (x_b X + x0)), (1, .int x1)]) (c := 1) hX hL 2 rfl dX8_find_22 rfl (by decide) (fun _ => rfl) (fun v2 => ?_)
      refine ww_goto (tgt := 2) hX dX8_find_25 (by decide) ?_
      exact ww_sub [1, 2, 0] rfl (h_2 x0 x1 v2  st)
    · refine ww_iload_n hX 2 rfl dX8_find_20 rfl ?_
      exact ww_iret B dX8_find_21
def b_X8_find_2 (fu : Nat) : Nat → Nat → Int32 → Int32 → St → Option (Int32 × St)
  | 0, _, _, _, _ => none
  | i + 1, x0, x1, x2, st => b_X8_find_2_b fu (b_X8_find_2 fu i) x0 x1 x2 st
theorem t_X8_find_2 {X : CX} {res : Int32 × St} (B : BI X cX8_find RX8 3 1 NN (some .int) res) (fu : Nat) : ∀ (i : Nat) (x0 : Nat) (x1 : Int32) (x2 : Int32)  (st : St), WW X res NN 2 [(0, .ref (x_b X + x0)), (1, .int x1), (2, .int x2)] [] st (b_X8_find_2 fu i x0 x1 x2 st) := by
  intro i
  induction i with
  | zero => intro x0 x1 x2 st; exact ww_none
  | succ i ih => intro x0 x1 x2 st; exact t_X8_find_2_b B fu (b_X8_find_2 fu i) ih x0 x1 x2 st
def f_X8_find (fu : Nat) (th : Nat) (p1 : Int32) (st : St) : Option (Int32 × St) :=
  b_X8_find_2 fu fu th p1 0  st
set_option maxHeartbeats 4000000 in
set_option maxRecDepth 100000 in
theorem t_X8_find {X : CX} {res : Int32 × St} (B : BI X cX8_find RX8 3 1 NN (some .int) res) (fu : Nat) (th : Nat) (p1 : Int32) (st : St) : WW X res NN 0 [(0, .ref (x_b X + th)), (1, .int p1)] [] st (f_X8_find fu th p1 st) := by
  have hX := B.1
  have hL := B.2.1
  unfold f_X8_find
  refine ww_iconst (v := 0) hX rfl dX8_find_0 ?_
  refine ww_istore_n (lv' := [(2, .int 0), (0, .ref (x_b X + th)), (1, .int p1)]) hX hL dX8_find_1 rfl (by decide) rfl ?_
  exact ww_sub [1, 2, 0] rfl (t_X8_find_2 B fu fu th p1 0  st)
theorem c_X8_find (G : GX) (l : Launch) (fu : Nat) (th : Nat) (p1 : Int32) (st : St) : MI G NN l yX8_find cX8_find 3 (some .int) 1 [.ref (G.2.2.1 + th), .int p1] st (f_X8_find fu th p1 st) := mkI (by decide) (Nat.le_of_ble_eq_true rfl) (fun X res hl hG B => by subst hl; subst hG; exact t_X8_find B fu th p1 st)
/-! StageHouse$Board.callCue(LStageHouse$CueList;II)V -/
def b_X1_callCue_33 (fu : Nat)   (st : St) : Option (St) :=
  some st
set_option maxHeartbeats 4000000 in
set_option maxRecDepth 100000 in
theorem t_X1_callCue_33 {X : CX} {res : St} (B : BV X cX1_callCue RX1 4 2 NN none res) (fu : Nat)   (st : St) : WW X res NN 33 [] [] st (b_X1_callCue_33 fu  st) := by
  have hX := B.1
  have hL := B.2.1
  unfold b_X1_callCue_33
  exact ww_vret B dX1_callCue_33
def f_X1_callCue (fu : Nat) (p0 : Nat) (p1 : Int32) (p2 : Int32) (st : St) : Option (St) :=
  ck (¬ gR st p0 0 = 0) <|
  ck ((kd p0).1 = 3) <|
  bd (gR st p0 0) fun o1 =>
  ck ((kd o1).1 = 8) <|
  ca (f_X8_find fu o1 p1 st) fun r2 s3 =>
  if r2 < 0 then (
  b_X1_callCue_33 fu   s3)
  else (
  ck (¬ gR s3 p0 0 = 0) <|
  ck ((kd p0).1 = 3) <|
  bd (gR s3 p0 0) fun o4 =>
  ck (¬ gR s3 o4 3 = 0) <|
  ck ((kd o4).1 = 8) <|
  bd (gR s3 o4 3) fun o5 =>
  ck ((kd o5).1 = 100 ∧ inb r2 (kd o5).2) <|
  ca (f_J9_max_7cf53 fu 1 (gI s3 o5 (ix r2)) s3) fun r6 s7 =>
  ck ((kd p0).1 = 3) <|
  cv (f_X3_arm fu p0 r2 (p2 + r6) s7) fun s8 =>
  b_X1_callCue_33 fu   s8)
set_option maxHeartbeats 4000000 in
set_option maxRecDepth 100000 in
theorem t_X1_callCue {X : CX} {res : St} (B : BV X cX1_callCue RX1 4 2 NN none res) (fu : Nat) (p0 : Nat) (p1 : Int32) (p2 : Int32) (st : St) : WW X res NN 0 [(0, .ref (x_b X + p0)), (1, .int p1), (2, .int p2)] [] st (f_X1_callCue fu p0 p1 p2 st) := by
  have hX := B.1
  have hL := B.2.1
  unfold f_X1_callCue
  refine ww_aload_n hX 0 rfl dX1_callCue_0 rfl ?_
  refine ww_getR hX f_X1_52 (Or.inl ⟨_, rfl⟩) dX1_callCue_1 ?_
  refine ww_bdR (fun o1 => ?_)
  refine ww_iload_n hX 1 rfl dX1_callCue_4 rfl ?_
  refine ww_callVI (As := [.int p1]) (rest := []) (o := o1) hX (Rk.of B.2.2.1 B.2.2.2.1 (by decide) (by decide)) g_X1_147 g_X1_147.in (fun _ => c_X8_find (x_G X) (x_l X) fu o1 p1 st) rfl rfl (Nat.le_of_ble_eq_true rfl) dX1_callCue_5 (fun r2 s3 => ?_)
  refine ww_istore_n (lv' := [(3, .int r2), (0, .ref (x_b X + p0)), (1, .int p1), (2, .int p2)]) hX hL dX1_callCue_8 rfl (by decide) rfl ?_
  refine ww_iload_n hX 0 rfl dX1_callCue_9 rfl ?_
  refine ww_if_lt (tgt := 33) hX dX1_callCue_10 (by decide) ?_ ?_
  · exact ww_sub [] rfl (t_X1_callCue_33 B fu   s3)
  · refine ww_aload_n hX 1 rfl dX1_callCue_13 rfl ?_
    refine ww_iload_n hX 0 rfl dX1_callCue_14 rfl ?_
    refine ww_iload_n hX 3 rfl dX1_callCue_15 rfl ?_
    refine ww_iconst (v := 1) hX rfl dX1_callCue_16 ?_
    refine ww_aload_n hX 1 rfl dX1_callCue_17 rfl ?_
    refine ww_getR hX f_X1_52 (Or.inl ⟨_, rfl⟩) dX1_callCue_18 ?_
    refine ww_bdR (fun o4 => ?_)
    refine ww_getR hX f_X1_61 (Or.inr ⟨_, rfl⟩) dX1_callCue_21 ?_
    refine ww_bdR (fun o5 => ?_)
    refine ww_pc (b := 24) rfl ?_
    refine ww_iload_n hX 0 rfl dX1_callCue_24 rfl ?_
    refine ww_ialdc hX k_iald dX1_callCue_25 ?_
    refine ww_callSI (As := [.int 1, .int (gI s3 o5 (ix r2))]) (rest := [.int p2, .int r2, .ref (x_b X + p0)]) hX (Rk.of B.2.2.1 B.2.2.2.1 (by decide) (by decide)) g_X1_151 (c_J9_max_7cf53 (x_G X) (x_l X) fu 1 (gI s3 o5 (ix r2)) s3) rfl rfl (Nat.le_of_ble_eq_true rfl) dX1_callCue_26 (fun r6 s7 => ?_)
    refine ww_iadd hX dX1_callCue_29 ?_
    refine ww_callVV (As := [.int r2, .int (p2 + r6)]) (rest := []) (o := p0) hX (Rk.of B.2.2.1 B.2.2.2.1 (by decide) (by decide)) g_X1_64 g_X1_64.in (fun _ => c_X3_arm (x_G X) (x_l X) fu p0 r2 (p2 + r6) s7) rfl rfl (Nat.le_of_ble_eq_true rfl) dX1_callCue_30 (fun s8 => ?_)
    exact ww_sub [] rfl (t_X1_callCue_33 B fu   s8)
theorem c_X1_callCue (G : GX) (l : Launch) (fu : Nat) (p0 : Nat) (p1 : Int32) (p2 : Int32) (st : St) : MV G NN l yX1_callCue cX1_callCue 4 none 2 [.ref (G.2.2.1 + p0), .int p1, .int p2] st (f_X1_callCue fu p0 p1 p2 st) := mkV (by decide) (Nat.le_of_ble_eq_true rfl) (fun X res hl hG B => by subst hl; subst hG; exact t_X1_callCue B fu p0 p1 p2 st)
/-! StageHouse$Rig.termTrue(I)Z -/
def b_X7_termTrue_115 (fu : Nat)  (y0 : Int32) (st : St) : Option (Int32 × St) :=
  ck (isb y0) (some (y0, st))
set_option maxHeartbeats 4000000 in
set_option maxRecDepth 100000 in
theorem t_X7_termTrue_115 {X : CX} {res : Int32 × St} (B : BI X cX7_termTrue RX7 6 1 NN (some .boolean) res) (fu : Nat)  (y0 : Int32) (st : St) : WW X res NN 115 [] [.int y0] st (b_X7_termTrue_115 fu y0 st) := by
  have hX := B.1
  have hL := B.2.1
  unfold b_X7_termTrue_115
  exact ww_zret B dX7_termTrue_115
def b_X7_termTrue_114 (fu : Nat)   (st : St) : Option (Int32 × St) :=
  b_X7_termTrue_115 fu  0 st
set_option maxHeartbeats 4000000 in
set_option maxRecDepth 100000 in
theorem t_X7_termTrue_114 {X : CX} {res : Int32 × St} (B : BI X cX7_termTrue RX7 6 1 NN (some .boolean) res) (fu : Nat)   (st : St) : WW X res NN 114 [] [] st (b_X7_termTrue_114 fu  st) := by
  have hX := B.1
  have hL := B.2.1
  unfold b_X7_termTrue_114
  refine ww_iconst (v := 0) hX rfl dX7_termTrue_114 ?_
  exact t_X7_termTrue_115 B fu  0 st
def b_X7_termTrue_110 (fu : Nat)   (st : St) : Option (Int32 × St) :=
  b_X7_termTrue_115 fu  1 st
set_option maxHeartbeats 4000000 in
set_option maxRecDepth 100000 in
theorem t_X7_termTrue_110 {X : CX} {res : Int32 × St} (B : BI X cX7_termTrue RX7 6 1 NN (some .boolean) res) (fu : Nat)   (st : St) : WW X res NN 110 [] [] st (b_X7_termTrue_110 fu  st) := by
  have hX := B.1
  have hL := B.2.1
  unfold b_X7_termTrue_110
  refine ww_iconst (v := 1) hX rfl dX7_termTrue_110 ?_
  refine ww_goto (tgt := 115) hX dX7_termTrue_111 (by decide) ?_
  exact t_X7_termTrue_115 B fu  1 st
def b_X7_termTrue_67 (fu : Nat)  (y0 : Int32) (st : St) : Option (Int32 × St) :=
  ck (isb y0) (some (y0, st))
set_option maxHeartbeats 4000000 in
set_option maxRecDepth 100000 in
theorem t_X7_termTrue_67 {X : CX} {res : Int32 × St} (B : BI X cX7_termTrue RX7 6 1 NN (some .boolean) res) (fu : Nat)  (y0 : Int32) (st : St) : WW X res NN 67 [] [.int y0] st (b_X7_termTrue_67 fu y0 st) := by
  have hX := B.1
  have hL := B.2.1
  unfold b_X7_termTrue_67
  exact ww_zret B dX7_termTrue_67
def b_X7_termTrue_62 (fu : Nat)   (st : St) : Option (Int32 × St) :=
  b_X7_termTrue_67 fu  1 st
set_option maxHeartbeats 4000000 in
set_option maxRecDepth 100000 in
theorem t_X7_termTrue_62 {X : CX} {res : Int32 × St} (B : BI X cX7_termTrue RX7 6 1 NN (some .boolean) res) (fu : Nat)   (st : St) : WW X res NN 62 [] [] st (b_X7_termTrue_62 fu  st) := by
  have hX := B.1
  have hL := B.2.1
  unfold b_X7_termTrue_62
  refine ww_iconst (v := 1) hX rfl dX7_termTrue_62 ?_
  refine ww_goto (tgt := 67) hX dX7_termTrue_63 (by decide) ?_
  exact t_X7_termTrue_67 B fu  1 st
def f_X7_termTrue (fu : Nat) (th : Nat) (p1 : Int32) (st : St) : Option (Int32 × St) :=
  bd ((p1 >>> (3 &&& 31)) &&& 15) fun v1 =>
  bd (p1 &&& 7) fun v2 =>
  if v2 = 6 then (
  ck (¬ gR st th 1 = 0) <|
  ck ((kd th).1 = 7) <|
  bd (gR st th 1) fun o6 =>
  ck ((kd o6).1 = 102 ∧ inb v1 (kd o6).2) <|
  ck (isb (gI st o6 (ix v1))) (some (gI st o6 (ix v1), st)))
  else (
  ck (¬ gR st th 0 = 0) <|
  ck ((kd th).1 = 7) <|
  bd (gR st th 0) fun o3 =>
  ck (¬ gR st o3 (ix (v1 &&& 7)) = 0) <|
  ck ((kd o3).1 = 105 ∧ inb (v1 &&& 7) (kd o3).2) <|
  bd (gR st o3 (ix (v1 &&& 7))) fun o4 =>
  if v2 = 5 then (
  ck ((kd o4).1 = 0) <|
  if (gI st o4 0) = 0 then (
  b_X7_termTrue_62 fu   st)
  else (
  ck ((kd o4).1 = 0) <|
  ck ((kd o4).1 = 0) <|
  if (gI st o4 8) = (gI st o4 9) then (
  b_X7_termTrue_62 fu   st)
  else (
  b_X7_termTrue_67 fu  0 st)))
  else (
  bd (p1 >>> (7 &&& 31)) fun v5 =>
  ck ((kd o4).1 = 0) <|
  if (gI st o4 0) = 0 then (
  b_X7_termTrue_114 fu   st)
  else (
  if v2 = 3 then (
  ck ((kd o4).1 = 0) <|
  if v5 ≤ (gI st o4 8) then (
  b_X7_termTrue_114 fu   st)
  else (
  b_X7_termTrue_110 fu   st))
  else (
  ck ((kd o4).1 = 0) <|
  if (gI st o4 8) ≤ v5 then (
  b_X7_termTrue_114 fu   st)
  else (
  b_X7_termTrue_110 fu   st)))))
set_option maxHeartbeats 4000000 in
set_option maxRecDepth 100000 in
theorem t_X7_termTrue {X : CX} {res : Int32 × St} (B : BI X cX7_termTrue RX7 6 1 NN (some .boolean) res) (fu : Nat) (th : Nat) (p1 : Int32) (st : St) : WW X res NN 0 [(0, .ref (x_b X + th)), (1, .int p1)] [] st (f_X7_termTrue fu th p1 st) := by
  have hX := B.1
  have hL := B.2.1
  unfold f_X7_termTrue
  refine ww_iload_n hX 1 rfl dX7_termTrue_0 rfl ?_
  refine ww_iconst (v := 3) hX rfl dX7_termTrue_1 ?_
  refine ww_ishr hX dX7_termTrue_2 ?_
  refine ww_bipush (v := 15) hX rfl dX7_termTrue_3 ?_
  refine ww_iand hX dX7_termTrue_5 ?_
  refine ww_bdi (fun v1 => ?_)
  refine ww_istore_n (lv' := [(2, .int v1), (0, .ref (x_b X + th)), (1, .int p1)]) hX hL dX7_termTrue_6 rfl (by decide) rfl ?_
  refine ww_iload_n hX 2 rfl dX7_termTrue_7 rfl ?_
  refine ww_pc (b := 8) rfl ?_
  refine ww_bipush (v := 7) hX rfl dX7_termTrue_8 ?_
  refine ww_iand hX dX7_termTrue_10 ?_
  refine ww_bdi (fun v2 => ?_)
  refine ww_istore_n (lv' := [(3, .int v2), (2, .int v1), (0, .ref (x_b X + th)), (1, .int p1)]) hX hL dX7_termTrue_11 rfl (by decide) rfl ?_
  refine ww_iload_n hX 0 rfl dX7_termTrue_12 rfl ?_
  refine ww_bipush (v := 6) hX rfl dX7_termTrue_13 ?_
  refine ww_icmp_ne (tgt := 25) hX dX7_termTrue_15 (by decide) ?_ ?_
  · refine ww_aload_n hX 2 rfl dX7_termTrue_25 rfl ?_
    refine ww_getR hX f_X7_11 (Or.inr ⟨_, rfl⟩) dX7_termTrue_26 ?_
    refine ww_bdR (fun o3 => ?_)
    refine ww_iload_n hX 1 rfl dX7_termTrue_29 rfl ?_
    refine ww_bipush (v := 7) hX rfl dX7_termTrue_30 ?_
    refine ww_iand hX dX7_termTrue_32 ?_
    refine ww_aald105c hX k_aald105 dX7_termTrue_33 ?_
    refine ww_bdR (fun o4 => ?_)
    refine ww_astore (lv' := [(4, .ref (x_b X + o4)), (3, .int v2), (2, .int v1), (0, .ref (x_b X + th)), (1, .int p1)]) hX hL dX7_termTrue_34 (by decide) rfl ?_
    refine ww_pc (b := 36) rfl ?_
    refine ww_iload_n hX 1 rfl dX7_termTrue_36 rfl ?_
    refine ww_iconst (v := 5) hX rfl dX7_termTrue_37 ?_
    refine ww_icmp_ne (tgt := 68) hX dX7_termTrue_38 (by decide) ?_ ?_
    · refine ww_iload_n hX 4 rfl dX7_termTrue_68 rfl ?_
      refine ww_bipush (v := 7) hX rfl dX7_termTrue_69 ?_
      refine ww_ishr hX dX7_termTrue_71 ?_
      refine ww_bdi (fun v5 => ?_)
      refine ww_istore (lv' := [(5, .int v5), (4, .ref (x_b X + o4)), (3, .int v2), (2, .int v1), (0, .ref (x_b X + th)), (1, .int p1)]) hX hL dX7_termTrue_72 (by decide) rfl ?_
      refine ww_aload hX 1 rfl dX7_termTrue_74 ?_
      refine ww_getI hX f_X7_34 (Or.inr rfl) dX7_termTrue_76 ?_
      refine ww_if_eq (tgt := 114) hX dX7_termTrue_79 (by decide) ?_ ?_
      · exact ww_sub [] rfl (t_X7_termTrue_114 B fu   st)
      · refine ww_iload_n hX 2 rfl dX7_termTrue_82 rfl ?_
        refine ww_iconst (v := 3) hX rfl dX7_termTrue_83 ?_
        refine ww_icmp_ne (tgt := 100) hX dX7_termTrue_84 (by decide) ?_ ?_
        · refine ww_aload hX 1 rfl dX7_termTrue_100 ?_
          refine ww_getI hX f_X7_70 (Or.inl rfl) dX7_termTrue_102 ?_
          refine ww_iload hX 0 rfl dX7_termTrue_105 ?_
          refine ww_icmp_le (tgt := 114) hX dX7_termTrue_107 (by decide) ?_ ?_
          · exact ww_sub [] rfl (t_X7_termTrue_114 B fu   st)
          · exact ww_sub [] rfl (t_X7_termTrue_110 B fu   st)
        · refine ww_aload hX 1 rfl dX7_termTrue_87 ?_
          refine ww_getI hX f_X7_70 (Or.inl rfl) dX7_termTrue_89 ?_
          refine ww_iload hX 0 rfl dX7_termTrue_92 ?_
          refine ww_icmp_ge (tgt := 114) hX dX7_termTrue_94 (by decide) ?_ ?_
          · exact ww_sub [] rfl (t_X7_termTrue_114 B fu   st)
          · refine ww_goto (tgt := 110) hX dX7_termTrue_97 (by decide) ?_
            exact ww_sub [] rfl (t_X7_termTrue_110 B fu   st)
    · refine ww_aload hX 0 rfl dX7_termTrue_41 ?_
      refine ww_getI hX f_X7_34 (Or.inr rfl) dX7_termTrue_43 ?_
      refine ww_if_eq (tgt := 62) hX dX7_termTrue_46 (by decide) ?_ ?_
      · exact ww_sub [] rfl (t_X7_termTrue_62 B fu   st)
      · refine ww_aload hX 0 rfl dX7_termTrue_49 ?_
        refine ww_getI hX f_X7_70 (Or.inl rfl) dX7_termTrue_51 ?_
        refine ww_aload hX 0 rfl dX7_termTrue_54 ?_
        refine ww_getI hX f_X7_73 (Or.inl rfl) dX7_termTrue_56 ?_
        refine ww_icmp_ne (tgt := 66) hX dX7_termTrue_59 (by decide) ?_ ?_
        · refine ww_iconst (v := 0) hX rfl dX7_termTrue_66 ?_
          exact ww_sub [] rfl (t_X7_termTrue_67 B fu  0 st)
        · exact ww_sub [] rfl (t_X7_termTrue_62 B fu   st)
  · refine ww_aload_n hX 2 rfl dX7_termTrue_18 rfl ?_
    refine ww_getR hX f_X7_17 (Or.inr ⟨_, rfl⟩) dX7_termTrue_19 ?_
    refine ww_bdR (fun o6 => ?_)
    refine ww_iload_n hX 1 rfl dX7_termTrue_22 rfl ?_
    refine ww_zaldc hX k_zald dX7_termTrue_23 ?_
    exact ww_zret B dX7_termTrue_24
theorem c_X7_termTrue (G : GX) (l : Launch) (fu : Nat) (th : Nat) (p1 : Int32) (st : St) : MI G NN l yX7_termTrue cX7_termTrue 6 (some .boolean) 1 [.ref (G.2.2.1 + th), .int p1] st (f_X7_termTrue fu th p1 st) := mkI (by decide) (Nat.le_of_ble_eq_true rfl) (fun X res hl hG B => by subst hl; subst hG; exact t_X7_termTrue B fu th p1 st)
/-! StageHouse$Rig.lockTrue(I)Z -/
def b_X7_lockTrue_153 (fu : Nat)  (y0 : Int32) (st : St) : Option (Int32 × St) :=
  ck (isb y0) (some (y0, st))
set_option maxHeartbeats 4000000 in
set_option maxRecDepth 100000 in
theorem t_X7_lockTrue_153 {X : CX} {res : Int32 × St} (B : BI X cX7_lockTrue RX7 9 2 NN (some .boolean) res) (fu : Nat)  (y0 : Int32) (st : St) : WW X res NN 153 [] [.int y0] st (b_X7_lockTrue_153 fu y0 st) := by
  have hX := B.1
  have hL := B.2.1
  unfold b_X7_lockTrue_153
  exact ww_zret B dX7_lockTrue_153
def b_X7_lockTrue_140 (fu : Nat) (x3 : Int64)  (st : St) : Option (Int32 × St) :=
  if (lg_cmp (x3 &&& 1) 0) = 0 then (
  b_X7_lockTrue_153 fu  0 st)
  else (
  b_X7_lockTrue_153 fu  1 st)
set_option maxHeartbeats 4000000 in
set_option maxRecDepth 100000 in
theorem t_X7_lockTrue_140 {X : CX} {res : Int32 × St} (B : BI X cX7_lockTrue RX7 9 2 NN (some .boolean) res) (fu : Nat) (x3 : Int64)  (st : St) : WW X res NN 140 [(3, .long x3)] [] st (b_X7_lockTrue_140 fu x3 st) := by
  have hX := B.1
  have hL := B.2.1
  unfold b_X7_lockTrue_140
  refine ww_lload_n hX 0 rfl dX7_lockTrue_140 rfl ?_
  refine ww_lconst (v := 1) hX rfl dX7_lockTrue_141 ?_
  refine ww_land hX dX7_lockTrue_142 ?_
  refine ww_lconst (v := 0) hX rfl dX7_lockTrue_143 ?_
  refine ww_lcmp hX dX7_lockTrue_144 ?_
  refine ww_if_eq (tgt := 152) hX dX7_lockTrue_145 (by decide) ?_ ?_
  · refine ww_iconst (v := 0) hX rfl dX7_lockTrue_152 ?_
    exact ww_sub [] rfl (t_X7_lockTrue_153 B fu  0 st)
  · refine ww_iconst (v := 1) hX rfl dX7_lockTrue_148 ?_
    refine ww_goto (tgt := 153) hX dX7_lockTrue_149 (by decide) ?_
    exact ww_sub [] rfl (t_X7_lockTrue_153 B fu  1 st)
def b_X7_lockTrue_134 (fu : Nat) (k_21 : Nat → Nat → Int64 → Int32 → St → Option (Int32 × St)) (x0 : Nat) (x2 : Nat) (x3 : Int64) (x5 : Int32)  (st : St) : Option (Int32 × St) :=
  bd (x5 + 1) fun v8 =>
  k_21 x0 x2 x3 v8  st
set_option maxHeartbeats 4000000 in
set_option maxRecDepth 100000 in
theorem t_X7_lockTrue_134 {X : CX} {res : Int32 × St} (B : BI X cX7_lockTrue RX7 9 2 NN (some .boolean) res) (fu : Nat) (k_21 : Nat → Nat → Int64 → Int32 → St → Option (Int32 × St)) (h_21 : ∀ (x0 : Nat) (x2 : Nat) (x3 : Int64) (x5 : Int32)  (st : St), WW X res NN 21 [(0, .ref (x_b X + x0)), (2, .ref (x_b X + x2)), (3, .long x3), (5, .int x5)] [] st (k_21 x0 x2 x3 x5 st)) (x0 : Nat) (x2 : Nat) (x3 : Int64) (x5 : Int32)  (st : St) : WW X res NN 134 [(0, .ref (x_b X + x0)), (2, .ref (x_b X + x2)), (3, .long x3), (5, .int x5)] [] st (b_X7_lockTrue_134 fu k_21 x0 x2 x3 x5 st) := by
  have hX := B.1
  have hL := B.2.1
  unfold b_X7_lockTrue_134
  refine ww_iincb (lv' := fun v8 => [(5, .int v8), (0, .ref (x_b X + x0)), (2, .ref (x_b X + x2)), (3, .long x3)]) (c := 1) hX hL 3 rfl dX7_lockTrue_134 rfl (by decide) (fun _ => rfl) (fun v8 => ?_)
  refine ww_goto (tgt := 21) hX dX7_lockTrue_137 (by decide) ?_
  exact ww_sub [1, 2, 3, 0] rfl (h_21 x0 x2 x3 v8  st)
def b_X7_lockTrue_132 (fu : Nat) (k_21 : Nat → Nat → Int64 → Int32 → St → Option (Int32 × St)) (x0 : Nat) (x2 : Nat) (x5 : Int32) (y0 : Int64) (y1 : Int64) (st : St) : Option (Int32 × St) :=
  bd (y0 ||| y1) fun v13 =>
  b_X7_lockTrue_134 fu k_21 x0 x2 v13 x5  st
set_option maxHeartbeats 4000000 in
set_option maxRecDepth 100000 in
theorem t_X7_lockTrue_132 {X : CX} {res : Int32 × St} (B : BI X cX7_lockTrue RX7 9 2 NN (some .boolean) res) (fu : Nat) (k_21 : Nat → Nat → Int64 → Int32 → St → Option (Int32 × St)) (h_21 : ∀ (x0 : Nat) (x2 : Nat) (x3 : Int64) (x5 : Int32)  (st : St), WW X res NN 21 [(0, .ref (x_b X + x0)), (2, .ref (x_b X + x2)), (3, .long x3), (5, .int x5)] [] st (k_21 x0 x2 x3 x5 st)) (x0 : Nat) (x2 : Nat) (x5 : Int32) (y0 : Int64) (y1 : Int64) (st : St) : WW X res NN 132 [(0, .ref (x_b X + x0)), (2, .ref (x_b X + x2)), (5, .int x5)] [.long y1, .long y0] st (b_X7_lockTrue_132 fu k_21 x0 x2 x5 y0 y1 st) := by
  have hX := B.1
  have hL := B.2.1
  unfold b_X7_lockTrue_132
  refine ww_lor hX dX7_lockTrue_132 ?_
  refine ww_bdl (fun v13 => ?_)
  refine ww_lstore_n (lv' := [(3, .long v13), (0, .ref (x_b X + x0)), (2, .ref (x_b X + x2)), (5, .int x5)]) hX hL dX7_lockTrue_133 rfl (by decide) rfl ?_
  exact ww_sub [1, 2, 0, 3] rfl (t_X7_lockTrue_134 B fu k_21 h_21 x0 x2 v13 x5  st)
def b_X7_lockTrue_21_b (fu : Nat) (k_21 : Nat → Nat → Int64 → Int32 → St → Option (Int32 × St)) (x0 : Nat) (x2 : Nat) (x3 : Int64) (x5 : Int32)  (st : St) : Option (Int32 × St) :=
  ck ((kd x2).1 = 0) <|
  if (gI st x2 13) ≤ x5 then (
  b_X7_lockTrue_140 fu x3  st)
  else (
  if 60 ≤ x5 then (
  b_X7_lockTrue_140 fu x3  st)
  else (
  ck (¬ gR st x2 12 = 0) <|
  ck ((kd x2).1 = 0) <|
  bd (gR st x2 12) fun o3 =>
  ck ((kd o3).1 = 100 ∧ inb x5 (kd o3).2) <|
  bd (gI st o3 (ix x5)) fun v4 =>
  bd (x3 &&& 1) fun v5 =>
  bd (v4 &&& 7) fun v6 =>
  if v6 = 0 then (
  bd (x3 ^^^ 1) fun v7 =>
  b_X7_lockTrue_134 fu k_21 x0 x2 v7 x5  st)
  else if v6 = 1 then (
  bd (((x3.toUInt64 >>> ((1 : Int32).toInt64.toUInt64 &&& Int64.toUInt64 63)).toInt64) &&& (v5 ||| ((-2)))) fun v9 =>
  b_X7_lockTrue_134 fu k_21 x0 x2 v9 x5  st)
  else if v6 = 2 then (
  bd (((x3.toUInt64 >>> ((1 : Int32).toInt64.toUInt64 &&& Int64.toUInt64 63)).toInt64) ||| v5) fun v10 =>
  b_X7_lockTrue_134 fu k_21 x0 x2 v10 x5  st)
  else (
  ck ((kd x0).1 = 7) <|
  ca (f_X7_termTrue fu x0 v4 st) fun r11 s12 =>
  if r11 = 0 then (
  b_X7_lockTrue_132 fu k_21 x0 x2 x5 (x3 <<< ((1 : Int32).toInt64 &&& 63)) 0 s12)
  else (
  b_X7_lockTrue_132 fu k_21 x0 x2 x5 (x3 <<< ((1 : Int32).toInt64 &&& 63)) 1 s12))))
set_option maxHeartbeats 4000000 in
set_option maxRecDepth 100000 in
theorem t_X7_lockTrue_21_b {X : CX} {res : Int32 × St} (B : BI X cX7_lockTrue RX7 9 2 NN (some .boolean) res) (fu : Nat) (k_21 : Nat → Nat → Int64 → Int32 → St → Option (Int32 × St)) (h_21 : ∀ (x0 : Nat) (x2 : Nat) (x3 : Int64) (x5 : Int32)  (st : St), WW X res NN 21 [(0, .ref (x_b X + x0)), (2, .ref (x_b X + x2)), (3, .long x3), (5, .int x5)] [] st (k_21 x0 x2 x3 x5 st)) (x0 : Nat) (x2 : Nat) (x3 : Int64) (x5 : Int32)  (st : St) : WW X res NN 21 [(0, .ref (x_b X + x0)), (2, .ref (x_b X + x2)), (3, .long x3), (5, .int x5)] [] st (b_X7_lockTrue_21_b fu k_21 x0 x2 x3 x5 st) := by
  have hX := B.1
  have hL := B.2.1
  unfold b_X7_lockTrue_21_b
  refine ww_iload hX 3 rfl dX7_lockTrue_21 ?_
  refine ww_aload_n hX 1 rfl dX7_lockTrue_23 rfl ?_
  refine ww_getI hX f_X7_59 (Or.inl rfl) dX7_lockTrue_24 ?_
  refine ww_icmp_ge (tgt := 140) hX dX7_lockTrue_27 (by decide) ?_ ?_
  · exact ww_sub [2] rfl (t_X7_lockTrue_140 B fu x3  st)
  · refine ww_iload hX 3 rfl dX7_lockTrue_30 ?_
    refine ww_bipush (v := 60) hX rfl dX7_lockTrue_32 ?_
    refine ww_icmp_ge (tgt := 140) hX dX7_lockTrue_34 (by decide) ?_ ?_
    · exact ww_sub [2] rfl (t_X7_lockTrue_140 B fu x3  st)
    · refine ww_aload_n hX 1 rfl dX7_lockTrue_37 rfl ?_
      refine ww_getR hX f_X7_62 (Or.inr ⟨_, rfl⟩) dX7_lockTrue_38 ?_
      refine ww_bdR (fun o3 => ?_)
      refine ww_iload hX 3 rfl dX7_lockTrue_41 ?_
      refine ww_ialdc hX k_iald dX7_lockTrue_43 ?_
      refine ww_bdi (fun v4 => ?_)
      refine ww_istore (lv' := [(6, .int v4), (0, .ref (x_b X + x0)), (2, .ref (x_b X + x2)), (3, .long x3), (5, .int x5)]) hX hL dX7_lockTrue_44 (by decide) rfl ?_
      refine ww_lload_n hX 3 rfl dX7_lockTrue_46 rfl ?_
      refine ww_lconst (v := 1) hX rfl dX7_lockTrue_47 ?_
      refine ww_pc (b := 48) rfl ?_
      refine ww_land hX dX7_lockTrue_48 ?_
      refine ww_bdl (fun v5 => ?_)
      refine ww_lstore (lv' := [(7, .long v5), (6, .int v4), (0, .ref (x_b X + x0)), (2, .ref (x_b X + x2)), (3, .long x3), (5, .int x5)]) hX hL dX7_lockTrue_49 (by decide) rfl ?_
      refine ww_iload hX 1 rfl dX7_lockTrue_51 ?_
      refine ww_bipush (v := 7) hX rfl dX7_lockTrue_53 ?_
      refine ww_iand hX dX7_lockTrue_55 ?_
      refine ww_bdi (fun v6 => ?_)
      refine ww_if (fun c56_0 => ?_) (fun c56_0 => ?_)
      · refine ww_tsw (off := 28) (tgt := 84) hX dX7_lockTrue_56 (by rw [c56_0]; decide) (by rw [c56_0]; decide) (by rw [c56_0]; rfl) (by decide) ?_
        refine ww_lload_n hX 4 rfl dX7_lockTrue_84 rfl ?_
        refine ww_lconst (v := 1) hX rfl dX7_lockTrue_85 ?_
        refine ww_lxor hX dX7_lockTrue_86 ?_
        refine ww_bdl (fun v7 => ?_)
        refine ww_lstore_n (lv' := [(3, .long v7), (7, .long v5), (6, .int v4), (0, .ref (x_b X + x0)), (2, .ref (x_b X + x2)), (5, .int x5)]) hX hL dX7_lockTrue_87 rfl (by decide) rfl ?_
        refine ww_goto (tgt := 134) hX dX7_lockTrue_88 (by decide) ?_
        exact ww_sub [3, 4, 0, 5] rfl (t_X7_lockTrue_134 B fu k_21 h_21 x0 x2 v7 x5  st)
      refine ww_if (fun c56_1 => ?_) (fun c56_1 => ?_)
      · refine ww_tsw (off := 35) (tgt := 91) hX dX7_lockTrue_56 (by rw [c56_1]; decide) (by rw [c56_1]; decide) (by rw [c56_1]; rfl) (by decide) ?_
        refine ww_lload_n hX 4 rfl dX7_lockTrue_91 rfl ?_
        refine ww_iconst (v := 1) hX rfl dX7_lockTrue_92 ?_
        refine ww_lushr hX dX7_lockTrue_93 ?_
        refine ww_lload hX 0 rfl dX7_lockTrue_94 ?_
        refine ww_ldc2 (v := (-2)) hX k_X7_65 dX7_lockTrue_96 ?_
        refine ww_lor hX dX7_lockTrue_99 ?_
        refine ww_land hX dX7_lockTrue_100 ?_
        refine ww_pc (b := 101) rfl ?_
        refine ww_bdl (fun v9 => ?_)
        refine ww_lstore_n (lv' := [(3, .long v9), (7, .long v5), (6, .int v4), (0, .ref (x_b X + x0)), (2, .ref (x_b X + x2)), (5, .int x5)]) hX hL dX7_lockTrue_101 rfl (by decide) rfl ?_
        refine ww_goto (tgt := 134) hX dX7_lockTrue_102 (by decide) ?_
        exact ww_sub [3, 4, 0, 5] rfl (t_X7_lockTrue_134 B fu k_21 h_21 x0 x2 v9 x5  st)
      refine ww_if (fun c56_2 => ?_) (fun c56_2 => ?_)
      · refine ww_tsw (off := 49) (tgt := 105) hX dX7_lockTrue_56 (by rw [c56_2]; decide) (by rw [c56_2]; decide) (by rw [c56_2]; rfl) (by decide) ?_
        refine ww_lload_n hX 4 rfl dX7_lockTrue_105 rfl ?_
        refine ww_iconst (v := 1) hX rfl dX7_lockTrue_106 ?_
        refine ww_lushr hX dX7_lockTrue_107 ?_
        refine ww_lload hX 0 rfl dX7_lockTrue_108 ?_
        refine ww_lor hX dX7_lockTrue_110 ?_
        refine ww_bdl (fun v10 => ?_)
        refine ww_lstore_n (lv' := [(3, .long v10), (7, .long v5), (6, .int v4), (0, .ref (x_b X + x0)), (2, .ref (x_b X + x2)), (5, .int x5)]) hX hL dX7_lockTrue_111 rfl (by decide) rfl ?_
        refine ww_goto (tgt := 134) hX dX7_lockTrue_112 (by decide) ?_
        exact ww_sub [3, 4, 0, 5] rfl (t_X7_lockTrue_134 B fu k_21 h_21 x0 x2 v10 x5  st)
      refine ww_tswd (tgt := 115) hX dX7_lockTrue_56 (by have z0 : v6.toInt ≠ 0 := fun q => c56_0 (Int32.toInt_inj.mp (q.trans (by decide))); have z1 : v6.toInt ≠ 1 := fun q => c56_1 (Int32.toInt_inj.mp (q.trans (by decide))); have z2 : v6.toInt ≠ 2 := fun q => c56_2 (Int32.toInt_inj.mp (q.trans (by decide))); omega) (by decide) ?_
      refine ww_lload_n hX 4 rfl dX7_lockTrue_115 rfl ?_
      refine ww_iconst (v := 1) hX rfl dX7_lockTrue_116 ?_
      refine ww_lshl hX dX7_lockTrue_117 ?_
      refine ww_aload_n hX 2 rfl dX7_lockTrue_118 rfl ?_
      refine ww_iload hX 1 rfl dX7_lockTrue_119 ?_
      refine ww_callVI (As := [.int v4]) (rest := [.long (x3 <<< ((1 : Int32).toInt64 &&& 63))]) (o := x0) hX (Rk.of B.2.2.1 B.2.2.2.1 (by decide) (by decide)) g_X7_67 g_X7_67.in (fun _ => c_X7_termTrue (x_G X) (x_l X) fu x0 v4 st) rfl rfl (Nat.le_of_ble_eq_true rfl) dX7_lockTrue_121 (fun r11 s12 => ?_)
      refine ww_if_eq (tgt := 131) hX dX7_lockTrue_124 (by decide) ?_ ?_
      · refine ww_lconst (v := 0) hX rfl dX7_lockTrue_131 ?_
        exact ww_sub [2, 3, 5] rfl (t_X7_lockTrue_132 B fu k_21 h_21 x0 x2 x5 (x3 <<< ((1 : Int32).toInt64 &&& 63)) 0 s12)
      · refine ww_lconst (v := 1) hX rfl dX7_lockTrue_127 ?_
        refine ww_goto (tgt := 132) hX dX7_lockTrue_128 (by decide) ?_
        exact ww_sub [2, 3, 5] rfl (t_X7_lockTrue_132 B fu k_21 h_21 x0 x2 x5 (x3 <<< ((1 : Int32).toInt64 &&& 63)) 1 s12)
def b_X7_lockTrue_21 (fu : Nat) : Nat → Nat → Nat → Int64 → Int32 → St → Option (Int32 × St)
  | 0, _, _, _, _, _ => none
  | i + 1, x0, x2, x3, x5, st => b_X7_lockTrue_21_b fu (b_X7_lockTrue_21 fu i) x0 x2 x3 x5 st
theorem t_X7_lockTrue_21 {X : CX} {res : Int32 × St} (B : BI X cX7_lockTrue RX7 9 2 NN (some .boolean) res) (fu : Nat) : ∀ (i : Nat) (x0 : Nat) (x2 : Nat) (x3 : Int64) (x5 : Int32)  (st : St), WW X res NN 21 [(0, .ref (x_b X + x0)), (2, .ref (x_b X + x2)), (3, .long x3), (5, .int x5)] [] st (b_X7_lockTrue_21 fu i x0 x2 x3 x5 st) := by
  intro i
  induction i with
  | zero => intro x0 x2 x3 x5 st; exact ww_none
  | succ i ih => intro x0 x2 x3 x5 st; exact t_X7_lockTrue_21_b B fu (b_X7_lockTrue_21 fu i) ih x0 x2 x3 x5 st
def f_X7_lockTrue (fu : Nat) (th : Nat) (p1 : Int32) (st : St) : Option (Int32 × St) :=
  ck (¬ gR st th 0 = 0) <|
  ck ((kd th).1 = 7) <|
  bd (gR st th 0) fun o1 =>
  ck (¬ gR st o1 (ix p1) = 0) <|
  ck ((kd o1).1 = 105 ∧ inb p1 (kd o1).2) <|
  bd (gR st o1 (ix p1)) fun o2 =>
  ck ((kd o2).1 = 0) <|
  if (gI st o2 13) = 0 then (
  ck (isb 1) (some (1, st)))
  else (
  b_X7_lockTrue_21 fu fu th o2 0 0  st)
set_option maxHeartbeats 4000000 in
set_option maxRecDepth 100000 in
theorem t_X7_lockTrue {X : CX} {res : Int32 × St} (B : BI X cX7_lockTrue RX7 9 2 NN (some .boolean) res) (fu : Nat) (th : Nat) (p1 : Int32) (st : St) : WW X res NN 0 [(0, .ref (x_b X + th)), (1, .int p1)] [] st (f_X7_lockTrue fu th p1 st) := by
  have hX := B.1
  have hL := B.2.1
  unfold f_X7_lockTrue
  refine ww_aload_n hX 0 rfl dX7_lockTrue_0 rfl ?_
  refine ww_getR hX f_X7_11 (Or.inr ⟨_, rfl⟩) dX7_lockTrue_1 ?_
  refine ww_bdR (fun o1 => ?_)
  refine ww_iload_n hX 1 rfl dX7_lockTrue_4 rfl ?_
  refine ww_aald105c hX k_aald105 dX7_lockTrue_5 ?_
  refine ww_bdR (fun o2 => ?_)
  refine ww_astore_n (lv' := [(2, .ref (x_b X + o2)), (0, .ref (x_b X + th)), (1, .int p1)]) hX hL dX7_lockTrue_6 rfl (by decide) rfl ?_
  refine ww_aload_n hX 0 rfl dX7_lockTrue_7 rfl ?_
  refine ww_getI hX f_X7_59 (Or.inl rfl) dX7_lockTrue_8 ?_
  refine ww_pc (b := 11) rfl ?_
  refine ww_if_ne (tgt := 16) hX dX7_lockTrue_11 (by decide) ?_ ?_
  · refine ww_lconst (v := 0) hX rfl dX7_lockTrue_16 ?_
    refine ww_lstore_n (lv' := [(3, .long 0), (2, .ref (x_b X + o2)), (0, .ref (x_b X + th)), (1, .int p1)]) hX hL dX7_lockTrue_17 rfl (by decide) rfl ?_
    refine ww_iconst (v := 0) hX rfl dX7_lockTrue_18 ?_
    refine ww_istore (lv' := [(5, .int 0), (3, .long 0), (2, .ref (x_b X + o2)), (0, .ref (x_b X + th)), (1, .int p1)]) hX hL dX7_lockTrue_19 (by decide) rfl ?_
    exact ww_sub [3, 2, 1, 0] rfl (t_X7_lockTrue_21 B fu fu th o2 0 0  st)
  · refine ww_iconst (v := 1) hX rfl dX7_lockTrue_14 ?_
    exact ww_zret B dX7_lockTrue_15
theorem c_X7_lockTrue (G : GX) (l : Launch) (fu : Nat) (th : Nat) (p1 : Int32) (st : St) : MI G NN l yX7_lockTrue cX7_lockTrue 9 (some .boolean) 2 [.ref (G.2.2.1 + th), .int p1] st (f_X7_lockTrue fu th p1 st) := mkI (by decide) (Nat.le_of_ble_eq_true rfl) (fun X res hl hG B => by subst hl; subst hG; exact t_X7_lockTrue B fu th p1 st)
/-! StageHouse$Rig.send(II)Z -/
def b_X7_send_10 (fu : Nat)   (st : St) : Option (Int32 × St) :=
  ck (isb 0) (some (0, st))
set_option maxHeartbeats 4000000 in
set_option maxRecDepth 100000 in
theorem t_X7_send_10 {X : CX} {res : Int32 × St} (B : BI X cX7_send RX7 5 3 NN (some .boolean) res) (fu : Nat)   (st : St) : WW X res NN 10 [] [] st (b_X7_send_10 fu  st) := by
  have hX := B.1
  have hL := B.2.1
  unfold b_X7_send_10
  refine ww_iconst (v := 0) hX rfl dX7_send_10 ?_
  exact ww_zret B dX7_send_11
def b_X7_send_96 (fu : Nat) (x4 : Int32)  (st : St) : Option (Int32 × St) :=
  ck (isb x4) (some (x4, st))
set_option maxHeartbeats 4000000 in
set_option maxRecDepth 100000 in
theorem t_X7_send_96 {X : CX} {res : Int32 × St} (B : BI X cX7_send RX7 5 3 NN (some .boolean) res) (fu : Nat) (x4 : Int32)  (st : St) : WW X res NN 96 [(4, .int x4)] [] st (b_X7_send_96 fu x4 st) := by
  have hX := B.1
  have hL := B.2.1
  unfold b_X7_send_96
  refine ww_iload hX 0 rfl dX7_send_96 ?_
  exact ww_zret B dX7_send_98
def b_X7_send_71 (fu : Nat) (x2 : Int32) (x3 : Nat) (y0 : Int32) (st : St) : Option (Int32 × St) :=
  if y0 = 0 then (
  ck ((kd x3).1 = 0) <|
  ck ((kd x3).1 = 0) <|
  bd (sI st x3 11 ((gI st x3 11) + 1)) fun s3 =>
  b_X7_send_96 fu y0  s3)
  else (
  ck ((kd x3).1 = 0) <|
  bd (sI st x3 7 x2) fun s4 =>
  b_X7_send_96 fu y0  s4)
set_option maxHeartbeats 4000000 in
set_option maxRecDepth 100000 in
theorem t_X7_send_71 {X : CX} {res : Int32 × St} (B : BI X cX7_send RX7 5 3 NN (some .boolean) res) (fu : Nat) (x2 : Int32) (x3 : Nat) (y0 : Int32) (st : St) : WW X res NN 71 [(2, .int x2), (3, .ref (x_b X + x3))] [.int y0] st (b_X7_send_71 fu x2 x3 y0 st) := by
  have hX := B.1
  have hL := B.2.1
  unfold b_X7_send_71
  refine ww_istore (lv' := [(4, .int y0), (2, .int x2), (3, .ref (x_b X + x3))]) hX hL dX7_send_71 (by decide) rfl ?_
  refine ww_iload hX 0 rfl dX7_send_73 ?_
  refine ww_if_eq (tgt := 86) hX dX7_send_75 (by decide) ?_ ?_
  · refine ww_aload_n hX 2 rfl dX7_send_86 rfl ?_
    refine ww_dup hX rfl dX7_send_87 ?_
    refine ww_getI hX f_X7_50 (Or.inl rfl) dX7_send_88 ?_
    refine ww_iconst (v := 1) hX rfl dX7_send_91 ?_
    refine ww_iadd hX dX7_send_92 ?_
    refine ww_putI hX f_X7_50 rfl dX7_send_93 ?_
    refine ww_bds (fun s3 => ?_)
    exact ww_sub [0] rfl (t_X7_send_96 B fu y0  s3)
  · refine ww_aload_n hX 2 rfl dX7_send_78 rfl ?_
    refine ww_iload_n hX 1 rfl dX7_send_79 rfl ?_
    refine ww_putI hX f_X7_30 rfl dX7_send_80 ?_
    refine ww_bds (fun s4 => ?_)
    refine ww_goto (tgt := 96) hX dX7_send_83 (by decide) ?_
    exact ww_sub [0] rfl (t_X7_send_96 B fu y0  s4)
def b_X7_send_70 (fu : Nat) (x2 : Int32) (x3 : Nat)  (st : St) : Option (Int32 × St) :=
  b_X7_send_71 fu x2 x3 0 st
set_option maxHeartbeats 4000000 in
set_option maxRecDepth 100000 in
theorem t_X7_send_70 {X : CX} {res : Int32 × St} (B : BI X cX7_send RX7 5 3 NN (some .boolean) res) (fu : Nat) (x2 : Int32) (x3 : Nat)  (st : St) : WW X res NN 70 [(2, .int x2), (3, .ref (x_b X + x3))] [] st (b_X7_send_70 fu x2 x3 st) := by
  have hX := B.1
  have hL := B.2.1
  unfold b_X7_send_70
  refine ww_iconst (v := 0) hX rfl dX7_send_70 ?_
  exact t_X7_send_71 B fu x2 x3 0 st
def f_X7_send (fu : Nat) (th : Nat) (p1 : Int32) (p2 : Int32) (st : St) : Option (Int32 × St) :=
  if p1 < 0 then (
  b_X7_send_10 fu   st)
  else (
  if p1 ≤ 7 then (
  ck (¬ gR st th 0 = 0) <|
  ck ((kd th).1 = 7) <|
  bd (gR st th 0) fun o1 =>
  ck (¬ gR st o1 (ix p1) = 0) <|
  ck ((kd o1).1 = 105 ∧ inb p1 (kd o1).2) <|
  bd (gR st o1 (ix p1)) fun o2 =>
  ck ((kd o2).1 = 0) <|
  if (gI st o2 0) = 0 then (
  b_X7_send_70 fu p2 o2  st)
  else (
  ck ((kd o2).1 = 0) <|
  if p2 < (gI st o2 1) then (
  b_X7_send_70 fu p2 o2  st)
  else (
  ck ((kd o2).1 = 0) <|
  if (gI st o2 2) < p2 then (
  b_X7_send_70 fu p2 o2  st)
  else (
  ck ((kd o2).1 = 0) <|
  if ((gI st o2 10) &&& 1) = 0 then (
  ck ((kd th).1 = 7) <|
  if (gI st th 2) = 0 then (
  ck ((kd th).1 = 7) <|
  ca (f_X7_lockTrue fu th p1 st) fun r5 s6 =>
  if r5 = 0 then (
  b_X7_send_70 fu p2 o2  s6)
  else (
  b_X7_send_71 fu p2 o2 1 s6))
  else (
  b_X7_send_70 fu p2 o2  st))
  else (
  b_X7_send_70 fu p2 o2  st)))))
  else (
  b_X7_send_10 fu   st))
set_option maxHeartbeats 4000000 in
set_option maxRecDepth 100000 in
theorem t_X7_send {X : CX} {res : Int32 × St} (B : BI X cX7_send RX7 5 3 NN (some .boolean) res) (fu : Nat) (th : Nat) (p1 : Int32) (p2 : Int32) (st : St) : WW X res NN 0 [(0, .ref (x_b X + th)), (1, .int p1), (2, .int p2)] [] st (f_X7_send fu th p1 p2 st) := by
  have hX := B.1
  have hL := B.2.1
  unfold f_X7_send
  refine ww_iload_n hX 1 rfl dX7_send_0 rfl ?_
  refine ww_if_lt (tgt := 10) hX dX7_send_1 (by decide) ?_ ?_
  · exact ww_sub [] rfl (t_X7_send_10 B fu   st)
  · refine ww_iload_n hX 1 rfl dX7_send_4 rfl ?_
    refine ww_bipush (v := 7) hX rfl dX7_send_5 ?_
    refine ww_icmp_le (tgt := 12) hX dX7_send_7 (by decide) ?_ ?_
    · refine ww_aload_n hX 0 rfl dX7_send_12 rfl ?_
      refine ww_getR hX f_X7_11 (Or.inr ⟨_, rfl⟩) dX7_send_13 ?_
      refine ww_bdR (fun o1 => ?_)
      refine ww_iload_n hX 1 rfl dX7_send_16 rfl ?_
      refine ww_aald105c hX k_aald105 dX7_send_17 ?_
      refine ww_bdR (fun o2 => ?_)
      refine ww_astore_n (lv' := [(3, .ref (x_b X + o2)), (0, .ref (x_b X + th)), (1, .int p1), (2, .int p2)]) hX hL dX7_send_18 rfl (by decide) rfl ?_
      refine ww_aload_n hX 0 rfl dX7_send_19 rfl ?_
      refine ww_getI hX f_X7_34 (Or.inr rfl) dX7_send_20 ?_
      refine ww_pc (b := 23) rfl ?_
      refine ww_if_eq (tgt := 70) hX dX7_send_23 (by decide) ?_ ?_
      · exact ww_sub [3, 0] rfl (t_X7_send_70 B fu p2 o2  st)
      · refine ww_iload_n hX 3 rfl dX7_send_26 rfl ?_
        refine ww_aload_n hX 0 rfl dX7_send_27 rfl ?_
        refine ww_getI hX f_X7_37 (Or.inl rfl) dX7_send_28 ?_
        refine ww_icmp_lt (tgt := 70) hX dX7_send_31 (by decide) ?_ ?_
        · exact ww_sub [3, 0] rfl (t_X7_send_70 B fu p2 o2  st)
        · refine ww_iload_n hX 3 rfl dX7_send_34 rfl ?_
          refine ww_aload_n hX 0 rfl dX7_send_35 rfl ?_
          refine ww_getI hX f_X7_40 (Or.inl rfl) dX7_send_36 ?_
          refine ww_icmp_gt (tgt := 70) hX dX7_send_39 (by decide) ?_ ?_
          · exact ww_sub [3, 0] rfl (t_X7_send_70 B fu p2 o2  st)
          · refine ww_aload_n hX 0 rfl dX7_send_42 rfl ?_
            refine ww_getI hX f_X7_43 (Or.inl rfl) dX7_send_43 ?_
            refine ww_iconst (v := 1) hX rfl dX7_send_46 ?_
            refine ww_iand hX dX7_send_47 ?_
            refine ww_if_ne (tgt := 70) hX dX7_send_48 (by decide) ?_ ?_
            · exact ww_sub [3, 0] rfl (t_X7_send_70 B fu p2 o2  st)
            · refine ww_aload_n hX 1 rfl dX7_send_51 rfl ?_
              refine ww_getI hX f_X7_26 (Or.inr rfl) dX7_send_52 ?_
              refine ww_if_ne (tgt := 70) hX dX7_send_55 (by decide) ?_ ?_
              · exact ww_sub [3, 0] rfl (t_X7_send_70 B fu p2 o2  st)
              · refine ww_aload_n hX 1 rfl dX7_send_58 rfl ?_
                refine ww_iload_n hX 2 rfl dX7_send_59 rfl ?_
                refine ww_callVI (As := [.int p1]) (rest := []) (o := th) hX (Rk.of B.2.2.1 B.2.2.2.1 (by decide) (by decide)) g_X7_46 g_X7_46.in (fun _ => c_X7_lockTrue (x_G X) (x_l X) fu th p1 st) rfl rfl (Nat.le_of_ble_eq_true rfl) dX7_send_60 (fun r5 s6 => ?_)
                refine ww_if_eq (tgt := 70) hX dX7_send_63 (by decide) ?_ ?_
                · exact ww_sub [3, 0] rfl (t_X7_send_70 B fu p2 o2  s6)
                · refine ww_iconst (v := 1) hX rfl dX7_send_66 ?_
                  refine ww_goto (tgt := 71) hX dX7_send_67 (by decide) ?_
                  exact ww_sub [3, 0] rfl (t_X7_send_71 B fu p2 o2 1 s6)
    · exact ww_sub [] rfl (t_X7_send_10 B fu   st)
theorem c_X7_send (G : GX) (l : Launch) (fu : Nat) (th : Nat) (p1 : Int32) (p2 : Int32) (st : St) : MI G NN l yX7_send cX7_send 5 (some .boolean) 3 [.ref (G.2.2.1 + th), .int p1, .int p2] st (f_X7_send fu th p1 p2 st) := mkI (by decide) (Nat.le_of_ble_eq_true rfl) (fun X res hl hG B => by subst hl; subst hG; exact t_X7_send B fu th p1 p2 st)
/-! StageHouse$Board.runAct(LStageHouse$Script;II)V -/
def b_X1_runAct_133 (fu : Nat)   (st : St) : Option (St) :=
  some st
set_option maxHeartbeats 4000000 in
set_option maxRecDepth 100000 in
theorem t_X1_runAct_133 {X : CX} {res : St} (B : BV X cX1_runAct RX1 6 4 NN none res) (fu : Nat)   (st : St) : WW X res NN 133 [] [] st (b_X1_runAct_133 fu  st) := by
  have hX := B.1
  have hL := B.2.1
  unfold b_X1_runAct_133
  exact ww_vret B dX1_runAct_133
def f_X1_runAct (fu : Nat) (th : Nat) (p1 : Nat) (p2 : Int32) (p3 : Int32) (st : St) : Option (St) :=
  ck (¬ gR st p1 9 = 0) <|
  ck ((kd p1).1 = 8) <|
  bd (gR st p1 9) fun o1 =>
  ck ((kd o1).1 = 100 ∧ inb p2 (kd o1).2) <|
  bd (gI st o1 (ix p2)) fun v2 =>
  ck (¬ gR st p1 10 = 0) <|
  ck ((kd p1).1 = 8) <|
  bd (gR st p1 10) fun o3 =>
  ck ((kd o3).1 = 100 ∧ inb p2 (kd o3).2) <|
  bd (gI st o3 (ix p2)) fun v4 =>
  ck (¬ gR st p1 8 = 0) <|
  ck ((kd p1).1 = 8) <|
  bd (gR st p1 8) fun o5 =>
  ck ((kd o5).1 = 100 ∧ inb p2 (kd o5).2) <|
  bd (gI st o5 (ix p2)) fun v6 =>
  if v6 = 1 then (
  ck (¬ gR st th 5 = 0) <|
  ck ((kd th).1 = 1) <|
  bd (gR st th 5) fun o7 =>
  ck ((kd o7).1 = 7) <|
  ca (f_X7_send fu o7 v2 v4 st) fun r8 s9 =>
  b_X1_runAct_133 fu   s9)
  else if v6 = 2 then (
  ck (¬ gR st th 5 = 0) <|
  ck ((kd th).1 = 1) <|
  bd (gR st th 5) fun o10 =>
  ck (¬ gR st o10 0 = 0) <|
  ck ((kd o10).1 = 7) <|
  bd (gR st o10 0) fun o11 =>
  ck (¬ gR st o11 (ix v2) = 0) <|
  ck ((kd o11).1 = 105 ∧ inb v2 (kd o11).2) <|
  bd (gR st o11 (ix v2)) fun o12 =>
  ck ((kd o12).1 = 0) <|
  bd (sI st o12 7 ((-1))) fun s13 =>
  b_X1_runAct_133 fu   s13)
  else if v6 = 3 then (
  ck (¬ gR st th 5 = 0) <|
  ck ((kd th).1 = 1) <|
  bd (gR st th 5) fun o14 =>
  ck (¬ gR st o14 1 = 0) <|
  ck ((kd o14).1 = 7) <|
  bd (gR st o14 1) fun o15 =>
  ck (isb 1) <|
  ck ((kd o15).1 = 102 ∧ inb v2 (kd o15).2) <|
  bd (sI st o15 (ix v2) 1) fun s16 =>
  b_X1_runAct_133 fu   s16)
  else if v6 = 4 then (
  ck (¬ gR st th 0 = 0) <|
  ck ((kd th).1 = 1) <|
  bd (gR st th 0) fun o17 =>
  ck (¬ gR st o17 (ix v2) = 0) <|
  ck ((kd o17).1 = 104 ∧ inb v2 (kd o17).2) <|
  bd (gR st o17 (ix v2)) fun o18 =>
  cv (f_X1_callCue fu o18 v4 p3 st) fun s19 =>
  b_X1_runAct_133 fu   s19)
  else if v6 = 5 then (
  ck (¬ gR st th 0 = 0) <|
  ck ((kd th).1 = 1) <|
  bd (gR st th 0) fun o20 =>
  ck (¬ gR st o20 (ix v2) = 0) <|
  ck ((kd o20).1 = 104 ∧ inb v2 (kd o20).2) <|
  bd (gR st o20 (ix v2)) fun o21 =>
  ck ((kd o21).1 = 3) <|
  bd (sI st o21 9 v4) fun s22 =>
  b_X1_runAct_133 fu   s22)
  else (
  b_X1_runAct_133 fu   st)
set_option maxHeartbeats 4000000 in
set_option maxRecDepth 100000 in
theorem t_X1_runAct {X : CX} {res : St} (B : BV X cX1_runAct RX1 6 4 NN none res) (fu : Nat) (th : Nat) (p1 : Nat) (p2 : Int32) (p3 : Int32) (st : St) : WW X res NN 0 [(0, .ref (x_b X + th)), (1, .ref (x_b X + p1)), (2, .int p2), (3, .int p3)] [] st (f_X1_runAct fu th p1 p2 p3 st) := by
  have hX := B.1
  have hL := B.2.1
  unfold f_X1_runAct
  refine ww_aload_n hX 1 rfl dX1_runAct_0 rfl ?_
  refine ww_getR hX f_X1_112 (Or.inr ⟨_, rfl⟩) dX1_runAct_1 ?_
  refine ww_bdR (fun o1 => ?_)
  refine ww_iload_n hX 2 rfl dX1_runAct_4 rfl ?_
  refine ww_ialdc hX k_iald dX1_runAct_5 ?_
  refine ww_bdi (fun v2 => ?_)
  refine ww_istore (lv' := [(4, .int v2), (0, .ref (x_b X + th)), (1, .ref (x_b X + p1)), (2, .int p2), (3, .int p3)]) hX hL dX1_runAct_6 (by decide) rfl ?_
  refine ww_aload_n hX 2 rfl dX1_runAct_8 rfl ?_
  refine ww_getR hX f_X1_115 (Or.inr ⟨_, rfl⟩) dX1_runAct_9 ?_
  refine ww_bdR (fun o3 => ?_)
  refine ww_pc (b := 12) rfl ?_
  refine ww_iload_n hX 3 rfl dX1_runAct_12 rfl ?_
  refine ww_ialdc hX k_iald dX1_runAct_13 ?_
  refine ww_bdi (fun v4 => ?_)
  refine ww_istore (lv' := [(5, .int v4), (4, .int v2), (0, .ref (x_b X + th)), (1, .ref (x_b X + p1)), (2, .int p2), (3, .int p3)]) hX hL dX1_runAct_14 (by decide) rfl ?_
  refine ww_aload_n hX 3 rfl dX1_runAct_16 rfl ?_
  refine ww_getR hX f_X1_118 (Or.inr ⟨_, rfl⟩) dX1_runAct_17 ?_
  refine ww_bdR (fun o5 => ?_)
  refine ww_iload_n hX 4 rfl dX1_runAct_20 rfl ?_
  refine ww_ialdc hX k_iald dX1_runAct_21 ?_
  refine ww_bdi (fun v6 => ?_)
  refine ww_if (fun c22_0 => ?_) (fun c22_0 => ?_)
  · refine ww_tsw (off := 34) (tgt := 56) hX dX1_runAct_22 (by rw [c22_0]; decide) (by rw [c22_0]; decide) (by rw [c22_0]; rfl) (by decide) ?_
    refine ww_aload_n hX 2 rfl dX1_runAct_56 rfl ?_
    refine ww_getR hX f_X1_41 (Or.inl ⟨_, rfl⟩) dX1_runAct_57 ?_
    refine ww_bdR (fun o7 => ?_)
    refine ww_iload hX 1 rfl dX1_runAct_60 ?_
    refine ww_iload hX 0 rfl dX1_runAct_62 ?_
    refine ww_callVI (As := [.int v2, .int v4]) (rest := []) (o := o7) hX (Rk.of B.2.2.1 B.2.2.2.1 (by decide) (by decide)) g_X1_121 g_X1_121.in (fun _ => c_X7_send (x_G X) (x_l X) fu o7 v2 v4 st) rfl rfl (Nat.le_of_ble_eq_true rfl) dX1_runAct_64 (fun r8 s9 => ?_)
    refine ww_pop hX rfl dX1_runAct_67 ?_
    refine ww_goto (tgt := 133) hX dX1_runAct_68 (by decide) ?_
    exact ww_sub [] rfl (t_X1_runAct_133 B fu   s9)
  refine ww_if (fun c22_1 => ?_) (fun c22_1 => ?_)
  · refine ww_tsw (off := 49) (tgt := 71) hX dX1_runAct_22 (by rw [c22_1]; decide) (by rw [c22_1]; decide) (by rw [c22_1]; rfl) (by decide) ?_
    refine ww_aload_n hX 2 rfl dX1_runAct_71 rfl ?_
    refine ww_getR hX f_X1_41 (Or.inl ⟨_, rfl⟩) dX1_runAct_72 ?_
    refine ww_bdR (fun o10 => ?_)
    refine ww_getR hX f_X1_127 (Or.inr ⟨_, rfl⟩) dX1_runAct_75 ?_
    refine ww_bdR (fun o11 => ?_)
    refine ww_iload hX 1 rfl dX1_runAct_78 ?_
    refine ww_aald105c hX k_aald105 dX1_runAct_80 ?_
    refine ww_bdR (fun o12 => ?_)
    refine ww_iconst (v := (-1)) hX rfl dX1_runAct_81 ?_
    refine ww_putI hX f_X1_131 rfl dX1_runAct_82 ?_
    refine ww_bds (fun s13 => ?_)
    refine ww_pc (b := 85) rfl ?_
    refine ww_goto (tgt := 133) hX dX1_runAct_85 (by decide) ?_
    exact ww_sub [] rfl (t_X1_runAct_133 B fu   s13)
  refine ww_if (fun c22_2 => ?_) (fun c22_2 => ?_)
  · refine ww_tsw (off := 66) (tgt := 88) hX dX1_runAct_22 (by rw [c22_2]; decide) (by rw [c22_2]; decide) (by rw [c22_2]; rfl) (by decide) ?_
    refine ww_aload_n hX 2 rfl dX1_runAct_88 rfl ?_
    refine ww_getR hX f_X1_41 (Or.inl ⟨_, rfl⟩) dX1_runAct_89 ?_
    refine ww_bdR (fun o14 => ?_)
    refine ww_getR hX f_X1_136 (Or.inr ⟨_, rfl⟩) dX1_runAct_92 ?_
    refine ww_bdR (fun o15 => ?_)
    refine ww_iload hX 1 rfl dX1_runAct_95 ?_
    refine ww_iconst (v := 1) hX rfl dX1_runAct_97 ?_
    refine ww_zastc hX k_zast dX1_runAct_98 ?_
    refine ww_bds (fun s16 => ?_)
    refine ww_goto (tgt := 133) hX dX1_runAct_99 (by decide) ?_
    exact ww_sub [] rfl (t_X1_runAct_133 B fu   s16)
  refine ww_if (fun c22_3 => ?_) (fun c22_3 => ?_)
  · refine ww_tsw (off := 80) (tgt := 102) hX dX1_runAct_22 (by rw [c22_3]; decide) (by rw [c22_3]; decide) (by rw [c22_3]; rfl) (by decide) ?_
    refine ww_aload_n hX 2 rfl dX1_runAct_102 rfl ?_
    refine ww_getR hX f_X1_11 (Or.inr ⟨_, rfl⟩) dX1_runAct_103 ?_
    refine ww_bdR (fun o17 => ?_)
    refine ww_iload hX 1 rfl dX1_runAct_106 ?_
    refine ww_aald104c hX k_aald104 dX1_runAct_108 ?_
    refine ww_bdR (fun o18 => ?_)
    refine ww_iload hX 0 rfl dX1_runAct_109 ?_
    refine ww_iload_n hX 5 rfl dX1_runAct_111 rfl ?_
    refine ww_callSV (As := [.ref (x_b X + o18), .int v4, .int p3]) (rest := []) hX (Rk.of B.2.2.1 B.2.2.2.1 (by decide) (by decide)) g_X1_140 (c_X1_callCue (x_G X) (x_l X) fu o18 v4 p3 st) rfl rfl (Nat.le_of_ble_eq_true rfl) dX1_runAct_112 (fun s19 => ?_)
    refine ww_pc (b := 115) rfl ?_
    refine ww_goto (tgt := 133) hX dX1_runAct_115 (by decide) ?_
    exact ww_sub [] rfl (t_X1_runAct_133 B fu   s19)
  refine ww_if (fun c22_4 => ?_) (fun c22_4 => ?_)
  · refine ww_tsw (off := 96) (tgt := 118) hX dX1_runAct_22 (by rw [c22_4]; decide) (by rw [c22_4]; decide) (by rw [c22_4]; rfl) (by decide) ?_
    refine ww_aload_n hX 2 rfl dX1_runAct_118 rfl ?_
    refine ww_getR hX f_X1_11 (Or.inr ⟨_, rfl⟩) dX1_runAct_119 ?_
    refine ww_bdR (fun o20 => ?_)
    refine ww_iload hX 1 rfl dX1_runAct_122 ?_
    refine ww_aald104c hX k_aald104 dX1_runAct_124 ?_
    refine ww_bdR (fun o21 => ?_)
    refine ww_iload hX 0 rfl dX1_runAct_125 ?_
    refine ww_putI hX f_X1_144 rfl dX1_runAct_127 ?_
    refine ww_bds (fun s22 => ?_)
    refine ww_goto (tgt := 133) hX dX1_runAct_130 (by decide) ?_
    exact ww_sub [] rfl (t_X1_runAct_133 B fu   s22)
  refine ww_tswd (tgt := 133) hX dX1_runAct_22 (by have z0 : v6.toInt ≠ 1 := fun q => c22_0 (Int32.toInt_inj.mp (q.trans (by decide))); have z1 : v6.toInt ≠ 2 := fun q => c22_1 (Int32.toInt_inj.mp (q.trans (by decide))); have z2 : v6.toInt ≠ 3 := fun q => c22_2 (Int32.toInt_inj.mp (q.trans (by decide))); have z3 : v6.toInt ≠ 4 := fun q => c22_3 (Int32.toInt_inj.mp (q.trans (by decide))); have z4 : v6.toInt ≠ 5 := fun q => c22_4 (Int32.toInt_inj.mp (q.trans (by decide))); omega) (by decide) ?_
  exact ww_sub [] rfl (t_X1_runAct_133 B fu   st)
theorem c_X1_runAct (G : GX) (l : Launch) (fu : Nat) (th : Nat) (p1 : Nat) (p2 : Int32) (p3 : Int32) (st : St) : MV G NN l yX1_runAct cX1_runAct 6 none 4 [.ref (G.2.2.1 + th), .ref (G.2.2.1 + p1), .int p2, .int p3] st (f_X1_runAct fu th p1 p2 p3 st) := mkV (by decide) (Nat.le_of_ble_eq_true rfl) (fun X res hl hG B => by subst hl; subst hG; exact t_X1_runAct B fu th p1 p2 p3 st)
/-! java/lang/Math.floorDiv(II)I -/
def b_J9_floorDiv_7cf53_21 (fu : Nat) (x2 : Int32)  (st : St) : Option (Int32 × St) :=
  some (x2, st)
set_option maxHeartbeats 4000000 in
set_option maxRecDepth 100000 in
theorem t_J9_floorDiv_7cf53_21 {X : CX} {res : Int32 × St} (B : BI X cJ9_floorDiv_7cf53 RJ9 3 1 NN (some .int) res) (fu : Nat) (x2 : Int32)  (st : St) : WW X res NN 21 [(2, .int x2)] [] st (b_J9_floorDiv_7cf53_21 fu x2 st) := by
  have hX := B.1
  have hL := B.2.1
  unfold b_J9_floorDiv_7cf53_21
  refine ww_iload_n hX 0 rfl dJ9_floorDiv_7cf53_21 rfl ?_
  exact ww_iret B dJ9_floorDiv_7cf53_22
def f_J9_floorDiv_7cf53 (fu : Nat) (p0 : Int32) (p1 : Int32) (st : St) : Option (Int32 × St) :=
  ck (¬ p1 = 0) <|
  bd (p0 / p1) fun v1 =>
  if 0 ≤ (p0 ^^^ p1) then (
  b_J9_floorDiv_7cf53_21 fu v1  st)
  else (
  if (v1 * p1) = p0 then (
  b_J9_floorDiv_7cf53_21 fu v1  st)
  else (
  some (v1 - 1, st)))
set_option maxHeartbeats 4000000 in
set_option maxRecDepth 100000 in
theorem t_J9_floorDiv_7cf53 {X : CX} {res : Int32 × St} (B : BI X cJ9_floorDiv_7cf53 RJ9 3 1 NN (some .int) res) (fu : Nat) (p0 : Int32) (p1 : Int32) (st : St) : WW X res NN 0 [(0, .int p0), (1, .int p1)] [] st (f_J9_floorDiv_7cf53 fu p0 p1 st) := by
  have hX := B.1
  have hL := B.2.1
  unfold f_J9_floorDiv_7cf53
  refine ww_iload_n hX 0 rfl dJ9_floorDiv_7cf53_0 rfl ?_
  refine ww_iload_n hX 1 rfl dJ9_floorDiv_7cf53_1 rfl ?_
  refine ww_idiv hX dJ9_floorDiv_7cf53_2 ?_
  refine ww_bdi (fun v1 => ?_)
  refine ww_istore_n (lv' := [(2, .int v1), (0, .int p0), (1, .int p1)]) hX hL dJ9_floorDiv_7cf53_3 rfl (by decide) rfl ?_
  refine ww_iload_n hX 1 rfl dJ9_floorDiv_7cf53_4 rfl ?_
  refine ww_iload_n hX 2 rfl dJ9_floorDiv_7cf53_5 rfl ?_
  refine ww_ixor hX dJ9_floorDiv_7cf53_6 ?_
  refine ww_pc (b := 7) rfl ?_
  refine ww_if_ge (tgt := 21) hX dJ9_floorDiv_7cf53_7 (by decide) ?_ ?_
  · exact ww_sub [0] rfl (t_J9_floorDiv_7cf53_21 B fu v1  st)
  · refine ww_iload_n hX 0 rfl dJ9_floorDiv_7cf53_10 rfl ?_
    refine ww_iload_n hX 2 rfl dJ9_floorDiv_7cf53_11 rfl ?_
    refine ww_imul hX dJ9_floorDiv_7cf53_12 ?_
    refine ww_iload_n hX 1 rfl dJ9_floorDiv_7cf53_13 rfl ?_
    refine ww_icmp_eq (tgt := 21) hX dJ9_floorDiv_7cf53_14 (by decide) ?_ ?_
    · exact ww_sub [0] rfl (t_J9_floorDiv_7cf53_21 B fu v1  st)
    · refine ww_iload_n hX 0 rfl dJ9_floorDiv_7cf53_17 rfl ?_
      refine ww_iconst (v := 1) hX rfl dJ9_floorDiv_7cf53_18 ?_
      refine ww_isub hX dJ9_floorDiv_7cf53_19 ?_
      exact ww_iret B dJ9_floorDiv_7cf53_20
theorem c_J9_floorDiv_7cf53 (G : GX) (l : Launch) (fu : Nat) (p0 : Int32) (p1 : Int32) (st : St) : MI G NN l yJ9_floorDiv_7cf53 cJ9_floorDiv_7cf53 3 (some .int) 1 [.int p0, .int p1] st (f_J9_floorDiv_7cf53 fu p0 p1 st) := mkIF (by decide +kernel) (Nat.le_of_ble_eq_true rfl) (fun X res hl hG B => by subst hl; subst hG; exact t_J9_floorDiv_7cf53 B fu p0 p1 st)
/-! StageHouse$CueList.levelAt(II)I -/
def b_X3_levelAt_27 (fu : Nat) (x0 : Nat) (x1 : Int32)  (st : St) : Option (Int32 × St) :=
  ck (¬ gR st x0 1 = 0) <|
  ck ((kd x0).1 = 3) <|
  bd (gR st x0 1) fun o5 =>
  ck ((kd o5).1 = 100 ∧ inb x1 (kd o5).2) <|
  some (gI st o5 (ix x1), st)
set_option maxHeartbeats 4000000 in
set_option maxRecDepth 100000 in
theorem t_X3_levelAt_27 {X : CX} {res : Int32 × St} (B : BI X cX3_levelAt RX3 6 2 NN (some .int) res) (fu : Nat) (x0 : Nat) (x1 : Int32)  (st : St) : WW X res NN 27 [(0, .ref (x_b X + x0)), (1, .int x1)] [] st (b_X3_levelAt_27 fu x0 x1 st) := by
  have hX := B.1
  have hL := B.2.1
  unfold b_X3_levelAt_27
  refine ww_aload_n hX 0 rfl dX3_levelAt_27 rfl ?_
  refine ww_getR hX f_X3_18 (Or.inr ⟨_, rfl⟩) dX3_levelAt_28 ?_
  refine ww_bdR (fun o5 => ?_)
  refine ww_iload_n hX 1 rfl dX3_levelAt_31 rfl ?_
  refine ww_ialdc hX k_iald dX3_levelAt_32 ?_
  exact ww_iret B dX3_levelAt_33
def f_X3_levelAt (fu : Nat) (th : Nat) (p1 : Int32) (p2 : Int32) (st : St) : Option (Int32 × St) :=
  ck (¬ gR st th 4 = 0) <|
  ck ((kd th).1 = 3) <|
  bd (gR st th 4) fun o1 =>
  ck ((kd o1).1 = 100 ∧ inb p1 (kd o1).2) <|
  bd (gI st o1 (ix p1)) fun v2 =>
  ck (¬ gR st th 3 = 0) <|
  ck ((kd th).1 = 3) <|
  bd (gR st th 3) fun o3 =>
  ck ((kd o3).1 = 100 ∧ inb p1 (kd o3).2) <|
  bd (p2 - (gI st o3 (ix p1))) fun v4 =>
  if v2 ≤ 0 then (
  b_X3_levelAt_27 fu th p1  st)
  else (
  if v4 < v2 then (
  ck (¬ gR st th 1 = 0) <|
  ck ((kd th).1 = 3) <|
  bd (gR st th 1) fun o6 =>
  ck ((kd o6).1 = 100 ∧ inb p1 (kd o6).2) <|
  ck (¬ gR st th 2 = 0) <|
  ck ((kd th).1 = 3) <|
  bd (gR st th 2) fun o7 =>
  ck ((kd o7).1 = 100 ∧ inb p1 (kd o7).2) <|
  bd ((gI st o6 (ix p1)) - (gI st o7 (ix p1))) fun v8 =>
  ck (¬ gR st th 2 = 0) <|
  ck ((kd th).1 = 3) <|
  bd (gR st th 2) fun o9 =>
  ck ((kd o9).1 = 100 ∧ inb p1 (kd o9).2) <|
  ca (f_J9_floorDiv_7cf53 fu (((2 * v8) * v4) + v2) (2 * v2) st) fun r10 s11 =>
  some ((gI st o9 (ix p1)) + r10, s11))
  else (
  b_X3_levelAt_27 fu th p1  st))
set_option maxHeartbeats 4000000 in
set_option maxRecDepth 100000 in
theorem t_X3_levelAt {X : CX} {res : Int32 × St} (B : BI X cX3_levelAt RX3 6 2 NN (some .int) res) (fu : Nat) (th : Nat) (p1 : Int32) (p2 : Int32) (st : St) : WW X res NN 0 [(0, .ref (x_b X + th)), (1, .int p1), (2, .int p2)] [] st (f_X3_levelAt fu th p1 p2 st) := by
  have hX := B.1
  have hL := B.2.1
  unfold f_X3_levelAt
  refine ww_aload_n hX 0 rfl dX3_levelAt_0 rfl ?_
  refine ww_getR hX f_X3_28 (Or.inr ⟨_, rfl⟩) dX3_levelAt_1 ?_
  refine ww_bdR (fun o1 => ?_)
  refine ww_iload_n hX 1 rfl dX3_levelAt_4 rfl ?_
  refine ww_ialdc hX k_iald dX3_levelAt_5 ?_
  refine ww_bdi (fun v2 => ?_)
  refine ww_istore_n (lv' := [(3, .int v2), (0, .ref (x_b X + th)), (1, .int p1), (2, .int p2)]) hX hL dX3_levelAt_6 rfl (by decide) rfl ?_
  refine ww_iload_n hX 3 rfl dX3_levelAt_7 rfl ?_
  refine ww_aload_n hX 1 rfl dX3_levelAt_8 rfl ?_
  refine ww_pc (b := 9) rfl ?_
  refine ww_getR hX f_X3_25 (Or.inr ⟨_, rfl⟩) dX3_levelAt_9 ?_
  refine ww_bdR (fun o3 => ?_)
  refine ww_iload_n hX 2 rfl dX3_levelAt_12 rfl ?_
  refine ww_ialdc hX k_iald dX3_levelAt_13 ?_
  refine ww_isub hX dX3_levelAt_14 ?_
  refine ww_bdi (fun v4 => ?_)
  refine ww_istore (lv' := [(4, .int v4), (3, .int v2), (0, .ref (x_b X + th)), (1, .int p1), (2, .int p2)]) hX hL dX3_levelAt_15 (by decide) rfl ?_
  refine ww_iload_n hX 1 rfl dX3_levelAt_17 rfl ?_
  refine ww_if_le (tgt := 27) hX dX3_levelAt_18 (by decide) ?_ ?_
  · exact ww_sub [2, 3] rfl (t_X3_levelAt_27 B fu th p1  st)
  · refine ww_iload hX 0 rfl dX3_levelAt_21 ?_
    refine ww_iload_n hX 1 rfl dX3_levelAt_23 rfl ?_
    refine ww_icmp_lt (tgt := 34) hX dX3_levelAt_24 (by decide) ?_ ?_
    · refine ww_aload_n hX 2 rfl dX3_levelAt_34 rfl ?_
      refine ww_getR hX f_X3_18 (Or.inr ⟨_, rfl⟩) dX3_levelAt_35 ?_
      refine ww_bdR (fun o6 => ?_)
      refine ww_iload_n hX 3 rfl dX3_levelAt_38 rfl ?_
      refine ww_ialdc hX k_iald dX3_levelAt_39 ?_
      refine ww_aload_n hX 2 rfl dX3_levelAt_40 rfl ?_
      refine ww_getR hX f_X3_22 (Or.inr ⟨_, rfl⟩) dX3_levelAt_41 ?_
      refine ww_bdR (fun o7 => ?_)
      refine ww_iload_n hX 3 rfl dX3_levelAt_44 rfl ?_
      refine ww_pc (b := 45) rfl ?_
      refine ww_ialdc hX k_iald dX3_levelAt_45 ?_
      refine ww_isub hX dX3_levelAt_46 ?_
      refine ww_bdi (fun v8 => ?_)
      refine ww_istore (lv' := [(5, .int v8), (4, .int v4), (3, .int v2), (0, .ref (x_b X + th)), (1, .int p1), (2, .int p2)]) hX hL dX3_levelAt_47 (by decide) rfl ?_
      refine ww_aload_n hX 3 rfl dX3_levelAt_49 rfl ?_
      refine ww_getR hX f_X3_22 (Or.inr ⟨_, rfl⟩) dX3_levelAt_50 ?_
      refine ww_bdR (fun o9 => ?_)
      refine ww_iload_n hX 4 rfl dX3_levelAt_53 rfl ?_
      refine ww_ialdc hX k_iald dX3_levelAt_54 ?_
      refine ww_iconst (v := 2) hX rfl dX3_levelAt_55 ?_
      refine ww_pc (b := 56) rfl ?_
      refine ww_iload hX 0 rfl dX3_levelAt_56 ?_
      refine ww_imul hX dX3_levelAt_58 ?_
      refine ww_iload hX 1 rfl dX3_levelAt_59 ?_
      refine ww_imul hX dX3_levelAt_61 ?_
      refine ww_iload_n hX 2 rfl dX3_levelAt_62 rfl ?_
      refine ww_iadd hX dX3_levelAt_63 ?_
      refine ww_iconst (v := 2) hX rfl dX3_levelAt_64 ?_
      refine ww_iload_n hX 2 rfl dX3_levelAt_65 rfl ?_
      refine ww_pc (b := 66) rfl ?_
      refine ww_imul hX dX3_levelAt_66 ?_
      refine ww_callSI (As := [.int (((2 * v8) * v4) + v2), .int (2 * v2)]) (rest := [.int (gI st o9 (ix p1))]) hX (Rk.of B.2.2.1 B.2.2.2.1 (by decide) (by decide)) g_X3_77 (c_J9_floorDiv_7cf53 (x_G X) (x_l X) fu (((2 * v8) * v4) + v2) (2 * v2) st) rfl rfl (Nat.le_of_ble_eq_true rfl) dX3_levelAt_67 (fun r10 s11 => ?_)
      refine ww_iadd hX dX3_levelAt_70 ?_
      exact ww_iret B dX3_levelAt_71
    · exact ww_sub [2, 3] rfl (t_X3_levelAt_27 B fu th p1  st)
theorem c_X3_levelAt (G : GX) (l : Launch) (fu : Nat) (th : Nat) (p1 : Int32) (p2 : Int32) (st : St) : MI G NN l yX3_levelAt cX3_levelAt 6 (some .int) 2 [.ref (G.2.2.1 + th), .int p1, .int p2] st (f_X3_levelAt fu th p1 p2 st) := mkI (by decide) (Nat.le_of_ble_eq_true rfl) (fun X res hl hG B => by subst hl; subst hG; exact t_X3_levelAt B fu th p1 p2 st)
/-! StageHouse$CueList.fade(III)V -/
def b_X3_fade_80 (fu : Nat)  (y0 : Nat) (y1 : Int32) (y2 : Int32) (st : St) : Option (St) :=
  ck ((kd y0).1 = 100 ∧ inb y1 (kd y0).2) <|
  bd (sI st y0 (ix y1) y2) fun s12 =>
  some s12
set_option maxHeartbeats 4000000 in
set_option maxRecDepth 100000 in
theorem t_X3_fade_80 {X : CX} {res : St} (B : BV X cX3_fade RX3 6 3 NN none res) (fu : Nat)  (y0 : Nat) (y1 : Int32) (y2 : Int32) (st : St) : WW X res NN 80 [] [.int y2, .int y1, .ref (x_b X + y0)] st (b_X3_fade_80 fu y0 y1 y2 st) := by
  have hX := B.1
  have hL := B.2.1
  unfold b_X3_fade_80
  refine ww_iastc hX k_iast dX3_fade_80 ?_
  refine ww_bds (fun s12 => ?_)
  exact ww_vret B dX3_fade_81
def b_X3_fade_19 (fu : Nat) (x0 : Nat) (x1 : Int32) (x2 : Int32) (x3 : Int32) (x4 : Int32) (y0 : Int32) (st : St) : Option (St) :=
  ck (¬ gR st x0 2 = 0) <|
  ck ((kd x0).1 = 3) <|
  bd (gR st x0 2) fun o3 =>
  ck ((kd o3).1 = 100 ∧ inb x1 (kd o3).2) <|
  bd (sI st o3 (ix x1) x4) fun s4 =>
  ck (¬ gR s4 x0 1 = 0) <|
  ck ((kd x0).1 = 3) <|
  bd (gR s4 x0 1) fun o5 =>
  ck ((kd o5).1 = 100 ∧ inb x1 (kd o5).2) <|
  bd (sI s4 o5 (ix x1) x2) fun s6 =>
  ck (¬ gR s6 x0 3 = 0) <|
  ck ((kd x0).1 = 3) <|
  bd (gR s6 x0 3) fun o7 =>
  ck ((kd o7).1 = 100 ∧ inb x1 (kd o7).2) <|
  bd (sI s6 o7 (ix x1) x3) fun s8 =>
  ck (¬ gR s8 x0 4 = 0) <|
  ck ((kd x0).1 = 3) <|
  bd (gR s8 x0 4) fun o9 =>
  if y0 = 0 then (
  ck (¬ gR s8 x0 0 = 0) <|
  ck ((kd x0).1 = 3) <|
  bd (gR s8 x0 0) fun o10 =>
  ck (¬ gR s8 o10 2 = 0) <|
  ck ((kd o10).1 = 8) <|
  bd (gR s8 o10 2) fun o11 =>
  ck ((kd x0).1 = 3) <|
  ck ((kd o11).1 = 100 ∧ inb (gI s8 x0 5) (kd o11).2) <|
  b_X3_fade_80 fu  o9 x1 (gI s8 o11 (ix (gI s8 x0 5))) s8)
  else (
  ck (¬ gR s8 x0 0 = 0) <|
  ck ((kd x0).1 = 3) <|
  bd (gR s8 x0 0) fun o13 =>
  ck (¬ gR s8 o13 1 = 0) <|
  ck ((kd o13).1 = 8) <|
  bd (gR s8 o13 1) fun o14 =>
  ck ((kd x0).1 = 3) <|
  ck ((kd o14).1 = 100 ∧ inb (gI s8 x0 5) (kd o14).2) <|
  b_X3_fade_80 fu  o9 x1 (gI s8 o14 (ix (gI s8 x0 5))) s8)
set_option maxHeartbeats 4000000 in
set_option maxRecDepth 100000 in
theorem t_X3_fade_19 {X : CX} {res : St} (B : BV X cX3_fade RX3 6 3 NN none res) (fu : Nat) (x0 : Nat) (x1 : Int32) (x2 : Int32) (x3 : Int32) (x4 : Int32) (y0 : Int32) (st : St) : WW X res NN 19 [(0, .ref (x_b X + x0)), (1, .int x1), (2, .int x2), (3, .int x3), (4, .int x4)] [.int y0] st (b_X3_fade_19 fu x0 x1 x2 x3 x4 y0 st) := by
  have hX := B.1
  have hL := B.2.1
  unfold b_X3_fade_19
  refine ww_istore (lv' := [(5, .int y0), (0, .ref (x_b X + x0)), (1, .int x1), (2, .int x2), (3, .int x3), (4, .int x4)]) hX hL dX3_fade_19 (by decide) rfl ?_
  refine ww_aload_n hX 1 rfl dX3_fade_21 rfl ?_
  refine ww_getR hX f_X3_22 (Or.inr ⟨_, rfl⟩) dX3_fade_22 ?_
  refine ww_bdR (fun o3 => ?_)
  refine ww_iload_n hX 2 rfl dX3_fade_25 rfl ?_
  refine ww_iload hX 5 rfl dX3_fade_26 ?_
  refine ww_iastc hX k_iast dX3_fade_28 ?_
  refine ww_bds (fun s4 => ?_)
  refine ww_aload_n hX 1 rfl dX3_fade_29 rfl ?_
  refine ww_pc (b := 30) rfl ?_
  refine ww_getR hX f_X3_18 (Or.inr ⟨_, rfl⟩) dX3_fade_30 ?_
  refine ww_bdR (fun o5 => ?_)
  refine ww_iload_n hX 2 rfl dX3_fade_33 rfl ?_
  refine ww_iload_n hX 3 rfl dX3_fade_34 rfl ?_
  refine ww_iastc hX k_iast dX3_fade_35 ?_
  refine ww_bds (fun s6 => ?_)
  refine ww_aload_n hX 1 rfl dX3_fade_36 rfl ?_
  refine ww_getR hX f_X3_25 (Or.inr ⟨_, rfl⟩) dX3_fade_37 ?_
  refine ww_bdR (fun o7 => ?_)
  refine ww_iload_n hX 2 rfl dX3_fade_40 rfl ?_
  refine ww_iload_n hX 4 rfl dX3_fade_41 rfl ?_
  refine ww_pc (b := 42) rfl ?_
  refine ww_iastc hX k_iast dX3_fade_42 ?_
  refine ww_bds (fun s8 => ?_)
  refine ww_aload_n hX 1 rfl dX3_fade_43 rfl ?_
  refine ww_getR hX f_X3_28 (Or.inr ⟨_, rfl⟩) dX3_fade_44 ?_
  refine ww_bdR (fun o9 => ?_)
  refine ww_iload_n hX 2 rfl dX3_fade_47 rfl ?_
  refine ww_iload hX 0 rfl dX3_fade_48 ?_
  refine ww_if_eq (tgt := 68) hX dX3_fade_50 (by decide) ?_ ?_
  · refine ww_aload_n hX 1 rfl dX3_fade_68 rfl ?_
    refine ww_getR hX f_X3_12 (Or.inl ⟨_, rfl⟩) dX3_fade_69 ?_
    refine ww_bdR (fun o10 => ?_)
    refine ww_getR hX f_X3_74 (Or.inr ⟨_, rfl⟩) dX3_fade_72 ?_
    refine ww_bdR (fun o11 => ?_)
    refine ww_aload_n hX 1 rfl dX3_fade_75 rfl ?_
    refine ww_getI hX f_X3_31 (Or.inl rfl) dX3_fade_76 ?_
    refine ww_ialdc hX k_iald dX3_fade_79 ?_
    exact ww_sub [] rfl (t_X3_fade_80 B fu  o9 x1 (gI s8 o11 (ix (gI s8 x0 5))) s8)
  · refine ww_aload_n hX 1 rfl dX3_fade_53 rfl ?_
    refine ww_getR hX f_X3_12 (Or.inl ⟨_, rfl⟩) dX3_fade_54 ?_
    refine ww_bdR (fun o13 => ?_)
    refine ww_getR hX f_X3_71 (Or.inr ⟨_, rfl⟩) dX3_fade_57 ?_
    refine ww_bdR (fun o14 => ?_)
    refine ww_aload_n hX 1 rfl dX3_fade_60 rfl ?_
    refine ww_getI hX f_X3_31 (Or.inl rfl) dX3_fade_61 ?_
    refine ww_ialdc hX k_iald dX3_fade_64 ?_
    refine ww_goto (tgt := 80) hX dX3_fade_65 (by decide) ?_
    exact ww_sub [] rfl (t_X3_fade_80 B fu  o9 x1 (gI s8 o14 (ix (gI s8 x0 5))) s8)
def f_X3_fade (fu : Nat) (th : Nat) (p1 : Int32) (p2 : Int32) (p3 : Int32) (st : St) : Option (St) :=
  ck ((kd th).1 = 3) <|
  ca (f_X3_levelAt fu th p1 p3 st) fun r1 s2 =>
  if p2 ≤ r1 then (
  b_X3_fade_19 fu th p1 p2 p3 r1 0 s2)
  else (
  b_X3_fade_19 fu th p1 p2 p3 r1 1 s2)
set_option maxHeartbeats 4000000 in
set_option maxRecDepth 100000 in
theorem t_X3_fade {X : CX} {res : St} (B : BV X cX3_fade RX3 6 3 NN none res) (fu : Nat) (th : Nat) (p1 : Int32) (p2 : Int32) (p3 : Int32) (st : St) : WW X res NN 0 [(0, .ref (x_b X + th)), (1, .int p1), (2, .int p2), (3, .int p3)] [] st (f_X3_fade fu th p1 p2 p3 st) := by
  have hX := B.1
  have hL := B.2.1
  unfold f_X3_fade
  refine ww_aload_n hX 0 rfl dX3_fade_0 rfl ?_
  refine ww_iload_n hX 1 rfl dX3_fade_1 rfl ?_
  refine ww_iload_n hX 3 rfl dX3_fade_2 rfl ?_
  refine ww_callVI (As := [.int p1, .int p3]) (rest := []) (o := th) hX (Rk.of B.2.2.1 B.2.2.2.1 (by decide) (by decide)) g_X3_67 g_X3_67.in (fun _ => c_X3_levelAt (x_G X) (x_l X) fu th p1 p3 st) rfl rfl (Nat.le_of_ble_eq_true rfl) dX3_fade_3 (fun r1 s2 => ?_)
  refine ww_istore (lv' := [(4, .int r1), (0, .ref (x_b X + th)), (1, .int p1), (2, .int p2), (3, .int p3)]) hX hL dX3_fade_6 (by decide) rfl ?_
  refine ww_iload_n hX 3 rfl dX3_fade_8 rfl ?_
  refine ww_iload hX 0 rfl dX3_fade_9 ?_
  refine ww_pc (b := 11) rfl ?_
  refine ww_icmp_le (tgt := 18) hX dX3_fade_11 (by decide) ?_ ?_
  · refine ww_iconst (v := 0) hX rfl dX3_fade_18 ?_
    exact ww_sub [1, 2, 3, 4, 0] rfl (t_X3_fade_19 B fu th p1 p2 p3 r1 0 s2)
  · refine ww_iconst (v := 1) hX rfl dX3_fade_14 ?_
    refine ww_goto (tgt := 19) hX dX3_fade_15 (by decide) ?_
    exact ww_sub [1, 2, 3, 4, 0] rfl (t_X3_fade_19 B fu th p1 p2 p3 r1 1 s2)
theorem c_X3_fade (G : GX) (l : Launch) (fu : Nat) (th : Nat) (p1 : Int32) (p2 : Int32) (p3 : Int32) (st : St) : MV G NN l yX3_fade cX3_fade 6 none 3 [.ref (G.2.2.1 + th), .int p1, .int p2, .int p3] st (f_X3_fade fu th p1 p2 p3 st) := mkV (by decide) (Nat.le_of_ble_eq_true rfl) (fun X res hl hG B => by subst hl; subst hG; exact t_X3_fade B fu th p1 p2 p3 st)
/-! java/lang/Long.bitCount(J)I -/
def f_J13_bitCount_95d88 (fu : Nat) (p0 : Int64) (st : St) : Option (Int32 × St) :=
  bd (p0 - (((p0.toUInt64 >>> ((1 : Int32).toInt64.toUInt64 &&& Int64.toUInt64 63)).toInt64) &&& 6148914691236517205)) fun v1 =>
  bd ((v1 &&& 3689348814741910323) + (((v1.toUInt64 >>> ((2 : Int32).toInt64.toUInt64 &&& Int64.toUInt64 63)).toInt64) &&& 3689348814741910323)) fun v2 =>
  bd ((v2 + ((v2.toUInt64 >>> ((4 : Int32).toInt64.toUInt64 &&& Int64.toUInt64 63)).toInt64)) &&& 1085102592571150095) fun v3 =>
  bd (v3 + ((v3.toUInt64 >>> ((8 : Int32).toInt64.toUInt64 &&& Int64.toUInt64 63)).toInt64)) fun v4 =>
  bd (v4 + ((v4.toUInt64 >>> ((16 : Int32).toInt64.toUInt64 &&& Int64.toUInt64 63)).toInt64)) fun v5 =>
  bd (v5 + ((v5.toUInt64 >>> ((32 : Int32).toInt64.toUInt64 &&& Int64.toUInt64 63)).toInt64)) fun v6 =>
  some (v6.toInt32 &&& 127, st)
set_option maxHeartbeats 4000000 in
set_option maxRecDepth 100000 in
theorem t_J13_bitCount_95d88 {X : CX} {res : Int32 × St} (B : BI X cJ13_bitCount_95d88 RJ13 2 1 NN (some .int) res) (fu : Nat) (p0 : Int64) (st : St) : WW X res NN 0 [(0, .long p0)] [] st (f_J13_bitCount_95d88 fu p0 st) := by
  have hX := B.1
  have hL := B.2.1
  unfold f_J13_bitCount_95d88
  refine ww_lload_n hX 0 rfl dJ13_bitCount_95d88_0 rfl ?_
  refine ww_lload_n hX 0 rfl dJ13_bitCount_95d88_1 rfl ?_
  refine ww_iconst (v := 1) hX rfl dJ13_bitCount_95d88_2 ?_
  refine ww_lushr hX dJ13_bitCount_95d88_3 ?_
  refine ww_ldc2 (v := 6148914691236517205) hX k_J13_314 dJ13_bitCount_95d88_4 ?_
  refine ww_land hX dJ13_bitCount_95d88_7 ?_
  refine ww_lsub hX dJ13_bitCount_95d88_8 ?_
  refine ww_pc (b := 9) rfl ?_
  refine ww_bdl (fun v1 => ?_)
  refine ww_lstore_n (lv' := [(0, .long v1)]) hX hL dJ13_bitCount_95d88_9 rfl (by decide) rfl ?_
  refine ww_lload_n hX 0 rfl dJ13_bitCount_95d88_10 rfl ?_
  refine ww_ldc2 (v := 3689348814741910323) hX k_J13_316 dJ13_bitCount_95d88_11 ?_
  refine ww_land hX dJ13_bitCount_95d88_14 ?_
  refine ww_lload_n hX 0 rfl dJ13_bitCount_95d88_15 rfl ?_
  refine ww_iconst (v := 2) hX rfl dJ13_bitCount_95d88_16 ?_
  refine ww_lushr hX dJ13_bitCount_95d88_17 ?_
  refine ww_ldc2 (v := 3689348814741910323) hX k_J13_316 dJ13_bitCount_95d88_18 ?_
  refine ww_pc (b := 21) rfl ?_
  refine ww_land hX dJ13_bitCount_95d88_21 ?_
  refine ww_ladd hX dJ13_bitCount_95d88_22 ?_
  refine ww_bdl (fun v2 => ?_)
  refine ww_lstore_n (lv' := [(0, .long v2)]) hX hL dJ13_bitCount_95d88_23 rfl (by decide) rfl ?_
  refine ww_lload_n hX 0 rfl dJ13_bitCount_95d88_24 rfl ?_
  refine ww_lload_n hX 0 rfl dJ13_bitCount_95d88_25 rfl ?_
  refine ww_iconst (v := 4) hX rfl dJ13_bitCount_95d88_26 ?_
  refine ww_lushr hX dJ13_bitCount_95d88_27 ?_
  refine ww_ladd hX dJ13_bitCount_95d88_28 ?_
  refine ww_pc (b := 29) rfl ?_
  refine ww_ldc2 (v := 1085102592571150095) hX k_J13_318 dJ13_bitCount_95d88_29 ?_
  refine ww_land hX dJ13_bitCount_95d88_32 ?_
  refine ww_bdl (fun v3 => ?_)
  refine ww_lstore_n (lv' := [(0, .long v3)]) hX hL dJ13_bitCount_95d88_33 rfl (by decide) rfl ?_
  refine ww_lload_n hX 0 rfl dJ13_bitCount_95d88_34 rfl ?_
  refine ww_lload_n hX 0 rfl dJ13_bitCount_95d88_35 rfl ?_
  refine ww_bipush (v := 8) hX rfl dJ13_bitCount_95d88_36 ?_
  refine ww_lushr hX dJ13_bitCount_95d88_38 ?_
  refine ww_ladd hX dJ13_bitCount_95d88_39 ?_
  refine ww_pc (b := 40) rfl ?_
  refine ww_bdl (fun v4 => ?_)
  refine ww_lstore_n (lv' := [(0, .long v4)]) hX hL dJ13_bitCount_95d88_40 rfl (by decide) rfl ?_
  refine ww_lload_n hX 0 rfl dJ13_bitCount_95d88_41 rfl ?_
  refine ww_lload_n hX 0 rfl dJ13_bitCount_95d88_42 rfl ?_
  refine ww_bipush (v := 16) hX rfl dJ13_bitCount_95d88_43 ?_
  refine ww_lushr hX dJ13_bitCount_95d88_45 ?_
  refine ww_ladd hX dJ13_bitCount_95d88_46 ?_
  refine ww_bdl (fun v5 => ?_)
  refine ww_lstore_n (lv' := [(0, .long v5)]) hX hL dJ13_bitCount_95d88_47 rfl (by decide) rfl ?_
  refine ww_lload_n hX 0 rfl dJ13_bitCount_95d88_48 rfl ?_
  refine ww_pc (b := 49) rfl ?_
  refine ww_lload_n hX 0 rfl dJ13_bitCount_95d88_49 rfl ?_
  refine ww_bipush (v := 32) hX rfl dJ13_bitCount_95d88_50 ?_
  refine ww_lushr hX dJ13_bitCount_95d88_52 ?_
  refine ww_ladd hX dJ13_bitCount_95d88_53 ?_
  refine ww_bdl (fun v6 => ?_)
  refine ww_lstore_n (lv' := [(0, .long v6)]) hX hL dJ13_bitCount_95d88_54 rfl (by decide) rfl ?_
  refine ww_lload_n hX 0 rfl dJ13_bitCount_95d88_55 rfl ?_
  refine ww_l2i hX dJ13_bitCount_95d88_56 ?_
  refine ww_bipush (v := 127) hX rfl dJ13_bitCount_95d88_57 ?_
  refine ww_pc (b := 59) rfl ?_
  refine ww_iand hX dJ13_bitCount_95d88_59 ?_
  exact ww_iret B dJ13_bitCount_95d88_60
theorem c_J13_bitCount_95d88 (G : GX) (l : Launch) (fu : Nat) (p0 : Int64) (st : St) : MI G NN l yJ13_bitCount_95d88 cJ13_bitCount_95d88 2 (some .int) 1 [.long p0] st (f_J13_bitCount_95d88 fu p0 st) := mkI (by decide) (Nat.le_of_ble_eq_true rfl) (fun X res hl hG B => by subst hl; subst hG; exact t_J13_bitCount_95d88 B fu p0 st)
/-! java/lang/Integer.numberOfTrailingZeros(I)I -/
def b_J6_numberOfTrailingZeros_0f7a4_74 (fu : Nat) (x0 : Int32) (x1 : Int32)  (st : St) : Option (Int32 × St) :=
  some (x1 + ((x0.toUInt32 >>> ((1 : Int32).toUInt32 &&& Int32.toUInt32 31)).toInt32), st)
set_option maxHeartbeats 4000000 in
set_option maxRecDepth 100000 in
theorem t_J6_numberOfTrailingZeros_0f7a4_74 {X : CX} {res : Int32 × St} (B : BI X cJ6_numberOfTrailingZeros_0f7a4 RJ6 2 1 NN (some .int) res) (fu : Nat) (x0 : Int32) (x1 : Int32)  (st : St) : WW X res NN 74 [(0, .int x0), (1, .int x1)] [] st (b_J6_numberOfTrailingZeros_0f7a4_74 fu x0 x1 st) := by
  have hX := B.1
  have hL := B.2.1
  unfold b_J6_numberOfTrailingZeros_0f7a4_74
  refine ww_iload_n hX 1 rfl dJ6_numberOfTrailingZeros_0f7a4_74 rfl ?_
  refine ww_iload_n hX 0 rfl dJ6_numberOfTrailingZeros_0f7a4_75 rfl ?_
  refine ww_iconst (v := 1) hX rfl dJ6_numberOfTrailingZeros_0f7a4_76 ?_
  refine ww_iushr hX dJ6_numberOfTrailingZeros_0f7a4_77 ?_
  refine ww_iadd hX dJ6_numberOfTrailingZeros_0f7a4_78 ?_
  exact ww_iret B dJ6_numberOfTrailingZeros_0f7a4_79
def b_J6_numberOfTrailingZeros_0f7a4_62 (fu : Nat) (x0 : Int32) (x1 : Int32)  (st : St) : Option (Int32 × St) :=
  if x0 ≤ 4 then (
  b_J6_numberOfTrailingZeros_0f7a4_74 fu x0 x1  st)
  else (
  bd (x1 + 2) fun v2 =>
  bd ((x0.toUInt32 >>> ((2 : Int32).toUInt32 &&& Int32.toUInt32 31)).toInt32) fun v3 =>
  b_J6_numberOfTrailingZeros_0f7a4_74 fu v3 v2  st)
set_option maxHeartbeats 4000000 in
set_option maxRecDepth 100000 in
theorem t_J6_numberOfTrailingZeros_0f7a4_62 {X : CX} {res : Int32 × St} (B : BI X cJ6_numberOfTrailingZeros_0f7a4 RJ6 2 1 NN (some .int) res) (fu : Nat) (x0 : Int32) (x1 : Int32)  (st : St) : WW X res NN 62 [(0, .int x0), (1, .int x1)] [] st (b_J6_numberOfTrailingZeros_0f7a4_62 fu x0 x1 st) := by
  have hX := B.1
  have hL := B.2.1
  unfold b_J6_numberOfTrailingZeros_0f7a4_62
  refine ww_iload_n hX 0 rfl dJ6_numberOfTrailingZeros_0f7a4_62 rfl ?_
  refine ww_iconst (v := 4) hX rfl dJ6_numberOfTrailingZeros_0f7a4_63 ?_
  refine ww_icmp_le (tgt := 74) hX dJ6_numberOfTrailingZeros_0f7a4_64 (by decide) ?_ ?_
  · exact t_J6_numberOfTrailingZeros_0f7a4_74 B fu x0 x1  st
  · refine ww_iincb (lv' := fun v2 => [(1, .int v2), (0, .int x0)]) (c := 2) hX hL 1 rfl dJ6_numberOfTrailingZeros_0f7a4_67 rfl (by decide) (fun _ => rfl) (fun v2 => ?_)
    refine ww_iload_n hX 1 rfl dJ6_numberOfTrailingZeros_0f7a4_70 rfl ?_
    refine ww_iconst (v := 2) hX rfl dJ6_numberOfTrailingZeros_0f7a4_71 ?_
    refine ww_iushr hX dJ6_numberOfTrailingZeros_0f7a4_72 ?_
    refine ww_bdi (fun v3 => ?_)
    refine ww_istore_n (lv' := [(0, .int v3), (1, .int v2)]) hX hL dJ6_numberOfTrailingZeros_0f7a4_73 rfl (by decide) rfl ?_
    exact t_J6_numberOfTrailingZeros_0f7a4_74 B fu v3 v2  st
def b_J6_numberOfTrailingZeros_0f7a4_49 (fu : Nat) (x0 : Int32) (x1 : Int32)  (st : St) : Option (Int32 × St) :=
  if x0 ≤ 16 then (
  b_J6_numberOfTrailingZeros_0f7a4_62 fu x0 x1  st)
  else (
  bd (x1 + 4) fun v4 =>
  bd ((x0.toUInt32 >>> ((4 : Int32).toUInt32 &&& Int32.toUInt32 31)).toInt32) fun v5 =>
  b_J6_numberOfTrailingZeros_0f7a4_62 fu v5 v4  st)
set_option maxHeartbeats 4000000 in
set_option maxRecDepth 100000 in
theorem t_J6_numberOfTrailingZeros_0f7a4_49 {X : CX} {res : Int32 × St} (B : BI X cJ6_numberOfTrailingZeros_0f7a4 RJ6 2 1 NN (some .int) res) (fu : Nat) (x0 : Int32) (x1 : Int32)  (st : St) : WW X res NN 49 [(0, .int x0), (1, .int x1)] [] st (b_J6_numberOfTrailingZeros_0f7a4_49 fu x0 x1 st) := by
  have hX := B.1
  have hL := B.2.1
  unfold b_J6_numberOfTrailingZeros_0f7a4_49
  refine ww_iload_n hX 0 rfl dJ6_numberOfTrailingZeros_0f7a4_49 rfl ?_
  refine ww_bipush (v := 16) hX rfl dJ6_numberOfTrailingZeros_0f7a4_50 ?_
  refine ww_icmp_le (tgt := 62) hX dJ6_numberOfTrailingZeros_0f7a4_52 (by decide) ?_ ?_
  · exact t_J6_numberOfTrailingZeros_0f7a4_62 B fu x0 x1  st
  · refine ww_iincb (lv' := fun v4 => [(1, .int v4), (0, .int x0)]) (c := 4) hX hL 1 rfl dJ6_numberOfTrailingZeros_0f7a4_55 rfl (by decide) (fun _ => rfl) (fun v4 => ?_)
    refine ww_iload_n hX 1 rfl dJ6_numberOfTrailingZeros_0f7a4_58 rfl ?_
    refine ww_iconst (v := 4) hX rfl dJ6_numberOfTrailingZeros_0f7a4_59 ?_
    refine ww_iushr hX dJ6_numberOfTrailingZeros_0f7a4_60 ?_
    refine ww_bdi (fun v5 => ?_)
    refine ww_istore_n (lv' := [(0, .int v5), (1, .int v4)]) hX hL dJ6_numberOfTrailingZeros_0f7a4_61 rfl (by decide) rfl ?_
    exact t_J6_numberOfTrailingZeros_0f7a4_62 B fu v5 v4  st
def b_J6_numberOfTrailingZeros_0f7a4_34 (fu : Nat) (x0 : Int32) (x1 : Int32)  (st : St) : Option (Int32 × St) :=
  if x0 ≤ 256 then (
  b_J6_numberOfTrailingZeros_0f7a4_49 fu x0 x1  st)
  else (
  bd (x1 + 8) fun v6 =>
  bd ((x0.toUInt32 >>> ((8 : Int32).toUInt32 &&& Int32.toUInt32 31)).toInt32) fun v7 =>
  b_J6_numberOfTrailingZeros_0f7a4_49 fu v7 v6  st)
set_option maxHeartbeats 4000000 in
set_option maxRecDepth 100000 in
theorem t_J6_numberOfTrailingZeros_0f7a4_34 {X : CX} {res : Int32 × St} (B : BI X cJ6_numberOfTrailingZeros_0f7a4 RJ6 2 1 NN (some .int) res) (fu : Nat) (x0 : Int32) (x1 : Int32)  (st : St) : WW X res NN 34 [(0, .int x0), (1, .int x1)] [] st (b_J6_numberOfTrailingZeros_0f7a4_34 fu x0 x1 st) := by
  have hX := B.1
  have hL := B.2.1
  unfold b_J6_numberOfTrailingZeros_0f7a4_34
  refine ww_iload_n hX 0 rfl dJ6_numberOfTrailingZeros_0f7a4_34 rfl ?_
  refine ww_sipush (v := 256) hX rfl dJ6_numberOfTrailingZeros_0f7a4_35 ?_
  refine ww_icmp_le (tgt := 49) hX dJ6_numberOfTrailingZeros_0f7a4_38 (by decide) ?_ ?_
  · exact t_J6_numberOfTrailingZeros_0f7a4_49 B fu x0 x1  st
  · refine ww_iincb (lv' := fun v6 => [(1, .int v6), (0, .int x0)]) (c := 8) hX hL 1 rfl dJ6_numberOfTrailingZeros_0f7a4_41 rfl (by decide) (fun _ => rfl) (fun v6 => ?_)
    refine ww_iload_n hX 1 rfl dJ6_numberOfTrailingZeros_0f7a4_44 rfl ?_
    refine ww_bipush (v := 8) hX rfl dJ6_numberOfTrailingZeros_0f7a4_45 ?_
    refine ww_iushr hX dJ6_numberOfTrailingZeros_0f7a4_47 ?_
    refine ww_bdi (fun v7 => ?_)
    refine ww_istore_n (lv' := [(0, .int v7), (1, .int v6)]) hX hL dJ6_numberOfTrailingZeros_0f7a4_48 rfl (by decide) rfl ?_
    exact t_J6_numberOfTrailingZeros_0f7a4_49 B fu v7 v6  st
def f_J6_numberOfTrailingZeros_0f7a4 (fu : Nat) (p0 : Int32) (st : St) : Option (Int32 × St) :=
  bd ((p0 ^^^ ((-1))) &&& (p0 - 1)) fun v1 =>
  if 0 < v1 then (
  if v1 ≤ 65536 then (
  b_J6_numberOfTrailingZeros_0f7a4_34 fu v1 1  st)
  else (
  bd (1 + 16) fun v8 =>
  bd ((v1.toUInt32 >>> ((16 : Int32).toUInt32 &&& Int32.toUInt32 31)).toInt32) fun v9 =>
  b_J6_numberOfTrailingZeros_0f7a4_34 fu v9 v8  st))
  else (
  some (v1 &&& 32, st))
set_option maxHeartbeats 4000000 in
set_option maxRecDepth 100000 in
theorem t_J6_numberOfTrailingZeros_0f7a4 {X : CX} {res : Int32 × St} (B : BI X cJ6_numberOfTrailingZeros_0f7a4 RJ6 2 1 NN (some .int) res) (fu : Nat) (p0 : Int32) (st : St) : WW X res NN 0 [(0, .int p0)] [] st (f_J6_numberOfTrailingZeros_0f7a4 fu p0 st) := by
  have hX := B.1
  have hL := B.2.1
  unfold f_J6_numberOfTrailingZeros_0f7a4
  refine ww_iload_n hX 0 rfl dJ6_numberOfTrailingZeros_0f7a4_0 rfl ?_
  refine ww_iconst (v := (-1)) hX rfl dJ6_numberOfTrailingZeros_0f7a4_1 ?_
  refine ww_ixor hX dJ6_numberOfTrailingZeros_0f7a4_2 ?_
  refine ww_iload_n hX 0 rfl dJ6_numberOfTrailingZeros_0f7a4_3 rfl ?_
  refine ww_iconst (v := 1) hX rfl dJ6_numberOfTrailingZeros_0f7a4_4 ?_
  refine ww_isub hX dJ6_numberOfTrailingZeros_0f7a4_5 ?_
  refine ww_iand hX dJ6_numberOfTrailingZeros_0f7a4_6 ?_
  refine ww_pc (b := 7) rfl ?_
  refine ww_bdi (fun v1 => ?_)
  refine ww_istore_n (lv' := [(0, .int v1)]) hX hL dJ6_numberOfTrailingZeros_0f7a4_7 rfl (by decide) rfl ?_
  refine ww_iload_n hX 0 rfl dJ6_numberOfTrailingZeros_0f7a4_8 rfl ?_
  refine ww_if_gt (tgt := 17) hX dJ6_numberOfTrailingZeros_0f7a4_9 (by decide) ?_ ?_
  · refine ww_iconst (v := 1) hX rfl dJ6_numberOfTrailingZeros_0f7a4_17 ?_
    refine ww_istore_n (lv' := [(1, .int 1), (0, .int v1)]) hX hL dJ6_numberOfTrailingZeros_0f7a4_18 rfl (by decide) rfl ?_
    refine ww_iload_n hX 1 rfl dJ6_numberOfTrailingZeros_0f7a4_19 rfl ?_
    refine ww_ldcw (v := 65536) hX k_J6_264 dJ6_numberOfTrailingZeros_0f7a4_20 ?_
    refine ww_icmp_le (tgt := 34) hX dJ6_numberOfTrailingZeros_0f7a4_23 (by decide) ?_ ?_
    · exact ww_sub [1, 0] rfl (t_J6_numberOfTrailingZeros_0f7a4_34 B fu v1 1  st)
    · refine ww_iincb (lv' := fun v8 => [(1, .int v8), (0, .int v1)]) (c := 16) hX hL 0 rfl dJ6_numberOfTrailingZeros_0f7a4_26 rfl (by decide) (fun _ => rfl) (fun v8 => ?_)
      refine ww_iload_n hX 1 rfl dJ6_numberOfTrailingZeros_0f7a4_29 rfl ?_
      refine ww_bipush (v := 16) hX rfl dJ6_numberOfTrailingZeros_0f7a4_30 ?_
      refine ww_iushr hX dJ6_numberOfTrailingZeros_0f7a4_32 ?_
      refine ww_bdi (fun v9 => ?_)
      refine ww_istore_n (lv' := [(0, .int v9), (1, .int v8)]) hX hL dJ6_numberOfTrailingZeros_0f7a4_33 rfl (by decide) rfl ?_
      exact t_J6_numberOfTrailingZeros_0f7a4_34 B fu v9 v8  st
  · refine ww_iload_n hX 0 rfl dJ6_numberOfTrailingZeros_0f7a4_12 rfl ?_
    refine ww_bipush (v := 32) hX rfl dJ6_numberOfTrailingZeros_0f7a4_13 ?_
    refine ww_iand hX dJ6_numberOfTrailingZeros_0f7a4_15 ?_
    exact ww_iret B dJ6_numberOfTrailingZeros_0f7a4_16
theorem c_J6_numberOfTrailingZeros_0f7a4 (G : GX) (l : Launch) (fu : Nat) (p0 : Int32) (st : St) : MI G NN l yJ6_numberOfTrailingZeros_0f7a4 cJ6_numberOfTrailingZeros_0f7a4 2 (some .int) 1 [.int p0] st (f_J6_numberOfTrailingZeros_0f7a4 fu p0 st) := mkI (by decide) (Nat.le_of_ble_eq_true rfl) (fun X res hl hG B => by subst hl; subst hG; exact t_J6_numberOfTrailingZeros_0f7a4 B fu p0 st)
