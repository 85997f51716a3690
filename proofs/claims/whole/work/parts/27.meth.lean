/-! StageHouseModel.wrong()V -/
def b_X12_wrong_26 (fu : Nat)   (st : St) : Option (St) :=
  some st
set_option maxHeartbeats 4000000 in
set_option maxRecDepth 100000 in
theorem t_X12_wrong_26 {X : CX} {res : St} (B : BV X cX12_wrong RX12 1 2 NN none res) (fu : Nat)   (st : St) : WW X res NN 26 [] [] st (b_X12_wrong_26 fu  st) := by
  have hX := B.1
  have hL := B.2.1
  unfold b_X12_wrong_26
  exact ww_vret B dX12_wrong_26
def f_X12_wrong (fu : Nat) (th : Nat) (st : St) : Option (St) :=
  ck ((kd th).1 = 12) <|
  if (gI st th 8) = 0 then (
  ck (¬ gR st th 4 = 0) <|
  ck ((kd th).1 = 12) <|
  bd (gR st th 4) fun o1 =>
  ck ((kd th).1 = 12) <|
  ck ((kd o1).1 = 100 ∧ inb (gI st th 5) (kd o1).2) <|
  ck ((kd th).1 = 12) <|
  cv (f_X12_tell fu th 1 (gI st o1 (ix (gI st th 5))) st) fun s2 =>
  ck (isb 1) <|
  ck ((kd th).1 = 12) <|
  bd (sI s2 th 8 1) fun s3 =>
  b_X12_wrong_26 fu   s3)
  else (
  b_X12_wrong_26 fu   st)
set_option maxHeartbeats 4000000 in
set_option maxRecDepth 100000 in
theorem t_X12_wrong {X : CX} {res : St} (B : BV X cX12_wrong RX12 1 2 NN none res) (fu : Nat) (th : Nat) (st : St) : WW X res NN 0 [(0, .ref (x_b X + th))] [] st (f_X12_wrong fu th st) := by
  have hX := B.1
  have hL := B.2.1
  unfold f_X12_wrong
  refine ww_aload_n hX 0 rfl dX12_wrong_0 rfl ?_
  refine ww_getI hX f_X12_390 (Or.inr rfl) dX12_wrong_1 ?_
  refine ww_if_ne (tgt := 26) hX dX12_wrong_4 (by decide) ?_ ?_
  · exact ww_sub [] rfl (t_X12_wrong_26 B fu   st)
  · refine ww_aload_n hX 0 rfl dX12_wrong_7 rfl ?_
    refine ww_iconst (v := 1) hX rfl dX12_wrong_8 ?_
    refine ww_aload_n hX 0 rfl dX12_wrong_9 rfl ?_
    refine ww_getR hX f_X12_21 (Or.inr ⟨_, rfl⟩) dX12_wrong_10 ?_
    refine ww_bdR (fun o1 => ?_)
    refine ww_aload_n hX 0 rfl dX12_wrong_13 rfl ?_
    refine ww_getI hX f_X12_381 (Or.inl rfl) dX12_wrong_14 ?_
    refine ww_ialdc hX k_iald dX12_wrong_17 ?_
    refine ww_pc (b := 18) rfl ?_
    refine ww_callVV (As := [.int 1, .int (gI st o1 (ix (gI st th 5)))]) (rest := []) (o := th) hX (Rk.of B.2.2.1 B.2.2.2.1 (by decide) (by decide)) g_X12_394 g_X12_394.in (fun _ => c_X12_tell (x_G X) (x_l X) fu th 1 (gI st o1 (ix (gI st th 5))) st) rfl rfl (Nat.le_of_ble_eq_true rfl) dX12_wrong_18 (fun s2 => ?_)
    refine ww_aload_n hX 0 rfl dX12_wrong_21 rfl ?_
    refine ww_iconst (v := 1) hX rfl dX12_wrong_22 ?_
    refine ww_putZ hX f_X12_390 rfl dX12_wrong_23 ?_
    refine ww_bds (fun s3 => ?_)
    exact ww_sub [] rfl (t_X12_wrong_26 B fu   s3)
theorem c_X12_wrong (G : GX) (l : Launch) (fu : Nat) (th : Nat) (st : St) : MV G NN l yX12_wrong cX12_wrong 1 none 2 [.ref (G.2.2.1 + th)] st (f_X12_wrong fu th st) := mkV (by decide) (Nat.le_of_ble_eq_true rfl) (fun X res hl hG B => by subst hl; subst hG; exact t_X12_wrong B fu th st)
/-! StageHouseModel.isWord(Ljava/lang/String;)Z -/
def b_X12_isWord_42 (fu : Nat)  (y0 : Int32) (st : St) : Option (Int32 × St) :=
  ck (isb y0) (some (y0, st))
set_option maxHeartbeats 4000000 in
set_option maxRecDepth 100000 in
theorem t_X12_isWord_42 {X : CX} {res : Int32 × St} (B : BI X cX12_isWord RX12 2 6 NN (some .boolean) res) (fu : Nat)  (y0 : Int32) (st : St) : WW X res NN 42 [] [.int y0] st (b_X12_isWord_42 fu y0 st) := by
  have hX := B.1
  have hL := B.2.1
  unfold b_X12_isWord_42
  exact ww_zret B dX12_isWord_42
def b_X12_isWord_41 (fu : Nat)   (st : St) : Option (Int32 × St) :=
  b_X12_isWord_42 fu  0 st
set_option maxHeartbeats 4000000 in
set_option maxRecDepth 100000 in
theorem t_X12_isWord_41 {X : CX} {res : Int32 × St} (B : BI X cX12_isWord RX12 2 6 NN (some .boolean) res) (fu : Nat)   (st : St) : WW X res NN 41 [] [] st (b_X12_isWord_41 fu  st) := by
  have hX := B.1
  have hL := B.2.1
  unfold b_X12_isWord_41
  refine ww_iconst (v := 0) hX rfl dX12_isWord_41 ?_
  exact t_X12_isWord_42 B fu  0 st
def f_X12_isWord (fu : Nat) (th : Nat) (p1 : Nat) (st : St) : Option (Int32 × St) :=
  ck ((kd th).1 = 12) <|
  if (gI st th 8) = 0 then (
  ck (¬ gR st th 2 = 0) <|
  ck ((kd th).1 = 12) <|
  bd (gR st th 2) fun o1 =>
  ck ((kd th).1 = 12) <|
  ck ((kd o1).1 = 100 ∧ inb (gI st th 5) (kd o1).2) <|
  if (gI st o1 (ix (gI st th 5))) = 1 then (
  ck (¬ gR st th 3 = 0) <|
  ck ((kd th).1 = 12) <|
  bd (gR st th 3) fun o2 =>
  ck ((kd th).1 = 12) <|
  ck ((kd o2).1 = 103 ∧ inb (gI st th 5) (kd o2).2) <|
  ca (f_X12_word fu p1 st) fun r3 s4 =>
  if (lg_cmp (gL st o2 (ix (gI st th 5))) r3) = 0 then (
  b_X12_isWord_42 fu  1 s4)
  else (
  b_X12_isWord_41 fu   s4))
  else (
  b_X12_isWord_41 fu   st))
  else (
  b_X12_isWord_41 fu   st)
set_option maxHeartbeats 4000000 in
set_option maxRecDepth 100000 in
theorem t_X12_isWord {X : CX} {res : Int32 × St} (B : BI X cX12_isWord RX12 2 6 NN (some .boolean) res) (fu : Nat) (th : Nat) (p1 : Nat) (st : St) : WW X res NN 0 [(0, .ref (x_b X + th)), (1, .ref ((x_K X).1 p1))] [] st (f_X12_isWord fu th p1 st) := by
  have hX := B.1
  have hL := B.2.1
  unfold f_X12_isWord
  refine ww_aload_n hX 0 rfl dX12_isWord_0 rfl ?_
  refine ww_getI hX f_X12_390 (Or.inr rfl) dX12_isWord_1 ?_
  refine ww_if_ne (tgt := 41) hX dX12_isWord_4 (by decide) ?_ ?_
  · exact ww_sub [] rfl (t_X12_isWord_41 B fu   st)
  · refine ww_aload_n hX 0 rfl dX12_isWord_7 rfl ?_
    refine ww_getR hX f_X12_13 (Or.inr ⟨_, rfl⟩) dX12_isWord_8 ?_
    refine ww_bdR (fun o1 => ?_)
    refine ww_aload_n hX 0 rfl dX12_isWord_11 rfl ?_
    refine ww_getI hX f_X12_381 (Or.inl rfl) dX12_isWord_12 ?_
    refine ww_ialdc hX k_iald dX12_isWord_15 ?_
    refine ww_iconst (v := 1) hX rfl dX12_isWord_16 ?_
    refine ww_icmp_ne (tgt := 41) hX dX12_isWord_17 (by decide) ?_ ?_
    · exact ww_sub [] rfl (t_X12_isWord_41 B fu   st)
    · refine ww_aload_n hX 0 rfl dX12_isWord_20 rfl ?_
      refine ww_getR hX f_X12_17 (Or.inr ⟨_, rfl⟩) dX12_isWord_21 ?_
      refine ww_bdR (fun o2 => ?_)
      refine ww_aload_n hX 0 rfl dX12_isWord_24 rfl ?_
      refine ww_getI hX f_X12_381 (Or.inl rfl) dX12_isWord_25 ?_
      refine ww_laldc hX k_lald dX12_isWord_28 ?_
      refine ww_aload_n hX 1 rfl dX12_isWord_29 rfl ?_
      refine ww_callSL (As := [.ref ((x_K X).1 p1)]) (rest := [.long (gL st o2 (ix (gI st th 5)))]) hX (Rk.of B.2.2.1 B.2.2.2.1 (by decide) (by decide)) g_X12_398 (c_X12_word (x_G X) (x_l X) fu p1 st) rfl rfl (Nat.le_of_ble_eq_true rfl) dX12_isWord_30 (fun r3 s4 => ?_)
      refine ww_pc (b := 33) rfl ?_
      refine ww_lcmp hX dX12_isWord_33 ?_
      refine ww_if_ne (tgt := 41) hX dX12_isWord_34 (by decide) ?_ ?_
      · exact ww_sub [] rfl (t_X12_isWord_41 B fu   s4)
      · refine ww_iconst (v := 1) hX rfl dX12_isWord_37 ?_
        refine ww_goto (tgt := 42) hX dX12_isWord_38 (by decide) ?_
        exact ww_sub [] rfl (t_X12_isWord_42 B fu  1 s4)
theorem c_X12_isWord (G : GX) (l : Launch) (fu : Nat) (th : Nat) (p1 : Nat) (st : St) : MI G NN l yX12_isWord cX12_isWord 2 (some .boolean) 6 [.ref (G.2.2.1 + th), .ref ((G.2.2.2).1 p1)] st (f_X12_isWord fu th p1 st) := mkI (by decide) (Nat.le_of_ble_eq_true rfl) (fun X res hl hG B => by subst hl; subst hG; exact t_X12_isWord B fu th p1 st)
/-! StageHouseModel.takeWord(Ljava/lang/String;)Z -/
def b_X12_takeWord_20 (fu : Nat) (x2 : Int32) (y0 : Nat) (y1 : Int32) (y2 : Int32) (st : St) : Option (Int32 × St) :=
  ck ((kd y0).1 = 12) <|
  bd (sI st y0 5 (y1 + y2)) fun s3 =>
  ck (isb x2) (some (x2, s3))
set_option maxHeartbeats 4000000 in
set_option maxRecDepth 100000 in
theorem t_X12_takeWord_20 {X : CX} {res : Int32 × St} (B : BI X cX12_takeWord RX12 3 7 NN (some .boolean) res) (fu : Nat) (x2 : Int32) (y0 : Nat) (y1 : Int32) (y2 : Int32) (st : St) : WW X res NN 20 [(2, .int x2)] [.int y2, .int y1, .ref (x_b X + y0)] st (b_X12_takeWord_20 fu x2 y0 y1 y2 st) := by
  have hX := B.1
  have hL := B.2.1
  unfold b_X12_takeWord_20
  refine ww_iadd hX dX12_takeWord_20 ?_
  refine ww_putI hX f_X12_381 rfl dX12_takeWord_21 ?_
  refine ww_bds (fun s3 => ?_)
  refine ww_iload_n hX 0 rfl dX12_takeWord_24 rfl ?_
  exact ww_zret B dX12_takeWord_25
def f_X12_takeWord (fu : Nat) (th : Nat) (p1 : Nat) (st : St) : Option (Int32 × St) :=
  ck ((kd th).1 = 12) <|
  ca (f_X12_isWord fu th p1 st) fun r1 s2 =>
  ck ((kd th).1 = 12) <|
  if r1 = 0 then (
  b_X12_takeWord_20 fu r1 th (gI s2 th 5) 0 s2)
  else (
  b_X12_takeWord_20 fu r1 th (gI s2 th 5) 1 s2)
set_option maxHeartbeats 4000000 in
set_option maxRecDepth 100000 in
theorem t_X12_takeWord {X : CX} {res : Int32 × St} (B : BI X cX12_takeWord RX12 3 7 NN (some .boolean) res) (fu : Nat) (th : Nat) (p1 : Nat) (st : St) : WW X res NN 0 [(0, .ref (x_b X + th)), (1, .ref ((x_K X).1 p1))] [] st (f_X12_takeWord fu th p1 st) := by
  have hX := B.1
  have hL := B.2.1
  unfold f_X12_takeWord
  refine ww_aload_n hX 0 rfl dX12_takeWord_0 rfl ?_
  refine ww_aload_n hX 1 rfl dX12_takeWord_1 rfl ?_
  refine ww_callVI (As := [.ref ((x_K X).1 p1)]) (rest := []) (o := th) hX (Rk.of B.2.2.1 B.2.2.2.1 (by decide) (by decide)) g_X12_402 g_X12_402.in (fun _ => c_X12_isWord (x_G X) (x_l X) fu th p1 st) rfl rfl (Nat.le_of_ble_eq_true rfl) dX12_takeWord_2 (fun r1 s2 => ?_)
  refine ww_istore_n (lv' := [(2, .int r1), (0, .ref (x_b X + th)), (1, .ref ((x_K X).1 p1))]) hX hL dX12_takeWord_5 rfl (by decide) rfl ?_
  refine ww_aload_n hX 1 rfl dX12_takeWord_6 rfl ?_
  refine ww_dup hX rfl dX12_takeWord_7 ?_
  refine ww_getI hX f_X12_381 (Or.inl rfl) dX12_takeWord_8 ?_
  refine ww_pc (b := 11) rfl ?_
  refine ww_iload_n hX 0 rfl dX12_takeWord_11 rfl ?_
  refine ww_if_eq (tgt := 19) hX dX12_takeWord_12 (by decide) ?_ ?_
  · refine ww_iconst (v := 0) hX rfl dX12_takeWord_19 ?_
    exact ww_sub [0] rfl (t_X12_takeWord_20 B fu r1 th (gI s2 th 5) 0 s2)
  · refine ww_iconst (v := 1) hX rfl dX12_takeWord_15 ?_
    refine ww_goto (tgt := 20) hX dX12_takeWord_16 (by decide) ?_
    exact ww_sub [0] rfl (t_X12_takeWord_20 B fu r1 th (gI s2 th 5) 1 s2)
theorem c_X12_takeWord (G : GX) (l : Launch) (fu : Nat) (th : Nat) (p1 : Nat) (st : St) : MI G NN l yX12_takeWord cX12_takeWord 3 (some .boolean) 7 [.ref (G.2.2.1 + th), .ref ((G.2.2.2).1 p1)] st (f_X12_takeWord fu th p1 st) := mkI (by decide) (Nat.le_of_ble_eq_true rfl) (fun X res hl hG B => by subst hl; subst hG; exact t_X12_takeWord B fu th p1 st)
/-! StageHouseModel.needWord(Ljava/lang/String;)V -/
def b_X12_needWord_12 (fu : Nat)   (st : St) : Option (St) :=
  some st
set_option maxHeartbeats 4000000 in
set_option maxRecDepth 100000 in
theorem t_X12_needWord_12 {X : CX} {res : St} (B : BV X cX12_needWord RX12 2 8 NN none res) (fu : Nat)   (st : St) : WW X res NN 12 [] [] st (b_X12_needWord_12 fu  st) := by
  have hX := B.1
  have hL := B.2.1
  unfold b_X12_needWord_12
  exact ww_vret B dX12_needWord_12
def f_X12_needWord (fu : Nat) (th : Nat) (p1 : Nat) (st : St) : Option (St) :=
  ck ((kd th).1 = 12) <|
  ca (f_X12_takeWord fu th p1 st) fun r1 s2 =>
  if r1 = 0 then (
  ck ((kd th).1 = 12) <|
  cv (f_X12_wrong fu th s2) fun s3 =>
  b_X12_needWord_12 fu   s3)
  else (
  b_X12_needWord_12 fu   s2)
set_option maxHeartbeats 4000000 in
set_option maxRecDepth 100000 in
theorem t_X12_needWord {X : CX} {res : St} (B : BV X cX12_needWord RX12 2 8 NN none res) (fu : Nat) (th : Nat) (p1 : Nat) (st : St) : WW X res NN 0 [(0, .ref (x_b X + th)), (1, .ref ((x_K X).1 p1))] [] st (f_X12_needWord fu th p1 st) := by
  have hX := B.1
  have hL := B.2.1
  unfold f_X12_needWord
  refine ww_aload_n hX 0 rfl dX12_needWord_0 rfl ?_
  refine ww_aload_n hX 1 rfl dX12_needWord_1 rfl ?_
  refine ww_callVI (As := [.ref ((x_K X).1 p1)]) (rest := []) (o := th) hX (Rk.of B.2.2.1 B.2.2.2.1 (by decide) (by decide)) g_X12_406 g_X12_406.in (fun _ => c_X12_takeWord (x_G X) (x_l X) fu th p1 st) rfl rfl (Nat.le_of_ble_eq_true rfl) dX12_needWord_2 (fun r1 s2 => ?_)
  refine ww_if_ne (tgt := 12) hX dX12_needWord_5 (by decide) ?_ ?_
  · exact ww_sub [] rfl (t_X12_needWord_12 B fu   s2)
  · refine ww_aload_n hX 0 rfl dX12_needWord_8 rfl ?_
    refine ww_callVV (As := []) (rest := []) (o := th) hX (Rk.of B.2.2.1 B.2.2.2.1 (by decide) (by decide)) g_X12_409 g_X12_409.in (fun _ => c_X12_wrong (x_G X) (x_l X) fu th s2) rfl rfl (Nat.le_of_ble_eq_true rfl) dX12_needWord_9 (fun s3 => ?_)
    exact ww_sub [] rfl (t_X12_needWord_12 B fu   s3)
theorem c_X12_needWord (G : GX) (l : Launch) (fu : Nat) (th : Nat) (p1 : Nat) (st : St) : MV G NN l yX12_needWord cX12_needWord 2 none 8 [.ref (G.2.2.1 + th), .ref ((G.2.2.2).1 p1)] st (f_X12_needWord fu th p1 st) := mkV (by decide) (Nat.le_of_ble_eq_true rfl) (fun X res hl hG B => by subst hl; subst hG; exact t_X12_needWord B fu th p1 st)
/-! StageHouseModel.takeSign(I)Z -/
def b_X12_takeSign_40 (fu : Nat) (x2 : Int32) (y0 : Nat) (y1 : Int32) (y2 : Int32) (st : St) : Option (Int32 × St) :=
  ck ((kd y0).1 = 12) <|
  bd (sI st y0 5 (y1 + y2)) fun s1 =>
  ck (isb x2) (some (x2, s1))
set_option maxHeartbeats 4000000 in
set_option maxRecDepth 100000 in
theorem t_X12_takeSign_40 {X : CX} {res : Int32 × St} (B : BI X cX12_takeSign RX12 3 1 NN (some .boolean) res) (fu : Nat) (x2 : Int32) (y0 : Nat) (y1 : Int32) (y2 : Int32) (st : St) : WW X res NN 40 [(2, .int x2)] [.int y2, .int y1, .ref (x_b X + y0)] st (b_X12_takeSign_40 fu x2 y0 y1 y2 st) := by
  have hX := B.1
  have hL := B.2.1
  unfold b_X12_takeSign_40
  refine ww_iadd hX dX12_takeSign_40 ?_
  refine ww_putI hX f_X12_381 rfl dX12_takeSign_41 ?_
  refine ww_bds (fun s1 => ?_)
  refine ww_iload_n hX 0 rfl dX12_takeSign_44 rfl ?_
  exact ww_zret B dX12_takeSign_45
def b_X12_takeSign_25 (fu : Nat) (x0 : Nat) (y0 : Int32) (st : St) : Option (Int32 × St) :=
  ck ((kd x0).1 = 12) <|
  if y0 = 0 then (
  b_X12_takeSign_40 fu y0 x0 (gI st x0 5) 0 st)
  else (
  b_X12_takeSign_40 fu y0 x0 (gI st x0 5) 1 st)
set_option maxHeartbeats 4000000 in
set_option maxRecDepth 100000 in
theorem t_X12_takeSign_25 {X : CX} {res : Int32 × St} (B : BI X cX12_takeSign RX12 3 1 NN (some .boolean) res) (fu : Nat) (x0 : Nat) (y0 : Int32) (st : St) : WW X res NN 25 [(0, .ref (x_b X + x0))] [.int y0] st (b_X12_takeSign_25 fu x0 y0 st) := by
  have hX := B.1
  have hL := B.2.1
  unfold b_X12_takeSign_25
  refine ww_istore_n (lv' := [(2, .int y0), (0, .ref (x_b X + x0))]) hX hL dX12_takeSign_25 rfl (by decide) rfl ?_
  refine ww_aload_n hX 1 rfl dX12_takeSign_26 rfl ?_
  refine ww_dup hX rfl dX12_takeSign_27 ?_
  refine ww_getI hX f_X12_381 (Or.inl rfl) dX12_takeSign_28 ?_
  refine ww_iload_n hX 0 rfl dX12_takeSign_31 rfl ?_
  refine ww_if_eq (tgt := 39) hX dX12_takeSign_32 (by decide) ?_ ?_
  · refine ww_iconst (v := 0) hX rfl dX12_takeSign_39 ?_
    exact ww_sub [0] rfl (t_X12_takeSign_40 B fu y0 x0 (gI st x0 5) 0 st)
  · refine ww_iconst (v := 1) hX rfl dX12_takeSign_35 ?_
    refine ww_goto (tgt := 40) hX dX12_takeSign_36 (by decide) ?_
    exact ww_sub [0] rfl (t_X12_takeSign_40 B fu y0 x0 (gI st x0 5) 1 st)
def b_X12_takeSign_24 (fu : Nat) (x0 : Nat)  (st : St) : Option (Int32 × St) :=
  b_X12_takeSign_25 fu x0 0 st
set_option maxHeartbeats 4000000 in
set_option maxRecDepth 100000 in
theorem t_X12_takeSign_24 {X : CX} {res : Int32 × St} (B : BI X cX12_takeSign RX12 3 1 NN (some .boolean) res) (fu : Nat) (x0 : Nat)  (st : St) : WW X res NN 24 [(0, .ref (x_b X + x0))] [] st (b_X12_takeSign_24 fu x0 st) := by
  have hX := B.1
  have hL := B.2.1
  unfold b_X12_takeSign_24
  refine ww_iconst (v := 0) hX rfl dX12_takeSign_24 ?_
  exact t_X12_takeSign_25 B fu x0 0 st
def f_X12_takeSign (fu : Nat) (th : Nat) (p1 : Int32) (st : St) : Option (Int32 × St) :=
  ck ((kd th).1 = 12) <|
  if (gI st th 8) = 0 then (
  ck (¬ gR st th 2 = 0) <|
  ck ((kd th).1 = 12) <|
  bd (gR st th 2) fun o2 =>
  ck ((kd th).1 = 12) <|
  ck ((kd o2).1 = 100 ∧ inb (gI st th 5) (kd o2).2) <|
  if (gI st o2 (ix (gI st th 5))) = p1 then (
  b_X12_takeSign_25 fu th 1 st)
  else (
  b_X12_takeSign_24 fu th  st))
  else (
  b_X12_takeSign_24 fu th  st)
set_option maxHeartbeats 4000000 in
set_option maxRecDepth 100000 in
theorem t_X12_takeSign {X : CX} {res : Int32 × St} (B : BI X cX12_takeSign RX12 3 1 NN (some .boolean) res) (fu : Nat) (th : Nat) (p1 : Int32) (st : St) : WW X res NN 0 [(0, .ref (x_b X + th)), (1, .int p1)] [] st (f_X12_takeSign fu th p1 st) := by
  have hX := B.1
  have hL := B.2.1
  unfold f_X12_takeSign
  refine ww_aload_n hX 0 rfl dX12_takeSign_0 rfl ?_
  refine ww_getI hX f_X12_390 (Or.inr rfl) dX12_takeSign_1 ?_
  refine ww_if_ne (tgt := 24) hX dX12_takeSign_4 (by decide) ?_ ?_
  · exact ww_sub [0] rfl (t_X12_takeSign_24 B fu th  st)
  · refine ww_aload_n hX 0 rfl dX12_takeSign_7 rfl ?_
    refine ww_getR hX f_X12_13 (Or.inr ⟨_, rfl⟩) dX12_takeSign_8 ?_
    refine ww_bdR (fun o2 => ?_)
    refine ww_aload_n hX 0 rfl dX12_takeSign_11 rfl ?_
    refine ww_getI hX f_X12_381 (Or.inl rfl) dX12_takeSign_12 ?_
    refine ww_ialdc hX k_iald dX12_takeSign_15 ?_
    refine ww_iload_n hX 1 rfl dX12_takeSign_16 rfl ?_
    refine ww_icmp_ne (tgt := 24) hX dX12_takeSign_17 (by decide) ?_ ?_
    · exact ww_sub [0] rfl (t_X12_takeSign_24 B fu th  st)
    · refine ww_iconst (v := 1) hX rfl dX12_takeSign_20 ?_
      refine ww_goto (tgt := 25) hX dX12_takeSign_21 (by decide) ?_
      exact ww_sub [0] rfl (t_X12_takeSign_25 B fu th 1 st)
theorem c_X12_takeSign (G : GX) (l : Launch) (fu : Nat) (th : Nat) (p1 : Int32) (st : St) : MI G NN l yX12_takeSign cX12_takeSign 3 (some .boolean) 1 [.ref (G.2.2.1 + th), .int p1] st (f_X12_takeSign fu th p1 st) := mkI (by decide) (Nat.le_of_ble_eq_true rfl) (fun X res hl hG B => by subst hl; subst hG; exact t_X12_takeSign B fu th p1 st)
/-! StageHouseModel.needSign(I)V -/
def b_X12_needSign_12 (fu : Nat)   (st : St) : Option (St) :=
  some st
set_option maxHeartbeats 4000000 in
set_option maxRecDepth 100000 in
theorem t_X12_needSign_12 {X : CX} {res : St} (B : BV X cX12_needSign RX12 2 3 NN none res) (fu : Nat)   (st : St) : WW X res NN 12 [] [] st (b_X12_needSign_12 fu  st) := by
  have hX := B.1
  have hL := B.2.1
  unfold b_X12_needSign_12
  exact ww_vret B dX12_needSign_12
def f_X12_needSign (fu : Nat) (th : Nat) (p1 : Int32) (st : St) : Option (St) :=
  ck ((kd th).1 = 12) <|
  ca (f_X12_takeSign fu th p1 st) fun r1 s2 =>
  if r1 = 0 then (
  ck ((kd th).1 = 12) <|
  cv (f_X12_wrong fu th s2) fun s3 =>
  b_X12_needSign_12 fu   s3)
  else (
  b_X12_needSign_12 fu   s2)
set_option maxHeartbeats 4000000 in
set_option maxRecDepth 100000 in
theorem t_X12_needSign {X : CX} {res : St} (B : BV X cX12_needSign RX12 2 3 NN none res) (fu : Nat) (th : Nat) (p1 : Int32) (st : St) : WW X res NN 0 [(0, .ref (x_b X + th)), (1, .int p1)] [] st (f_X12_needSign fu th p1 st) := by
  have hX := B.1
  have hL := B.2.1
  unfold f_X12_needSign
  refine ww_aload_n hX 0 rfl dX12_needSign_0 rfl ?_
  refine ww_iload_n hX 1 rfl dX12_needSign_1 rfl ?_
  refine ww_callVI (As := [.int p1]) (rest := []) (o := th) hX (Rk.of B.2.2.1 B.2.2.2.1 (by decide) (by decide)) g_X12_412 g_X12_412.in (fun _ => c_X12_takeSign (x_G X) (x_l X) fu th p1 st) rfl rfl (Nat.le_of_ble_eq_true rfl) dX12_needSign_2 (fun r1 s2 => ?_)
  refine ww_if_ne (tgt := 12) hX dX12_needSign_5 (by decide) ?_ ?_
  · exact ww_sub [] rfl (t_X12_needSign_12 B fu   s2)
  · refine ww_aload_n hX 0 rfl dX12_needSign_8 rfl ?_
    refine ww_callVV (As := []) (rest := []) (o := th) hX (Rk.of B.2.2.1 B.2.2.2.1 (by decide) (by decide)) g_X12_409 g_X12_409.in (fun _ => c_X12_wrong (x_G X) (x_l X) fu th s2) rfl rfl (Nat.le_of_ble_eq_true rfl) dX12_needSign_9 (fun s3 => ?_)
    exact ww_sub [] rfl (t_X12_needSign_12 B fu   s3)
theorem c_X12_needSign (G : GX) (l : Launch) (fu : Nat) (th : Nat) (p1 : Int32) (st : St) : MV G NN l yX12_needSign cX12_needSign 2 none 3 [.ref (G.2.2.1 + th), .int p1] st (f_X12_needSign fu th p1 st) := mkV (by decide) (Nat.le_of_ble_eq_true rfl) (fun X res hl hG B => by subst hl; subst hG; exact t_X12_needSign B fu th p1 st)
/-! StageHouseModel.number(II)I -/
def b_X12_number_20 (fu : Nat) (x0 : Nat) (x1 : Int32)  (st : St) : Option (Int32 × St) :=
  ck ((kd x0).1 = 12) <|
  cv (f_X12_wrong fu x0 st) fun s1 =>
  some (x1, s1)
set_option maxHeartbeats 4000000 in
set_option maxRecDepth 100000 in
theorem t_X12_number_20 {X : CX} {res : Int32 × St} (B : BI X cX12_number RX12 4 3 NN (some .int) res) (fu : Nat) (x0 : Nat) (x1 : Int32)  (st : St) : WW X res NN 20 [(0, .ref (x_b X + x0)), (1, .int x1)] [] st (b_X12_number_20 fu x0 x1 st) := by
  have hX := B.1
  have hL := B.2.1
  unfold b_X12_number_20
  refine ww_aload_n hX 0 rfl dX12_number_20 rfl ?_
  refine ww_callVV (As := []) (rest := []) (o := x0) hX (Rk.of B.2.2.1 B.2.2.2.1 (by decide) (by decide)) g_X12_409 g_X12_409.in (fun _ => c_X12_wrong (x_G X) (x_l X) fu x0 st) rfl rfl (Nat.le_of_ble_eq_true rfl) dX12_number_21 (fun s1 => ?_)
  refine ww_iload_n hX 1 rfl dX12_number_24 rfl ?_
  exact ww_iret B dX12_number_25
def b_X12_number_61 (fu : Nat) (x0 : Nat) (x3 : Int32)  (st : St) : Option (Int32 × St) :=
  ck ((kd x0).1 = 12) <|
  ck ((kd x0).1 = 12) <|
  bd (sI st x0 5 ((gI st x0 5) + 1)) fun s7 =>
  some (x3, s7)
set_option maxHeartbeats 4000000 in
set_option maxRecDepth 100000 in
theorem t_X12_number_61 {X : CX} {res : Int32 × St} (B : BI X cX12_number RX12 4 3 NN (some .int) res) (fu : Nat) (x0 : Nat) (x3 : Int32)  (st : St) : WW X res NN 61 [(0, .ref (x_b X + x0)), (3, .int x3)] [] st (b_X12_number_61 fu x0 x3 st) := by
  have hX := B.1
  have hL := B.2.1
  unfold b_X12_number_61
  refine ww_aload_n hX 0 rfl dX12_number_61 rfl ?_
  refine ww_dup hX rfl dX12_number_62 ?_
  refine ww_getI hX f_X12_381 (Or.inl rfl) dX12_number_63 ?_
  refine ww_iconst (v := 1) hX rfl dX12_number_66 ?_
  refine ww_iadd hX dX12_number_67 ?_
  refine ww_putI hX f_X12_381 rfl dX12_number_68 ?_
  refine ww_bds (fun s7 => ?_)
  refine ww_iload_n hX 1 rfl dX12_number_71 rfl ?_
  refine ww_pc (b := 72) rfl ?_
  exact ww_iret B dX12_number_72
def b_X12_number_47 (fu : Nat) (x0 : Nat) (x3 : Int32)  (st : St) : Option (Int32 × St) :=
  ck (¬ gR st x0 4 = 0) <|
  ck ((kd x0).1 = 12) <|
  bd (gR st x0 4) fun o5 =>
  ck ((kd x0).1 = 12) <|
  ck ((kd o5).1 = 100 ∧ inb (gI st x0 5) (kd o5).2) <|
  ck ((kd x0).1 = 12) <|
  cv (f_X12_tell fu x0 2 (gI st o5 (ix (gI st x0 5))) st) fun s6 =>
  b_X12_number_61 fu x0 x3  s6
set_option maxHeartbeats 4000000 in
set_option maxRecDepth 100000 in
theorem t_X12_number_47 {X : CX} {res : Int32 × St} (B : BI X cX12_number RX12 4 3 NN (some .int) res) (fu : Nat) (x0 : Nat) (x3 : Int32)  (st : St) : WW X res NN 47 [(0, .ref (x_b X + x0)), (3, .int x3)] [] st (b_X12_number_47 fu x0 x3 st) := by
  have hX := B.1
  have hL := B.2.1
  unfold b_X12_number_47
  refine ww_aload_n hX 0 rfl dX12_number_47 rfl ?_
  refine ww_iconst (v := 2) hX rfl dX12_number_48 ?_
  refine ww_aload_n hX 0 rfl dX12_number_49 rfl ?_
  refine ww_getR hX f_X12_21 (Or.inr ⟨_, rfl⟩) dX12_number_50 ?_
  refine ww_bdR (fun o5 => ?_)
  refine ww_aload_n hX 0 rfl dX12_number_53 rfl ?_
  refine ww_getI hX f_X12_381 (Or.inl rfl) dX12_number_54 ?_
  refine ww_ialdc hX k_iald dX12_number_57 ?_
  refine ww_pc (b := 58) rfl ?_
  refine ww_callVV (As := [.int 2, .int (gI st o5 (ix (gI st x0 5)))]) (rest := []) (o := x0) hX (Rk.of B.2.2.1 B.2.2.2.1 (by decide) (by decide)) g_X12_394 g_X12_394.in (fun _ => c_X12_tell (x_G X) (x_l X) fu x0 2 (gI st o5 (ix (gI st x0 5))) st) rfl rfl (Nat.le_of_ble_eq_true rfl) dX12_number_58 (fun s6 => ?_)
  exact t_X12_number_61 B fu x0 x3  s6
def f_X12_number (fu : Nat) (th : Nat) (p1 : Int32) (p2 : Int32) (st : St) : Option (Int32 × St) :=
  ck ((kd th).1 = 12) <|
  if (gI st th 8) = 0 then (
  ck (¬ gR st th 2 = 0) <|
  ck ((kd th).1 = 12) <|
  bd (gR st th 2) fun o2 =>
  ck ((kd th).1 = 12) <|
  ck ((kd o2).1 = 100 ∧ inb (gI st th 5) (kd o2).2) <|
  if (gI st o2 (ix (gI st th 5))) = 2 then (
  ck (¬ gR st th 3 = 0) <|
  ck ((kd th).1 = 12) <|
  bd (gR st th 3) fun o3 =>
  ck ((kd th).1 = 12) <|
  ck ((kd o3).1 = 103 ∧ inb (gI st th 5) (kd o3).2) <|
  bd ((gL st o3 (ix (gI st th 5))).toInt32) fun v4 =>
  if v4 < p1 then (
  b_X12_number_47 fu th v4  st)
  else (
  if v4 ≤ p2 then (
  b_X12_number_61 fu th v4  st)
  else (
  b_X12_number_47 fu th v4  st)))
  else (
  b_X12_number_20 fu th p1  st))
  else (
  b_X12_number_20 fu th p1  st)
set_option maxHeartbeats 4000000 in
set_option maxRecDepth 100000 in
theorem t_X12_number {X : CX} {res : Int32 × St} (B : BI X cX12_number RX12 4 3 NN (some .int) res) (fu : Nat) (th : Nat) (p1 : Int32) (p2 : Int32) (st : St) : WW X res NN 0 [(0, .ref (x_b X + th)), (1, .int p1), (2, .int p2)] [] st (f_X12_number fu th p1 p2 st) := by
  have hX := B.1
  have hL := B.2.1
  unfold f_X12_number
  refine ww_aload_n hX 0 rfl dX12_number_0 rfl ?_
  refine ww_getI hX f_X12_390 (Or.inr rfl) dX12_number_1 ?_
  refine ww_if_ne (tgt := 20) hX dX12_number_4 (by decide) ?_ ?_
  · exact ww_sub [0, 1] rfl (t_X12_number_20 B fu th p1  st)
  · refine ww_aload_n hX 0 rfl dX12_number_7 rfl ?_
    refine ww_getR hX f_X12_13 (Or.inr ⟨_, rfl⟩) dX12_number_8 ?_
    refine ww_bdR (fun o2 => ?_)
    refine ww_aload_n hX 0 rfl dX12_number_11 rfl ?_
    refine ww_getI hX f_X12_381 (Or.inl rfl) dX12_number_12 ?_
    refine ww_ialdc hX k_iald dX12_number_15 ?_
    refine ww_iconst (v := 2) hX rfl dX12_number_16 ?_
    refine ww_icmp_eq (tgt := 26) hX dX12_number_17 (by decide) ?_ ?_
    · refine ww_aload_n hX 0 rfl dX12_number_26 rfl ?_
      refine ww_getR hX f_X12_17 (Or.inr ⟨_, rfl⟩) dX12_number_27 ?_
      refine ww_bdR (fun o3 => ?_)
      refine ww_aload_n hX 0 rfl dX12_number_30 rfl ?_
      refine ww_getI hX f_X12_381 (Or.inl rfl) dX12_number_31 ?_
      refine ww_laldc hX k_lald dX12_number_34 ?_
      refine ww_l2i hX dX12_number_35 ?_
      refine ww_bdi (fun v4 => ?_)
      refine ww_istore_n (lv' := [(3, .int v4), (0, .ref (x_b X + th)), (1, .int p1), (2, .int p2)]) hX hL dX12_number_36 rfl (by decide) rfl ?_
      refine ww_pc (b := 37) rfl ?_
      refine ww_iload_n hX 0 rfl dX12_number_37 rfl ?_
      refine ww_iload_n hX 2 rfl dX12_number_38 rfl ?_
      refine ww_icmp_lt (tgt := 47) hX dX12_number_39 (by decide) ?_ ?_
      · exact ww_sub [1, 0] rfl (t_X12_number_47 B fu th v4  st)
      · refine ww_iload_n hX 0 rfl dX12_number_42 rfl ?_
        refine ww_iload_n hX 3 rfl dX12_number_43 rfl ?_
        refine ww_icmp_le (tgt := 61) hX dX12_number_44 (by decide) ?_ ?_
        · exact ww_sub [1, 0] rfl (t_X12_number_61 B fu th v4  st)
        · exact ww_sub [1, 0] rfl (t_X12_number_47 B fu th v4  st)
    · exact ww_sub [0, 1] rfl (t_X12_number_20 B fu th p1  st)
theorem c_X12_number (G : GX) (l : Launch) (fu : Nat) (th : Nat) (p1 : Int32) (p2 : Int32) (st : St) : MI G NN l yX12_number cX12_number 4 (some .int) 3 [.ref (G.2.2.1 + th), .int p1, .int p2] st (f_X12_number fu th p1 p2 st) := mkI (by decide) (Nat.le_of_ble_eq_true rfl) (fun X res hl hG B => by subst hl; subst hG; exact t_X12_number B fu th p1 p2 st)
/-! StageHouseModel.fault()I -/
def f_X12_fault (fu : Nat) (th : Nat) (st : St) : Option (Int32 × St) :=
  ck ((kd th).1 = 12) <|
  some (gI st th 6, st)
set_option maxHeartbeats 4000000 in
set_option maxRecDepth 100000 in
theorem t_X12_fault {X : CX} {res : Int32 × St} (B : BI X cX12_fault RX12 1 1 NN (some .int) res) (fu : Nat) (th : Nat) (st : St) : WW X res NN 0 [(0, .ref (x_b X + th))] [] st (f_X12_fault fu th st) := by
  have hX := B.1
  have hL := B.2.1
  unfold f_X12_fault
  refine ww_aload_n hX 0 rfl dX12_fault_0 rfl ?_
  refine ww_getI hX f_X12_384 (Or.inl rfl) dX12_fault_1 ?_
  exact ww_iret B dX12_fault_4
theorem c_X12_fault (G : GX) (l : Launch) (fu : Nat) (th : Nat) (st : St) : MI G NN l yX12_fault cX12_fault 1 (some .int) 1 [.ref (G.2.2.1 + th)] st (f_X12_fault fu th st) := mkI (by decide) (Nat.le_of_ble_eq_true rfl) (fun X res hl hG B => by subst hl; subst hG; exact t_X12_fault B fu th st)
/-! StageHouseModel.wasPoint()Z -/
def b_X12_wasPoint_29 (fu : Nat)  (y0 : Int32) (st : St) : Option (Int32 × St) :=
  ck (isb y0) (some (y0, st))
set_option maxHeartbeats 4000000 in
set_option maxRecDepth 100000 in
theorem t_X12_wasPoint_29 {X : CX} {res : Int32 × St} (B : BI X cX12_wasPoint RX12 1 1 NN (some .boolean) res) (fu : Nat)  (y0 : Int32) (st : St) : WW X res NN 29 [] [.int y0] st (b_X12_wasPoint_29 fu y0 st) := by
  have hX := B.1
  have hL := B.2.1
  unfold b_X12_wasPoint_29
  exact ww_zret B dX12_wasPoint_29
def b_X12_wasPoint_28 (fu : Nat)   (st : St) : Option (Int32 × St) :=
  b_X12_wasPoint_29 fu  0 st
set_option maxHeartbeats 4000000 in
set_option maxRecDepth 100000 in
theorem t_X12_wasPoint_28 {X : CX} {res : Int32 × St} (B : BI X cX12_wasPoint RX12 1 1 NN (some .boolean) res) (fu : Nat)   (st : St) : WW X res NN 28 [] [] st (b_X12_wasPoint_28 fu  st) := by
  have hX := B.1
  have hL := B.2.1
  unfold b_X12_wasPoint_28
  refine ww_iconst (v := 0) hX rfl dX12_wasPoint_28 ?_
  exact t_X12_wasPoint_29 B fu  0 st
def f_X12_wasPoint (fu : Nat) (th : Nat) (st : St) : Option (Int32 × St) :=
  ck ((kd th).1 = 12) <|
  if (gI st th 5) < 2 then (
  b_X12_wasPoint_28 fu   st)
  else (
  ck (¬ gR st th 2 = 0) <|
  ck ((kd th).1 = 12) <|
  bd (gR st th 2) fun o1 =>
  ck ((kd th).1 = 12) <|
  ck ((kd o1).1 = 100 ∧ inb ((gI st th 5) - 2) (kd o1).2) <|
  if (gI st o1 (ix ((gI st th 5) - 2))) = 46 then (
  b_X12_wasPoint_29 fu  1 st)
  else (
  b_X12_wasPoint_28 fu   st))
set_option maxHeartbeats 4000000 in
set_option maxRecDepth 100000 in
theorem t_X12_wasPoint {X : CX} {res : Int32 × St} (B : BI X cX12_wasPoint RX12 1 1 NN (some .boolean) res) (fu : Nat) (th : Nat) (st : St) : WW X res NN 0 [(0, .ref (x_b X + th))] [] st (f_X12_wasPoint fu th st) := by
  have hX := B.1
  have hL := B.2.1
  unfold f_X12_wasPoint
  refine ww_aload_n hX 0 rfl dX12_wasPoint_0 rfl ?_
  refine ww_getI hX f_X12_381 (Or.inl rfl) dX12_wasPoint_1 ?_
  refine ww_iconst (v := 2) hX rfl dX12_wasPoint_4 ?_
  refine ww_icmp_lt (tgt := 28) hX dX12_wasPoint_5 (by decide) ?_ ?_
  · exact ww_sub [] rfl (t_X12_wasPoint_28 B fu   st)
  · refine ww_aload_n hX 0 rfl dX12_wasPoint_8 rfl ?_
    refine ww_getR hX f_X12_13 (Or.inr ⟨_, rfl⟩) dX12_wasPoint_9 ?_
    refine ww_bdR (fun o1 => ?_)
    refine ww_aload_n hX 0 rfl dX12_wasPoint_12 rfl ?_
    refine ww_getI hX f_X12_381 (Or.inl rfl) dX12_wasPoint_13 ?_
    refine ww_iconst (v := 2) hX rfl dX12_wasPoint_16 ?_
    refine ww_isub hX dX12_wasPoint_17 ?_
    refine ww_ialdc hX k_iald dX12_wasPoint_18 ?_
    refine ww_pc (b := 19) rfl ?_
    refine ww_bipush (v := 46) hX rfl dX12_wasPoint_19 ?_
    refine ww_icmp_ne (tgt := 28) hX dX12_wasPoint_21 (by decide) ?_ ?_
    · exact ww_sub [] rfl (t_X12_wasPoint_28 B fu   st)
    · refine ww_iconst (v := 1) hX rfl dX12_wasPoint_24 ?_
      refine ww_goto (tgt := 29) hX dX12_wasPoint_25 (by decide) ?_
      exact ww_sub [] rfl (t_X12_wasPoint_29 B fu  1 st)
theorem c_X12_wasPoint (G : GX) (l : Launch) (fu : Nat) (th : Nat) (st : St) : MI G NN l yX12_wasPoint cX12_wasPoint 1 (some .boolean) 1 [.ref (G.2.2.1 + th)] st (f_X12_wasPoint fu th st) := mkI (by decide) (Nat.le_of_ble_eq_true rfl) (fun X res hl hG B => by subst hl; subst hG; exact t_X12_wasPoint B fu th st)
/-! StageHouseModel.name()I -/
def b_X12_name_69 (fu : Nat) (x1 : Int32) (x2 : Int32) (y0 : Nat) (y1 : Int32) (st : St) : Option (Int32 × St) :=
  ck (isb y1) <|
  ck ((kd y0).1 = 12) <|
  bd (sI st y0 38 y1) fun s5 =>
  some ((100 * x1) + x2, s5)
set_option maxHeartbeats 4000000 in
set_option maxRecDepth 100000 in
theorem t_X12_name_69 {X : CX} {res : Int32 × St} (B : BI X cX12_name RX12 3 4 NN (some .int) res) (fu : Nat) (x1 : Int32) (x2 : Int32) (y0 : Nat) (y1 : Int32) (st : St) : WW X res NN 69 [(1, .int x1), (2, .int x2)] [.int y1, .ref (x_b X + y0)] st (b_X12_name_69 fu x1 x2 y0 y1 st) := by
  have hX := B.1
  have hL := B.2.1
  unfold b_X12_name_69
  refine ww_putZ hX f_X12_423 rfl dX12_name_69 ?_
  refine ww_bds (fun s5 => ?_)
  refine ww_bipush (v := 100) hX rfl dX12_name_72 ?_
  refine ww_iload_n hX 0 rfl dX12_name_74 rfl ?_
  refine ww_imul hX dX12_name_75 ?_
  refine ww_iload_n hX 1 rfl dX12_name_76 rfl ?_
  refine ww_iadd hX dX12_name_77 ?_
  exact ww_iret B dX12_name_78
def b_X12_name_68 (fu : Nat) (x1 : Int32) (x2 : Int32) (y0 : Nat) (st : St) : Option (Int32 × St) :=
  b_X12_name_69 fu x1 x2 y0 0 st
set_option maxHeartbeats 4000000 in
set_option maxRecDepth 100000 in
theorem t_X12_name_68 {X : CX} {res : Int32 × St} (B : BI X cX12_name RX12 3 4 NN (some .int) res) (fu : Nat) (x1 : Int32) (x2 : Int32) (y0 : Nat) (st : St) : WW X res NN 68 [(1, .int x1), (2, .int x2)] [.ref (x_b X + y0)] st (b_X12_name_68 fu x1 x2 y0 st) := by
  have hX := B.1
  have hL := B.2.1
  unfold b_X12_name_68
  refine ww_iconst (v := 0) hX rfl dX12_name_68 ?_
  exact t_X12_name_69 B fu x1 x2 y0 0 st
def b_X12_name_64 (fu : Nat) (x1 : Int32) (x2 : Int32) (y0 : Nat) (st : St) : Option (Int32 × St) :=
  b_X12_name_69 fu x1 x2 y0 1 st
set_option maxHeartbeats 4000000 in
set_option maxRecDepth 100000 in
theorem t_X12_name_64 {X : CX} {res : Int32 × St} (B : BI X cX12_name RX12 3 4 NN (some .int) res) (fu : Nat) (x1 : Int32) (x2 : Int32) (y0 : Nat) (st : St) : WW X res NN 64 [(1, .int x1), (2, .int x2)] [.ref (x_b X + y0)] st (b_X12_name_64 fu x1 x2 y0 st) := by
  have hX := B.1
  have hL := B.2.1
  unfold b_X12_name_64
  refine ww_iconst (v := 1) hX rfl dX12_name_64 ?_
  refine ww_goto (tgt := 69) hX dX12_name_65 (by decide) ?_
  exact t_X12_name_69 B fu x1 x2 y0 1 st
def b_X12_name_29 (fu : Nat) (x0 : Nat) (x1 : Int32) (y0 : Int32) (st : St) : Option (Int32 × St) :=
  if x1 < 1 then (
  b_X12_name_68 fu x1 y0 x0 st)
  else (
  if 999 < x1 then (
  b_X12_name_68 fu x1 y0 x0 st)
  else (
  if y0 < 0 then (
  b_X12_name_68 fu x1 y0 x0 st)
  else (
  if 99 < y0 then (
  b_X12_name_68 fu x1 y0 x0 st)
  else (
  if y0 = 0 then (
  ck ((kd x0).1 = 12) <|
  ca (f_X12_wasPoint fu x0 st) fun r6 s7 =>
  if r6 = 0 then (
  b_X12_name_64 fu x1 y0 x0 s7)
  else (
  b_X12_name_68 fu x1 y0 x0 s7))
  else (
  b_X12_name_64 fu x1 y0 x0 st)))))
set_option maxHeartbeats 4000000 in
set_option maxRecDepth 100000 in
theorem t_X12_name_29 {X : CX} {res : Int32 × St} (B : BI X cX12_name RX12 3 4 NN (some .int) res) (fu : Nat) (x0 : Nat) (x1 : Int32) (y0 : Int32) (st : St) : WW X res NN 29 [(0, .ref (x_b X + x0)), (1, .int x1)] [.int y0] st (b_X12_name_29 fu x0 x1 y0 st) := by
  have hX := B.1
  have hL := B.2.1
  unfold b_X12_name_29
  refine ww_istore_n (lv' := [(2, .int y0), (0, .ref (x_b X + x0)), (1, .int x1)]) hX hL dX12_name_29 rfl (by decide) rfl ?_
  refine ww_aload_n hX 1 rfl dX12_name_30 rfl ?_
  refine ww_iload_n hX 2 rfl dX12_name_31 rfl ?_
  refine ww_iconst (v := 1) hX rfl dX12_name_32 ?_
  refine ww_icmp_lt (tgt := 68) hX dX12_name_33 (by decide) ?_ ?_
  · exact ww_sub [2, 0] rfl (t_X12_name_68 B fu x1 y0 x0 st)
  · refine ww_iload_n hX 2 rfl dX12_name_36 rfl ?_
    refine ww_sipush (v := 999) hX rfl dX12_name_37 ?_
    refine ww_icmp_gt (tgt := 68) hX dX12_name_40 (by decide) ?_ ?_
    · exact ww_sub [2, 0] rfl (t_X12_name_68 B fu x1 y0 x0 st)
    · refine ww_iload_n hX 0 rfl dX12_name_43 rfl ?_
      refine ww_if_lt (tgt := 68) hX dX12_name_44 (by decide) ?_ ?_
      · exact ww_sub [2, 0] rfl (t_X12_name_68 B fu x1 y0 x0 st)
      · refine ww_iload_n hX 0 rfl dX12_name_47 rfl ?_
        refine ww_bipush (v := 99) hX rfl dX12_name_48 ?_
        refine ww_icmp_gt (tgt := 68) hX dX12_name_50 (by decide) ?_ ?_
        · exact ww_sub [2, 0] rfl (t_X12_name_68 B fu x1 y0 x0 st)
        · refine ww_iload_n hX 0 rfl dX12_name_53 rfl ?_
          refine ww_if_ne (tgt := 64) hX dX12_name_54 (by decide) ?_ ?_
          · exact ww_sub [2, 0] rfl (t_X12_name_64 B fu x1 y0 x0 st)
          · refine ww_aload_n hX 1 rfl dX12_name_57 rfl ?_
            refine ww_callVI (As := []) (rest := [.ref (x_b X + x0)]) (o := x0) hX (Rk.of B.2.2.1 B.2.2.2.1 (by decide) (by decide)) g_X12_419 g_X12_419.in (fun _ => c_X12_wasPoint (x_G X) (x_l X) fu x0 st) rfl rfl (Nat.le_of_ble_eq_true rfl) dX12_name_58 (fun r6 s7 => ?_)
            refine ww_if_ne (tgt := 68) hX dX12_name_61 (by decide) ?_ ?_
            · exact ww_sub [2, 0] rfl (t_X12_name_68 B fu x1 y0 x0 s7)
            · exact ww_sub [2, 0] rfl (t_X12_name_64 B fu x1 y0 x0 s7)
def f_X12_name (fu : Nat) (th : Nat) (st : St) : Option (Int32 × St) :=
  ck ((kd th).1 = 12) <|
  ca (f_X12_number fu th 1 999 st) fun r1 s2 =>
  ck ((kd th).1 = 12) <|
  ca (f_X12_takeSign fu th 46 s2) fun r3 s4 =>
  if r3 = 0 then (
  b_X12_name_29 fu th r1 0 s4)
  else (
  ck ((kd th).1 = 12) <|
  ca (f_X12_number fu th 1 99 s4) fun r8 s9 =>
  b_X12_name_29 fu th r1 r8 s9)
set_option maxHeartbeats 4000000 in
set_option maxRecDepth 100000 in
theorem t_X12_name {X : CX} {res : Int32 × St} (B : BI X cX12_name RX12 3 4 NN (some .int) res) (fu : Nat) (th : Nat) (st : St) : WW X res NN 0 [(0, .ref (x_b X + th))] [] st (f_X12_name fu th st) := by
  have hX := B.1
  have hL := B.2.1
  unfold f_X12_name
  refine ww_aload_n hX 0 rfl dX12_name_0 rfl ?_
  refine ww_iconst (v := 1) hX rfl dX12_name_1 ?_
  refine ww_sipush (v := 999) hX rfl dX12_name_2 ?_
  refine ww_callVI (As := [.int 1, .int 999]) (rest := []) (o := th) hX (Rk.of B.2.2.1 B.2.2.2.1 (by decide) (by decide)) g_X12_415 g_X12_415.in (fun _ => c_X12_number (x_G X) (x_l X) fu th 1 999 st) rfl rfl (Nat.le_of_ble_eq_true rfl) dX12_name_5 (fun r1 s2 => ?_)
  refine ww_istore_n (lv' := [(1, .int r1), (0, .ref (x_b X + th))]) hX hL dX12_name_8 rfl (by decide) rfl ?_
  refine ww_aload_n hX 1 rfl dX12_name_9 rfl ?_
  refine ww_bipush (v := 46) hX rfl dX12_name_10 ?_
  refine ww_pc (b := 12) rfl ?_
  refine ww_callVI (As := [.int 46]) (rest := []) (o := th) hX (Rk.of B.2.2.1 B.2.2.2.1 (by decide) (by decide)) g_X12_412 g_X12_412.in (fun _ => c_X12_takeSign (x_G X) (x_l X) fu th 46 s2) rfl rfl (Nat.le_of_ble_eq_true rfl) dX12_name_12 (fun r3 s4 => ?_)
  refine ww_if_eq (tgt := 28) hX dX12_name_15 (by decide) ?_ ?_
  · refine ww_iconst (v := 0) hX rfl dX12_name_28 ?_
    exact ww_sub [1, 0] rfl (t_X12_name_29 B fu th r1 0 s4)
  · refine ww_aload_n hX 1 rfl dX12_name_18 rfl ?_
    refine ww_iconst (v := 1) hX rfl dX12_name_19 ?_
    refine ww_bipush (v := 99) hX rfl dX12_name_20 ?_
    refine ww_callVI (As := [.int 1, .int 99]) (rest := []) (o := th) hX (Rk.of B.2.2.1 B.2.2.2.1 (by decide) (by decide)) g_X12_415 g_X12_415.in (fun _ => c_X12_number (x_G X) (x_l X) fu th 1 99 s4) rfl rfl (Nat.le_of_ble_eq_true rfl) dX12_name_22 (fun r8 s9 => ?_)
    refine ww_goto (tgt := 29) hX dX12_name_25 (by decide) ?_
    exact ww_sub [1, 0] rfl (t_X12_name_29 B fu th r1 r8 s9)
theorem c_X12_name (G : GX) (l : Launch) (fu : Nat) (th : Nat) (st : St) : MI G NN l yX12_name cX12_name 3 (some .int) 4 [.ref (G.2.2.1 + th)] st (f_X12_name fu th st) := mkI (by decide) (Nat.le_of_ble_eq_true rfl) (fun X res hl hG B => by subst hl; subst hG; exact t_X12_name B fu th st)
/-! StageHouseModel.channels()V -/
def b_X12_channels_184 (fu : Nat) (k_155 : Nat → Int32 → Int32 → St → Option (St)) (x0 : Nat) (x2 : Int32) (x3 : Int32)  (st : St) : Option (St) :=
  bd (x3 + 1) fun v5 =>
  k_155 x0 x2 v5  st
set_option maxHeartbeats 4000000 in
set_option maxRecDepth 100000 in
theorem t_X12_channels_184 {X : CX} {res : St} (B : BV X cX12_channels RX12 5 9 NN none res) (fu : Nat) (k_155 : Nat → Int32 → Int32 → St → Option (St)) (h_155 : ∀ (x0 : Nat) (x2 : Int32) (x3 : Int32)  (st : St), WW X res NN 155 [(0, .ref (x_b X + x0)), (2, .int x2), (3, .int x3)] [] st (k_155 x0 x2 x3 st)) (x0 : Nat) (x2 : Int32) (x3 : Int32)  (st : St) : WW X res NN 184 [(0, .ref (x_b X + x0)), (2, .int x2), (3, .int x3)] [] st (b_X12_channels_184 fu k_155 x0 x2 x3 st) := by
  have hX := B.1
  have hL := B.2.1
  unfold b_X12_channels_184
  refine ww_iincb (lv' := fun v5 => [(3, .int v5), (0, .ref (x_b X + x0)), (2, .int x2)]) (c := 1) hX hL 2 rfl dX12_channels_184 rfl (by decide) (fun _ => rfl) (fun v5 => ?_)
  refine ww_goto (tgt := 155) hX dX12_channels_187 (by decide) ?_
  exact ww_sub [1, 2, 0] rfl (h_155 x0 x2 v5  st)
def b_X12_channels_155_b (fu : Nat) (k_155 : Nat → Int32 → Int32 → St → Option (St)) (x0 : Nat) (x2 : Int32) (x3 : Int32)  (st : St) : Option (St) :=
  if 64 < x3 then (
  some st)
  else (
  ck (¬ gR st x0 39 = 0) <|
  ck ((kd x0).1 = 12) <|
  bd (gR st x0 39) fun o4 =>
  ck ((kd o4).1 = 102 ∧ inb x3 (kd o4).2) <|
  if (gI st o4 (ix x3)) = 0 then (
  b_X12_channels_184 fu k_155 x0 x2 x3  st)
  else (
  ck (¬ gR st x0 37 = 0) <|
  ck ((kd x0).1 = 12) <|
  bd (gR st x0 37) fun o6 =>
  ck (isb 1) <|
  ck ((kd o6).1 = 102 ∧ inb x3 (kd o6).2) <|
  bd (sI st o6 (ix x3) 1) fun s7 =>
  ck (¬ gR s7 x0 36 = 0) <|
  ck ((kd x0).1 = 12) <|
  bd (gR s7 x0 36) fun o8 =>
  ck ((kd o8).1 = 100 ∧ inb x3 (kd o8).2) <|
  bd (sI s7 o8 (ix x3) x2) fun s9 =>
  b_X12_channels_184 fu k_155 x0 x2 x3  s9))
set_option maxHeartbeats 4000000 in
set_option maxRecDepth 100000 in
theorem t_X12_channels_155_b {X : CX} {res : St} (B : BV X cX12_channels RX12 5 9 NN none res) (fu : Nat) (k_155 : Nat → Int32 → Int32 → St → Option (St)) (h_155 : ∀ (x0 : Nat) (x2 : Int32) (x3 : Int32)  (st : St), WW X res NN 155 [(0, .ref (x_b X + x0)), (2, .int x2), (3, .int x3)] [] st (k_155 x0 x2 x3 st)) (x0 : Nat) (x2 : Int32) (x3 : Int32)  (st : St) : WW X res NN 155 [(0, .ref (x_b X + x0)), (2, .int x2), (3, .int x3)] [] st (b_X12_channels_155_b fu k_155 x0 x2 x3 st) := by
  have hX := B.1
  have hL := B.2.1
  unfold b_X12_channels_155_b
  refine ww_iload_n hX 2 rfl dX12_channels_155 rfl ?_
  refine ww_bipush (v := 64) hX rfl dX12_channels_156 ?_
  refine ww_icmp_gt (tgt := 190) hX dX12_channels_158 (by decide) ?_ ?_
  · exact ww_vret B dX12_channels_190
  · refine ww_aload_n hX 0 rfl dX12_channels_161 rfl ?_
    refine ww_getR hX f_X12_106 (Or.inr ⟨_, rfl⟩) dX12_channels_162 ?_
    refine ww_bdR (fun o4 => ?_)
    refine ww_iload_n hX 2 rfl dX12_channels_165 rfl ?_
    refine ww_zaldc hX k_zald dX12_channels_166 ?_
    refine ww_if_eq (tgt := 184) hX dX12_channels_167 (by decide) ?_ ?_
    · exact t_X12_channels_184 B fu k_155 h_155 x0 x2 x3  st
    · refine ww_aload_n hX 0 rfl dX12_channels_170 rfl ?_
      refine ww_getR hX f_X12_102 (Or.inr ⟨_, rfl⟩) dX12_channels_171 ?_
      refine ww_bdR (fun o6 => ?_)
      refine ww_iload_n hX 2 rfl dX12_channels_174 rfl ?_
      refine ww_iconst (v := 1) hX rfl dX12_channels_175 ?_
      refine ww_zastc hX k_zast dX12_channels_176 ?_
      refine ww_bds (fun s7 => ?_)
      refine ww_aload_n hX 0 rfl dX12_channels_177 rfl ?_
      refine ww_getR hX f_X12_99 (Or.inr ⟨_, rfl⟩) dX12_channels_178 ?_
      refine ww_bdR (fun o8 => ?_)
      refine ww_pc (b := 181) rfl ?_
      refine ww_iload_n hX 2 rfl dX12_channels_181 rfl ?_
      refine ww_iload_n hX 1 rfl dX12_channels_182 rfl ?_
      refine ww_iastc hX k_iast dX12_channels_183 ?_
      refine ww_bds (fun s9 => ?_)
      exact t_X12_channels_184 B fu k_155 h_155 x0 x2 x3  s9
def b_X12_channels_155 (fu : Nat) : Nat → Nat → Int32 → Int32 → St → Option (St)
  | 0, _, _, _, _ => none
  | i + 1, x0, x2, x3, st => b_X12_channels_155_b fu (b_X12_channels_155 fu i) x0 x2 x3 st
theorem t_X12_channels_155 {X : CX} {res : St} (B : BV X cX12_channels RX12 5 9 NN none res) (fu : Nat) : ∀ (i : Nat) (x0 : Nat) (x2 : Int32) (x3 : Int32)  (st : St), WW X res NN 155 [(0, .ref (x_b X + x0)), (2, .int x2), (3, .int x3)] [] st (b_X12_channels_155 fu i x0 x2 x3 st) := by
  intro i
  induction i with
  | zero => intro x0 x2 x3 st; exact ww_none
  | succ i ih => intro x0 x2 x3 st; exact t_X12_channels_155_b B fu (b_X12_channels_155 fu i) ih x0 x2 x3 st
def b_X12_channels_137 (fu : Nat) (x0 : Nat)  (st : St) : Option (St) :=
  ck ((kd x0).1 = 12) <|
  cv (f_X12_needWord fu x0 15 st) fun s1 =>
  ck ((kd x0).1 = 12) <|
  ca (f_X12_number fu x0 0 255 s1) fun r2 s3 =>
  b_X12_channels_155 fu fu x0 r2 1  s3
set_option maxHeartbeats 4000000 in
set_option maxRecDepth 100000 in
theorem t_X12_channels_137 {X : CX} {res : St} (B : BV X cX12_channels RX12 5 9 NN none res) (fu : Nat) (x0 : Nat)  (st : St) : WW X res NN 137 [(0, .ref (x_b X + x0))] [] st (b_X12_channels_137 fu x0 st) := by
  have hX := B.1
  have hL := B.2.1
  unfold b_X12_channels_137
  refine ww_aload_n hX 0 rfl dX12_channels_137 rfl ?_
  refine ww_ldcwS (q := 33) hX rfl dX12_channels_138 ?_
  refine ww_callVV (As := [.ref ((x_K X).1 15)]) (rest := []) (o := x0) hX (Rk.of B.2.2.1 B.2.2.2.1 (by decide) (by decide)) g_X12_437 g_X12_437.in (fun _ => c_X12_needWord (x_G X) (x_l X) fu x0 15 st) rfl rfl (Nat.le_of_ble_eq_true rfl) dX12_channels_141 (fun s1 => ?_)
  refine ww_aload_n hX 0 rfl dX12_channels_144 rfl ?_
  refine ww_iconst (v := 0) hX rfl dX12_channels_145 ?_
  refine ww_sipush (v := 255) hX rfl dX12_channels_146 ?_
  refine ww_callVI (As := [.int 0, .int 255]) (rest := []) (o := x0) hX (Rk.of B.2.2.1 B.2.2.2.1 (by decide) (by decide)) g_X12_415 g_X12_415.in (fun _ => c_X12_number (x_G X) (x_l X) fu x0 0 255 s1) rfl rfl (Nat.le_of_ble_eq_true rfl) dX12_channels_149 (fun r2 s3 => ?_)
  refine ww_pc (b := 152) rfl ?_
  refine ww_istore_n (lv' := [(2, .int r2), (0, .ref (x_b X + x0))]) hX hL dX12_channels_152 rfl (by decide) rfl ?_
  refine ww_iconst (v := 1) hX rfl dX12_channels_153 ?_
  refine ww_istore_n (lv' := [(3, .int 1), (2, .int r2), (0, .ref (x_b X + x0))]) hX hL dX12_channels_154 rfl (by decide) rfl ?_
  exact ww_sub [2, 1, 0] rfl (t_X12_channels_155 B fu fu x0 r2 1  s3)
def b_X12_channels_127 (fu : Nat) (k_23 : Nat → Int32 → St → Option (St)) (x0 : Nat)  (st : St) : Option (St) :=
  ck ((kd x0).1 = 12) <|
  ca (f_X12_takeSign fu x0 44 st) fun r14 s15 =>
  k_23 x0 r14  s15
set_option maxHeartbeats 4000000 in
set_option maxRecDepth 100000 in
theorem t_X12_channels_127 {X : CX} {res : St} (B : BV X cX12_channels RX12 5 9 NN none res) (fu : Nat) (k_23 : Nat → Int32 → St → Option (St)) (h_23 : ∀ (x0 : Nat) (x1 : Int32)  (st : St), WW X res NN 23 [(0, .ref (x_b X + x0)), (1, .int x1)] [] st (k_23 x0 x1 st)) (x0 : Nat)  (st : St) : WW X res NN 127 [(0, .ref (x_b X + x0))] [] st (b_X12_channels_127 fu k_23 x0 st) := by
  have hX := B.1
  have hL := B.2.1
  unfold b_X12_channels_127
  refine ww_aload_n hX 0 rfl dX12_channels_127 rfl ?_
  refine ww_bipush (v := 44) hX rfl dX12_channels_128 ?_
  refine ww_callVI (As := [.int 44]) (rest := []) (o := x0) hX (Rk.of B.2.2.1 B.2.2.2.1 (by decide) (by decide)) g_X12_412 g_X12_412.in (fun _ => c_X12_takeSign (x_G X) (x_l X) fu x0 44 st) rfl rfl (Nat.le_of_ble_eq_true rfl) dX12_channels_130 (fun r14 s15 => ?_)
  refine ww_istore_n (lv' := [(1, .int r14), (0, .ref (x_b X + x0))]) hX hL dX12_channels_133 rfl (by decide) rfl ?_
  refine ww_goto (tgt := 23) hX dX12_channels_134 (by decide) ?_
  exact ww_sub [1, 0] rfl (h_23 x0 r14  s15)
def b_X12_channels_94_b (fu : Nat) (k_23 : Nat → Int32 → St → Option (St)) (k_94 : Nat → Int32 → Int32 → St → Option (St)) (x0 : Nat) (x3 : Int32) (x4 : Int32)  (st : St) : Option (St) :=
  if x3 < x4 then (
  b_X12_channels_127 fu k_23 x0  st)
  else (
  if x4 < 1 then (
  b_X12_channels_127 fu k_23 x0  st)
  else (
  if 64 < x4 then (
  b_X12_channels_127 fu k_23 x0  st)
  else (
  ck (¬ gR st x0 39 = 0) <|
  ck ((kd x0).1 = 12) <|
  bd (gR st x0 39) fun o16 =>
  ck (isb 1) <|
  ck ((kd o16).1 = 102 ∧ inb x4 (kd o16).2) <|
  bd (sI st o16 (ix x4) 1) fun s17 =>
  bd (x4 + 1) fun v18 =>
  k_94 x0 x3 v18  s17)))
set_option maxHeartbeats 4000000 in
set_option maxRecDepth 100000 in
theorem t_X12_channels_94_b {X : CX} {res : St} (B : BV X cX12_channels RX12 5 9 NN none res) (fu : Nat) (k_23 : Nat → Int32 → St → Option (St)) (k_94 : Nat → Int32 → Int32 → St → Option (St)) (h_23 : ∀ (x0 : Nat) (x1 : Int32)  (st : St), WW X res NN 23 [(0, .ref (x_b X + x0)), (1, .int x1)] [] st (k_23 x0 x1 st)) (h_94 : ∀ (x0 : Nat) (x3 : Int32) (x4 : Int32)  (st : St), WW X res NN 94 [(0, .ref (x_b X + x0)), (3, .int x3), (4, .int x4)] [] st (k_94 x0 x3 x4 st)) (x0 : Nat) (x3 : Int32) (x4 : Int32)  (st : St) : WW X res NN 94 [(0, .ref (x_b X + x0)), (3, .int x3), (4, .int x4)] [] st (b_X12_channels_94_b fu k_23 k_94 x0 x3 x4 st) := by
  have hX := B.1
  have hL := B.2.1
  unfold b_X12_channels_94_b
  refine ww_iload hX 2 rfl dX12_channels_94 ?_
  refine ww_iload_n hX 1 rfl dX12_channels_96 rfl ?_
  refine ww_icmp_gt (tgt := 127) hX dX12_channels_97 (by decide) ?_ ?_
  · exact ww_sub [0] rfl (t_X12_channels_127 B fu k_23 h_23 x0  st)
  · refine ww_iload hX 2 rfl dX12_channels_100 ?_
    refine ww_iconst (v := 1) hX rfl dX12_channels_102 ?_
    refine ww_icmp_lt (tgt := 127) hX dX12_channels_103 (by decide) ?_ ?_
    · exact ww_sub [0] rfl (t_X12_channels_127 B fu k_23 h_23 x0  st)
    · refine ww_iload hX 2 rfl dX12_channels_106 ?_
      refine ww_bipush (v := 64) hX rfl dX12_channels_108 ?_
      refine ww_icmp_gt (tgt := 127) hX dX12_channels_110 (by decide) ?_ ?_
      · exact ww_sub [0] rfl (t_X12_channels_127 B fu k_23 h_23 x0  st)
      · refine ww_aload_n hX 0 rfl dX12_channels_113 rfl ?_
        refine ww_getR hX f_X12_106 (Or.inr ⟨_, rfl⟩) dX12_channels_114 ?_
        refine ww_bdR (fun o16 => ?_)
        refine ww_iload hX 2 rfl dX12_channels_117 ?_
        refine ww_iconst (v := 1) hX rfl dX12_channels_119 ?_
        refine ww_zastc hX k_zast dX12_channels_120 ?_
        refine ww_bds (fun s17 => ?_)
        refine ww_iincb (lv' := fun v18 => [(4, .int v18), (0, .ref (x_b X + x0)), (3, .int x3)]) (c := 1) hX hL 2 rfl dX12_channels_121 rfl (by decide) (fun _ => rfl) (fun v18 => ?_)
        refine ww_goto (tgt := 94) hX dX12_channels_124 (by decide) ?_
        exact ww_sub [1, 2, 0] rfl (h_94 x0 x3 v18  s17)
def b_X12_channels_94 (fu : Nat) (k_23 : Nat → Int32 → St → Option (St)) : Nat → Nat → Int32 → Int32 → St → Option (St)
  | 0, _, _, _, _ => none
  | i + 1, x0, x3, x4, st => b_X12_channels_94_b fu k_23 (b_X12_channels_94 fu k_23 i) x0 x3 x4 st
theorem t_X12_channels_94 {X : CX} {res : St} (B : BV X cX12_channels RX12 5 9 NN none res) (fu : Nat) (k_23 : Nat → Int32 → St → Option (St)) (h_23 : ∀ (x0 : Nat) (x1 : Int32)  (st : St), WW X res NN 23 [(0, .ref (x_b X + x0)), (1, .int x1)] [] st (k_23 x0 x1 st)) : ∀ (i : Nat) (x0 : Nat) (x3 : Int32) (x4 : Int32)  (st : St), WW X res NN 94 [(0, .ref (x_b X + x0)), (3, .int x3), (4, .int x4)] [] st (b_X12_channels_94 fu k_23 i x0 x3 x4 st) := by
  intro i
  induction i with
  | zero => intro x0 x3 x4 st; exact ww_none
  | succ i ih => intro x0 x3 x4 st; exact t_X12_channels_94_b B fu k_23 (b_X12_channels_94 fu k_23 i) h_23 ih x0 x3 x4 st
def b_X12_channels_91 (fu : Nat) (k_23 : Nat → Int32 → St → Option (St)) (x0 : Nat) (x2 : Int32) (x3 : Int32)  (st : St) : Option (St) :=
  b_X12_channels_94 fu k_23 fu x0 x3 x2  st
set_option maxHeartbeats 4000000 in
set_option maxRecDepth 100000 in
theorem t_X12_channels_91 {X : CX} {res : St} (B : BV X cX12_channels RX12 5 9 NN none res) (fu : Nat) (k_23 : Nat → Int32 → St → Option (St)) (h_23 : ∀ (x0 : Nat) (x1 : Int32)  (st : St), WW X res NN 23 [(0, .ref (x_b X + x0)), (1, .int x1)] [] st (k_23 x0 x1 st)) (x0 : Nat) (x2 : Int32) (x3 : Int32)  (st : St) : WW X res NN 91 [(0, .ref (x_b X + x0)), (2, .int x2), (3, .int x3)] [] st (b_X12_channels_91 fu k_23 x0 x2 x3 st) := by
  have hX := B.1
  have hL := B.2.1
  unfold b_X12_channels_91
  refine ww_iload_n hX 1 rfl dX12_channels_91 rfl ?_
  refine ww_istore (lv' := [(4, .int x2), (0, .ref (x_b X + x0)), (2, .int x2), (3, .int x3)]) hX hL dX12_channels_92 (by decide) rfl ?_
  exact ww_sub [1, 3, 0] rfl (t_X12_channels_94 B fu k_23 h_23 fu x0 x3 x2  st)
def b_X12_channels_23_b (fu : Nat) (k_23 : Nat → Int32 → St → Option (St)) (x0 : Nat) (x1 : Int32)  (st : St) : Option (St) :=
  if x1 = 0 then (
  b_X12_channels_137 fu x0  st)
  else (
  ck ((kd x0).1 = 12) <|
  if (gI st x0 8) = 0 then (
  ck ((kd x0).1 = 12) <|
  ca (f_X12_number fu x0 1 64 st) fun r10 s11 =>
  ck ((kd x0).1 = 12) <|
  ca (f_X12_takeSign fu x0 45 s11) fun r12 s13 =>
  if r12 = 0 then (
  b_X12_channels_91 fu k_23 x0 r10 r10  s13)
  else (
  ck (¬ gR s13 x0 4 = 0) <|
  ck ((kd x0).1 = 12) <|
  bd (gR s13 x0 4) fun o19 =>
  ck ((kd x0).1 = 12) <|
  ck ((kd o19).1 = 100 ∧ inb (gI s13 x0 5) (kd o19).2) <|
  bd (gI s13 o19 (ix (gI s13 x0 5))) fun v20 =>
  ck ((kd x0).1 = 12) <|
  ca (f_X12_number fu x0 1 64 s13) fun r21 s22 =>
  ck ((kd x0).1 = 12) <|
  if (gI s22 x0 8) = 0 then (
  if r10 ≤ r21 then (
  b_X12_channels_91 fu k_23 x0 r10 r21  s22)
  else (
  ck ((kd x0).1 = 12) <|
  cv (f_X12_tell fu x0 2 v20 s22) fun s23 =>
  b_X12_channels_91 fu k_23 x0 r10 r21  s23))
  else (
  b_X12_channels_91 fu k_23 x0 r10 r21  s22)))
  else (
  b_X12_channels_137 fu x0  st))
set_option maxHeartbeats 4000000 in
set_option maxRecDepth 100000 in
theorem t_X12_channels_23_b {X : CX} {res : St} (B : BV X cX12_channels RX12 5 9 NN none res) (fu : Nat) (k_23 : Nat → Int32 → St → Option (St)) (h_23 : ∀ (x0 : Nat) (x1 : Int32)  (st : St), WW X res NN 23 [(0, .ref (x_b X + x0)), (1, .int x1)] [] st (k_23 x0 x1 st)) (x0 : Nat) (x1 : Int32)  (st : St) : WW X res NN 23 [(0, .ref (x_b X + x0)), (1, .int x1)] [] st (b_X12_channels_23_b fu k_23 x0 x1 st) := by
  have hX := B.1
  have hL := B.2.1
  unfold b_X12_channels_23_b
  refine ww_iload_n hX 1 rfl dX12_channels_23 rfl ?_
  refine ww_if_eq (tgt := 137) hX dX12_channels_24 (by decide) ?_ ?_
  · exact ww_sub [0] rfl (t_X12_channels_137 B fu x0  st)
  · refine ww_aload_n hX 0 rfl dX12_channels_27 rfl ?_
    refine ww_getI hX f_X12_390 (Or.inr rfl) dX12_channels_28 ?_
    refine ww_if_ne (tgt := 137) hX dX12_channels_31 (by decide) ?_ ?_
    · exact ww_sub [0] rfl (t_X12_channels_137 B fu x0  st)
    · refine ww_aload_n hX 0 rfl dX12_channels_34 rfl ?_
      refine ww_iconst (v := 1) hX rfl dX12_channels_35 ?_
      refine ww_bipush (v := 64) hX rfl dX12_channels_36 ?_
      refine ww_callVI (As := [.int 1, .int 64]) (rest := []) (o := x0) hX (Rk.of B.2.2.1 B.2.2.2.1 (by decide) (by decide)) g_X12_415 g_X12_415.in (fun _ => c_X12_number (x_G X) (x_l X) fu x0 1 64 st) rfl rfl (Nat.le_of_ble_eq_true rfl) dX12_channels_38 (fun r10 s11 => ?_)
      refine ww_istore_n (lv' := [(2, .int r10), (0, .ref (x_b X + x0)), (1, .int x1)]) hX hL dX12_channels_41 rfl (by decide) rfl ?_
      refine ww_iload_n hX 0 rfl dX12_channels_42 rfl ?_
      refine ww_istore_n (lv' := [(3, .int r10), (2, .int r10), (0, .ref (x_b X + x0)), (1, .int x1)]) hX hL dX12_channels_43 rfl (by decide) rfl ?_
      refine ww_pc (b := 44) rfl ?_
      refine ww_aload_n hX 2 rfl dX12_channels_44 rfl ?_
      refine ww_bipush (v := 45) hX rfl dX12_channels_45 ?_
      refine ww_callVI (As := [.int 45]) (rest := []) (o := x0) hX (Rk.of B.2.2.1 B.2.2.2.1 (by decide) (by decide)) g_X12_412 g_X12_412.in (fun _ => c_X12_takeSign (x_G X) (x_l X) fu x0 45 s11) rfl rfl (Nat.le_of_ble_eq_true rfl) dX12_channels_47 (fun r12 s13 => ?_)
      refine ww_if_eq (tgt := 91) hX dX12_channels_50 (by decide) ?_ ?_
      · exact ww_sub [2, 1, 0] rfl (t_X12_channels_91 B fu k_23 h_23 x0 r10 r10  s13)
      · refine ww_aload_n hX 2 rfl dX12_channels_53 rfl ?_
        refine ww_getR hX f_X12_21 (Or.inr ⟨_, rfl⟩) dX12_channels_54 ?_
        refine ww_bdR (fun o19 => ?_)
        refine ww_aload_n hX 2 rfl dX12_channels_57 rfl ?_
        refine ww_getI hX f_X12_381 (Or.inl rfl) dX12_channels_58 ?_
        refine ww_ialdc hX k_iald dX12_channels_61 ?_
        refine ww_bdi (fun v20 => ?_)
        refine ww_istore (lv' := [(4, .int v20), (3, .int r10), (2, .int r10), (0, .ref (x_b X + x0)), (1, .int x1)]) hX hL dX12_channels_62 (by decide) rfl ?_
        refine ww_aload_n hX 3 rfl dX12_channels_64 rfl ?_
        refine ww_pc (b := 65) rfl ?_
        refine ww_iconst (v := 1) hX rfl dX12_channels_65 ?_
        refine ww_bipush (v := 64) hX rfl dX12_channels_66 ?_
        refine ww_callVI (As := [.int 1, .int 64]) (rest := []) (o := x0) hX (Rk.of B.2.2.1 B.2.2.2.1 (by decide) (by decide)) g_X12_415 g_X12_415.in (fun _ => c_X12_number (x_G X) (x_l X) fu x0 1 64 s13) rfl rfl (Nat.le_of_ble_eq_true rfl) dX12_channels_68 (fun r21 s22 => ?_)
        refine ww_istore_n (lv' := [(3, .int r21), (4, .int v20), (2, .int r10), (0, .ref (x_b X + x0)), (1, .int x1)]) hX hL dX12_channels_71 rfl (by decide) rfl ?_
        refine ww_aload_n hX 3 rfl dX12_channels_72 rfl ?_
        refine ww_getI hX f_X12_390 (Or.inr rfl) dX12_channels_73 ?_
        refine ww_if_ne (tgt := 91) hX dX12_channels_76 (by decide) ?_ ?_
        · exact ww_sub [3, 2, 0] rfl (t_X12_channels_91 B fu k_23 h_23 x0 r10 r21  s22)
        · refine ww_iload_n hX 0 rfl dX12_channels_79 rfl ?_
          refine ww_iload_n hX 2 rfl dX12_channels_80 rfl ?_
          refine ww_icmp_ge (tgt := 91) hX dX12_channels_81 (by decide) ?_ ?_
          · exact ww_sub [3, 2, 0] rfl (t_X12_channels_91 B fu k_23 h_23 x0 r10 r21  s22)
          · refine ww_aload_n hX 3 rfl dX12_channels_84 rfl ?_
            refine ww_iconst (v := 2) hX rfl dX12_channels_85 ?_
            refine ww_iload hX 1 rfl dX12_channels_86 ?_
            refine ww_callVV (As := [.int 2, .int v20]) (rest := []) (o := x0) hX (Rk.of B.2.2.1 B.2.2.2.1 (by decide) (by decide)) g_X12_394 g_X12_394.in (fun _ => c_X12_tell (x_G X) (x_l X) fu x0 2 v20 s22) rfl rfl (Nat.le_of_ble_eq_true rfl) dX12_channels_88 (fun s23 => ?_)
            exact ww_sub [3, 2, 0] rfl (t_X12_channels_91 B fu k_23 h_23 x0 r10 r21  s23)
def b_X12_channels_23 (fu : Nat) : Nat → Nat → Int32 → St → Option (St)
  | 0, _, _, _ => none
  | i + 1, x0, x1, st => b_X12_channels_23_b fu (b_X12_channels_23 fu i) x0 x1 st
theorem t_X12_channels_23 {X : CX} {res : St} (B : BV X cX12_channels RX12 5 9 NN none res) (fu : Nat) : ∀ (i : Nat) (x0 : Nat) (x1 : Int32)  (st : St), WW X res NN 23 [(0, .ref (x_b X + x0)), (1, .int x1)] [] st (b_X12_channels_23 fu i x0 x1 st) := by
  intro i
  induction i with
  | zero => intro x0 x1 st; exact ww_none
  | succ i ih => intro x0 x1 st; exact t_X12_channels_23_b B fu (b_X12_channels_23 fu i) ih x0 x1 st
def b_X12_channels_2_b (fu : Nat) (k_2 : Nat → Int32 → St → Option (St)) (x0 : Nat) (x1 : Int32)  (st : St) : Option (St) :=
  if 65 ≤ x1 then (
  b_X12_channels_23 fu fu x0 1  st)
  else (
  ck (¬ gR st x0 39 = 0) <|
  ck ((kd x0).1 = 12) <|
  bd (gR st x0 39) fun o24 =>
  ck (isb 0) <|
  ck ((kd o24).1 = 102 ∧ inb x1 (kd o24).2) <|
  bd (sI st o24 (ix x1) 0) fun s25 =>
  bd (x1 + 1) fun v26 =>
  k_2 x0 v26  s25)
set_option maxHeartbeats 4000000 in
set_option maxRecDepth 100000 in
theorem t_X12_channels_2_b {X : CX} {res : St} (B : BV X cX12_channels RX12 5 9 NN none res) (fu : Nat) (k_2 : Nat → Int32 → St → Option (St)) (h_2 : ∀ (x0 : Nat) (x1 : Int32)  (st : St), WW X res NN 2 [(0, .ref (x_b X + x0)), (1, .int x1)] [] st (k_2 x0 x1 st)) (x0 : Nat) (x1 : Int32)  (st : St) : WW X res NN 2 [(0, .ref (x_b X + x0)), (1, .int x1)] [] st (b_X12_channels_2_b fu k_2 x0 x1 st) := by
  have hX := B.1
  have hL := B.2.1
  unfold b_X12_channels_2_b
  refine ww_iload_n hX 1 rfl dX12_channels_2 rfl ?_
  refine ww_bipush (v := 65) hX rfl dX12_channels_3 ?_
  refine ww_icmp_ge (tgt := 21) hX dX12_channels_5 (by decide) ?_ ?_
  · refine ww_iconst (v := 1) hX rfl dX12_channels_21 ?_
    refine ww_istore_n (lv' := [(1, .int 1), (0, .ref (x_b X + x0))]) hX hL dX12_channels_22 rfl (by decide) rfl ?_
    exact ww_sub [1, 0] rfl (t_X12_channels_23 B fu fu x0 1  st)
  · refine ww_aload_n hX 0 rfl dX12_channels_8 rfl ?_
    refine ww_getR hX f_X12_106 (Or.inr ⟨_, rfl⟩) dX12_channels_9 ?_
    refine ww_bdR (fun o24 => ?_)
    refine ww_iload_n hX 1 rfl dX12_channels_12 rfl ?_
    refine ww_iconst (v := 0) hX rfl dX12_channels_13 ?_
    refine ww_zastc hX k_zast dX12_channels_14 ?_
    refine ww_bds (fun s25 => ?_)
    refine ww_iincb (lv' := fun v26 => [(1, .int v26), (0, .ref (x_b X + x0))]) (c := 1) hX hL 1 rfl dX12_channels_15 rfl (by decide) (fun _ => rfl) (fun v26 => ?_)
    refine ww_goto (tgt := 2) hX dX12_channels_18 (by decide) ?_
    exact ww_sub [1, 0] rfl (h_2 x0 v26  s25)
def b_X12_channels_2 (fu : Nat) : Nat → Nat → Int32 → St → Option (St)
  | 0, _, _, _ => none
  | i + 1, x0, x1, st => b_X12_channels_2_b fu (b_X12_channels_2 fu i) x0 x1 st
theorem t_X12_channels_2 {X : CX} {res : St} (B : BV X cX12_channels RX12 5 9 NN none res) (fu : Nat) : ∀ (i : Nat) (x0 : Nat) (x1 : Int32)  (st : St), WW X res NN 2 [(0, .ref (x_b X + x0)), (1, .int x1)] [] st (b_X12_channels_2 fu i x0 x1 st) := by
  intro i
  induction i with
  | zero => intro x0 x1 st; exact ww_none
  | succ i ih => intro x0 x1 st; exact t_X12_channels_2_b B fu (b_X12_channels_2 fu i) ih x0 x1 st
def f_X12_channels (fu : Nat) (th : Nat) (st : St) : Option (St) :=
  b_X12_channels_2 fu fu th 0  st
set_option maxHeartbeats 4000000 in
set_option maxRecDepth 100000 in
theorem t_X12_channels {X : CX} {res : St} (B : BV X cX12_channels RX12 5 9 NN none res) (fu : Nat) (th : Nat) (st : St) : WW X res NN 0 [(0, .ref (x_b X + th))] [] st (f_X12_channels fu th st) := by
  have hX := B.1
  have hL := B.2.1
  unfold f_X12_channels
  refine ww_iconst (v := 0) hX rfl dX12_channels_0 ?_
  refine ww_istore_n (lv' := [(1, .int 0), (0, .ref (x_b X + th))]) hX hL dX12_channels_1 rfl (by decide) rfl ?_
  exact ww_sub [1, 0] rfl (t_X12_channels_2 B fu fu th 0  st)
theorem c_X12_channels (G : GX) (l : Launch) (fu : Nat) (th : Nat) (st : St) : MV G NN l yX12_channels cX12_channels 5 none 9 [.ref (G.2.2.1 + th)] st (f_X12_channels fu th st) := mkV (by decide) (Nat.le_of_ble_eq_true rfl) (fun X res hl hG B => by subst hl; subst hG; exact t_X12_channels B fu th st)
/-! StageHouseModel.act(I)V -/
def b_X12_act_201 (fu : Nat) (x0 : Nat) (x1 : Int32) (x2 : Int32) (x3 : Int32) (x4 : Int32) (x5 : Int32)  (st : St) : Option (St) :=
  ck ((kd x0).1 = 12) <|
  if (gI st x0 35) = 300 then (
  ck ((kd x0).1 = 12) <|
  cv (f_X12_tell fu x0 2 x2 st) fun s30 =>
  some s30)
  else (
  ck (¬ gR st x0 31 = 0) <|
  ck ((kd x0).1 = 12) <|
  bd (gR st x0 31) fun o21 =>
  ck ((kd x0).1 = 12) <|
  ck ((kd o21).1 = 100 ∧ inb (gI st x0 35) (kd o21).2) <|
  bd (sI st o21 (ix (gI st x0 35)) x3) fun s22 =>
  ck (¬ gR s22 x0 32 = 0) <|
  ck ((kd x0).1 = 12) <|
  bd (gR s22 x0 32) fun o23 =>
  ck ((kd x0).1 = 12) <|
  ck ((kd o23).1 = 100 ∧ inb (gI s22 x0 35) (kd o23).2) <|
  bd (sI s22 o23 (ix (gI s22 x0 35)) x4) fun s24 =>
  ck (¬ gR s24 x0 33 = 0) <|
  ck ((kd x0).1 = 12) <|
  bd (gR s24 x0 33) fun o25 =>
  ck ((kd x0).1 = 12) <|
  ck ((kd o25).1 = 100 ∧ inb (gI s24 x0 35) (kd o25).2) <|
  bd (sI s24 o25 (ix (gI s24 x0 35)) x5) fun s26 =>
  ck ((kd x0).1 = 12) <|
  ck ((kd x0).1 = 12) <|
  bd (sI s26 x0 35 ((gI s26 x0 35) + 1)) fun s27 =>
  ck (¬ gR s27 x0 28 = 0) <|
  ck ((kd x0).1 = 12) <|
  bd (gR s27 x0 28) fun o28 =>
  ck ((kd o28).1 = 100 ∧ inb x1 (kd o28).2) <|
  ck ((kd o28).1 = 100 ∧ inb x1 (kd o28).2) <|
  bd (sI s27 o28 (ix x1) ((gI s27 o28 (ix x1)) + 1)) fun s29 =>
  some s29)
set_option maxHeartbeats 4000000 in
set_option maxRecDepth 100000 in
theorem t_X12_act_201 {X : CX} {res : St} (B : BV X cX12_act RX12 6 10 NN none res) (fu : Nat) (x0 : Nat) (x1 : Int32) (x2 : Int32) (x3 : Int32) (x4 : Int32) (x5 : Int32)  (st : St) : WW X res NN 201 [(0, .ref (x_b X + x0)), (1, .int x1), (2, .int x2), (3, .int x3), (4, .int x4), (5, .int x5)] [] st (b_X12_act_201 fu x0 x1 x2 x3 x4 x5 st) := by
  have hX := B.1
  have hL := B.2.1
  unfold b_X12_act_201
  refine ww_aload_n hX 0 rfl dX12_act_201 rfl ?_
  refine ww_getI hX f_X12_432 (Or.inl rfl) dX12_act_202 ?_
  refine ww_sipush (v := 300) hX rfl dX12_act_205 ?_
  refine ww_icmp_ne (tgt := 218) hX dX12_act_208 (by decide) ?_ ?_
  · refine ww_aload_n hX 0 rfl dX12_act_218 rfl ?_
    refine ww_getR hX f_X12_90 (Or.inr ⟨_, rfl⟩) dX12_act_219 ?_
    refine ww_bdR (fun o21 => ?_)
    refine ww_aload_n hX 0 rfl dX12_act_222 rfl ?_
    refine ww_getI hX f_X12_432 (Or.inl rfl) dX12_act_223 ?_
    refine ww_iload_n hX 3 rfl dX12_act_226 rfl ?_
    refine ww_iastc hX k_iast dX12_act_227 ?_
    refine ww_bds (fun s22 => ?_)
    refine ww_aload_n hX 0 rfl dX12_act_228 rfl ?_
    refine ww_pc (b := 229) rfl ?_
    refine ww_getR hX f_X12_93 (Or.inr ⟨_, rfl⟩) dX12_act_229 ?_
    refine ww_bdR (fun o23 => ?_)
    refine ww_aload_n hX 0 rfl dX12_act_232 rfl ?_
    refine ww_getI hX f_X12_432 (Or.inl rfl) dX12_act_233 ?_
    refine ww_iload hX 4 rfl dX12_act_236 ?_
    refine ww_iastc hX k_iast dX12_act_238 ?_
    refine ww_bds (fun s24 => ?_)
    refine ww_aload_n hX 0 rfl dX12_act_239 rfl ?_
    refine ww_getR hX f_X12_96 (Or.inr ⟨_, rfl⟩) dX12_act_240 ?_
    refine ww_bdR (fun o25 => ?_)
    refine ww_aload_n hX 0 rfl dX12_act_243 rfl ?_
    refine ww_pc (b := 244) rfl ?_
    refine ww_getI hX f_X12_432 (Or.inl rfl) dX12_act_244 ?_
    refine ww_iload hX 5 rfl dX12_act_247 ?_
    refine ww_iastc hX k_iast dX12_act_249 ?_
    refine ww_bds (fun s26 => ?_)
    refine ww_aload_n hX 0 rfl dX12_act_250 rfl ?_
    refine ww_dup hX rfl dX12_act_251 ?_
    refine ww_getI hX f_X12_432 (Or.inl rfl) dX12_act_252 ?_
    refine ww_iconst (v := 1) hX rfl dX12_act_255 ?_
    refine ww_iadd hX dX12_act_256 ?_
    refine ww_pc (b := 257) rfl ?_
    refine ww_putI hX f_X12_432 rfl dX12_act_257 ?_
    refine ww_bds (fun s27 => ?_)
    refine ww_aload_n hX 0 rfl dX12_act_260 rfl ?_
    refine ww_getR hX f_X12_81 (Or.inr ⟨_, rfl⟩) dX12_act_261 ?_
    refine ww_bdR (fun o28 => ?_)
    refine ww_iload_n hX 1 rfl dX12_act_264 rfl ?_
    refine ww_dup2_11 hX rfl rfl dX12_act_265 ?_
    refine ww_ialdc hX k_iald dX12_act_266 ?_
    refine ww_iconst (v := 1) hX rfl dX12_act_267 ?_
    refine ww_iadd hX dX12_act_268 ?_
    refine ww_pc (b := 269) rfl ?_
    refine ww_iastc hX k_iast dX12_act_269 ?_
    refine ww_bds (fun s29 => ?_)
    exact ww_vret B dX12_act_270
  · refine ww_aload_n hX 0 rfl dX12_act_211 rfl ?_
    refine ww_iconst (v := 2) hX rfl dX12_act_212 ?_
    refine ww_iload_n hX 2 rfl dX12_act_213 rfl ?_
    refine ww_callVV (As := [.int 2, .int x2]) (rest := []) (o := x0) hX (Rk.of B.2.2.1 B.2.2.2.1 (by decide) (by decide)) g_X12_394 g_X12_394.in (fun _ => c_X12_tell (x_G X) (x_l X) fu x0 2 x2 st) rfl rfl (Nat.le_of_ble_eq_true rfl) dX12_act_214 (fun s30 => ?_)
    exact ww_vret B dX12_act_217
def f_X12_act (fu : Nat) (th : Nat) (p1 : Int32) (st : St) : Option (St) :=
  ck (¬ gR st th 4 = 0) <|
  ck ((kd th).1 = 12) <|
  bd (gR st th 4) fun o1 =>
  ck ((kd th).1 = 12) <|
  ck ((kd o1).1 = 100 ∧ inb (gI st th 5) (kd o1).2) <|
  bd (gI st o1 (ix (gI st th 5))) fun v2 =>
  ck ((kd th).1 = 12) <|
  ca (f_X12_takeWord fu th 8 st) fun r3 s4 =>
  if r3 = 0 then (
  ck ((kd th).1 = 12) <|
  ca (f_X12_takeWord fu th 9 s4) fun r5 s6 =>
  if r5 = 0 then (
  ck ((kd th).1 = 12) <|
  ca (f_X12_takeWord fu th 10 s6) fun r7 s8 =>
  if r7 = 0 then (
  ck ((kd th).1 = 12) <|
  ca (f_X12_takeWord fu th 11 s8) fun r9 s10 =>
  if r9 = 0 then (
  ck ((kd th).1 = 12) <|
  ca (f_X12_takeWord fu th 12 s10) fun r11 s12 =>
  if r11 = 0 then (
  ck ((kd th).1 = 12) <|
  ca (f_X12_takeWord fu th 13 s12) fun r13 s14 =>
  if r13 = 0 then (
  ck ((kd th).1 = 12) <|
  cv (f_X12_wrong fu th s14) fun s15 =>
  some s15)
  else (
  ck ((kd th).1 = 12) <|
  ca (f_X12_number fu th 0 3 s14) fun r16 s17 =>
  ck ((kd th).1 = 12) <|
  cv (f_X12_needWord fu th 15 s17) fun s18 =>
  ck ((kd th).1 = 12) <|
  ca (f_X12_number fu th 0 255 s18) fun r19 s20 =>
  b_X12_act_201 fu th p1 v2 5 r16 r19  s20))
  else (
  ck ((kd th).1 = 12) <|
  ca (f_X12_number fu th 0 3 s12) fun r31 s32 =>
  ck ((kd th).1 = 12) <|
  ca (f_X12_name fu th s32) fun r33 s34 =>
  b_X12_act_201 fu th p1 v2 4 r31 r33  s34))
  else (
  ck ((kd th).1 = 12) <|
  ca (f_X12_number fu th 0 15 s10) fun r35 s36 =>
  b_X12_act_201 fu th p1 v2 3 r35 0  s36))
  else (
  ck ((kd th).1 = 12) <|
  ca (f_X12_number fu th 0 7 s8) fun r37 s38 =>
  b_X12_act_201 fu th p1 v2 2 r37 0  s38))
  else (
  ck ((kd th).1 = 12) <|
  ca (f_X12_number fu th 0 7 s6) fun r39 s40 =>
  ck ((kd th).1 = 12) <|
  cv (f_X12_needWord fu th 14 s40) fun s41 =>
  ck ((kd th).1 = 12) <|
  ca (f_X12_number fu th 0 99999 s41) fun r42 s43 =>
  b_X12_act_201 fu th p1 v2 1 r39 r42  s43))
  else (
  ck ((kd th).1 = 12) <|
  cv (f_X12_channels fu th s4) fun s44 =>
  b_X12_act_201 fu th p1 v2 6 0 0  s44)
set_option maxHeartbeats 4000000 in
set_option maxRecDepth 100000 in
theorem t_X12_act {X : CX} {res : St} (B : BV X cX12_act RX12 6 10 NN none res) (fu : Nat) (th : Nat) (p1 : Int32) (st : St) : WW X res NN 0 [(0, .ref (x_b X + th)), (1, .int p1)] [] st (f_X12_act fu th p1 st) := by
  have hX := B.1
  have hL := B.2.1
  unfold f_X12_act
  refine ww_aload_n hX 0 rfl dX12_act_0 rfl ?_
  refine ww_getR hX f_X12_21 (Or.inr ⟨_, rfl⟩) dX12_act_1 ?_
  refine ww_bdR (fun o1 => ?_)
  refine ww_aload_n hX 0 rfl dX12_act_4 rfl ?_
  refine ww_getI hX f_X12_381 (Or.inl rfl) dX12_act_5 ?_
  refine ww_ialdc hX k_iald dX12_act_8 ?_
  refine ww_bdi (fun v2 => ?_)
  refine ww_istore_n (lv' := [(2, .int v2), (0, .ref (x_b X + th)), (1, .int p1)]) hX hL dX12_act_9 rfl (by decide) rfl ?_
  refine ww_iconst (v := 0) hX rfl dX12_act_10 ?_
  refine ww_pc (b := 11) rfl ?_
  refine ww_istore_n (lv' := [(3, .int 0), (2, .int v2), (0, .ref (x_b X + th)), (1, .int p1)]) hX hL dX12_act_11 rfl (by decide) rfl ?_
  refine ww_iconst (v := 0) hX rfl dX12_act_12 ?_
  refine ww_istore (lv' := [(4, .int 0), (3, .int 0), (2, .int v2), (0, .ref (x_b X + th)), (1, .int p1)]) hX hL dX12_act_13 (by decide) rfl ?_
  refine ww_iconst (v := 0) hX rfl dX12_act_15 ?_
  refine ww_istore (lv' := [(5, .int 0), (4, .int 0), (3, .int 0), (2, .int v2), (0, .ref (x_b X + th)), (1, .int p1)]) hX hL dX12_act_16 (by decide) rfl ?_
  refine ww_aload_n hX 4 rfl dX12_act_18 rfl ?_
  refine ww_ldcwS (q := 32) hX rfl dX12_act_19 ?_
  refine ww_callVI (As := [.ref ((x_K X).1 8)]) (rest := []) (o := th) hX (Rk.of B.2.2.1 B.2.2.2.1 (by decide) (by decide)) g_X12_406 g_X12_406.in (fun _ => c_X12_takeWord (x_G X) (x_l X) fu th 8 st) rfl rfl (Nat.le_of_ble_eq_true rfl) dX12_act_22 (fun r3 s4 => ?_)
  refine ww_pc (b := 25) rfl ?_
  refine ww_if_eq (tgt := 38) hX dX12_act_25 (by decide) ?_ ?_
  · refine ww_aload_n hX 4 rfl dX12_act_38 rfl ?_
    refine ww_ldcwS (q := 34) hX rfl dX12_act_39 ?_
    refine ww_callVI (As := [.ref ((x_K X).1 9)]) (rest := []) (o := th) hX (Rk.of B.2.2.1 B.2.2.2.1 (by decide) (by decide)) g_X12_406 g_X12_406.in (fun _ => c_X12_takeWord (x_G X) (x_l X) fu th 9 s4) rfl rfl (Nat.le_of_ble_eq_true rfl) dX12_act_42 (fun r5 s6 => ?_)
    refine ww_if_eq (tgt := 79) hX dX12_act_45 (by decide) ?_ ?_
    · refine ww_aload_n hX 4 rfl dX12_act_79 rfl ?_
      refine ww_ldcwS (q := 36) hX rfl dX12_act_80 ?_
      refine ww_callVI (As := [.ref ((x_K X).1 10)]) (rest := []) (o := th) hX (Rk.of B.2.2.1 B.2.2.2.1 (by decide) (by decide)) g_X12_406 g_X12_406.in (fun _ => c_X12_takeWord (x_G X) (x_l X) fu th 10 s6) rfl rfl (Nat.le_of_ble_eq_true rfl) dX12_act_83 (fun r7 s8 => ?_)
      refine ww_if_eq (tgt := 103) hX dX12_act_86 (by decide) ?_ ?_
      · refine ww_aload_n hX 4 rfl dX12_act_103 rfl ?_
        refine ww_ldcwS (q := 37) hX rfl dX12_act_104 ?_
        refine ww_callVI (As := [.ref ((x_K X).1 11)]) (rest := []) (o := th) hX (Rk.of B.2.2.1 B.2.2.2.1 (by decide) (by decide)) g_X12_406 g_X12_406.in (fun _ => c_X12_takeWord (x_G X) (x_l X) fu th 11 s8) rfl rfl (Nat.le_of_ble_eq_true rfl) dX12_act_107 (fun r9 s10 => ?_)
        refine ww_if_eq (tgt := 127) hX dX12_act_110 (by decide) ?_ ?_
        · refine ww_aload_n hX 4 rfl dX12_act_127 rfl ?_
          refine ww_ldcwS (q := 38) hX rfl dX12_act_128 ?_
          refine ww_callVI (As := [.ref ((x_K X).1 12)]) (rest := []) (o := th) hX (Rk.of B.2.2.1 B.2.2.2.1 (by decide) (by decide)) g_X12_406 g_X12_406.in (fun _ => c_X12_takeWord (x_G X) (x_l X) fu th 12 s10) rfl rfl (Nat.le_of_ble_eq_true rfl) dX12_act_131 (fun r11 s12 => ?_)
          refine ww_if_eq (tgt := 156) hX dX12_act_134 (by decide) ?_ ?_
          · refine ww_aload_n hX 4 rfl dX12_act_156 rfl ?_
            refine ww_ldcwS (q := 39) hX rfl dX12_act_157 ?_
            refine ww_callVI (As := [.ref ((x_K X).1 13)]) (rest := []) (o := th) hX (Rk.of B.2.2.1 B.2.2.2.1 (by decide) (by decide)) g_X12_406 g_X12_406.in (fun _ => c_X12_takeWord (x_G X) (x_l X) fu th 13 s12) rfl rfl (Nat.le_of_ble_eq_true rfl) dX12_act_160 (fun r13 s14 => ?_)
            refine ww_if_eq (tgt := 196) hX dX12_act_163 (by decide) ?_ ?_
            · refine ww_aload_n hX 4 rfl dX12_act_196 rfl ?_
              refine ww_callVV (As := []) (rest := []) (o := th) hX (Rk.of B.2.2.1 B.2.2.2.1 (by decide) (by decide)) g_X12_409 g_X12_409.in (fun _ => c_X12_wrong (x_G X) (x_l X) fu th s14) rfl rfl (Nat.le_of_ble_eq_true rfl) dX12_act_197 (fun s15 => ?_)
              exact ww_vret B dX12_act_200
            · refine ww_iconst (v := 5) hX rfl dX12_act_166 ?_
              refine ww_istore_n (lv' := [(3, .int 5), (5, .int 0), (4, .int 0), (2, .int v2), (0, .ref (x_b X + th)), (1, .int p1)]) hX hL dX12_act_167 rfl (by decide) rfl ?_
              refine ww_aload_n hX 4 rfl dX12_act_168 rfl ?_
              refine ww_iconst (v := 0) hX rfl dX12_act_169 ?_
              refine ww_iconst (v := 3) hX rfl dX12_act_170 ?_
              refine ww_callVI (As := [.int 0, .int 3]) (rest := []) (o := th) hX (Rk.of B.2.2.1 B.2.2.2.1 (by decide) (by decide)) g_X12_415 g_X12_415.in (fun _ => c_X12_number (x_G X) (x_l X) fu th 0 3 s14) rfl rfl (Nat.le_of_ble_eq_true rfl) dX12_act_171 (fun r16 s17 => ?_)
              refine ww_istore (lv' := [(4, .int r16), (3, .int 5), (5, .int 0), (2, .int v2), (0, .ref (x_b X + th)), (1, .int p1)]) hX hL dX12_act_174 (by decide) rfl ?_
              refine ww_pc (b := 176) rfl ?_
              refine ww_aload_n hX 4 rfl dX12_act_176 rfl ?_
              refine ww_ldcwS (q := 33) hX rfl dX12_act_177 ?_
              refine ww_callVV (As := [.ref ((x_K X).1 15)]) (rest := []) (o := th) hX (Rk.of B.2.2.1 B.2.2.2.1 (by decide) (by decide)) g_X12_437 g_X12_437.in (fun _ => c_X12_needWord (x_G X) (x_l X) fu th 15 s17) rfl rfl (Nat.le_of_ble_eq_true rfl) dX12_act_180 (fun s18 => ?_)
              refine ww_aload_n hX 4 rfl dX12_act_183 rfl ?_
              refine ww_iconst (v := 0) hX rfl dX12_act_184 ?_
              refine ww_sipush (v := 255) hX rfl dX12_act_185 ?_
              refine ww_callVI (As := [.int 0, .int 255]) (rest := []) (o := th) hX (Rk.of B.2.2.1 B.2.2.2.1 (by decide) (by decide)) g_X12_415 g_X12_415.in (fun _ => c_X12_number (x_G X) (x_l X) fu th 0 255 s18) rfl rfl (Nat.le_of_ble_eq_true rfl) dX12_act_188 (fun r19 s20 => ?_)
              refine ww_istore (lv' := [(5, .int r19), (4, .int r16), (3, .int 5), (2, .int v2), (0, .ref (x_b X + th)), (1, .int p1)]) hX hL dX12_act_191 (by decide) rfl ?_
              refine ww_pc (b := 193) rfl ?_
              refine ww_goto (tgt := 201) hX dX12_act_193 (by decide) ?_
              exact ww_sub [4, 5, 3, 2, 1, 0] rfl (t_X12_act_201 B fu th p1 v2 5 r16 r19  s20)
          · refine ww_iconst (v := 4) hX rfl dX12_act_137 ?_
            refine ww_istore_n (lv' := [(3, .int 4), (5, .int 0), (4, .int 0), (2, .int v2), (0, .ref (x_b X + th)), (1, .int p1)]) hX hL dX12_act_138 rfl (by decide) rfl ?_
            refine ww_aload_n hX 4 rfl dX12_act_139 rfl ?_
            refine ww_iconst (v := 0) hX rfl dX12_act_140 ?_
            refine ww_iconst (v := 3) hX rfl dX12_act_141 ?_
            refine ww_callVI (As := [.int 0, .int 3]) (rest := []) (o := th) hX (Rk.of B.2.2.1 B.2.2.2.1 (by decide) (by decide)) g_X12_415 g_X12_415.in (fun _ => c_X12_number (x_G X) (x_l X) fu th 0 3 s12) rfl rfl (Nat.le_of_ble_eq_true rfl) dX12_act_142 (fun r31 s32 => ?_)
            refine ww_istore (lv' := [(4, .int r31), (3, .int 4), (5, .int 0), (2, .int v2), (0, .ref (x_b X + th)), (1, .int p1)]) hX hL dX12_act_145 (by decide) rfl ?_
            refine ww_pc (b := 147) rfl ?_
            refine ww_aload_n hX 4 rfl dX12_act_147 rfl ?_
            refine ww_callVI (As := []) (rest := []) (o := th) hX (Rk.of B.2.2.1 B.2.2.2.1 (by decide) (by decide)) g_X12_446 g_X12_446.in (fun _ => c_X12_name (x_G X) (x_l X) fu th s32) rfl rfl (Nat.le_of_ble_eq_true rfl) dX12_act_148 (fun r33 s34 => ?_)
            refine ww_istore (lv' := [(5, .int r33), (4, .int r31), (3, .int 4), (2, .int v2), (0, .ref (x_b X + th)), (1, .int p1)]) hX hL dX12_act_151 (by decide) rfl ?_
            refine ww_goto (tgt := 201) hX dX12_act_153 (by decide) ?_
            exact ww_sub [4, 5, 3, 2, 1, 0] rfl (t_X12_act_201 B fu th p1 v2 4 r31 r33  s34)
        · refine ww_iconst (v := 3) hX rfl dX12_act_113 ?_
          refine ww_istore_n (lv' := [(3, .int 3), (5, .int 0), (4, .int 0), (2, .int v2), (0, .ref (x_b X + th)), (1, .int p1)]) hX hL dX12_act_114 rfl (by decide) rfl ?_
          refine ww_aload_n hX 4 rfl dX12_act_115 rfl ?_
          refine ww_iconst (v := 0) hX rfl dX12_act_116 ?_
          refine ww_bipush (v := 15) hX rfl dX12_act_117 ?_
          refine ww_callVI (As := [.int 0, .int 15]) (rest := []) (o := th) hX (Rk.of B.2.2.1 B.2.2.2.1 (by decide) (by decide)) g_X12_415 g_X12_415.in (fun _ => c_X12_number (x_G X) (x_l X) fu th 0 15 s10) rfl rfl (Nat.le_of_ble_eq_true rfl) dX12_act_119 (fun r35 s36 => ?_)
          refine ww_istore (lv' := [(4, .int r35), (3, .int 3), (5, .int 0), (2, .int v2), (0, .ref (x_b X + th)), (1, .int p1)]) hX hL dX12_act_122 (by decide) rfl ?_
          refine ww_pc (b := 124) rfl ?_
          refine ww_goto (tgt := 201) hX dX12_act_124 (by decide) ?_
          exact ww_sub [4, 5, 3, 1, 0, 2] rfl (t_X12_act_201 B fu th p1 v2 3 r35 0  s36)
      · refine ww_iconst (v := 2) hX rfl dX12_act_89 ?_
        refine ww_istore_n (lv' := [(3, .int 2), (5, .int 0), (4, .int 0), (2, .int v2), (0, .ref (x_b X + th)), (1, .int p1)]) hX hL dX12_act_90 rfl (by decide) rfl ?_
        refine ww_aload_n hX 4 rfl dX12_act_91 rfl ?_
        refine ww_iconst (v := 0) hX rfl dX12_act_92 ?_
        refine ww_bipush (v := 7) hX rfl dX12_act_93 ?_
        refine ww_callVI (As := [.int 0, .int 7]) (rest := []) (o := th) hX (Rk.of B.2.2.1 B.2.2.2.1 (by decide) (by decide)) g_X12_415 g_X12_415.in (fun _ => c_X12_number (x_G X) (x_l X) fu th 0 7 s8) rfl rfl (Nat.le_of_ble_eq_true rfl) dX12_act_95 (fun r37 s38 => ?_)
        refine ww_istore (lv' := [(4, .int r37), (3, .int 2), (5, .int 0), (2, .int v2), (0, .ref (x_b X + th)), (1, .int p1)]) hX hL dX12_act_98 (by decide) rfl ?_
        refine ww_pc (b := 100) rfl ?_
        refine ww_goto (tgt := 201) hX dX12_act_100 (by decide) ?_
        exact ww_sub [4, 5, 3, 1, 0, 2] rfl (t_X12_act_201 B fu th p1 v2 2 r37 0  s38)
    · refine ww_iconst (v := 1) hX rfl dX12_act_48 ?_
      refine ww_istore_n (lv' := [(3, .int 1), (5, .int 0), (4, .int 0), (2, .int v2), (0, .ref (x_b X + th)), (1, .int p1)]) hX hL dX12_act_49 rfl (by decide) rfl ?_
      refine ww_aload_n hX 4 rfl dX12_act_50 rfl ?_
      refine ww_iconst (v := 0) hX rfl dX12_act_51 ?_
      refine ww_bipush (v := 7) hX rfl dX12_act_52 ?_
      refine ww_callVI (As := [.int 0, .int 7]) (rest := []) (o := th) hX (Rk.of B.2.2.1 B.2.2.2.1 (by decide) (by decide)) g_X12_415 g_X12_415.in (fun _ => c_X12_number (x_G X) (x_l X) fu th 0 7 s6) rfl rfl (Nat.le_of_ble_eq_true rfl) dX12_act_54 (fun r39 s40 => ?_)
      refine ww_istore (lv' := [(4, .int r39), (3, .int 1), (5, .int 0), (2, .int v2), (0, .ref (x_b X + th)), (1, .int p1)]) hX hL dX12_act_57 (by decide) rfl ?_
      refine ww_pc (b := 59) rfl ?_
      refine ww_aload_n hX 4 rfl dX12_act_59 rfl ?_
      refine ww_ldcwS (q := 35) hX rfl dX12_act_60 ?_
      refine ww_callVV (As := [.ref ((x_K X).1 14)]) (rest := []) (o := th) hX (Rk.of B.2.2.1 B.2.2.2.1 (by decide) (by decide)) g_X12_437 g_X12_437.in (fun _ => c_X12_needWord (x_G X) (x_l X) fu th 14 s40) rfl rfl (Nat.le_of_ble_eq_true rfl) dX12_act_63 (fun s41 => ?_)
      refine ww_aload_n hX 4 rfl dX12_act_66 rfl ?_
      refine ww_iconst (v := 0) hX rfl dX12_act_67 ?_
      refine ww_ldcw (v := 99999) hX k_X12_478 dX12_act_68 ?_
      refine ww_callVI (As := [.int 0, .int 99999]) (rest := []) (o := th) hX (Rk.of B.2.2.1 B.2.2.2.1 (by decide) (by decide)) g_X12_415 g_X12_415.in (fun _ => c_X12_number (x_G X) (x_l X) fu th 0 99999 s41) rfl rfl (Nat.le_of_ble_eq_true rfl) dX12_act_71 (fun r42 s43 => ?_)
      refine ww_istore (lv' := [(5, .int r42), (4, .int r39), (3, .int 1), (2, .int v2), (0, .ref (x_b X + th)), (1, .int p1)]) hX hL dX12_act_74 (by decide) rfl ?_
      refine ww_pc (b := 76) rfl ?_
      refine ww_goto (tgt := 201) hX dX12_act_76 (by decide) ?_
      exact ww_sub [4, 5, 3, 2, 1, 0] rfl (t_X12_act_201 B fu th p1 v2 1 r39 r42  s43)
  · refine ww_bipush (v := 6) hX rfl dX12_act_28 ?_
    refine ww_istore_n (lv' := [(3, .int 6), (5, .int 0), (4, .int 0), (2, .int v2), (0, .ref (x_b X + th)), (1, .int p1)]) hX hL dX12_act_30 rfl (by decide) rfl ?_
    refine ww_aload_n hX 4 rfl dX12_act_31 rfl ?_
    refine ww_callVV (As := []) (rest := []) (o := th) hX (Rk.of B.2.2.1 B.2.2.2.1 (by decide) (by decide)) g_X12_472 g_X12_472.in (fun _ => c_X12_channels (x_G X) (x_l X) fu th s4) rfl rfl (Nat.le_of_ble_eq_true rfl) dX12_act_32 (fun s44 => ?_)
    refine ww_goto (tgt := 201) hX dX12_act_35 (by decide) ?_
    exact ww_sub [4, 5, 3, 0, 2, 1] rfl (t_X12_act_201 B fu th p1 v2 6 0 0  s44)
theorem c_X12_act (G : GX) (l : Launch) (fu : Nat) (th : Nat) (p1 : Int32) (st : St) : MV G NN l yX12_act cX12_act 6 none 10 [.ref (G.2.2.1 + th), .int p1] st (f_X12_act fu th p1 st) := mkV (by decide) (Nat.le_of_ble_eq_true rfl) (fun X res hl hG B => by subst hl; subst hG; exact t_X12_act B fu th p1 st)
/-! StageHouseModel.options(I)Z -/
def b_X12_options_251 (fu : Nat) (x6 : Int32)  (st : St) : Option (Int32 × St) :=
  ck (isb x6) (some (x6, st))
set_option maxHeartbeats 4000000 in
set_option maxRecDepth 100000 in
theorem t_X12_options_251 {X : CX} {res : Int32 × St} (B : BI X cX12_options RX12 10 8 NN (some .boolean) res) (fu : Nat) (x6 : Int32)  (st : St) : WW X res NN 251 [(6, .int x6)] [] st (b_X12_options_251 fu x6 st) := by
  have hX := B.1
  have hL := B.2.1
  unfold b_X12_options_251
  refine ww_iload hX 0 rfl dX12_options_251 ?_
  exact ww_zret B dX12_options_253
def b_X12_options_248 (fu : Nat) (k_16 : Nat → Int32 → Int32 → Int32 → Int32 → Int32 → Int32 → Int32 → St → Option (Int32 × St)) (x0 : Nat) (x1 : Int32) (x2 : Int32) (x3 : Int32) (x4 : Int32) (x5 : Int32) (x6 : Int32) (x7 : Int32)  (st : St) : Option (Int32 × St) :=
  k_16 x0 x1 x2 x3 x4 x5 x6 x7  st
set_option maxHeartbeats 4000000 in
set_option maxRecDepth 100000 in
theorem t_X12_options_248 {X : CX} {res : Int32 × St} (B : BI X cX12_options RX12 10 8 NN (some .boolean) res) (fu : Nat) (k_16 : Nat → Int32 → Int32 → Int32 → Int32 → Int32 → Int32 → Int32 → St → Option (Int32 × St)) (h_16 : ∀ (x0 : Nat) (x1 : Int32) (x2 : Int32) (x3 : Int32) (x4 : Int32) (x5 : Int32) (x6 : Int32) (x7 : Int32)  (st : St), WW X res NN 16 [(0, .ref (x_b X + x0)), (1, .int x1), (2, .int x2), (3, .int x3), (4, .int x4), (5, .int x5), (6, .int x6), (7, .int x7)] [] st (k_16 x0 x1 x2 x3 x4 x5 x6 x7 st)) (x0 : Nat) (x1 : Int32) (x2 : Int32) (x3 : Int32) (x4 : Int32) (x5 : Int32) (x6 : Int32) (x7 : Int32)  (st : St) : WW X res NN 248 [(0, .ref (x_b X + x0)), (1, .int x1), (2, .int x2), (3, .int x3), (4, .int x4), (5, .int x5), (6, .int x6), (7, .int x7)] [] st (b_X12_options_248 fu k_16 x0 x1 x2 x3 x4 x5 x6 x7 st) := by
  have hX := B.1
  have hL := B.2.1
  unfold b_X12_options_248
  refine ww_goto (tgt := 16) hX dX12_options_248 (by decide) ?_
  exact h_16 x0 x1 x2 x3 x4 x5 x6 x7  st
def b_X12_options_236 (fu : Nat) (k_16 : Nat → Int32 → Int32 → Int32 → Int32 → Int32 → Int32 → Int32 → St → Option (Int32 × St)) (x0 : Nat) (x1 : Int32) (x2 : Int32) (x3 : Int32) (x4 : Int32) (x5 : Int32) (x6 : Int32) (x7 : Int32) (x8 : Int32) (x9 : Int32)  (st : St) : Option (Int32 × St) :=
  if x9 = 0 then (
  b_X12_options_248 fu k_16 x0 x1 x2 x3 x4 x5 x6 x7  st)
  else (
  ck ((kd x0).1 = 12) <|
  cv (f_X12_tell fu x0 3 x8 st) fun s17 =>
  b_X12_options_248 fu k_16 x0 x1 x2 x3 x4 x5 x6 x7  s17)
set_option maxHeartbeats 4000000 in
set_option maxRecDepth 100000 in
theorem t_X12_options_236 {X : CX} {res : Int32 × St} (B : BI X cX12_options RX12 10 8 NN (some .boolean) res) (fu : Nat) (k_16 : Nat → Int32 → Int32 → Int32 → Int32 → Int32 → Int32 → Int32 → St → Option (Int32 × St)) (h_16 : ∀ (x0 : Nat) (x1 : Int32) (x2 : Int32) (x3 : Int32) (x4 : Int32) (x5 : Int32) (x6 : Int32) (x7 : Int32)  (st : St), WW X res NN 16 [(0, .ref (x_b X + x0)), (1, .int x1), (2, .int x2), (3, .int x3), (4, .int x4), (5, .int x5), (6, .int x6), (7, .int x7)] [] st (k_16 x0 x1 x2 x3 x4 x5 x6 x7 st)) (x0 : Nat) (x1 : Int32) (x2 : Int32) (x3 : Int32) (x4 : Int32) (x5 : Int32) (x6 : Int32) (x7 : Int32) (x8 : Int32) (x9 : Int32)  (st : St) : WW X res NN 236 [(0, .ref (x_b X + x0)), (1, .int x1), (2, .int x2), (3, .int x3), (4, .int x4), (5, .int x5), (6, .int x6), (7, .int x7), (8, .int x8), (9, .int x9)] [] st (b_X12_options_236 fu k_16 x0 x1 x2 x3 x4 x5 x6 x7 x8 x9 st) := by
  have hX := B.1
  have hL := B.2.1
  unfold b_X12_options_236
  refine ww_iload hX 9 rfl dX12_options_236 ?_
  refine ww_if_eq (tgt := 248) hX dX12_options_238 (by decide) ?_ ?_
  · exact ww_sub [0, 1, 2, 3, 4, 5, 6, 7] rfl (t_X12_options_248 B fu k_16 h_16 x0 x1 x2 x3 x4 x5 x6 x7  st)
  · refine ww_aload_n hX 0 rfl dX12_options_241 rfl ?_
    refine ww_iconst (v := 3) hX rfl dX12_options_242 ?_
    refine ww_iload hX 8 rfl dX12_options_243 ?_
    refine ww_callVV (As := [.int 3, .int x8]) (rest := []) (o := x0) hX (Rk.of B.2.2.1 B.2.2.2.1 (by decide) (by decide)) g_X12_394 g_X12_394.in (fun _ => c_X12_tell (x_G X) (x_l X) fu x0 3 x8 st) rfl rfl (Nat.le_of_ble_eq_true rfl) dX12_options_245 (fun s17 => ?_)
    exact ww_sub [0, 1, 2, 3, 4, 5, 6, 7] rfl (t_X12_options_248 B fu k_16 h_16 x0 x1 x2 x3 x4 x5 x6 x7  s17)
def b_X12_options_16_b (fu : Nat) (k_16 : Nat → Int32 → Int32 → Int32 → Int32 → Int32 → Int32 → Int32 → St → Option (Int32 × St)) (x0 : Nat) (x1 : Int32) (x2 : Int32) (x3 : Int32) (x4 : Int32) (x5 : Int32) (x6 : Int32) (x7 : Int32)  (st : St) : Option (Int32 × St) :=
  ck ((kd x0).1 = 12) <|
  if (gI st x0 8) = 0 then (
  ck (¬ gR st x0 2 = 0) <|
  ck ((kd x0).1 = 12) <|
  bd (gR st x0 2) fun o1 =>
  ck ((kd x0).1 = 12) <|
  ck ((kd o1).1 = 100 ∧ inb (gI st x0 5) (kd o1).2) <|
  if (gI st o1 (ix (gI st x0 5))) = 1 then (
  ck (¬ gR st x0 4 = 0) <|
  ck ((kd x0).1 = 12) <|
  bd (gR st x0 4) fun o2 =>
  ck ((kd x0).1 = 12) <|
  ck ((kd o2).1 = 100 ∧ inb (gI st x0 5) (kd o2).2) <|
  bd (gI st o2 (ix (gI st x0 5))) fun v3 =>
  ck ((kd x0).1 = 12) <|
  ca (f_X12_takeWord fu x0 2 st) fun r4 s5 =>
  if r4 = 0 then (
  ck ((kd x0).1 = 12) <|
  ca (f_X12_takeWord fu x0 3 s5) fun r6 s7 =>
  if r6 = 0 then (
  ck ((kd x0).1 = 12) <|
  ca (f_X12_takeWord fu x0 4 s7) fun r8 s9 =>
  if r8 = 0 then (
  ck ((kd x0).1 = 12) <|
  ca (f_X12_takeWord fu x0 5 s9) fun r10 s11 =>
  if r10 = 0 then (
  ck ((kd x0).1 = 12) <|
  ca (f_X12_takeWord fu x0 6 s11) fun r12 s13 =>
  if r12 = 0 then (
  ck ((kd x0).1 = 12) <|
  ca (f_X12_takeWord fu x0 7 s13) fun r14 s15 =>
  if r14 = 0 then (
  ck ((kd x0).1 = 12) <|
  cv (f_X12_wrong fu x0 s15) fun s16 =>
  b_X12_options_236 fu k_16 x0 x1 x2 x3 x4 x5 x6 x7 v3 0  s16)
  else (
  ck (¬ gR s15 x0 27 = 0) <|
  ck ((kd x0).1 = 12) <|
  bd (gR s15 x0 27) fun o18 =>
  ck ((kd x0).1 = 12) <|
  ca (f_X12_name fu x0 s15) fun r19 s20 =>
  ck ((kd o18).1 = 100 ∧ inb x1 (kd o18).2) <|
  bd (sI s20 o18 (ix x1) r19) fun s21 =>
  b_X12_options_236 fu k_16 x0 x1 x2 x3 x4 x5 x6 1 v3 x7  s21))
  else (
  b_X12_options_236 fu k_16 x0 x1 x2 x3 x4 x5 1 x7 v3 x6  s13))
  else (
  ck (¬ gR s11 x0 26 = 0) <|
  ck ((kd x0).1 = 12) <|
  bd (gR s11 x0 26) fun o22 =>
  ck ((kd x0).1 = 12) <|
  ca (f_X12_number fu x0 1 9999 s11) fun r23 s24 =>
  ck ((kd o22).1 = 100 ∧ inb x1 (kd o22).2) <|
  bd (sI s24 o22 (ix x1) r23) fun s25 =>
  b_X12_options_236 fu k_16 x0 x1 x2 x3 x4 1 x6 x7 v3 x5  s25))
  else (
  ck (¬ gR s9 x0 25 = 0) <|
  ck ((kd x0).1 = 12) <|
  bd (gR s9 x0 25) fun o26 =>
  ck ((kd x0).1 = 12) <|
  ca (f_X12_number fu x0 0 9999 s9) fun r27 s28 =>
  ck ((kd o26).1 = 100 ∧ inb x1 (kd o26).2) <|
  bd (sI s28 o26 (ix x1) r27) fun s29 =>
  b_X12_options_236 fu k_16 x0 x1 x2 x3 1 x5 x6 x7 v3 x4  s29))
  else (
  ck (¬ gR s7 x0 24 = 0) <|
  ck ((kd x0).1 = 12) <|
  bd (gR s7 x0 24) fun o30 =>
  ck ((kd x0).1 = 12) <|
  ca (f_X12_number fu x0 0 9999 s7) fun r31 s32 =>
  ck ((kd o30).1 = 100 ∧ inb x1 (kd o30).2) <|
  bd (sI s32 o30 (ix x1) r31) fun s33 =>
  b_X12_options_236 fu k_16 x0 x1 x2 1 x4 x5 x6 x7 v3 x3  s33))
  else (
  ck (¬ gR s5 x0 23 = 0) <|
  ck ((kd x0).1 = 12) <|
  bd (gR s5 x0 23) fun o34 =>
  ck ((kd x0).1 = 12) <|
  ca (f_X12_number fu x0 0 9999 s5) fun r35 s36 =>
  ck ((kd o34).1 = 100 ∧ inb x1 (kd o34).2) <|
  bd (sI s36 o34 (ix x1) r35) fun s37 =>
  b_X12_options_236 fu k_16 x0 x1 1 x3 x4 x5 x6 x7 v3 x2  s37))
  else (
  b_X12_options_251 fu x6  st))
  else (
  b_X12_options_251 fu x6  st)
set_option maxHeartbeats 4000000 in
set_option maxRecDepth 100000 in
theorem t_X12_options_16_b {X : CX} {res : Int32 × St} (B : BI X cX12_options RX12 10 8 NN (some .boolean) res) (fu : Nat) (k_16 : Nat → Int32 → Int32 → Int32 → Int32 → Int32 → Int32 → Int32 → St → Option (Int32 × St)) (h_16 : ∀ (x0 : Nat) (x1 : Int32) (x2 : Int32) (x3 : Int32) (x4 : Int32) (x5 : Int32) (x6 : Int32) (x7 : Int32)  (st : St), WW X res NN 16 [(0, .ref (x_b X + x0)), (1, .int x1), (2, .int x2), (3, .int x3), (4, .int x4), (5, .int x5), (6, .int x6), (7, .int x7)] [] st (k_16 x0 x1 x2 x3 x4 x5 x6 x7 st)) (x0 : Nat) (x1 : Int32) (x2 : Int32) (x3 : Int32) (x4 : Int32) (x5 : Int32) (x6 : Int32) (x7 : Int32)  (st : St) : WW X res NN 16 [(0, .ref (x_b X + x0)), (1, .int x1), (2, .int x2), (3, .int x3), (4, .int x4), (5, .int x5), (6, .int x6), (7, .int x7)] [] st (b_X12_options_16_b fu k_16 x0 x1 x2 x3 x4 x5 x6 x7 st) := by
  have hX := B.1
  have hL := B.2.1
  unfold b_X12_options_16_b
  refine ww_aload_n hX 0 rfl dX12_options_16 rfl ?_
  refine ww_getI hX f_X12_390 (Or.inr rfl) dX12_options_17 ?_
  refine ww_if_ne (tgt := 251) hX dX12_options_20 (by decide) ?_ ?_
  · exact ww_sub [6] rfl (t_X12_options_251 B fu x6  st)
  · refine ww_aload_n hX 0 rfl dX12_options_23 rfl ?_
    refine ww_getR hX f_X12_13 (Or.inr ⟨_, rfl⟩) dX12_options_24 ?_
    refine ww_bdR (fun o1 => ?_)
    refine ww_aload_n hX 0 rfl dX12_options_27 rfl ?_
    refine ww_getI hX f_X12_381 (Or.inl rfl) dX12_options_28 ?_
    refine ww_ialdc hX k_iald dX12_options_31 ?_
    refine ww_iconst (v := 1) hX rfl dX12_options_32 ?_
    refine ww_icmp_ne (tgt := 251) hX dX12_options_33 (by decide) ?_ ?_
    · exact ww_sub [6] rfl (t_X12_options_251 B fu x6  st)
    · refine ww_aload_n hX 0 rfl dX12_options_36 rfl ?_
      refine ww_getR hX f_X12_21 (Or.inr ⟨_, rfl⟩) dX12_options_37 ?_
      refine ww_bdR (fun o2 => ?_)
      refine ww_aload_n hX 0 rfl dX12_options_40 rfl ?_
      refine ww_getI hX f_X12_381 (Or.inl rfl) dX12_options_41 ?_
      refine ww_ialdc hX k_iald dX12_options_44 ?_
      refine ww_bdi (fun v3 => ?_)
      refine ww_istore (lv' := [(8, .int v3), (0, .ref (x_b X + x0)), (1, .int x1), (2, .int x2), (3, .int x3), (4, .int x4), (5, .int x5), (6, .int x6), (7, .int x7)]) hX hL dX12_options_45 (by decide) rfl ?_
      refine ww_aload_n hX 1 rfl dX12_options_47 rfl ?_
      refine ww_pc (b := 48) rfl ?_
      refine ww_ldcwS (q := 26) hX rfl dX12_options_48 ?_
      refine ww_callVI (As := [.ref ((x_K X).1 2)]) (rest := []) (o := x0) hX (Rk.of B.2.2.1 B.2.2.2.1 (by decide) (by decide)) g_X12_406 g_X12_406.in (fun _ => c_X12_takeWord (x_G X) (x_l X) fu x0 2 st) rfl rfl (Nat.le_of_ble_eq_true rfl) dX12_options_51 (fun r4 s5 => ?_)
      refine ww_if_eq (tgt := 79) hX dX12_options_54 (by decide) ?_ ?_
      · refine ww_aload_n hX 1 rfl dX12_options_79 rfl ?_
        refine ww_ldcwS (q := 27) hX rfl dX12_options_80 ?_
        refine ww_callVI (As := [.ref ((x_K X).1 3)]) (rest := []) (o := x0) hX (Rk.of B.2.2.1 B.2.2.2.1 (by decide) (by decide)) g_X12_406 g_X12_406.in (fun _ => c_X12_takeWord (x_G X) (x_l X) fu x0 3 s5) rfl rfl (Nat.le_of_ble_eq_true rfl) dX12_options_83 (fun r6 s7 => ?_)
        refine ww_if_eq (tgt := 111) hX dX12_options_86 (by decide) ?_ ?_
        · refine ww_aload_n hX 1 rfl dX12_options_111 rfl ?_
          refine ww_ldcwS (q := 28) hX rfl dX12_options_112 ?_
          refine ww_callVI (As := [.ref ((x_K X).1 4)]) (rest := []) (o := x0) hX (Rk.of B.2.2.1 B.2.2.2.1 (by decide) (by decide)) g_X12_406 g_X12_406.in (fun _ => c_X12_takeWord (x_G X) (x_l X) fu x0 4 s7) rfl rfl (Nat.le_of_ble_eq_true rfl) dX12_options_115 (fun r8 s9 => ?_)
          refine ww_if_eq (tgt := 145) hX dX12_options_118 (by decide) ?_ ?_
          · refine ww_aload_n hX 1 rfl dX12_options_145 rfl ?_
            refine ww_ldcwS (q := 29) hX rfl dX12_options_146 ?_
            refine ww_callVI (As := [.ref ((x_K X).1 5)]) (rest := []) (o := x0) hX (Rk.of B.2.2.1 B.2.2.2.1 (by decide) (by decide)) g_X12_406 g_X12_406.in (fun _ => c_X12_takeWord (x_G X) (x_l X) fu x0 5 s9) rfl rfl (Nat.le_of_ble_eq_true rfl) dX12_options_149 (fun r10 s11 => ?_)
            refine ww_if_eq (tgt := 179) hX dX12_options_152 (by decide) ?_ ?_
            · refine ww_aload_n hX 1 rfl dX12_options_179 rfl ?_
              refine ww_ldcwS (q := 30) hX rfl dX12_options_180 ?_
              refine ww_callVI (As := [.ref ((x_K X).1 6)]) (rest := []) (o := x0) hX (Rk.of B.2.2.1 B.2.2.2.1 (by decide) (by decide)) g_X12_406 g_X12_406.in (fun _ => c_X12_takeWord (x_G X) (x_l X) fu x0 6 s11) rfl rfl (Nat.le_of_ble_eq_true rfl) dX12_options_183 (fun r12 s13 => ?_)
              refine ww_if_eq (tgt := 199) hX dX12_options_186 (by decide) ?_ ?_
              · refine ww_aload_n hX 1 rfl dX12_options_199 rfl ?_
                refine ww_ldcwS (q := 31) hX rfl dX12_options_200 ?_
                refine ww_callVI (As := [.ref ((x_K X).1 7)]) (rest := []) (o := x0) hX (Rk.of B.2.2.1 B.2.2.2.1 (by decide) (by decide)) g_X12_406 g_X12_406.in (fun _ => c_X12_takeWord (x_G X) (x_l X) fu x0 7 s13) rfl rfl (Nat.le_of_ble_eq_true rfl) dX12_options_203 (fun r14 s15 => ?_)
                refine ww_if_eq (tgt := 229) hX dX12_options_206 (by decide) ?_ ?_
                · refine ww_iconst (v := 0) hX rfl dX12_options_229 ?_
                  refine ww_istore (lv' := [(9, .int 0), (8, .int v3), (0, .ref (x_b X + x0)), (1, .int x1), (2, .int x2), (3, .int x3), (4, .int x4), (5, .int x5), (6, .int x6), (7, .int x7)]) hX hL dX12_options_230 (by decide) rfl ?_
                  refine ww_aload_n hX 2 rfl dX12_options_232 rfl ?_
                  refine ww_callVV (As := []) (rest := []) (o := x0) hX (Rk.of B.2.2.1 B.2.2.2.1 (by decide) (by decide)) g_X12_409 g_X12_409.in (fun _ => c_X12_wrong (x_G X) (x_l X) fu x0 s15) rfl rfl (Nat.le_of_ble_eq_true rfl) dX12_options_233 (fun s16 => ?_)
                  exact ww_sub [2, 3, 4, 5, 6, 7, 8, 9, 1, 0] rfl (t_X12_options_236 B fu k_16 h_16 x0 x1 x2 x3 x4 x5 x6 x7 v3 0  s16)
                · refine ww_iload hX 8 rfl dX12_options_209 ?_
                  refine ww_istore (lv' := [(9, .int x7), (8, .int v3), (0, .ref (x_b X + x0)), (1, .int x1), (2, .int x2), (3, .int x3), (4, .int x4), (5, .int x5), (6, .int x6), (7, .int x7)]) hX hL dX12_options_211 (by decide) rfl ?_
                  refine ww_iconst (v := 1) hX rfl dX12_options_213 ?_
                  refine ww_istore (lv' := [(7, .int 1), (9, .int x7), (8, .int v3), (0, .ref (x_b X + x0)), (1, .int x1), (2, .int x2), (3, .int x3), (4, .int x4), (5, .int x5), (6, .int x6)]) hX hL dX12_options_214 (by decide) rfl ?_
                  refine ww_aload_n hX 3 rfl dX12_options_216 rfl ?_
                  refine ww_getR hX f_X12_78 (Or.inr ⟨_, rfl⟩) dX12_options_217 ?_
                  refine ww_bdR (fun o18 => ?_)
                  refine ww_iload_n hX 4 rfl dX12_options_220 rfl ?_
                  refine ww_pc (b := 221) rfl ?_
                  refine ww_aload_n hX 3 rfl dX12_options_221 rfl ?_
                  refine ww_callVI (As := []) (rest := [.int x1, .ref (x_b X + o18)]) (o := x0) hX (Rk.of B.2.2.1 B.2.2.2.1 (by decide) (by decide)) g_X12_446 g_X12_446.in (fun _ => c_X12_name (x_G X) (x_l X) fu x0 s15) rfl rfl (Nat.le_of_ble_eq_true rfl) dX12_options_222 (fun r19 s20 => ?_)
                  refine ww_iastc hX k_iast dX12_options_225 ?_
                  refine ww_bds (fun s21 => ?_)
                  refine ww_goto (tgt := 236) hX dX12_options_226 (by decide) ?_
                  exact ww_sub [3, 4, 5, 6, 7, 8, 9, 0, 2, 1] rfl (t_X12_options_236 B fu k_16 h_16 x0 x1 x2 x3 x4 x5 x6 1 v3 x7  s21)
              · refine ww_iload hX 7 rfl dX12_options_189 ?_
                refine ww_istore (lv' := [(9, .int x6), (8, .int v3), (0, .ref (x_b X + x0)), (1, .int x1), (2, .int x2), (3, .int x3), (4, .int x4), (5, .int x5), (6, .int x6), (7, .int x7)]) hX hL dX12_options_191 (by decide) rfl ?_
                refine ww_iconst (v := 1) hX rfl dX12_options_193 ?_
                refine ww_istore (lv' := [(6, .int 1), (9, .int x6), (8, .int v3), (0, .ref (x_b X + x0)), (1, .int x1), (2, .int x2), (3, .int x3), (4, .int x4), (5, .int x5), (7, .int x7)]) hX hL dX12_options_194 (by decide) rfl ?_
                refine ww_goto (tgt := 236) hX dX12_options_196 (by decide) ?_
                exact ww_sub [3, 4, 5, 6, 7, 8, 0, 9, 2, 1] rfl (t_X12_options_236 B fu k_16 h_16 x0 x1 x2 x3 x4 x5 1 x7 v3 x6  s13)
            · refine ww_iload hX 6 rfl dX12_options_155 ?_
              refine ww_istore (lv' := [(9, .int x5), (8, .int v3), (0, .ref (x_b X + x0)), (1, .int x1), (2, .int x2), (3, .int x3), (4, .int x4), (5, .int x5), (6, .int x6), (7, .int x7)]) hX hL dX12_options_157 (by decide) rfl ?_
              refine ww_iconst (v := 1) hX rfl dX12_options_159 ?_
              refine ww_istore (lv' := [(5, .int 1), (9, .int x5), (8, .int v3), (0, .ref (x_b X + x0)), (1, .int x1), (2, .int x2), (3, .int x3), (4, .int x4), (6, .int x6), (7, .int x7)]) hX hL dX12_options_160 (by decide) rfl ?_
              refine ww_aload_n hX 3 rfl dX12_options_162 rfl ?_
              refine ww_getR hX f_X12_75 (Or.inr ⟨_, rfl⟩) dX12_options_163 ?_
              refine ww_bdR (fun o22 => ?_)
              refine ww_iload_n hX 4 rfl dX12_options_166 rfl ?_
              refine ww_pc (b := 167) rfl ?_
              refine ww_aload_n hX 3 rfl dX12_options_167 rfl ?_
              refine ww_iconst (v := 1) hX rfl dX12_options_168 ?_
              refine ww_sipush (v := 9999) hX rfl dX12_options_169 ?_
              refine ww_callVI (As := [.int 1, .int 9999]) (rest := [.int x1, .ref (x_b X + o22)]) (o := x0) hX (Rk.of B.2.2.1 B.2.2.2.1 (by decide) (by decide)) g_X12_415 g_X12_415.in (fun _ => c_X12_number (x_G X) (x_l X) fu x0 1 9999 s11) rfl rfl (Nat.le_of_ble_eq_true rfl) dX12_options_172 (fun r23 s24 => ?_)
              refine ww_iastc hX k_iast dX12_options_175 ?_
              refine ww_bds (fun s25 => ?_)
              refine ww_goto (tgt := 236) hX dX12_options_176 (by decide) ?_
              exact ww_sub [3, 4, 5, 6, 7, 0, 8, 9, 2, 1] rfl (t_X12_options_236 B fu k_16 h_16 x0 x1 x2 x3 x4 1 x6 x7 v3 x5  s25)
          · refine ww_iload hX 5 rfl dX12_options_121 ?_
            refine ww_istore (lv' := [(9, .int x4), (8, .int v3), (0, .ref (x_b X + x0)), (1, .int x1), (2, .int x2), (3, .int x3), (4, .int x4), (5, .int x5), (6, .int x6), (7, .int x7)]) hX hL dX12_options_123 (by decide) rfl ?_
            refine ww_iconst (v := 1) hX rfl dX12_options_125 ?_
            refine ww_istore (lv' := [(4, .int 1), (9, .int x4), (8, .int v3), (0, .ref (x_b X + x0)), (1, .int x1), (2, .int x2), (3, .int x3), (5, .int x5), (6, .int x6), (7, .int x7)]) hX hL dX12_options_126 (by decide) rfl ?_
            refine ww_aload_n hX 3 rfl dX12_options_128 rfl ?_
            refine ww_getR hX f_X12_72 (Or.inr ⟨_, rfl⟩) dX12_options_129 ?_
            refine ww_bdR (fun o26 => ?_)
            refine ww_iload_n hX 4 rfl dX12_options_132 rfl ?_
            refine ww_pc (b := 133) rfl ?_
            refine ww_aload_n hX 3 rfl dX12_options_133 rfl ?_
            refine ww_iconst (v := 0) hX rfl dX12_options_134 ?_
            refine ww_sipush (v := 9999) hX rfl dX12_options_135 ?_
            refine ww_callVI (As := [.int 0, .int 9999]) (rest := [.int x1, .ref (x_b X + o26)]) (o := x0) hX (Rk.of B.2.2.1 B.2.2.2.1 (by decide) (by decide)) g_X12_415 g_X12_415.in (fun _ => c_X12_number (x_G X) (x_l X) fu x0 0 9999 s9) rfl rfl (Nat.le_of_ble_eq_true rfl) dX12_options_138 (fun r27 s28 => ?_)
            refine ww_iastc hX k_iast dX12_options_141 ?_
            refine ww_bds (fun s29 => ?_)
            refine ww_goto (tgt := 236) hX dX12_options_142 (by decide) ?_
            exact ww_sub [3, 4, 5, 6, 0, 7, 8, 9, 2, 1] rfl (t_X12_options_236 B fu k_16 h_16 x0 x1 x2 x3 1 x5 x6 x7 v3 x4  s29)
        · refine ww_iload_n hX 4 rfl dX12_options_89 rfl ?_
          refine ww_istore (lv' := [(9, .int x3), (8, .int v3), (0, .ref (x_b X + x0)), (1, .int x1), (2, .int x2), (3, .int x3), (4, .int x4), (5, .int x5), (6, .int x6), (7, .int x7)]) hX hL dX12_options_90 (by decide) rfl ?_
          refine ww_iconst (v := 1) hX rfl dX12_options_92 ?_
          refine ww_istore_n (lv' := [(3, .int 1), (9, .int x3), (8, .int v3), (0, .ref (x_b X + x0)), (1, .int x1), (2, .int x2), (4, .int x4), (5, .int x5), (6, .int x6), (7, .int x7)]) hX hL dX12_options_93 rfl (by decide) rfl ?_
          refine ww_aload_n hX 3 rfl dX12_options_94 rfl ?_
          refine ww_getR hX f_X12_69 (Or.inr ⟨_, rfl⟩) dX12_options_95 ?_
          refine ww_bdR (fun o30 => ?_)
          refine ww_iload_n hX 4 rfl dX12_options_98 rfl ?_
          refine ww_pc (b := 99) rfl ?_
          refine ww_aload_n hX 3 rfl dX12_options_99 rfl ?_
          refine ww_iconst (v := 0) hX rfl dX12_options_100 ?_
          refine ww_sipush (v := 9999) hX rfl dX12_options_101 ?_
          refine ww_callVI (As := [.int 0, .int 9999]) (rest := [.int x1, .ref (x_b X + o30)]) (o := x0) hX (Rk.of B.2.2.1 B.2.2.2.1 (by decide) (by decide)) g_X12_415 g_X12_415.in (fun _ => c_X12_number (x_G X) (x_l X) fu x0 0 9999 s7) rfl rfl (Nat.le_of_ble_eq_true rfl) dX12_options_104 (fun r31 s32 => ?_)
          refine ww_iastc hX k_iast dX12_options_107 ?_
          refine ww_bds (fun s33 => ?_)
          refine ww_goto (tgt := 236) hX dX12_options_108 (by decide) ?_
          exact ww_sub [3, 4, 5, 0, 6, 7, 8, 9, 2, 1] rfl (t_X12_options_236 B fu k_16 h_16 x0 x1 x2 1 x4 x5 x6 x7 v3 x3  s33)
      · refine ww_iload_n hX 3 rfl dX12_options_57 rfl ?_
        refine ww_istore (lv' := [(9, .int x2), (8, .int v3), (0, .ref (x_b X + x0)), (1, .int x1), (2, .int x2), (3, .int x3), (4, .int x4), (5, .int x5), (6, .int x6), (7, .int x7)]) hX hL dX12_options_58 (by decide) rfl ?_
        refine ww_iconst (v := 1) hX rfl dX12_options_60 ?_
        refine ww_istore_n (lv' := [(2, .int 1), (9, .int x2), (8, .int v3), (0, .ref (x_b X + x0)), (1, .int x1), (3, .int x3), (4, .int x4), (5, .int x5), (6, .int x6), (7, .int x7)]) hX hL dX12_options_61 rfl (by decide) rfl ?_
        refine ww_aload_n hX 3 rfl dX12_options_62 rfl ?_
        refine ww_getR hX f_X12_66 (Or.inr ⟨_, rfl⟩) dX12_options_63 ?_
        refine ww_bdR (fun o34 => ?_)
        refine ww_iload_n hX 4 rfl dX12_options_66 rfl ?_
        refine ww_pc (b := 67) rfl ?_
        refine ww_aload_n hX 3 rfl dX12_options_67 rfl ?_
        refine ww_iconst (v := 0) hX rfl dX12_options_68 ?_
        refine ww_sipush (v := 9999) hX rfl dX12_options_69 ?_
        refine ww_callVI (As := [.int 0, .int 9999]) (rest := [.int x1, .ref (x_b X + o34)]) (o := x0) hX (Rk.of B.2.2.1 B.2.2.2.1 (by decide) (by decide)) g_X12_415 g_X12_415.in (fun _ => c_X12_number (x_G X) (x_l X) fu x0 0 9999 s5) rfl rfl (Nat.le_of_ble_eq_true rfl) dX12_options_72 (fun r35 s36 => ?_)
        refine ww_iastc hX k_iast dX12_options_75 ?_
        refine ww_bds (fun s37 => ?_)
        refine ww_goto (tgt := 236) hX dX12_options_76 (by decide) ?_
        exact ww_sub [3, 4, 0, 5, 6, 7, 8, 9, 2, 1] rfl (t_X12_options_236 B fu k_16 h_16 x0 x1 1 x3 x4 x5 x6 x7 v3 x2  s37)
def b_X12_options_16 (fu : Nat) : Nat → Nat → Int32 → Int32 → Int32 → Int32 → Int32 → Int32 → Int32 → St → Option (Int32 × St)
  | 0, _, _, _, _, _, _, _, _, _ => none
  | i + 1, x0, x1, x2, x3, x4, x5, x6, x7, st => b_X12_options_16_b fu (b_X12_options_16 fu i) x0 x1 x2 x3 x4 x5 x6 x7 st
theorem t_X12_options_16 {X : CX} {res : Int32 × St} (B : BI X cX12_options RX12 10 8 NN (some .boolean) res) (fu : Nat) : ∀ (i : Nat) (x0 : Nat) (x1 : Int32) (x2 : Int32) (x3 : Int32) (x4 : Int32) (x5 : Int32) (x6 : Int32) (x7 : Int32)  (st : St), WW X res NN 16 [(0, .ref (x_b X + x0)), (1, .int x1), (2, .int x2), (3, .int x3), (4, .int x4), (5, .int x5), (6, .int x6), (7, .int x7)] [] st (b_X12_options_16 fu i x0 x1 x2 x3 x4 x5 x6 x7 st) := by
  intro i
  induction i with
  | zero => intro x0 x1 x2 x3 x4 x5 x6 x7 st; exact ww_none
  | succ i ih => intro x0 x1 x2 x3 x4 x5 x6 x7 st; exact t_X12_options_16_b B fu (b_X12_options_16 fu i) ih x0 x1 x2 x3 x4 x5 x6 x7 st
def f_X12_options (fu : Nat) (th : Nat) (p1 : Int32) (st : St) : Option (Int32 × St) :=
  b_X12_options_16 fu fu th p1 0 0 0 0 0 0  st
set_option maxHeartbeats 4000000 in
set_option maxRecDepth 100000 in
theorem t_X12_options {X : CX} {res : Int32 × St} (B : BI X cX12_options RX12 10 8 NN (some .boolean) res) (fu : Nat) (th : Nat) (p1 : Int32) (st : St) : WW X res NN 0 [(0, .ref (x_b X + th)), (1, .int p1)] [] st (f_X12_options fu th p1 st) := by
  have hX := B.1
  have hL := B.2.1
  unfold f_X12_options
  refine ww_iconst (v := 0) hX rfl dX12_options_0 ?_
  refine ww_istore_n (lv' := [(2, .int 0), (0, .ref (x_b X + th)), (1, .int p1)]) hX hL dX12_options_1 rfl (by decide) rfl ?_
  refine ww_iconst (v := 0) hX rfl dX12_options_2 ?_
  refine ww_istore_n (lv' := [(3, .int 0), (2, .int 0), (0, .ref (x_b X + th)), (1, .int p1)]) hX hL dX12_options_3 rfl (by decide) rfl ?_
  refine ww_iconst (v := 0) hX rfl dX12_options_4 ?_
  refine ww_istore (lv' := [(4, .int 0), (3, .int 0), (2, .int 0), (0, .ref (x_b X + th)), (1, .int p1)]) hX hL dX12_options_5 (by decide) rfl ?_
  refine ww_iconst (v := 0) hX rfl dX12_options_7 ?_
  refine ww_pc (b := 8) rfl ?_
  refine ww_istore (lv' := [(5, .int 0), (4, .int 0), (3, .int 0), (2, .int 0), (0, .ref (x_b X + th)), (1, .int p1)]) hX hL dX12_options_8 (by decide) rfl ?_
  refine ww_iconst (v := 0) hX rfl dX12_options_10 ?_
  refine ww_istore (lv' := [(6, .int 0), (5, .int 0), (4, .int 0), (3, .int 0), (2, .int 0), (0, .ref (x_b X + th)), (1, .int p1)]) hX hL dX12_options_11 (by decide) rfl ?_
  refine ww_iconst (v := 0) hX rfl dX12_options_13 ?_
  refine ww_istore (lv' := [(7, .int 0), (6, .int 0), (5, .int 0), (4, .int 0), (3, .int 0), (2, .int 0), (0, .ref (x_b X + th)), (1, .int p1)]) hX hL dX12_options_14 (by decide) rfl ?_
  exact ww_sub [6, 7, 5, 4, 3, 2, 1, 0] rfl (t_X12_options_16 B fu fu th p1 0 0 0 0 0 0  st)
theorem c_X12_options (G : GX) (l : Launch) (fu : Nat) (th : Nat) (p1 : Int32) (st : St) : MI G NN l yX12_options cX12_options 10 (some .boolean) 8 [.ref (G.2.2.1 + th), .int p1] st (f_X12_options fu th p1 st) := mkI (by decide) (Nat.le_of_ble_eq_true rfl) (fun X res hl hG B => by subst hl; subst hG; exact t_X12_options B fu th p1 st)
/-! StageHouseModel.cue(II)I -/
def b_X12_cue_256 (fu : Nat) (k_195 : Nat → Int32 → Int32 → Int32 → Int32 → St → Option (Int32 × St)) (x0 : Nat) (x2 : Int32) (x4 : Int32) (x5 : Int32) (x6 : Int32) (y0 : Nat) (y1 : Int32) (y2 : Int32) (st : St) : Option (Int32 × St) :=
  ck ((kd y0).1 = 100 ∧ inb y1 (kd y0).2) <|
  bd (sI st y0 (ix y1) y2) fun s28 =>
  bd (x6 + 1) fun v29 =>
  k_195 x0 x2 x4 x5 v29  s28
set_option maxHeartbeats 4000000 in
set_option maxRecDepth 100000 in
theorem t_X12_cue_256 {X : CX} {res : Int32 × St} (B : BI X cX12_cue RX12 7 11 NN (some .int) res) (fu : Nat) (k_195 : Nat → Int32 → Int32 → Int32 → Int32 → St → Option (Int32 × St)) (h_195 : ∀ (x0 : Nat) (x2 : Int32) (x4 : Int32) (x5 : Int32) (x6 : Int32)  (st : St), WW X res NN 195 [(0, .ref (x_b X + x0)), (2, .int x2), (4, .int x4), (5, .int x5), (6, .int x6)] [] st (k_195 x0 x2 x4 x5 x6 st)) (x0 : Nat) (x2 : Int32) (x4 : Int32) (x5 : Int32) (x6 : Int32) (y0 : Nat) (y1 : Int32) (y2 : Int32) (st : St) : WW X res NN 256 [(0, .ref (x_b X + x0)), (2, .int x2), (4, .int x4), (5, .int x5), (6, .int x6)] [.int y2, .int y1, .ref (x_b X + y0)] st (b_X12_cue_256 fu k_195 x0 x2 x4 x5 x6 y0 y1 y2 st) := by
  have hX := B.1
  have hL := B.2.1
  unfold b_X12_cue_256
  refine ww_iastc hX k_iast dX12_cue_256 ?_
  refine ww_bds (fun s28 => ?_)
  refine ww_iincb (lv' := fun v29 => [(6, .int v29), (0, .ref (x_b X + x0)), (2, .int x2), (4, .int x4), (5, .int x5)]) (c := 1) hX hL 4 rfl dX12_cue_257 rfl (by decide) (fun _ => rfl) (fun v29 => ?_)
  refine ww_goto (tgt := 195) hX dX12_cue_260 (by decide) ?_
  exact ww_sub [1, 2, 3, 4, 0] rfl (h_195 x0 x2 x4 x5 v29  s28)
def b_X12_cue_195_b (fu : Nat) (k_195 : Nat → Int32 → Int32 → Int32 → Int32 → St → Option (Int32 × St)) (x0 : Nat) (x2 : Int32) (x4 : Int32) (x5 : Int32) (x6 : Int32)  (st : St) : Option (Int32 × St) :=
  if 64 < x6 then (
  some (x4, st))
  else (
  ck (¬ gR st x0 30 = 0) <|
  ck ((kd x0).1 = 12) <|
  bd (gR st x0 30) fun o25 =>
  ck (¬ gR st x0 37 = 0) <|
  ck ((kd x0).1 = 12) <|
  bd (gR st x0 37) fun o26 =>
  ck ((kd o26).1 = 102 ∧ inb x6 (kd o26).2) <|
  if (gI st o26 (ix x6)) = 0 then (
  if x5 = 0 then (
  ck (¬ gR st x0 30 = 0) <|
  ck ((kd x0).1 = 12) <|
  bd (gR st x0 30) fun o27 =>
  ck ((kd o27).1 = 100 ∧ inb ((65 * (x2 - 1)) + x6) (kd o27).2) <|
  b_X12_cue_256 fu k_195 x0 x2 x4 x5 x6 o25 ((65 * x2) + x6) (gI st o27 (ix ((65 * (x2 - 1)) + x6))) st)
  else (
  b_X12_cue_256 fu k_195 x0 x2 x4 x5 x6 o25 ((65 * x2) + x6) 0 st))
  else (
  ck (¬ gR st x0 36 = 0) <|
  ck ((kd x0).1 = 12) <|
  bd (gR st x0 36) fun o30 =>
  ck ((kd o30).1 = 100 ∧ inb x6 (kd o30).2) <|
  b_X12_cue_256 fu k_195 x0 x2 x4 x5 x6 o25 ((65 * x2) + x6) (gI st o30 (ix x6)) st))
set_option maxHeartbeats 4000000 in
set_option maxRecDepth 100000 in
theorem t_X12_cue_195_b {X : CX} {res : Int32 × St} (B : BI X cX12_cue RX12 7 11 NN (some .int) res) (fu : Nat) (k_195 : Nat → Int32 → Int32 → Int32 → Int32 → St → Option (Int32 × St)) (h_195 : ∀ (x0 : Nat) (x2 : Int32) (x4 : Int32) (x5 : Int32) (x6 : Int32)  (st : St), WW X res NN 195 [(0, .ref (x_b X + x0)), (2, .int x2), (4, .int x4), (5, .int x5), (6, .int x6)] [] st (k_195 x0 x2 x4 x5 x6 st)) (x0 : Nat) (x2 : Int32) (x4 : Int32) (x5 : Int32) (x6 : Int32)  (st : St) : WW X res NN 195 [(0, .ref (x_b X + x0)), (2, .int x2), (4, .int x4), (5, .int x5), (6, .int x6)] [] st (b_X12_cue_195_b fu k_195 x0 x2 x4 x5 x6 st) := by
  have hX := B.1
  have hL := B.2.1
  unfold b_X12_cue_195_b
  refine ww_iload hX 4 rfl dX12_cue_195 ?_
  refine ww_bipush (v := 64) hX rfl dX12_cue_197 ?_
  refine ww_icmp_gt (tgt := 263) hX dX12_cue_199 (by decide) ?_ ?_
  · refine ww_iload hX 2 rfl dX12_cue_263 ?_
    exact ww_iret B dX12_cue_265
  · refine ww_aload_n hX 0 rfl dX12_cue_202 rfl ?_
    refine ww_getR hX f_X12_87 (Or.inr ⟨_, rfl⟩) dX12_cue_203 ?_
    refine ww_bdR (fun o25 => ?_)
    refine ww_bipush (v := 65) hX rfl dX12_cue_206 ?_
    refine ww_iload_n hX 1 rfl dX12_cue_208 rfl ?_
    refine ww_imul hX dX12_cue_209 ?_
    refine ww_iload hX 4 rfl dX12_cue_210 ?_
    refine ww_iadd hX dX12_cue_212 ?_
    refine ww_pc (b := 213) rfl ?_
    refine ww_aload_n hX 0 rfl dX12_cue_213 rfl ?_
    refine ww_getR hX f_X12_102 (Or.inr ⟨_, rfl⟩) dX12_cue_214 ?_
    refine ww_bdR (fun o26 => ?_)
    refine ww_iload hX 4 rfl dX12_cue_217 ?_
    refine ww_zaldc hX k_zald dX12_cue_219 ?_
    refine ww_if_eq (tgt := 233) hX dX12_cue_220 (by decide) ?_ ?_
    · refine ww_iload hX 3 rfl dX12_cue_233 ?_
      refine ww_if_eq (tgt := 242) hX dX12_cue_235 (by decide) ?_ ?_
      · refine ww_aload_n hX 0 rfl dX12_cue_242 rfl ?_
        refine ww_getR hX f_X12_87 (Or.inr ⟨_, rfl⟩) dX12_cue_243 ?_
        refine ww_bdR (fun o27 => ?_)
        refine ww_bipush (v := 65) hX rfl dX12_cue_246 ?_
        refine ww_iload_n hX 1 rfl dX12_cue_248 rfl ?_
        refine ww_iconst (v := 1) hX rfl dX12_cue_249 ?_
        refine ww_isub hX dX12_cue_250 ?_
        refine ww_imul hX dX12_cue_251 ?_
        refine ww_pc (b := 252) rfl ?_
        refine ww_iload hX 4 rfl dX12_cue_252 ?_
        refine ww_iadd hX dX12_cue_254 ?_
        refine ww_ialdc hX k_iald dX12_cue_255 ?_
        exact t_X12_cue_256 B fu k_195 h_195 x0 x2 x4 x5 x6 o25 ((65 * x2) + x6) (gI st o27 (ix ((65 * (x2 - 1)) + x6))) st
      · refine ww_iconst (v := 0) hX rfl dX12_cue_238 ?_
        refine ww_goto (tgt := 256) hX dX12_cue_239 (by decide) ?_
        exact t_X12_cue_256 B fu k_195 h_195 x0 x2 x4 x5 x6 o25 ((65 * x2) + x6) 0 st
    · refine ww_aload_n hX 0 rfl dX12_cue_223 rfl ?_
      refine ww_getR hX f_X12_99 (Or.inr ⟨_, rfl⟩) dX12_cue_224 ?_
      refine ww_bdR (fun o30 => ?_)
      refine ww_iload hX 4 rfl dX12_cue_227 ?_
      refine ww_ialdc hX k_iald dX12_cue_229 ?_
      refine ww_goto (tgt := 256) hX dX12_cue_230 (by decide) ?_
      exact t_X12_cue_256 B fu k_195 h_195 x0 x2 x4 x5 x6 o25 ((65 * x2) + x6) (gI st o30 (ix x6)) st
def b_X12_cue_195 (fu : Nat) : Nat → Nat → Int32 → Int32 → Int32 → Int32 → St → Option (Int32 × St)
  | 0, _, _, _, _, _, _ => none
  | i + 1, x0, x2, x4, x5, x6, st => b_X12_cue_195_b fu (b_X12_cue_195 fu i) x0 x2 x4 x5 x6 st
theorem t_X12_cue_195 {X : CX} {res : Int32 × St} (B : BI X cX12_cue RX12 7 11 NN (some .int) res) (fu : Nat) : ∀ (i : Nat) (x0 : Nat) (x2 : Int32) (x4 : Int32) (x5 : Int32) (x6 : Int32)  (st : St), WW X res NN 195 [(0, .ref (x_b X + x0)), (2, .int x2), (4, .int x4), (5, .int x5), (6, .int x6)] [] st (b_X12_cue_195 fu i x0 x2 x4 x5 x6 st) := by
  intro i
  induction i with
  | zero => intro x0 x2 x4 x5 x6 st; exact ww_none
  | succ i ih => intro x0 x2 x4 x5 x6 st; exact t_X12_cue_195_b B fu (b_X12_cue_195 fu i) ih x0 x2 x4 x5 x6 st
def b_X12_cue_186 (fu : Nat) (x0 : Nat) (x2 : Int32) (x4 : Int32) (x5 : Int32)  (st : St) : Option (Int32 × St) :=
  ck ((kd x0).1 = 12) <|
  cv (f_X12_needSign fu x0 125 st) fun s24 =>
  b_X12_cue_195 fu fu x0 x2 x4 x5 1  s24
set_option maxHeartbeats 4000000 in
set_option maxRecDepth 100000 in
theorem t_X12_cue_186 {X : CX} {res : Int32 × St} (B : BI X cX12_cue RX12 7 11 NN (some .int) res) (fu : Nat) (x0 : Nat) (x2 : Int32) (x4 : Int32) (x5 : Int32)  (st : St) : WW X res NN 186 [(0, .ref (x_b X + x0)), (2, .int x2), (4, .int x4), (5, .int x5)] [] st (b_X12_cue_186 fu x0 x2 x4 x5 st) := by
  have hX := B.1
  have hL := B.2.1
  unfold b_X12_cue_186
  refine ww_aload_n hX 0 rfl dX12_cue_186 rfl ?_
  refine ww_bipush (v := 125) hX rfl dX12_cue_187 ?_
  refine ww_callVV (As := [.int 125]) (rest := []) (o := x0) hX (Rk.of B.2.2.1 B.2.2.2.1 (by decide) (by decide)) g_X12_452 g_X12_452.in (fun _ => c_X12_needSign (x_G X) (x_l X) fu x0 125 st) rfl rfl (Nat.le_of_ble_eq_true rfl) dX12_cue_189 (fun s24 => ?_)
  refine ww_iconst (v := 1) hX rfl dX12_cue_192 ?_
  refine ww_istore (lv' := [(6, .int 1), (0, .ref (x_b X + x0)), (2, .int x2), (4, .int x4), (5, .int x5)]) hX hL dX12_cue_193 (by decide) rfl ?_
  exact ww_sub [1, 2, 3, 4, 0] rfl (t_X12_cue_195 B fu fu x0 x2 x4 x5 1  s24)
def b_X12_cue_151_b (fu : Nat) (k_151 : Nat → Int32 → Int32 → Int32 → St → Option (Int32 × St)) (x0 : Nat) (x2 : Int32) (x4 : Int32) (x5 : Int32)  (st : St) : Option (Int32 × St) :=
  ck ((kd x0).1 = 12) <|
  if (gI st x0 8) = 0 then (
  ck (¬ gR st x0 2 = 0) <|
  ck ((kd x0).1 = 12) <|
  bd (gR st x0 2) fun o31 =>
  ck ((kd x0).1 = 12) <|
  ck ((kd o31).1 = 100 ∧ inb (gI st x0 5) (kd o31).2) <|
  if (gI st o31 (ix (gI st x0 5))) = 125 then (
  b_X12_cue_186 fu x0 x2 x4 x5  st)
  else (
  ck ((kd x0).1 = 12) <|
  cv (f_X12_act fu x0 x2 st) fun s32 =>
  ck ((kd x0).1 = 12) <|
  cv (f_X12_needSign fu x0 59 s32) fun s33 =>
  k_151 x0 x2 x4 x5  s33))
  else (
  b_X12_cue_186 fu x0 x2 x4 x5  st)
set_option maxHeartbeats 4000000 in
set_option maxRecDepth 100000 in
theorem t_X12_cue_151_b {X : CX} {res : Int32 × St} (B : BI X cX12_cue RX12 7 11 NN (some .int) res) (fu : Nat) (k_151 : Nat → Int32 → Int32 → Int32 → St → Option (Int32 × St)) (h_151 : ∀ (x0 : Nat) (x2 : Int32) (x4 : Int32) (x5 : Int32)  (st : St), WW X res NN 151 [(0, .ref (x_b X + x0)), (2, .int x2), (4, .int x4), (5, .int x5)] [] st (k_151 x0 x2 x4 x5 st)) (x0 : Nat) (x2 : Int32) (x4 : Int32) (x5 : Int32)  (st : St) : WW X res NN 151 [(0, .ref (x_b X + x0)), (2, .int x2), (4, .int x4), (5, .int x5)] [] st (b_X12_cue_151_b fu k_151 x0 x2 x4 x5 st) := by
  have hX := B.1
  have hL := B.2.1
  unfold b_X12_cue_151_b
  refine ww_aload_n hX 0 rfl dX12_cue_151 rfl ?_
  refine ww_getI hX f_X12_390 (Or.inr rfl) dX12_cue_152 ?_
  refine ww_if_ne (tgt := 186) hX dX12_cue_155 (by decide) ?_ ?_
  · exact t_X12_cue_186 B fu x0 x2 x4 x5  st
  · refine ww_aload_n hX 0 rfl dX12_cue_158 rfl ?_
    refine ww_getR hX f_X12_13 (Or.inr ⟨_, rfl⟩) dX12_cue_159 ?_
    refine ww_bdR (fun o31 => ?_)
    refine ww_aload_n hX 0 rfl dX12_cue_162 rfl ?_
    refine ww_getI hX f_X12_381 (Or.inl rfl) dX12_cue_163 ?_
    refine ww_ialdc hX k_iald dX12_cue_166 ?_
    refine ww_bipush (v := 125) hX rfl dX12_cue_167 ?_
    refine ww_icmp_eq (tgt := 186) hX dX12_cue_169 (by decide) ?_ ?_
    · exact t_X12_cue_186 B fu x0 x2 x4 x5  st
    · refine ww_aload_n hX 0 rfl dX12_cue_172 rfl ?_
      refine ww_iload_n hX 1 rfl dX12_cue_173 rfl ?_
      refine ww_callVV (As := [.int x2]) (rest := []) (o := x0) hX (Rk.of B.2.2.1 B.2.2.2.1 (by decide) (by decide)) g_X12_455 g_X12_455.in (fun _ => c_X12_act (x_G X) (x_l X) fu x0 x2 st) rfl rfl (Nat.le_of_ble_eq_true rfl) dX12_cue_174 (fun s32 => ?_)
      refine ww_aload_n hX 0 rfl dX12_cue_177 rfl ?_
      refine ww_bipush (v := 59) hX rfl dX12_cue_178 ?_
      refine ww_callVV (As := [.int 59]) (rest := []) (o := x0) hX (Rk.of B.2.2.1 B.2.2.2.1 (by decide) (by decide)) g_X12_452 g_X12_452.in (fun _ => c_X12_needSign (x_G X) (x_l X) fu x0 59 s32) rfl rfl (Nat.le_of_ble_eq_true rfl) dX12_cue_180 (fun s33 => ?_)
      refine ww_goto (tgt := 151) hX dX12_cue_183 (by decide) ?_
      exact h_151 x0 x2 x4 x5  s33
def b_X12_cue_151 (fu : Nat) : Nat → Nat → Int32 → Int32 → Int32 → St → Option (Int32 × St)
  | 0, _, _, _, _, _ => none
  | i + 1, x0, x2, x4, x5, st => b_X12_cue_151_b fu (b_X12_cue_151 fu i) x0 x2 x4 x5 st
theorem t_X12_cue_151 {X : CX} {res : Int32 × St} (B : BI X cX12_cue RX12 7 11 NN (some .int) res) (fu : Nat) : ∀ (i : Nat) (x0 : Nat) (x2 : Int32) (x4 : Int32) (x5 : Int32)  (st : St), WW X res NN 151 [(0, .ref (x_b X + x0)), (2, .int x2), (4, .int x4), (5, .int x5)] [] st (b_X12_cue_151 fu i x0 x2 x4 x5 st) := by
  intro i
  induction i with
  | zero => intro x0 x2 x4 x5 st; exact ww_none
  | succ i ih => intro x0 x2 x4 x5 st; exact t_X12_cue_151_b B fu (b_X12_cue_151 fu i) ih x0 x2 x4 x5 st
def b_X12_cue_130_b (fu : Nat) (k_130 : Nat → Int32 → Int32 → Int32 → Int32 → St → Option (Int32 × St)) (x0 : Nat) (x2 : Int32) (x4 : Int32) (x5 : Int32) (x6 : Int32)  (st : St) : Option (Int32 × St) :=
  if 64 < x6 then (
  b_X12_cue_151 fu fu x0 x2 x4 x5  st)
  else (
  ck (¬ gR st x0 37 = 0) <|
  ck ((kd x0).1 = 12) <|
  bd (gR st x0 37) fun o34 =>
  ck (isb 0) <|
  ck ((kd o34).1 = 102 ∧ inb x6 (kd o34).2) <|
  bd (sI st o34 (ix x6) 0) fun s35 =>
  bd (x6 + 1) fun v36 =>
  k_130 x0 x2 x4 x5 v36  s35)
set_option maxHeartbeats 4000000 in
set_option maxRecDepth 100000 in
theorem t_X12_cue_130_b {X : CX} {res : Int32 × St} (B : BI X cX12_cue RX12 7 11 NN (some .int) res) (fu : Nat) (k_130 : Nat → Int32 → Int32 → Int32 → Int32 → St → Option (Int32 × St)) (h_130 : ∀ (x0 : Nat) (x2 : Int32) (x4 : Int32) (x5 : Int32) (x6 : Int32)  (st : St), WW X res NN 130 [(0, .ref (x_b X + x0)), (2, .int x2), (4, .int x4), (5, .int x5), (6, .int x6)] [] st (k_130 x0 x2 x4 x5 x6 st)) (x0 : Nat) (x2 : Int32) (x4 : Int32) (x5 : Int32) (x6 : Int32)  (st : St) : WW X res NN 130 [(0, .ref (x_b X + x0)), (2, .int x2), (4, .int x4), (5, .int x5), (6, .int x6)] [] st (b_X12_cue_130_b fu k_130 x0 x2 x4 x5 x6 st) := by
  have hX := B.1
  have hL := B.2.1
  unfold b_X12_cue_130_b
  refine ww_iload hX 4 rfl dX12_cue_130 ?_
  refine ww_bipush (v := 64) hX rfl dX12_cue_132 ?_
  refine ww_icmp_gt (tgt := 151) hX dX12_cue_134 (by decide) ?_ ?_
  · exact ww_sub [0, 1, 2, 3] rfl (t_X12_cue_151 B fu fu x0 x2 x4 x5  st)
  · refine ww_aload_n hX 0 rfl dX12_cue_137 rfl ?_
    refine ww_getR hX f_X12_102 (Or.inr ⟨_, rfl⟩) dX12_cue_138 ?_
    refine ww_bdR (fun o34 => ?_)
    refine ww_iload hX 4 rfl dX12_cue_141 ?_
    refine ww_iconst (v := 0) hX rfl dX12_cue_143 ?_
    refine ww_zastc hX k_zast dX12_cue_144 ?_
    refine ww_bds (fun s35 => ?_)
    refine ww_iincb (lv' := fun v36 => [(6, .int v36), (0, .ref (x_b X + x0)), (2, .int x2), (4, .int x4), (5, .int x5)]) (c := 1) hX hL 4 rfl dX12_cue_145 rfl (by decide) (fun _ => rfl) (fun v36 => ?_)
    refine ww_goto (tgt := 130) hX dX12_cue_148 (by decide) ?_
    exact ww_sub [1, 2, 3, 4, 0] rfl (h_130 x0 x2 x4 x5 v36  s35)
def b_X12_cue_130 (fu : Nat) : Nat → Nat → Int32 → Int32 → Int32 → Int32 → St → Option (Int32 × St)
  | 0, _, _, _, _, _, _ => none
  | i + 1, x0, x2, x4, x5, x6, st => b_X12_cue_130_b fu (b_X12_cue_130 fu i) x0 x2 x4 x5 x6 st
theorem t_X12_cue_130 {X : CX} {res : Int32 × St} (B : BI X cX12_cue RX12 7 11 NN (some .int) res) (fu : Nat) : ∀ (i : Nat) (x0 : Nat) (x2 : Int32) (x4 : Int32) (x5 : Int32) (x6 : Int32)  (st : St), WW X res NN 130 [(0, .ref (x_b X + x0)), (2, .int x2), (4, .int x4), (5, .int x5), (6, .int x6)] [] st (b_X12_cue_130 fu i x0 x2 x4 x5 x6 st) := by
  intro i
  induction i with
  | zero => intro x0 x2 x4 x5 x6 st; exact ww_none
  | succ i ih => intro x0 x2 x4 x5 x6 st; exact t_X12_cue_130_b B fu (b_X12_cue_130 fu i) ih x0 x2 x4 x5 x6 st
def b_X12_cue_102 (fu : Nat) (x0 : Nat) (x2 : Int32) (x4 : Int32) (y0 : Int32) (st : St) : Option (Int32 × St) :=
  ck ((kd x0).1 = 12) <|
  cv (f_X12_needSign fu x0 123 st) fun s19 =>
  ck (¬ gR s19 x0 29 = 0) <|
  ck ((kd x0).1 = 12) <|
  bd (gR s19 x0 29) fun o20 =>
  ck ((kd x0).1 = 12) <|
  ck ((kd o20).1 = 100 ∧ inb x2 (kd o20).2) <|
  bd (sI s19 o20 (ix x2) (gI s19 x0 35)) fun s21 =>
  ck (¬ gR s21 x0 28 = 0) <|
  ck ((kd x0).1 = 12) <|
  bd (gR s21 x0 28) fun o22 =>
  ck ((kd o22).1 = 100 ∧ inb x2 (kd o22).2) <|
  bd (sI s21 o22 (ix x2) 0) fun s23 =>
  b_X12_cue_130 fu fu x0 x2 x4 y0 1  s23
set_option maxHeartbeats 4000000 in
set_option maxRecDepth 100000 in
theorem t_X12_cue_102 {X : CX} {res : Int32 × St} (B : BI X cX12_cue RX12 7 11 NN (some .int) res) (fu : Nat) (x0 : Nat) (x2 : Int32) (x4 : Int32) (y0 : Int32) (st : St) : WW X res NN 102 [(0, .ref (x_b X + x0)), (2, .int x2), (4, .int x4)] [.int y0] st (b_X12_cue_102 fu x0 x2 x4 y0 st) := by
  have hX := B.1
  have hL := B.2.1
  unfold b_X12_cue_102
  refine ww_istore (lv' := [(5, .int y0), (0, .ref (x_b X + x0)), (2, .int x2), (4, .int x4)]) hX hL dX12_cue_102 (by decide) rfl ?_
  refine ww_aload_n hX 1 rfl dX12_cue_104 rfl ?_
  refine ww_bipush (v := 123) hX rfl dX12_cue_105 ?_
  refine ww_callVV (As := [.int 123]) (rest := []) (o := x0) hX (Rk.of B.2.2.1 B.2.2.2.1 (by decide) (by decide)) g_X12_452 g_X12_452.in (fun _ => c_X12_needSign (x_G X) (x_l X) fu x0 123 st) rfl rfl (Nat.le_of_ble_eq_true rfl) dX12_cue_107 (fun s19 => ?_)
  refine ww_aload_n hX 1 rfl dX12_cue_110 rfl ?_
  refine ww_getR hX f_X12_84 (Or.inr ⟨_, rfl⟩) dX12_cue_111 ?_
  refine ww_bdR (fun o20 => ?_)
  refine ww_iload_n hX 2 rfl dX12_cue_114 rfl ?_
  refine ww_pc (b := 115) rfl ?_
  refine ww_aload_n hX 1 rfl dX12_cue_115 rfl ?_
  refine ww_getI hX f_X12_432 (Or.inl rfl) dX12_cue_116 ?_
  refine ww_iastc hX k_iast dX12_cue_119 ?_
  refine ww_bds (fun s21 => ?_)
  refine ww_aload_n hX 1 rfl dX12_cue_120 rfl ?_
  refine ww_getR hX f_X12_81 (Or.inr ⟨_, rfl⟩) dX12_cue_121 ?_
  refine ww_bdR (fun o22 => ?_)
  refine ww_iload_n hX 2 rfl dX12_cue_124 rfl ?_
  refine ww_iconst (v := 0) hX rfl dX12_cue_125 ?_
  refine ww_iastc hX k_iast dX12_cue_126 ?_
  refine ww_bds (fun s23 => ?_)
  refine ww_pc (b := 127) rfl ?_
  refine ww_iconst (v := 1) hX rfl dX12_cue_127 ?_
  refine ww_istore (lv' := [(6, .int 1), (5, .int y0), (0, .ref (x_b X + x0)), (2, .int x2), (4, .int x4)]) hX hL dX12_cue_128 (by decide) rfl ?_
  exact ww_sub [2, 3, 4, 1, 0] rfl (t_X12_cue_130 B fu fu x0 x2 x4 y0 1  s23)
def b_X12_cue_97 (fu : Nat) (x0 : Nat) (x2 : Int32) (x4 : Int32)  (st : St) : Option (Int32 × St) :=
  b_X12_cue_102 fu x0 x2 x4 1 st
set_option maxHeartbeats 4000000 in
set_option maxRecDepth 100000 in
theorem t_X12_cue_97 {X : CX} {res : Int32 × St} (B : BI X cX12_cue RX12 7 11 NN (some .int) res) (fu : Nat) (x0 : Nat) (x2 : Int32) (x4 : Int32)  (st : St) : WW X res NN 97 [(0, .ref (x_b X + x0)), (2, .int x2), (4, .int x4)] [] st (b_X12_cue_97 fu x0 x2 x4 st) := by
  have hX := B.1
  have hL := B.2.1
  unfold b_X12_cue_97
  refine ww_iconst (v := 1) hX rfl dX12_cue_97 ?_
  refine ww_goto (tgt := 102) hX dX12_cue_98 (by decide) ?_
  exact t_X12_cue_102 B fu x0 x2 x4 1 st
def b_X12_cue_42 (fu : Nat) (x0 : Nat) (x2 : Int32) (x4 : Int32)  (st : St) : Option (Int32 × St) :=
  ck (¬ gR st x0 22 = 0) <|
  ck ((kd x0).1 = 12) <|
  bd (gR st x0 22) fun o5 =>
  ck ((kd o5).1 = 100 ∧ inb x2 (kd o5).2) <|
  bd (sI st o5 (ix x2) x4) fun s6 =>
  ck (¬ gR s6 x0 23 = 0) <|
  ck ((kd x0).1 = 12) <|
  bd (gR s6 x0 23) fun o7 =>
  ck ((kd o7).1 = 100 ∧ inb x2 (kd o7).2) <|
  bd (sI s6 o7 (ix x2) 0) fun s8 =>
  ck (¬ gR s8 x0 24 = 0) <|
  ck ((kd x0).1 = 12) <|
  bd (gR s8 x0 24) fun o9 =>
  ck ((kd o9).1 = 100 ∧ inb x2 (kd o9).2) <|
  bd (sI s8 o9 (ix x2) 0) fun s10 =>
  ck (¬ gR s10 x0 25 = 0) <|
  ck ((kd x0).1 = 12) <|
  bd (gR s10 x0 25) fun o11 =>
  ck ((kd o11).1 = 100 ∧ inb x2 (kd o11).2) <|
  bd (sI s10 o11 (ix x2) 0) fun s12 =>
  ck (¬ gR s12 x0 26 = 0) <|
  ck ((kd x0).1 = 12) <|
  bd (gR s12 x0 26) fun o13 =>
  ck ((kd o13).1 = 100 ∧ inb x2 (kd o13).2) <|
  bd (sI s12 o13 (ix x2) 0) fun s14 =>
  ck (¬ gR s14 x0 27 = 0) <|
  ck ((kd x0).1 = 12) <|
  bd (gR s14 x0 27) fun o15 =>
  ck ((kd o15).1 = 100 ∧ inb x2 (kd o15).2) <|
  bd (sI s14 o15 (ix x2) 0) fun s16 =>
  ck ((kd x0).1 = 12) <|
  ca (f_X12_options fu x0 x2 s16) fun r17 s18 =>
  if r17 = 0 then (
  if x2 = 0 then (
  b_X12_cue_97 fu x0 x2 x4  s18)
  else (
  b_X12_cue_102 fu x0 x2 x4 0 s18))
  else (
  b_X12_cue_97 fu x0 x2 x4  s18)
set_option maxHeartbeats 4000000 in
set_option maxRecDepth 100000 in
theorem t_X12_cue_42 {X : CX} {res : Int32 × St} (B : BI X cX12_cue RX12 7 11 NN (some .int) res) (fu : Nat) (x0 : Nat) (x2 : Int32) (x4 : Int32)  (st : St) : WW X res NN 42 [(0, .ref (x_b X + x0)), (2, .int x2), (4, .int x4)] [] st (b_X12_cue_42 fu x0 x2 x4 st) := by
  have hX := B.1
  have hL := B.2.1
  unfold b_X12_cue_42
  refine ww_aload_n hX 0 rfl dX12_cue_42 rfl ?_
  refine ww_getR hX f_X12_63 (Or.inr ⟨_, rfl⟩) dX12_cue_43 ?_
  refine ww_bdR (fun o5 => ?_)
  refine ww_iload_n hX 1 rfl dX12_cue_46 rfl ?_
  refine ww_iload hX 2 rfl dX12_cue_47 ?_
  refine ww_iastc hX k_iast dX12_cue_49 ?_
  refine ww_bds (fun s6 => ?_)
  refine ww_aload_n hX 0 rfl dX12_cue_50 rfl ?_
  refine ww_getR hX f_X12_66 (Or.inr ⟨_, rfl⟩) dX12_cue_51 ?_
  refine ww_bdR (fun o7 => ?_)
  refine ww_pc (b := 54) rfl ?_
  refine ww_iload_n hX 1 rfl dX12_cue_54 rfl ?_
  refine ww_iconst (v := 0) hX rfl dX12_cue_55 ?_
  refine ww_iastc hX k_iast dX12_cue_56 ?_
  refine ww_bds (fun s8 => ?_)
  refine ww_aload_n hX 0 rfl dX12_cue_57 rfl ?_
  refine ww_getR hX f_X12_69 (Or.inr ⟨_, rfl⟩) dX12_cue_58 ?_
  refine ww_bdR (fun o9 => ?_)
  refine ww_iload_n hX 1 rfl dX12_cue_61 rfl ?_
  refine ww_iconst (v := 0) hX rfl dX12_cue_62 ?_
  refine ww_iastc hX k_iast dX12_cue_63 ?_
  refine ww_bds (fun s10 => ?_)
  refine ww_pc (b := 64) rfl ?_
  refine ww_aload_n hX 0 rfl dX12_cue_64 rfl ?_
  refine ww_getR hX f_X12_72 (Or.inr ⟨_, rfl⟩) dX12_cue_65 ?_
  refine ww_bdR (fun o11 => ?_)
  refine ww_iload_n hX 1 rfl dX12_cue_68 rfl ?_
  refine ww_iconst (v := 0) hX rfl dX12_cue_69 ?_
  refine ww_iastc hX k_iast dX12_cue_70 ?_
  refine ww_bds (fun s12 => ?_)
  refine ww_aload_n hX 0 rfl dX12_cue_71 rfl ?_
  refine ww_getR hX f_X12_75 (Or.inr ⟨_, rfl⟩) dX12_cue_72 ?_
  refine ww_bdR (fun o13 => ?_)
  refine ww_iload_n hX 1 rfl dX12_cue_75 rfl ?_
  refine ww_pc (b := 76) rfl ?_
  refine ww_iconst (v := 0) hX rfl dX12_cue_76 ?_
  refine ww_iastc hX k_iast dX12_cue_77 ?_
  refine ww_bds (fun s14 => ?_)
  refine ww_aload_n hX 0 rfl dX12_cue_78 rfl ?_
  refine ww_getR hX f_X12_78 (Or.inr ⟨_, rfl⟩) dX12_cue_79 ?_
  refine ww_bdR (fun o15 => ?_)
  refine ww_iload_n hX 1 rfl dX12_cue_82 rfl ?_
  refine ww_iconst (v := 0) hX rfl dX12_cue_83 ?_
  refine ww_iastc hX k_iast dX12_cue_84 ?_
  refine ww_bds (fun s16 => ?_)
  refine ww_aload_n hX 0 rfl dX12_cue_85 rfl ?_
  refine ww_pc (b := 86) rfl ?_
  refine ww_iload_n hX 1 rfl dX12_cue_86 rfl ?_
  refine ww_callVI (As := [.int x2]) (rest := []) (o := x0) hX (Rk.of B.2.2.1 B.2.2.2.1 (by decide) (by decide)) g_X12_449 g_X12_449.in (fun _ => c_X12_options (x_G X) (x_l X) fu x0 x2 s16) rfl rfl (Nat.le_of_ble_eq_true rfl) dX12_cue_87 (fun r17 s18 => ?_)
  refine ww_if_ne (tgt := 97) hX dX12_cue_90 (by decide) ?_ ?_
  · exact t_X12_cue_97 B fu x0 x2 x4  s18
  · refine ww_iload_n hX 1 rfl dX12_cue_93 rfl ?_
    refine ww_if_ne (tgt := 101) hX dX12_cue_94 (by decide) ?_ ?_
    · refine ww_iconst (v := 0) hX rfl dX12_cue_101 ?_
      exact t_X12_cue_102 B fu x0 x2 x4 0 s18
    · exact t_X12_cue_97 B fu x0 x2 x4  s18
def f_X12_cue (fu : Nat) (th : Nat) (p1 : Int32) (p2 : Int32) (st : St) : Option (Int32 × St) :=
  ck (¬ gR st th 4 = 0) <|
  ck ((kd th).1 = 12) <|
  bd (gR st th 4) fun o1 =>
  ck ((kd th).1 = 12) <|
  ck ((kd o1).1 = 100 ∧ inb (gI st th 5) (kd o1).2) <|
  bd (gI st o1 (ix (gI st th 5))) fun v2 =>
  ck ((kd th).1 = 12) <|
  ca (f_X12_name fu th st) fun r3 s4 =>
  ck ((kd th).1 = 12) <|
  if (gI s4 th 8) = 0 then (
  ck ((kd th).1 = 12) <|
  if (gI s4 th 38) = 0 then (
  b_X12_cue_42 fu th p2 r3  s4)
  else (
  if p1 < r3 then (
  b_X12_cue_42 fu th p2 r3  s4)
  else (
  ck ((kd th).1 = 12) <|
  cv (f_X12_tell fu th 3 v2 s4) fun s37 =>
  b_X12_cue_42 fu th p2 r3  s37)))
  else (
  b_X12_cue_42 fu th p2 r3  s4)
set_option maxHeartbeats 4000000 in
set_option maxRecDepth 100000 in
theorem t_X12_cue {X : CX} {res : Int32 × St} (B : BI X cX12_cue RX12 7 11 NN (some .int) res) (fu : Nat) (th : Nat) (p1 : Int32) (p2 : Int32) (st : St) : WW X res NN 0 [(0, .ref (x_b X + th)), (1, .int p1), (2, .int p2)] [] st (f_X12_cue fu th p1 p2 st) := by
  have hX := B.1
  have hL := B.2.1
  unfold f_X12_cue
  refine ww_aload_n hX 0 rfl dX12_cue_0 rfl ?_
  refine ww_getR hX f_X12_21 (Or.inr ⟨_, rfl⟩) dX12_cue_1 ?_
  refine ww_bdR (fun o1 => ?_)
  refine ww_aload_n hX 0 rfl dX12_cue_4 rfl ?_
  refine ww_getI hX f_X12_381 (Or.inl rfl) dX12_cue_5 ?_
  refine ww_ialdc hX k_iald dX12_cue_8 ?_
  refine ww_bdi (fun v2 => ?_)
  refine ww_istore_n (lv' := [(3, .int v2), (0, .ref (x_b X + th)), (1, .int p1), (2, .int p2)]) hX hL dX12_cue_9 rfl (by decide) rfl ?_
  refine ww_aload_n hX 1 rfl dX12_cue_10 rfl ?_
  refine ww_pc (b := 11) rfl ?_
  refine ww_callVI (As := []) (rest := []) (o := th) hX (Rk.of B.2.2.1 B.2.2.2.1 (by decide) (by decide)) g_X12_446 g_X12_446.in (fun _ => c_X12_name (x_G X) (x_l X) fu th st) rfl rfl (Nat.le_of_ble_eq_true rfl) dX12_cue_11 (fun r3 s4 => ?_)
  refine ww_istore (lv' := [(4, .int r3), (3, .int v2), (0, .ref (x_b X + th)), (1, .int p1), (2, .int p2)]) hX hL dX12_cue_14 (by decide) rfl ?_
  refine ww_aload_n hX 2 rfl dX12_cue_16 rfl ?_
  refine ww_getI hX f_X12_390 (Or.inr rfl) dX12_cue_17 ?_
  refine ww_if_ne (tgt := 42) hX dX12_cue_20 (by decide) ?_ ?_
  · exact ww_sub [2, 4, 0] rfl (t_X12_cue_42 B fu th p2 r3  s4)
  · refine ww_aload_n hX 2 rfl dX12_cue_23 rfl ?_
    refine ww_getI hX f_X12_423 (Or.inr rfl) dX12_cue_24 ?_
    refine ww_if_eq (tgt := 42) hX dX12_cue_27 (by decide) ?_ ?_
    · exact ww_sub [2, 4, 0] rfl (t_X12_cue_42 B fu th p2 r3  s4)
    · refine ww_iload hX 0 rfl dX12_cue_30 ?_
      refine ww_iload_n hX 3 rfl dX12_cue_32 rfl ?_
      refine ww_icmp_gt (tgt := 42) hX dX12_cue_33 (by decide) ?_ ?_
      · exact ww_sub [2, 4, 0] rfl (t_X12_cue_42 B fu th p2 r3  s4)
      · refine ww_aload_n hX 2 rfl dX12_cue_36 rfl ?_
        refine ww_iconst (v := 3) hX rfl dX12_cue_37 ?_
        refine ww_iload_n hX 1 rfl dX12_cue_38 rfl ?_
        refine ww_callVV (As := [.int 3, .int v2]) (rest := []) (o := th) hX (Rk.of B.2.2.1 B.2.2.2.1 (by decide) (by decide)) g_X12_394 g_X12_394.in (fun _ => c_X12_tell (x_G X) (x_l X) fu th 3 v2 s4) rfl rfl (Nat.le_of_ble_eq_true rfl) dX12_cue_39 (fun s37 => ?_)
        exact ww_sub [2, 4, 0] rfl (t_X12_cue_42 B fu th p2 r3  s37)
theorem c_X12_cue (G : GX) (l : Launch) (fu : Nat) (th : Nat) (p1 : Int32) (p2 : Int32) (st : St) : MI G NN l yX12_cue cX12_cue 7 (some .int) 11 [.ref (G.2.2.1 + th), .int p1, .int p2] st (f_X12_cue fu th p1 p2 st) := mkI (by decide) (Nat.le_of_ble_eq_true rfl) (fun X res hl hG B => by subst hl; subst hG; exact t_X12_cue B fu th p1 p2 st)
/-! StageHouseModel.fresh(I)V -/
def b_X12_fresh_32_b (fu : Nat) (k_32 : Nat → Int32 → Int32 → St → Option (St)) (x0 : Nat) (x1 : Int32) (x2 : Int32)  (st : St) : Option (St) :=
  if 65 ≤ x2 then (
  some st)
  else (
  ck (¬ gR st x0 45 = 0) <|
  ck ((kd x0).1 = 12) <|
  bd (gR st x0 45) fun o9 =>
  ck ((kd o9).1 = 100 ∧ inb ((65 * x1) + x2) (kd o9).2) <|
  bd (sI st o9 (ix ((65 * x1) + x2)) 0) fun s10 =>
  ck (¬ gR s10 x0 46 = 0) <|
  ck ((kd x0).1 = 12) <|
  bd (gR s10 x0 46) fun o11 =>
  ck ((kd o11).1 = 100 ∧ inb ((65 * x1) + x2) (kd o11).2) <|
  bd (sI s10 o11 (ix ((65 * x1) + x2)) 0) fun s12 =>
  ck (¬ gR s12 x0 49 = 0) <|
  ck ((kd x0).1 = 12) <|
  bd (gR s12 x0 49) fun o13 =>
  ck ((kd o13).1 = 100 ∧ inb ((65 * x1) + x2) (kd o13).2) <|
  bd (sI s12 o13 (ix ((65 * x1) + x2)) 0) fun s14 =>
  bd (x2 + 1) fun v15 =>
  k_32 x0 x1 v15  s14)
set_option maxHeartbeats 4000000 in
set_option maxRecDepth 100000 in
theorem t_X12_fresh_32_b {X : CX} {res : St} (B : BV X cX12_fresh RX12 3 1 NN none res) (fu : Nat) (k_32 : Nat → Int32 → Int32 → St → Option (St)) (h_32 : ∀ (x0 : Nat) (x1 : Int32) (x2 : Int32)  (st : St), WW X res NN 32 [(0, .ref (x_b X + x0)), (1, .int x1), (2, .int x2)] [] st (k_32 x0 x1 x2 st)) (x0 : Nat) (x1 : Int32) (x2 : Int32)  (st : St) : WW X res NN 32 [(0, .ref (x_b X + x0)), (1, .int x1), (2, .int x2)] [] st (b_X12_fresh_32_b fu k_32 x0 x1 x2 st) := by
  have hX := B.1
  have hL := B.2.1
  unfold b_X12_fresh_32_b
  refine ww_iload_n hX 2 rfl dX12_fresh_32 rfl ?_
  refine ww_bipush (v := 65) hX rfl dX12_fresh_33 ?_
  refine ww_icmp_ge (tgt := 80) hX dX12_fresh_35 (by decide) ?_ ?_
  · exact ww_vret B dX12_fresh_80
  · refine ww_aload_n hX 0 rfl dX12_fresh_38 rfl ?_
    refine ww_getR hX f_X12_121 (Or.inr ⟨_, rfl⟩) dX12_fresh_39 ?_
    refine ww_bdR (fun o9 => ?_)
    refine ww_bipush (v := 65) hX rfl dX12_fresh_42 ?_
    refine ww_iload_n hX 1 rfl dX12_fresh_44 rfl ?_
    refine ww_imul hX dX12_fresh_45 ?_
    refine ww_iload_n hX 2 rfl dX12_fresh_46 rfl ?_
    refine ww_iadd hX dX12_fresh_47 ?_
    refine ww_pc (b := 48) rfl ?_
    refine ww_iconst (v := 0) hX rfl dX12_fresh_48 ?_
    refine ww_iastc hX k_iast dX12_fresh_49 ?_
    refine ww_bds (fun s10 => ?_)
    refine ww_aload_n hX 0 rfl dX12_fresh_50 rfl ?_
    refine ww_getR hX f_X12_124 (Or.inr ⟨_, rfl⟩) dX12_fresh_51 ?_
    refine ww_bdR (fun o11 => ?_)
    refine ww_bipush (v := 65) hX rfl dX12_fresh_54 ?_
    refine ww_iload_n hX 1 rfl dX12_fresh_56 rfl ?_
    refine ww_imul hX dX12_fresh_57 ?_
    refine ww_iload_n hX 2 rfl dX12_fresh_58 rfl ?_
    refine ww_pc (b := 59) rfl ?_
    refine ww_iadd hX dX12_fresh_59 ?_
    refine ww_iconst (v := 0) hX rfl dX12_fresh_60 ?_
    refine ww_iastc hX k_iast dX12_fresh_61 ?_
    refine ww_bds (fun s12 => ?_)
    refine ww_aload_n hX 0 rfl dX12_fresh_62 rfl ?_
    refine ww_getR hX f_X12_133 (Or.inr ⟨_, rfl⟩) dX12_fresh_63 ?_
    refine ww_bdR (fun o13 => ?_)
    refine ww_bipush (v := 65) hX rfl dX12_fresh_66 ?_
    refine ww_iload_n hX 1 rfl dX12_fresh_68 rfl ?_
    refine ww_imul hX dX12_fresh_69 ?_
    refine ww_pc (b := 70) rfl ?_
    refine ww_iload_n hX 2 rfl dX12_fresh_70 rfl ?_
    refine ww_iadd hX dX12_fresh_71 ?_
    refine ww_iconst (v := 0) hX rfl dX12_fresh_72 ?_
    refine ww_iastc hX k_iast dX12_fresh_73 ?_
    refine ww_bds (fun s14 => ?_)
    refine ww_iincb (lv' := fun v15 => [(2, .int v15), (0, .ref (x_b X + x0)), (1, .int x1)]) (c := 1) hX hL 2 rfl dX12_fresh_74 rfl (by decide) (fun _ => rfl) (fun v15 => ?_)
    refine ww_goto (tgt := 32) hX dX12_fresh_77 (by decide) ?_
    exact ww_sub [1, 2, 0] rfl (h_32 x0 x1 v15  s14)
def b_X12_fresh_32 (fu : Nat) : Nat → Nat → Int32 → Int32 → St → Option (St)
  | 0, _, _, _, _ => none
  | i + 1, x0, x1, x2, st => b_X12_fresh_32_b fu (b_X12_fresh_32 fu i) x0 x1 x2 st
theorem t_X12_fresh_32 {X : CX} {res : St} (B : BV X cX12_fresh RX12 3 1 NN none res) (fu : Nat) : ∀ (i : Nat) (x0 : Nat) (x1 : Int32) (x2 : Int32)  (st : St), WW X res NN 32 [(0, .ref (x_b X + x0)), (1, .int x1), (2, .int x2)] [] st (b_X12_fresh_32 fu i x0 x1 x2 st) := by
  intro i
  induction i with
  | zero => intro x0 x1 x2 st; exact ww_none
  | succ i ih => intro x0 x1 x2 st; exact t_X12_fresh_32_b B fu (b_X12_fresh_32 fu i) ih x0 x1 x2 st
def f_X12_fresh (fu : Nat) (th : Nat) (p1 : Int32) (st : St) : Option (St) :=
  ck (¬ gR st th 41 = 0) <|
  ck ((kd th).1 = 12) <|
  bd (gR st th 41) fun o1 =>
  ck ((kd o1).1 = 100 ∧ inb p1 (kd o1).2) <|
  bd (sI st o1 (ix p1) ((-1))) fun s2 =>
  ck (¬ gR s2 th 42 = 0) <|
  ck ((kd th).1 = 12) <|
  bd (gR s2 th 42) fun o3 =>
  ck ((kd o3).1 = 100 ∧ inb p1 (kd o3).2) <|
  bd (sI s2 o3 (ix p1) ((-1))) fun s4 =>
  ck (¬ gR s4 th 43 = 0) <|
  ck ((kd th).1 = 12) <|
  bd (gR s4 th 43) fun o5 =>
  ck ((kd o5).1 = 100 ∧ inb p1 (kd o5).2) <|
  bd (sI s4 o5 (ix p1) ((-1))) fun s6 =>
  ck (¬ gR s6 th 44 = 0) <|
  ck ((kd th).1 = 12) <|
  bd (gR s6 th 44) fun o7 =>
  ck ((kd o7).1 = 100 ∧ inb p1 (kd o7).2) <|
  bd (sI s6 o7 (ix p1) 255) fun s8 =>
  b_X12_fresh_32 fu fu th p1 0  s8
set_option maxHeartbeats 4000000 in
set_option maxRecDepth 100000 in
theorem t_X12_fresh {X : CX} {res : St} (B : BV X cX12_fresh RX12 3 1 NN none res) (fu : Nat) (th : Nat) (p1 : Int32) (st : St) : WW X res NN 0 [(0, .ref (x_b X + th)), (1, .int p1)] [] st (f_X12_fresh fu th p1 st) := by
  have hX := B.1
  have hL := B.2.1
  unfold f_X12_fresh
  refine ww_aload_n hX 0 rfl dX12_fresh_0 rfl ?_
  refine ww_getR hX f_X12_109 (Or.inr ⟨_, rfl⟩) dX12_fresh_1 ?_
  refine ww_bdR (fun o1 => ?_)
  refine ww_iload_n hX 1 rfl dX12_fresh_4 rfl ?_
  refine ww_iconst (v := (-1)) hX rfl dX12_fresh_5 ?_
  refine ww_iastc hX k_iast dX12_fresh_6 ?_
  refine ww_bds (fun s2 => ?_)
  refine ww_aload_n hX 0 rfl dX12_fresh_7 rfl ?_
  refine ww_getR hX f_X12_112 (Or.inr ⟨_, rfl⟩) dX12_fresh_8 ?_
  refine ww_bdR (fun o3 => ?_)
  refine ww_pc (b := 11) rfl ?_
  refine ww_iload_n hX 1 rfl dX12_fresh_11 rfl ?_
  refine ww_iconst (v := (-1)) hX rfl dX12_fresh_12 ?_
  refine ww_iastc hX k_iast dX12_fresh_13 ?_
  refine ww_bds (fun s4 => ?_)
  refine ww_aload_n hX 0 rfl dX12_fresh_14 rfl ?_
  refine ww_getR hX f_X12_115 (Or.inr ⟨_, rfl⟩) dX12_fresh_15 ?_
  refine ww_bdR (fun o5 => ?_)
  refine ww_iload_n hX 1 rfl dX12_fresh_18 rfl ?_
  refine ww_iconst (v := (-1)) hX rfl dX12_fresh_19 ?_
  refine ww_iastc hX k_iast dX12_fresh_20 ?_
  refine ww_bds (fun s6 => ?_)
  refine ww_pc (b := 21) rfl ?_
  refine ww_aload_n hX 0 rfl dX12_fresh_21 rfl ?_
  refine ww_getR hX f_X12_118 (Or.inr ⟨_, rfl⟩) dX12_fresh_22 ?_
  refine ww_bdR (fun o7 => ?_)
  refine ww_iload_n hX 1 rfl dX12_fresh_25 rfl ?_
  refine ww_sipush (v := 255) hX rfl dX12_fresh_26 ?_
  refine ww_iastc hX k_iast dX12_fresh_29 ?_
  refine ww_bds (fun s8 => ?_)
  refine ww_iconst (v := 0) hX rfl dX12_fresh_30 ?_
  refine ww_istore_n (lv' := [(2, .int 0), (0, .ref (x_b X + th)), (1, .int p1)]) hX hL dX12_fresh_31 rfl (by decide) rfl ?_
  exact ww_sub [1, 2, 0] rfl (t_X12_fresh_32 B fu fu th p1 0  s8)
theorem c_X12_fresh (G : GX) (l : Launch) (fu : Nat) (th : Nat) (p1 : Int32) (st : St) : MV G NN l yX12_fresh cX12_fresh 3 none 1 [.ref (G.2.2.1 + th), .int p1] st (f_X12_fresh fu th p1 st) := mkV (by decide) (Nat.le_of_ble_eq_true rfl) (fun X res hl hG B => by subst hl; subst hG; exact t_X12_fresh B fu th p1 st)
/-! StageHouseModel.keep(I)V -/
def b_X12_keep_171_b (fu : Nat) (k_171 : Nat → Int32 → Int32 → St → Option (St)) (x0 : Nat) (x1 : Int32) (x2 : Int32)  (st : St) : Option (St) :=
  ck ((kd x0).1 = 12) <|
  if (gI st x0 35) ≤ x2 then (
  some st)
  else (
  ck (¬ gR st x0 19 = 0) <|
  ck ((kd x0).1 = 12) <|
  bd (gR st x0 19) fun o3 =>
  ck (¬ gR st x0 31 = 0) <|
  ck ((kd x0).1 = 12) <|
  bd (gR st x0 31) fun o4 =>
  ck ((kd o4).1 = 100 ∧ inb x2 (kd o4).2) <|
  ck ((kd o3).1 = 100 ∧ inb ((x1 * 300) + x2) (kd o3).2) <|
  bd (sI st o3 (ix ((x1 * 300) + x2)) (gI st o4 (ix x2))) fun s5 =>
  ck (¬ gR s5 x0 20 = 0) <|
  ck ((kd x0).1 = 12) <|
  bd (gR s5 x0 20) fun o6 =>
  ck (¬ gR s5 x0 32 = 0) <|
  ck ((kd x0).1 = 12) <|
  bd (gR s5 x0 32) fun o7 =>
  ck ((kd o7).1 = 100 ∧ inb x2 (kd o7).2) <|
  ck ((kd o6).1 = 100 ∧ inb ((x1 * 300) + x2) (kd o6).2) <|
  bd (sI s5 o6 (ix ((x1 * 300) + x2)) (gI s5 o7 (ix x2))) fun s8 =>
  ck (¬ gR s8 x0 21 = 0) <|
  ck ((kd x0).1 = 12) <|
  bd (gR s8 x0 21) fun o9 =>
  ck (¬ gR s8 x0 33 = 0) <|
  ck ((kd x0).1 = 12) <|
  bd (gR s8 x0 33) fun o10 =>
  ck ((kd o10).1 = 100 ∧ inb x2 (kd o10).2) <|
  ck ((kd o9).1 = 100 ∧ inb ((x1 * 300) + x2) (kd o9).2) <|
  bd (sI s8 o9 (ix ((x1 * 300) + x2)) (gI s8 o10 (ix x2))) fun s11 =>
  bd (x2 + 1) fun v12 =>
  k_171 x0 x1 v12  s11)
set_option maxHeartbeats 4000000 in
set_option maxRecDepth 100000 in
theorem t_X12_keep_171_b {X : CX} {res : St} (B : BV X cX12_keep RX12 5 1 NN none res) (fu : Nat) (k_171 : Nat → Int32 → Int32 → St → Option (St)) (h_171 : ∀ (x0 : Nat) (x1 : Int32) (x2 : Int32)  (st : St), WW X res NN 171 [(0, .ref (x_b X + x0)), (1, .int x1), (2, .int x2)] [] st (k_171 x0 x1 x2 st)) (x0 : Nat) (x1 : Int32) (x2 : Int32)  (st : St) : WW X res NN 171 [(0, .ref (x_b X + x0)), (1, .int x1), (2, .int x2)] [] st (b_X12_keep_171_b fu k_171 x0 x1 x2 st) := by
  have hX := B.1
  have hL := B.2.1
  unfold b_X12_keep_171_b
  refine ww_iload_n hX 2 rfl dX12_keep_171 rfl ?_
  refine ww_aload_n hX 0 rfl dX12_keep_172 rfl ?_
  refine ww_getI hX f_X12_432 (Or.inl rfl) dX12_keep_173 ?_
  refine ww_icmp_ge (tgt := 239) hX dX12_keep_176 (by decide) ?_ ?_
  · exact ww_vret B dX12_keep_239
  · refine ww_aload_n hX 0 rfl dX12_keep_179 rfl ?_
    refine ww_getR hX f_X12_54 (Or.inr ⟨_, rfl⟩) dX12_keep_180 ?_
    refine ww_bdR (fun o3 => ?_)
    refine ww_iload_n hX 1 rfl dX12_keep_183 rfl ?_
    refine ww_sipush (v := 300) hX rfl dX12_keep_184 ?_
    refine ww_imul hX dX12_keep_187 ?_
    refine ww_iload_n hX 2 rfl dX12_keep_188 rfl ?_
    refine ww_iadd hX dX12_keep_189 ?_
    refine ww_pc (b := 190) rfl ?_
    refine ww_aload_n hX 0 rfl dX12_keep_190 rfl ?_
    refine ww_getR hX f_X12_90 (Or.inr ⟨_, rfl⟩) dX12_keep_191 ?_
    refine ww_bdR (fun o4 => ?_)
    refine ww_iload_n hX 2 rfl dX12_keep_194 rfl ?_
    refine ww_ialdc hX k_iald dX12_keep_195 ?_
    refine ww_iastc hX k_iast dX12_keep_196 ?_
    refine ww_bds (fun s5 => ?_)
    refine ww_aload_n hX 0 rfl dX12_keep_197 rfl ?_
    refine ww_getR hX f_X12_57 (Or.inr ⟨_, rfl⟩) dX12_keep_198 ?_
    refine ww_bdR (fun o6 => ?_)
    refine ww_iload_n hX 1 rfl dX12_keep_201 rfl ?_
    refine ww_pc (b := 202) rfl ?_
    refine ww_sipush (v := 300) hX rfl dX12_keep_202 ?_
    refine ww_imul hX dX12_keep_205 ?_
    refine ww_iload_n hX 2 rfl dX12_keep_206 rfl ?_
    refine ww_iadd hX dX12_keep_207 ?_
    refine ww_aload_n hX 0 rfl dX12_keep_208 rfl ?_
    refine ww_getR hX f_X12_93 (Or.inr ⟨_, rfl⟩) dX12_keep_209 ?_
    refine ww_bdR (fun o7 => ?_)
    refine ww_iload_n hX 2 rfl dX12_keep_212 rfl ?_
    refine ww_ialdc hX k_iald dX12_keep_213 ?_
    refine ww_pc (b := 214) rfl ?_
    refine ww_iastc hX k_iast dX12_keep_214 ?_
    refine ww_bds (fun s8 => ?_)
    refine ww_aload_n hX 0 rfl dX12_keep_215 rfl ?_
    refine ww_getR hX f_X12_60 (Or.inr ⟨_, rfl⟩) dX12_keep_216 ?_
    refine ww_bdR (fun o9 => ?_)
    refine ww_iload_n hX 1 rfl dX12_keep_219 rfl ?_
    refine ww_sipush (v := 300) hX rfl dX12_keep_220 ?_
    refine ww_imul hX dX12_keep_223 ?_
    refine ww_iload_n hX 2 rfl dX12_keep_224 rfl ?_
    refine ww_iadd hX dX12_keep_225 ?_
    refine ww_pc (b := 226) rfl ?_
    refine ww_aload_n hX 0 rfl dX12_keep_226 rfl ?_
    refine ww_getR hX f_X12_96 (Or.inr ⟨_, rfl⟩) dX12_keep_227 ?_
    refine ww_bdR (fun o10 => ?_)
    refine ww_iload_n hX 2 rfl dX12_keep_230 rfl ?_
    refine ww_ialdc hX k_iald dX12_keep_231 ?_
    refine ww_iastc hX k_iast dX12_keep_232 ?_
    refine ww_bds (fun s11 => ?_)
    refine ww_iincb (lv' := fun v12 => [(2, .int v12), (0, .ref (x_b X + x0)), (1, .int x1)]) (c := 1) hX hL 2 rfl dX12_keep_233 rfl (by decide) (fun _ => rfl) (fun v12 => ?_)
    refine ww_goto (tgt := 171) hX dX12_keep_236 (by decide) ?_
    exact ww_sub [1, 2, 0] rfl (h_171 x0 x1 v12  s11)
def b_X12_keep_171 (fu : Nat) : Nat → Nat → Int32 → Int32 → St → Option (St)
  | 0, _, _, _, _ => none
  | i + 1, x0, x1, x2, st => b_X12_keep_171_b fu (b_X12_keep_171 fu i) x0 x1 x2 st
theorem t_X12_keep_171 {X : CX} {res : St} (B : BV X cX12_keep RX12 5 1 NN none res) (fu : Nat) : ∀ (i : Nat) (x0 : Nat) (x1 : Int32) (x2 : Int32)  (st : St), WW X res NN 171 [(0, .ref (x_b X + x0)), (1, .int x1), (2, .int x2)] [] st (b_X12_keep_171 fu i x0 x1 x2 st) := by
  intro i
  induction i with
  | zero => intro x0 x1 x2 st; exact ww_none
  | succ i ih => intro x0 x1 x2 st; exact t_X12_keep_171_b B fu (b_X12_keep_171 fu i) ih x0 x1 x2 st
def b_X12_keep_126_b (fu : Nat) (k_12 : Nat → Int32 → Int32 → St → Option (St)) (k_126 : Nat → Int32 → Int32 → Int32 → Int32 → St → Option (St)) (x0 : Nat) (x1 : Int32) (x2 : Int32) (x3 : Int32) (x4 : Int32)  (st : St) : Option (St) :=
  if 64 < x4 then (
  bd (x2 + 1) fun v38 =>
  k_12 x0 x1 v38  st)
  else (
  ck (¬ gR st x0 18 = 0) <|
  ck ((kd x0).1 = 12) <|
  bd (gR st x0 18) fun o39 =>
  ck (¬ gR st x0 30 = 0) <|
  ck ((kd x0).1 = 12) <|
  bd (gR st x0 30) fun o40 =>
  ck ((kd o40).1 = 100 ∧ inb ((65 * x2) + x4) (kd o40).2) <|
  ck ((kd o39).1 = 100 ∧ inb ((65 * x3) + x4) (kd o39).2) <|
  bd (sI st o39 (ix ((65 * x3) + x4)) (gI st o40 (ix ((65 * x2) + x4)))) fun s41 =>
  bd (x4 + 1) fun v42 =>
  k_126 x0 x1 x2 x3 v42  s41)
set_option maxHeartbeats 4000000 in
set_option maxRecDepth 100000 in
theorem t_X12_keep_126_b {X : CX} {res : St} (B : BV X cX12_keep RX12 5 1 NN none res) (fu : Nat) (k_12 : Nat → Int32 → Int32 → St → Option (St)) (k_126 : Nat → Int32 → Int32 → Int32 → Int32 → St → Option (St)) (h_12 : ∀ (x0 : Nat) (x1 : Int32) (x2 : Int32)  (st : St), WW X res NN 12 [(0, .ref (x_b X + x0)), (1, .int x1), (2, .int x2)] [] st (k_12 x0 x1 x2 st)) (h_126 : ∀ (x0 : Nat) (x1 : Int32) (x2 : Int32) (x3 : Int32) (x4 : Int32)  (st : St), WW X res NN 126 [(0, .ref (x_b X + x0)), (1, .int x1), (2, .int x2), (3, .int x3), (4, .int x4)] [] st (k_126 x0 x1 x2 x3 x4 st)) (x0 : Nat) (x1 : Int32) (x2 : Int32) (x3 : Int32) (x4 : Int32)  (st : St) : WW X res NN 126 [(0, .ref (x_b X + x0)), (1, .int x1), (2, .int x2), (3, .int x3), (4, .int x4)] [] st (b_X12_keep_126_b fu k_12 k_126 x0 x1 x2 x3 x4 st) := by
  have hX := B.1
  have hL := B.2.1
  unfold b_X12_keep_126_b
  refine ww_iload hX 4 rfl dX12_keep_126 ?_
  refine ww_bipush (v := 64) hX rfl dX12_keep_128 ?_
  refine ww_icmp_gt (tgt := 163) hX dX12_keep_130 (by decide) ?_ ?_
  · refine ww_iincb (lv' := fun v38 => [(2, .int v38), (0, .ref (x_b X + x0)), (1, .int x1), (3, .int x3), (4, .int x4)]) (c := 1) hX hL 2 rfl dX12_keep_163 rfl (by decide) (fun _ => rfl) (fun v38 => ?_)
    refine ww_goto (tgt := 12) hX dX12_keep_166 (by decide) ?_
    exact ww_sub [1, 2, 0] rfl (h_12 x0 x1 v38  st)
  · refine ww_aload_n hX 0 rfl dX12_keep_133 rfl ?_
    refine ww_getR hX f_X12_51 (Or.inr ⟨_, rfl⟩) dX12_keep_134 ?_
    refine ww_bdR (fun o39 => ?_)
    refine ww_bipush (v := 65) hX rfl dX12_keep_137 ?_
    refine ww_iload_n hX 3 rfl dX12_keep_139 rfl ?_
    refine ww_imul hX dX12_keep_140 ?_
    refine ww_iload hX 4 rfl dX12_keep_141 ?_
    refine ww_iadd hX dX12_keep_143 ?_
    refine ww_pc (b := 144) rfl ?_
    refine ww_aload_n hX 0 rfl dX12_keep_144 rfl ?_
    refine ww_getR hX f_X12_87 (Or.inr ⟨_, rfl⟩) dX12_keep_145 ?_
    refine ww_bdR (fun o40 => ?_)
    refine ww_bipush (v := 65) hX rfl dX12_keep_148 ?_
    refine ww_iload_n hX 2 rfl dX12_keep_150 rfl ?_
    refine ww_imul hX dX12_keep_151 ?_
    refine ww_iload hX 4 rfl dX12_keep_152 ?_
    refine ww_iadd hX dX12_keep_154 ?_
    refine ww_ialdc hX k_iald dX12_keep_155 ?_
    refine ww_pc (b := 156) rfl ?_
    refine ww_iastc hX k_iast dX12_keep_156 ?_
    refine ww_bds (fun s41 => ?_)
    refine ww_iincb (lv' := fun v42 => [(4, .int v42), (0, .ref (x_b X + x0)), (1, .int x1), (2, .int x2), (3, .int x3)]) (c := 1) hX hL 4 rfl dX12_keep_157 rfl (by decide) (fun _ => rfl) (fun v42 => ?_)
    refine ww_goto (tgt := 126) hX dX12_keep_160 (by decide) ?_
    exact ww_sub [1, 2, 3, 4, 0] rfl (h_126 x0 x1 x2 x3 v42  s41)
def b_X12_keep_126 (fu : Nat) (k_12 : Nat → Int32 → Int32 → St → Option (St)) : Nat → Nat → Int32 → Int32 → Int32 → Int32 → St → Option (St)
  | 0, _, _, _, _, _, _ => none
  | i + 1, x0, x1, x2, x3, x4, st => b_X12_keep_126_b fu k_12 (b_X12_keep_126 fu k_12 i) x0 x1 x2 x3 x4 st
theorem t_X12_keep_126 {X : CX} {res : St} (B : BV X cX12_keep RX12 5 1 NN none res) (fu : Nat) (k_12 : Nat → Int32 → Int32 → St → Option (St)) (h_12 : ∀ (x0 : Nat) (x1 : Int32) (x2 : Int32)  (st : St), WW X res NN 12 [(0, .ref (x_b X + x0)), (1, .int x1), (2, .int x2)] [] st (k_12 x0 x1 x2 st)) : ∀ (i : Nat) (x0 : Nat) (x1 : Int32) (x2 : Int32) (x3 : Int32) (x4 : Int32)  (st : St), WW X res NN 126 [(0, .ref (x_b X + x0)), (1, .int x1), (2, .int x2), (3, .int x3), (4, .int x4)] [] st (b_X12_keep_126 fu k_12 i x0 x1 x2 x3 x4 st) := by
  intro i
  induction i with
  | zero => intro x0 x1 x2 x3 x4 st; exact ww_none
  | succ i ih => intro x0 x1 x2 x3 x4 st; exact t_X12_keep_126_b B fu k_12 (b_X12_keep_126 fu k_12 i) h_12 ih x0 x1 x2 x3 x4 st
def b_X12_keep_12_b (fu : Nat) (k_12 : Nat → Int32 → Int32 → St → Option (St)) (x0 : Nat) (x1 : Int32) (x2 : Int32)  (st : St) : Option (St) :=
  ck ((kd x0).1 = 12) <|
  if (gI st x0 34) ≤ x2 then (
  b_X12_keep_171 fu fu x0 x1 0  st)
  else (
  bd ((x1 * 60) + x2) fun v13 =>
  ck (¬ gR st x0 10 = 0) <|
  ck ((kd x0).1 = 12) <|
  bd (gR st x0 10) fun o14 =>
  ck (¬ gR st x0 22 = 0) <|
  ck ((kd x0).1 = 12) <|
  bd (gR st x0 22) fun o15 =>
  ck ((kd o15).1 = 100 ∧ inb x2 (kd o15).2) <|
  ck ((kd o14).1 = 100 ∧ inb v13 (kd o14).2) <|
  bd (sI st o14 (ix v13) (gI st o15 (ix x2))) fun s16 =>
  ck (¬ gR s16 x0 11 = 0) <|
  ck ((kd x0).1 = 12) <|
  bd (gR s16 x0 11) fun o17 =>
  ck (¬ gR s16 x0 23 = 0) <|
  ck ((kd x0).1 = 12) <|
  bd (gR s16 x0 23) fun o18 =>
  ck ((kd o18).1 = 100 ∧ inb x2 (kd o18).2) <|
  ck ((kd o17).1 = 100 ∧ inb v13 (kd o17).2) <|
  bd (sI s16 o17 (ix v13) (gI s16 o18 (ix x2))) fun s19 =>
  ck (¬ gR s19 x0 12 = 0) <|
  ck ((kd x0).1 = 12) <|
  bd (gR s19 x0 12) fun o20 =>
  ck (¬ gR s19 x0 24 = 0) <|
  ck ((kd x0).1 = 12) <|
  bd (gR s19 x0 24) fun o21 =>
  ck ((kd o21).1 = 100 ∧ inb x2 (kd o21).2) <|
  ck ((kd o20).1 = 100 ∧ inb v13 (kd o20).2) <|
  bd (sI s19 o20 (ix v13) (gI s19 o21 (ix x2))) fun s22 =>
  ck (¬ gR s22 x0 13 = 0) <|
  ck ((kd x0).1 = 12) <|
  bd (gR s22 x0 13) fun o23 =>
  ck (¬ gR s22 x0 25 = 0) <|
  ck ((kd x0).1 = 12) <|
  bd (gR s22 x0 25) fun o24 =>
  ck ((kd o24).1 = 100 ∧ inb x2 (kd o24).2) <|
  ck ((kd o23).1 = 100 ∧ inb v13 (kd o23).2) <|
  bd (sI s22 o23 (ix v13) (gI s22 o24 (ix x2))) fun s25 =>
  ck (¬ gR s25 x0 14 = 0) <|
  ck ((kd x0).1 = 12) <|
  bd (gR s25 x0 14) fun o26 =>
  ck (¬ gR s25 x0 26 = 0) <|
  ck ((kd x0).1 = 12) <|
  bd (gR s25 x0 26) fun o27 =>
  ck ((kd o27).1 = 100 ∧ inb x2 (kd o27).2) <|
  ck ((kd o26).1 = 100 ∧ inb v13 (kd o26).2) <|
  bd (sI s25 o26 (ix v13) (gI s25 o27 (ix x2))) fun s28 =>
  ck (¬ gR s28 x0 15 = 0) <|
  ck ((kd x0).1 = 12) <|
  bd (gR s28 x0 15) fun o29 =>
  ck (¬ gR s28 x0 27 = 0) <|
  ck ((kd x0).1 = 12) <|
  bd (gR s28 x0 27) fun o30 =>
  ck ((kd o30).1 = 100 ∧ inb x2 (kd o30).2) <|
  ck ((kd o29).1 = 100 ∧ inb v13 (kd o29).2) <|
  bd (sI s28 o29 (ix v13) (gI s28 o30 (ix x2))) fun s31 =>
  ck (¬ gR s31 x0 16 = 0) <|
  ck ((kd x0).1 = 12) <|
  bd (gR s31 x0 16) fun o32 =>
  ck (¬ gR s31 x0 28 = 0) <|
  ck ((kd x0).1 = 12) <|
  bd (gR s31 x0 28) fun o33 =>
  ck ((kd o33).1 = 100 ∧ inb x2 (kd o33).2) <|
  ck ((kd o32).1 = 100 ∧ inb v13 (kd o32).2) <|
  bd (sI s31 o32 (ix v13) (gI s31 o33 (ix x2))) fun s34 =>
  ck (¬ gR s34 x0 17 = 0) <|
  ck ((kd x0).1 = 12) <|
  bd (gR s34 x0 17) fun o35 =>
  ck (¬ gR s34 x0 29 = 0) <|
  ck ((kd x0).1 = 12) <|
  bd (gR s34 x0 29) fun o36 =>
  ck ((kd o36).1 = 100 ∧ inb x2 (kd o36).2) <|
  ck ((kd o35).1 = 100 ∧ inb v13 (kd o35).2) <|
  bd (sI s34 o35 (ix v13) (gI s34 o36 (ix x2))) fun s37 =>
  b_X12_keep_126 fu k_12 fu x0 x1 x2 v13 1  s37)
set_option maxHeartbeats 4000000 in
set_option maxRecDepth 100000 in
theorem t_X12_keep_12_b {X : CX} {res : St} (B : BV X cX12_keep RX12 5 1 NN none res) (fu : Nat) (k_12 : Nat → Int32 → Int32 → St → Option (St)) (h_12 : ∀ (x0 : Nat) (x1 : Int32) (x2 : Int32)  (st : St), WW X res NN 12 [(0, .ref (x_b X + x0)), (1, .int x1), (2, .int x2)] [] st (k_12 x0 x1 x2 st)) (x0 : Nat) (x1 : Int32) (x2 : Int32)  (st : St) : WW X res NN 12 [(0, .ref (x_b X + x0)), (1, .int x1), (2, .int x2)] [] st (b_X12_keep_12_b fu k_12 x0 x1 x2 st) := by
  have hX := B.1
  have hL := B.2.1
  unfold b_X12_keep_12_b
  refine ww_iload_n hX 2 rfl dX12_keep_12 rfl ?_
  refine ww_aload_n hX 0 rfl dX12_keep_13 rfl ?_
  refine ww_getI hX f_X12_429 (Or.inl rfl) dX12_keep_14 ?_
  refine ww_icmp_ge (tgt := 169) hX dX12_keep_17 (by decide) ?_ ?_
  · refine ww_iconst (v := 0) hX rfl dX12_keep_169 ?_
    refine ww_istore_n (lv' := [(2, .int 0), (0, .ref (x_b X + x0)), (1, .int x1)]) hX hL dX12_keep_170 rfl (by decide) rfl ?_
    exact ww_sub [1, 2, 0] rfl (t_X12_keep_171 B fu fu x0 x1 0  st)
  · refine ww_iload_n hX 1 rfl dX12_keep_20 rfl ?_
    refine ww_bipush (v := 60) hX rfl dX12_keep_21 ?_
    refine ww_imul hX dX12_keep_23 ?_
    refine ww_iload_n hX 2 rfl dX12_keep_24 rfl ?_
    refine ww_iadd hX dX12_keep_25 ?_
    refine ww_bdi (fun v13 => ?_)
    refine ww_istore_n (lv' := [(3, .int v13), (0, .ref (x_b X + x0)), (1, .int x1), (2, .int x2)]) hX hL dX12_keep_26 rfl (by decide) rfl ?_
    refine ww_aload_n hX 1 rfl dX12_keep_27 rfl ?_
    refine ww_pc (b := 28) rfl ?_
    refine ww_getR hX f_X12_27 (Or.inr ⟨_, rfl⟩) dX12_keep_28 ?_
    refine ww_bdR (fun o14 => ?_)
    refine ww_iload_n hX 0 rfl dX12_keep_31 rfl ?_
    refine ww_aload_n hX 1 rfl dX12_keep_32 rfl ?_
    refine ww_getR hX f_X12_63 (Or.inr ⟨_, rfl⟩) dX12_keep_33 ?_
    refine ww_bdR (fun o15 => ?_)
    refine ww_iload_n hX 3 rfl dX12_keep_36 rfl ?_
    refine ww_ialdc hX k_iald dX12_keep_37 ?_
    refine ww_iastc hX k_iast dX12_keep_38 ?_
    refine ww_bds (fun s16 => ?_)
    refine ww_aload_n hX 1 rfl dX12_keep_39 rfl ?_
    refine ww_pc (b := 40) rfl ?_
    refine ww_getR hX f_X12_30 (Or.inr ⟨_, rfl⟩) dX12_keep_40 ?_
    refine ww_bdR (fun o17 => ?_)
    refine ww_iload_n hX 0 rfl dX12_keep_43 rfl ?_
    refine ww_aload_n hX 1 rfl dX12_keep_44 rfl ?_
    refine ww_getR hX f_X12_66 (Or.inr ⟨_, rfl⟩) dX12_keep_45 ?_
    refine ww_bdR (fun o18 => ?_)
    refine ww_iload_n hX 3 rfl dX12_keep_48 rfl ?_
    refine ww_ialdc hX k_iald dX12_keep_49 ?_
    refine ww_iastc hX k_iast dX12_keep_50 ?_
    refine ww_bds (fun s19 => ?_)
    refine ww_aload_n hX 1 rfl dX12_keep_51 rfl ?_
    refine ww_pc (b := 52) rfl ?_
    refine ww_getR hX f_X12_33 (Or.inr ⟨_, rfl⟩) dX12_keep_52 ?_
    refine ww_bdR (fun o20 => ?_)
    refine ww_iload_n hX 0 rfl dX12_keep_55 rfl ?_
    refine ww_aload_n hX 1 rfl dX12_keep_56 rfl ?_
    refine ww_getR hX f_X12_69 (Or.inr ⟨_, rfl⟩) dX12_keep_57 ?_
    refine ww_bdR (fun o21 => ?_)
    refine ww_iload_n hX 3 rfl dX12_keep_60 rfl ?_
    refine ww_ialdc hX k_iald dX12_keep_61 ?_
    refine ww_iastc hX k_iast dX12_keep_62 ?_
    refine ww_bds (fun s22 => ?_)
    refine ww_aload_n hX 1 rfl dX12_keep_63 rfl ?_
    refine ww_pc (b := 64) rfl ?_
    refine ww_getR hX f_X12_36 (Or.inr ⟨_, rfl⟩) dX12_keep_64 ?_
    refine ww_bdR (fun o23 => ?_)
    refine ww_iload_n hX 0 rfl dX12_keep_67 rfl ?_
    refine ww_aload_n hX 1 rfl dX12_keep_68 rfl ?_
    refine ww_getR hX f_X12_72 (Or.inr ⟨_, rfl⟩) dX12_keep_69 ?_
    refine ww_bdR (fun o24 => ?_)
    refine ww_iload_n hX 3 rfl dX12_keep_72 rfl ?_
    refine ww_ialdc hX k_iald dX12_keep_73 ?_
    refine ww_iastc hX k_iast dX12_keep_74 ?_
    refine ww_bds (fun s25 => ?_)
    refine ww_aload_n hX 1 rfl dX12_keep_75 rfl ?_
    refine ww_pc (b := 76) rfl ?_
    refine ww_getR hX f_X12_39 (Or.inr ⟨_, rfl⟩) dX12_keep_76 ?_
    refine ww_bdR (fun o26 => ?_)
    refine ww_iload_n hX 0 rfl dX12_keep_79 rfl ?_
    refine ww_aload_n hX 1 rfl dX12_keep_80 rfl ?_
    refine ww_getR hX f_X12_75 (Or.inr ⟨_, rfl⟩) dX12_keep_81 ?_
    refine ww_bdR (fun o27 => ?_)
    refine ww_iload_n hX 3 rfl dX12_keep_84 rfl ?_
    refine ww_ialdc hX k_iald dX12_keep_85 ?_
    refine ww_iastc hX k_iast dX12_keep_86 ?_
    refine ww_bds (fun s28 => ?_)
    refine ww_aload_n hX 1 rfl dX12_keep_87 rfl ?_
    refine ww_pc (b := 88) rfl ?_
    refine ww_getR hX f_X12_42 (Or.inr ⟨_, rfl⟩) dX12_keep_88 ?_
    refine ww_bdR (fun o29 => ?_)
    refine ww_iload_n hX 0 rfl dX12_keep_91 rfl ?_
    refine ww_aload_n hX 1 rfl dX12_keep_92 rfl ?_
    refine ww_getR hX f_X12_78 (Or.inr ⟨_, rfl⟩) dX12_keep_93 ?_
    refine ww_bdR (fun o30 => ?_)
    refine ww_iload_n hX 3 rfl dX12_keep_96 rfl ?_
    refine ww_ialdc hX k_iald dX12_keep_97 ?_
    refine ww_iastc hX k_iast dX12_keep_98 ?_
    refine ww_bds (fun s31 => ?_)
    refine ww_aload_n hX 1 rfl dX12_keep_99 rfl ?_
    refine ww_pc (b := 100) rfl ?_
    refine ww_getR hX f_X12_45 (Or.inr ⟨_, rfl⟩) dX12_keep_100 ?_
    refine ww_bdR (fun o32 => ?_)
    refine ww_iload_n hX 0 rfl dX12_keep_103 rfl ?_
    refine ww_aload_n hX 1 rfl dX12_keep_104 rfl ?_
    refine ww_getR hX f_X12_81 (Or.inr ⟨_, rfl⟩) dX12_keep_105 ?_
    refine ww_bdR (fun o33 => ?_)
    refine ww_iload_n hX 3 rfl dX12_keep_108 rfl ?_
    refine ww_ialdc hX k_iald dX12_keep_109 ?_
    refine ww_iastc hX k_iast dX12_keep_110 ?_
    refine ww_bds (fun s34 => ?_)
    refine ww_aload_n hX 1 rfl dX12_keep_111 rfl ?_
    refine ww_pc (b := 112) rfl ?_
    refine ww_getR hX f_X12_48 (Or.inr ⟨_, rfl⟩) dX12_keep_112 ?_
    refine ww_bdR (fun o35 => ?_)
    refine ww_iload_n hX 0 rfl dX12_keep_115 rfl ?_
    refine ww_aload_n hX 1 rfl dX12_keep_116 rfl ?_
    refine ww_getR hX f_X12_84 (Or.inr ⟨_, rfl⟩) dX12_keep_117 ?_
    refine ww_bdR (fun o36 => ?_)
    refine ww_iload_n hX 3 rfl dX12_keep_120 rfl ?_
    refine ww_ialdc hX k_iald dX12_keep_121 ?_
    refine ww_iastc hX k_iast dX12_keep_122 ?_
    refine ww_bds (fun s37 => ?_)
    refine ww_iconst (v := 1) hX rfl dX12_keep_123 ?_
    refine ww_pc (b := 124) rfl ?_
    refine ww_istore (lv' := [(4, .int 1), (3, .int v13), (0, .ref (x_b X + x0)), (1, .int x1), (2, .int x2)]) hX hL dX12_keep_124 (by decide) rfl ?_
    exact ww_sub [2, 3, 4, 1, 0] rfl (t_X12_keep_126 B fu k_12 h_12 fu x0 x1 x2 v13 1  s37)
def b_X12_keep_12 (fu : Nat) : Nat → Nat → Int32 → Int32 → St → Option (St)
  | 0, _, _, _, _ => none
  | i + 1, x0, x1, x2, st => b_X12_keep_12_b fu (b_X12_keep_12 fu i) x0 x1 x2 st
theorem t_X12_keep_12 {X : CX} {res : St} (B : BV X cX12_keep RX12 5 1 NN none res) (fu : Nat) : ∀ (i : Nat) (x0 : Nat) (x1 : Int32) (x2 : Int32)  (st : St), WW X res NN 12 [(0, .ref (x_b X + x0)), (1, .int x1), (2, .int x2)] [] st (b_X12_keep_12 fu i x0 x1 x2 st) := by
  intro i
  induction i with
  | zero => intro x0 x1 x2 st; exact ww_none
  | succ i ih => intro x0 x1 x2 st; exact t_X12_keep_12_b B fu (b_X12_keep_12 fu i) ih x0 x1 x2 st
def f_X12_keep (fu : Nat) (th : Nat) (p1 : Int32) (st : St) : Option (St) :=
  ck (¬ gR st th 9 = 0) <|
  ck ((kd th).1 = 12) <|
  bd (gR st th 9) fun o1 =>
  ck ((kd th).1 = 12) <|
  ck ((kd o1).1 = 100 ∧ inb p1 (kd o1).2) <|
  bd (sI st o1 (ix p1) (gI st th 34)) fun s2 =>
  b_X12_keep_12 fu fu th p1 0  s2
set_option maxHeartbeats 4000000 in
set_option maxRecDepth 100000 in
theorem t_X12_keep {X : CX} {res : St} (B : BV X cX12_keep RX12 5 1 NN none res) (fu : Nat) (th : Nat) (p1 : Int32) (st : St) : WW X res NN 0 [(0, .ref (x_b X + th)), (1, .int p1)] [] st (f_X12_keep fu th p1 st) := by
  have hX := B.1
  have hL := B.2.1
  unfold f_X12_keep
  refine ww_aload_n hX 0 rfl dX12_keep_0 rfl ?_
  refine ww_getR hX f_X12_24 (Or.inr ⟨_, rfl⟩) dX12_keep_1 ?_
  refine ww_bdR (fun o1 => ?_)
  refine ww_iload_n hX 1 rfl dX12_keep_4 rfl ?_
  refine ww_aload_n hX 0 rfl dX12_keep_5 rfl ?_
  refine ww_getI hX f_X12_429 (Or.inl rfl) dX12_keep_6 ?_
  refine ww_iastc hX k_iast dX12_keep_9 ?_
  refine ww_bds (fun s2 => ?_)
  refine ww_iconst (v := 0) hX rfl dX12_keep_10 ?_
  refine ww_pc (b := 11) rfl ?_
  refine ww_istore_n (lv' := [(2, .int 0), (0, .ref (x_b X + th)), (1, .int p1)]) hX hL dX12_keep_11 rfl (by decide) rfl ?_
  exact ww_sub [1, 2, 0] rfl (t_X12_keep_12 B fu fu th p1 0  s2)
theorem c_X12_keep (G : GX) (l : Launch) (fu : Nat) (th : Nat) (p1 : Int32) (st : St) : MV G NN l yX12_keep cX12_keep 5 none 1 [.ref (G.2.2.1 + th), .int p1] st (f_X12_keep fu th p1 st) := mkV (by decide) (Nat.le_of_ble_eq_true rfl) (fun X res hl hG B => by subst hl; subst hG; exact t_X12_keep B fu th p1 st)
