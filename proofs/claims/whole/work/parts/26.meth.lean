/-! StageHouse.to(II)Z -/
def f_X11_to (fu : Nat) (th : Nat) (p1 : Int32) (p2 : Int32) (st : St) : Option (Int32 × St) :=
  ck (¬ gR st th 1 = 0) <|
  ck ((kd th).1 = 11) <|
  bd (gR st th 1) fun o1 =>
  ck ((kd o1).1 = 7) <|
  ca (f_X7_send fu o1 p1 p2 st) fun r2 s3 =>
  ck (isb r2) (some (r2, s3))
set_option maxHeartbeats 4000000 in
set_option maxRecDepth 100000 in
theorem t_X11_to {X : CX} {res : Int32 × St} (B : BI X cX11_to RX11 3 4 NN (some .boolean) res) (fu : Nat) (th : Nat) (p1 : Int32) (p2 : Int32) (st : St) : WW X res NN 0 [(0, .ref (x_b X + th)), (1, .int p1), (2, .int p2)] [] st (f_X11_to fu th p1 p2 st) := by
  have hX := B.1
  have hL := B.2.1
  unfold f_X11_to
  refine ww_aload_n hX 0 rfl dX11_to_0 rfl ?_
  refine ww_getR hX f_X11_19 (Or.inl ⟨_, rfl⟩) dX11_to_1 ?_
  refine ww_bdR (fun o1 => ?_)
  refine ww_iload_n hX 1 rfl dX11_to_4 rfl ?_
  refine ww_iload_n hX 2 rfl dX11_to_5 rfl ?_
  refine ww_callVI (As := [.int p1, .int p2]) (rest := []) (o := o1) hX (Rk.of B.2.2.1 B.2.2.2.1 (by decide) (by decide)) g_X11_195 g_X11_195.in (fun _ => c_X7_send (x_G X) (x_l X) fu o1 p1 p2 st) rfl rfl (Nat.le_of_ble_eq_true rfl) dX11_to_6 (fun r2 s3 => ?_)
  exact ww_zret B dX11_to_9
theorem c_X11_to (G : GX) (l : Launch) (fu : Nat) (th : Nat) (p1 : Int32) (p2 : Int32) (st : St) : MI G NN l yX11_to cX11_to 3 (some .boolean) 4 [.ref (G.2.2.1 + th), .int p1, .int p2] st (f_X11_to fu th p1 p2 st) := mkI (by decide) (Nat.le_of_ble_eq_true rfl) (fun X res hl hG B => by subst hl; subst hG; exact t_X11_to B fu th p1 p2 st)
/-! StageHouse.axisAt(II)I -/
def b_X11_axisAt_34 (fu : Nat)  (y0 : Int32) (st : St) : Option (Int32 × St) :=
  some (y0, st)
set_option maxHeartbeats 4000000 in
set_option maxRecDepth 100000 in
theorem t_X11_axisAt_34 {X : CX} {res : Int32 × St} (B : BI X cX11_axisAt RX11 3 3 NN (some .int) res) (fu : Nat)  (y0 : Int32) (st : St) : WW X res NN 34 [] [.int y0] st (b_X11_axisAt_34 fu y0 st) := by
  have hX := B.1
  have hL := B.2.1
  unfold b_X11_axisAt_34
  exact ww_iret B dX11_axisAt_34
def f_X11_axisAt (fu : Nat) (th : Nat) (p1 : Int32) (p2 : Int32) (st : St) : Option (Int32 × St) :=
  ca (f_X11_within fu p1 0 7 st) fun r1 s2 =>
  if r1 = 0 then (
  some ((-1), s2))
  else (
  if p2 = 6 then (
  ck (¬ gR s2 th 1 = 0) <|
  ck ((kd th).1 = 11) <|
  bd (gR s2 th 1) fun o8 =>
  ck ((kd o8).1 = 7) <|
  ca (f_X7_lockTrue fu o8 p1 s2) fun r9 s10 =>
  if r9 = 0 then (
  b_X11_axisAt_34 fu  0 s10)
  else (
  b_X11_axisAt_34 fu  1 s10))
  else (
  ck (¬ gR s2 th 1 = 0) <|
  ck ((kd th).1 = 11) <|
  bd (gR s2 th 1) fun o3 =>
  ck (¬ gR s2 o3 0 = 0) <|
  ck ((kd o3).1 = 7) <|
  bd (gR s2 o3 0) fun o4 =>
  ck (¬ gR s2 o4 (ix p1) = 0) <|
  ck ((kd o4).1 = 105 ∧ inb p1 (kd o4).2) <|
  bd (gR s2 o4 (ix p1)) fun o5 =>
  ck ((kd o5).1 = 0) <|
  ca (f_X0_tell fu o5 p2 s2) fun r6 s7 =>
  some (r6, s7)))
set_option maxHeartbeats 4000000 in
set_option maxRecDepth 100000 in
theorem t_X11_axisAt {X : CX} {res : Int32 × St} (B : BI X cX11_axisAt RX11 3 3 NN (some .int) res) (fu : Nat) (th : Nat) (p1 : Int32) (p2 : Int32) (st : St) : WW X res NN 0 [(0, .ref (x_b X + th)), (1, .int p1), (2, .int p2)] [] st (f_X11_axisAt fu th p1 p2 st) := by
  have hX := B.1
  have hL := B.2.1
  unfold f_X11_axisAt
  refine ww_iload_n hX 1 rfl dX11_axisAt_0 rfl ?_
  refine ww_iconst (v := 0) hX rfl dX11_axisAt_1 ?_
  refine ww_bipush (v := 7) hX rfl dX11_axisAt_2 ?_
  refine ww_callSI (As := [.int p1, .int 0, .int 7]) (rest := []) hX (Rk.of B.2.2.1 B.2.2.2.1 (by decide) (by decide)) g_X11_84 (c_X11_within (x_G X) (x_l X) fu p1 0 7 st) rfl rfl (Nat.le_of_ble_eq_true rfl) dX11_axisAt_4 (fun r1 s2 => ?_)
  refine ww_if_ne (tgt := 12) hX dX11_axisAt_7 (by decide) ?_ ?_
  · refine ww_iload_n hX 2 rfl dX11_axisAt_12 rfl ?_
    refine ww_bipush (v := 6) hX rfl dX11_axisAt_13 ?_
    refine ww_icmp_ne (tgt := 35) hX dX11_axisAt_15 (by decide) ?_ ?_
    · refine ww_aload_n hX 0 rfl dX11_axisAt_35 rfl ?_
      refine ww_getR hX f_X11_19 (Or.inl ⟨_, rfl⟩) dX11_axisAt_36 ?_
      refine ww_bdR (fun o3 => ?_)
      refine ww_getR hX f_X11_185 (Or.inr ⟨_, rfl⟩) dX11_axisAt_39 ?_
      refine ww_bdR (fun o4 => ?_)
      refine ww_iload_n hX 1 rfl dX11_axisAt_42 rfl ?_
      refine ww_aald105c hX k_aald105 dX11_axisAt_43 ?_
      refine ww_bdR (fun o5 => ?_)
      refine ww_iload_n hX 2 rfl dX11_axisAt_44 rfl ?_
      refine ww_callVI (As := [.int p2]) (rest := []) (o := o5) hX (Rk.of B.2.2.1 B.2.2.2.1 (by decide) (by decide)) g_X11_203 g_X11_203.in (fun _ => c_X0_tell (x_G X) (x_l X) fu o5 p2 s2) rfl rfl (Nat.le_of_ble_eq_true rfl) dX11_axisAt_45 (fun r6 s7 => ?_)
      refine ww_pc (b := 48) rfl ?_
      exact ww_iret B dX11_axisAt_48
    · refine ww_aload_n hX 0 rfl dX11_axisAt_18 rfl ?_
      refine ww_getR hX f_X11_19 (Or.inl ⟨_, rfl⟩) dX11_axisAt_19 ?_
      refine ww_bdR (fun o8 => ?_)
      refine ww_iload_n hX 1 rfl dX11_axisAt_22 rfl ?_
      refine ww_callVI (As := [.int p1]) (rest := []) (o := o8) hX (Rk.of B.2.2.1 B.2.2.2.1 (by decide) (by decide)) g_X11_199 g_X11_199.in (fun _ => c_X7_lockTrue (x_G X) (x_l X) fu o8 p1 s2) rfl rfl (Nat.le_of_ble_eq_true rfl) dX11_axisAt_23 (fun r9 s10 => ?_)
      refine ww_if_eq (tgt := 33) hX dX11_axisAt_26 (by decide) ?_ ?_
      · refine ww_iconst (v := 0) hX rfl dX11_axisAt_33 ?_
        exact ww_sub [] rfl (t_X11_axisAt_34 B fu  0 s10)
      · refine ww_iconst (v := 1) hX rfl dX11_axisAt_29 ?_
        refine ww_goto (tgt := 34) hX dX11_axisAt_30 (by decide) ?_
        exact ww_sub [] rfl (t_X11_axisAt_34 B fu  1 s10)
  · refine ww_iconst (v := (-1)) hX rfl dX11_axisAt_10 ?_
    exact ww_iret B dX11_axisAt_11
theorem c_X11_axisAt (G : GX) (l : Launch) (fu : Nat) (th : Nat) (p1 : Int32) (p2 : Int32) (st : St) : MI G NN l yX11_axisAt cX11_axisAt 3 (some .int) 3 [.ref (G.2.2.1 + th), .int p1, .int p2] st (f_X11_axisAt fu th p1 p2 st) := mkI (by decide) (Nat.le_of_ble_eq_true rfl) (fun X res hl hG B => by subst hl; subst hG; exact t_X11_axisAt B fu th p1 p2 st)
/-! StageHouse.faults(II)Z -/
def b_X11_faults_35 (fu : Nat)   (st : St) : Option (Int32 × St) :=
  ck (isb 0) (some (0, st))
set_option maxHeartbeats 4000000 in
set_option maxRecDepth 100000 in
theorem t_X11_faults_35 {X : CX} {res : Int32 × St} (B : BI X cX11_faults RX11 3 2 NN (some .boolean) res) (fu : Nat)   (st : St) : WW X res NN 35 [] [] st (b_X11_faults_35 fu  st) := by
  have hX := B.1
  have hL := B.2.1
  unfold b_X11_faults_35
  refine ww_iconst (v := 0) hX rfl dX11_faults_35 ?_
  exact ww_zret B dX11_faults_36
def f_X11_faults (fu : Nat) (th : Nat) (p1 : Int32) (p2 : Int32) (st : St) : Option (Int32 × St) :=
  ca (f_X11_within fu p1 0 7 st) fun r1 s2 =>
  if r1 = 0 then (
  b_X11_faults_35 fu   s2)
  else (
  ca (f_X11_within fu p2 0 7 s2) fun r3 s4 =>
  if r3 = 0 then (
  b_X11_faults_35 fu   s4)
  else (
  ck (¬ gR s4 th 1 = 0) <|
  ck ((kd th).1 = 11) <|
  bd (gR s4 th 1) fun o5 =>
  ck (¬ gR s4 o5 0 = 0) <|
  ck ((kd o5).1 = 7) <|
  bd (gR s4 o5 0) fun o6 =>
  ck (¬ gR s4 o6 (ix p1) = 0) <|
  ck ((kd o6).1 = 105 ∧ inb p1 (kd o6).2) <|
  bd (gR s4 o6 (ix p1)) fun o7 =>
  ck ((kd o7).1 = 0) <|
  if (gI s4 o7 0) = 0 then (
  b_X11_faults_35 fu   s4)
  else (
  ck (¬ gR s4 th 1 = 0) <|
  ck ((kd th).1 = 11) <|
  bd (gR s4 th 1) fun o8 =>
  ck (¬ gR s4 o8 0 = 0) <|
  ck ((kd o8).1 = 7) <|
  bd (gR s4 o8 0) fun o9 =>
  ck (¬ gR s4 o9 (ix p1) = 0) <|
  ck ((kd o9).1 = 105 ∧ inb p1 (kd o9).2) <|
  bd (gR s4 o9 (ix p1)) fun o10 =>
  ck ((kd o10).1 = 0) <|
  cv (f_X0_fail fu o10 p2 s4) fun s11 =>
  ck (isb 1) (some (1, s11)))))
set_option maxHeartbeats 4000000 in
set_option maxRecDepth 100000 in
theorem t_X11_faults {X : CX} {res : Int32 × St} (B : BI X cX11_faults RX11 3 2 NN (some .boolean) res) (fu : Nat) (th : Nat) (p1 : Int32) (p2 : Int32) (st : St) : WW X res NN 0 [(0, .ref (x_b X + th)), (1, .int p1), (2, .int p2)] [] st (f_X11_faults fu th p1 p2 st) := by
  have hX := B.1
  have hL := B.2.1
  unfold f_X11_faults
  refine ww_iload_n hX 1 rfl dX11_faults_0 rfl ?_
  refine ww_iconst (v := 0) hX rfl dX11_faults_1 ?_
  refine ww_bipush (v := 7) hX rfl dX11_faults_2 ?_
  refine ww_callSI (As := [.int p1, .int 0, .int 7]) (rest := []) hX (Rk.of B.2.2.1 B.2.2.2.1 (by decide) (by decide)) g_X11_84 (c_X11_within (x_G X) (x_l X) fu p1 0 7 st) rfl rfl (Nat.le_of_ble_eq_true rfl) dX11_faults_4 (fun r1 s2 => ?_)
  refine ww_if_eq (tgt := 35) hX dX11_faults_7 (by decide) ?_ ?_
  · exact ww_sub [] rfl (t_X11_faults_35 B fu   s2)
  · refine ww_iload_n hX 2 rfl dX11_faults_10 rfl ?_
    refine ww_iconst (v := 0) hX rfl dX11_faults_11 ?_
    refine ww_bipush (v := 7) hX rfl dX11_faults_12 ?_
    refine ww_callSI (As := [.int p2, .int 0, .int 7]) (rest := []) hX (Rk.of B.2.2.1 B.2.2.2.1 (by decide) (by decide)) g_X11_84 (c_X11_within (x_G X) (x_l X) fu p2 0 7 s2) rfl rfl (Nat.le_of_ble_eq_true rfl) dX11_faults_14 (fun r3 s4 => ?_)
    refine ww_if_eq (tgt := 35) hX dX11_faults_17 (by decide) ?_ ?_
    · exact ww_sub [] rfl (t_X11_faults_35 B fu   s4)
    · refine ww_aload_n hX 0 rfl dX11_faults_20 rfl ?_
      refine ww_getR hX f_X11_19 (Or.inl ⟨_, rfl⟩) dX11_faults_21 ?_
      refine ww_bdR (fun o5 => ?_)
      refine ww_getR hX f_X11_185 (Or.inr ⟨_, rfl⟩) dX11_faults_24 ?_
      refine ww_bdR (fun o6 => ?_)
      refine ww_iload_n hX 1 rfl dX11_faults_27 rfl ?_
      refine ww_aald105c hX k_aald105 dX11_faults_28 ?_
      refine ww_bdR (fun o7 => ?_)
      refine ww_getI hX f_X11_206 (Or.inr rfl) dX11_faults_29 ?_
      refine ww_if_ne (tgt := 37) hX dX11_faults_32 (by decide) ?_ ?_
      · refine ww_aload_n hX 0 rfl dX11_faults_37 rfl ?_
        refine ww_getR hX f_X11_19 (Or.inl ⟨_, rfl⟩) dX11_faults_38 ?_
        refine ww_bdR (fun o8 => ?_)
        refine ww_getR hX f_X11_185 (Or.inr ⟨_, rfl⟩) dX11_faults_41 ?_
        refine ww_bdR (fun o9 => ?_)
        refine ww_iload_n hX 1 rfl dX11_faults_44 rfl ?_
        refine ww_aald105c hX k_aald105 dX11_faults_45 ?_
        refine ww_bdR (fun o10 => ?_)
        refine ww_iload_n hX 2 rfl dX11_faults_46 rfl ?_
        refine ww_callVV (As := [.int p2]) (rest := []) (o := o10) hX (Rk.of B.2.2.1 B.2.2.2.1 (by decide) (by decide)) g_X11_209 g_X11_209.in (fun _ => c_X0_fail (x_G X) (x_l X) fu o10 p2 s4) rfl rfl (Nat.le_of_ble_eq_true rfl) dX11_faults_47 (fun s11 => ?_)
        refine ww_pc (b := 50) rfl ?_
        refine ww_iconst (v := 1) hX rfl dX11_faults_50 ?_
        exact ww_zret B dX11_faults_51
      · exact ww_sub [] rfl (t_X11_faults_35 B fu   s4)
theorem c_X11_faults (G : GX) (l : Launch) (fu : Nat) (th : Nat) (p1 : Int32) (p2 : Int32) (st : St) : MI G NN l yX11_faults cX11_faults 3 (some .boolean) 2 [.ref (G.2.2.1 + th), .int p1, .int p2] st (f_X11_faults fu th p1 p2 st) := mkI (by decide) (Nat.le_of_ble_eq_true rfl) (fun X res hl hG B => by subst hl; subst hG; exact t_X11_faults B fu th p1 p2 st)
/-! StageHouse.stop(Z)V -/
def f_X11_stop (fu : Nat) (th : Nat) (p1 : Int32) (st : St) : Option (St) :=
  ck (¬ gR st th 1 = 0) <|
  ck ((kd th).1 = 11) <|
  bd (gR st th 1) fun o1 =>
  ck ((kd o1).1 = 7) <|
  cv (f_X7_halt fu o1 p1 st) fun s2 =>
  some s2
set_option maxHeartbeats 4000000 in
set_option maxRecDepth 100000 in
theorem t_X11_stop {X : CX} {res : St} (B : BV X cX11_stop RX11 2 2 NN none res) (fu : Nat) (th : Nat) (p1 : Int32) (st : St) : WW X res NN 0 [(0, .ref (x_b X + th)), (1, .int p1)] [] st (f_X11_stop fu th p1 st) := by
  have hX := B.1
  have hL := B.2.1
  unfold f_X11_stop
  refine ww_aload_n hX 0 rfl dX11_stop_0 rfl ?_
  refine ww_getR hX f_X11_19 (Or.inl ⟨_, rfl⟩) dX11_stop_1 ?_
  refine ww_bdR (fun o1 => ?_)
  refine ww_iload_n hX 1 rfl dX11_stop_4 rfl ?_
  refine ww_callVV (As := [.int p1]) (rest := []) (o := o1) hX (Rk.of B.2.2.1 B.2.2.2.1 (by decide) (by decide)) g_X11_212 g_X11_212.in (fun _ => c_X7_halt (x_G X) (x_l X) fu o1 p1 st) rfl rfl (Nat.le_of_ble_eq_true rfl) dX11_stop_5 (fun s2 => ?_)
  exact ww_vret B dX11_stop_8
theorem c_X11_stop (G : GX) (l : Launch) (fu : Nat) (th : Nat) (p1 : Int32) (st : St) : MV G NN l yX11_stop cX11_stop 2 none 2 [.ref (G.2.2.1 + th), .int p1] st (f_X11_stop fu th p1 st) := mkV (by decide) (Nat.le_of_ble_eq_true rfl) (fun X res hl hG B => by subst hl; subst hG; exact t_X11_stop B fu th p1 st)
/-! StageHouse.event(IZ)Z -/
def f_X11_event (fu : Nat) (th : Nat) (p1 : Int32) (p2 : Int32) (st : St) : Option (Int32 × St) :=
  ca (f_X11_within fu p1 0 15 st) fun r1 s2 =>
  if r1 = 0 then (
  ck (isb 0) (some (0, s2)))
  else (
  ck (¬ gR s2 th 1 = 0) <|
  ck ((kd th).1 = 11) <|
  bd (gR s2 th 1) fun o3 =>
  ck (¬ gR s2 o3 1 = 0) <|
  ck ((kd o3).1 = 7) <|
  bd (gR s2 o3 1) fun o4 =>
  ck (isb p2) <|
  ck ((kd o4).1 = 102 ∧ inb p1 (kd o4).2) <|
  bd (sI s2 o4 (ix p1) p2) fun s5 =>
  ck (isb 1) (some (1, s5)))
set_option maxHeartbeats 4000000 in
set_option maxRecDepth 100000 in
theorem t_X11_event {X : CX} {res : Int32 × St} (B : BI X cX11_event RX11 3 2 NN (some .boolean) res) (fu : Nat) (th : Nat) (p1 : Int32) (p2 : Int32) (st : St) : WW X res NN 0 [(0, .ref (x_b X + th)), (1, .int p1), (2, .int p2)] [] st (f_X11_event fu th p1 p2 st) := by
  have hX := B.1
  have hL := B.2.1
  unfold f_X11_event
  refine ww_iload_n hX 1 rfl dX11_event_0 rfl ?_
  refine ww_iconst (v := 0) hX rfl dX11_event_1 ?_
  refine ww_bipush (v := 15) hX rfl dX11_event_2 ?_
  refine ww_callSI (As := [.int p1, .int 0, .int 15]) (rest := []) hX (Rk.of B.2.2.1 B.2.2.2.1 (by decide) (by decide)) g_X11_84 (c_X11_within (x_G X) (x_l X) fu p1 0 15 st) rfl rfl (Nat.le_of_ble_eq_true rfl) dX11_event_4 (fun r1 s2 => ?_)
  refine ww_if_ne (tgt := 12) hX dX11_event_7 (by decide) ?_ ?_
  · refine ww_aload_n hX 0 rfl dX11_event_12 rfl ?_
    refine ww_getR hX f_X11_19 (Or.inl ⟨_, rfl⟩) dX11_event_13 ?_
    refine ww_bdR (fun o3 => ?_)
    refine ww_getR hX f_X11_216 (Or.inr ⟨_, rfl⟩) dX11_event_16 ?_
    refine ww_bdR (fun o4 => ?_)
    refine ww_iload_n hX 1 rfl dX11_event_19 rfl ?_
    refine ww_iload_n hX 2 rfl dX11_event_20 rfl ?_
    refine ww_zastc hX k_zast dX11_event_21 ?_
    refine ww_bds (fun s5 => ?_)
    refine ww_iconst (v := 1) hX rfl dX11_event_22 ?_
    refine ww_pc (b := 23) rfl ?_
    exact ww_zret B dX11_event_23
  · refine ww_iconst (v := 0) hX rfl dX11_event_10 ?_
    exact ww_zret B dX11_event_11
theorem c_X11_event (G : GX) (l : Launch) (fu : Nat) (th : Nat) (p1 : Int32) (p2 : Int32) (st : St) : MI G NN l yX11_event cX11_event 3 (some .boolean) 2 [.ref (G.2.2.1 + th), .int p1, .int p2] st (f_X11_event fu th p1 p2 st) := mkI (by decide) (Nat.le_of_ble_eq_true rfl) (fun X res hl hG B => by subst hl; subst hG; exact t_X11_event B fu th p1 p2 st)
/-! StageHouse.tick(I)I -/
def b_X11_tick_32_b (fu : Nat) (k_15 : Nat → Int32 → Int32 → St → Option (Int32 × St)) (k_32 : Nat → Int32 → Int32 → Int32 → St → Option (Int32 × St)) (x0 : Nat) (x1 : Int32) (x2 : Int32) (x3 : Int32)  (st : St) : Option (Int32 × St) :=
  if 4 ≤ x3 then (
  ck (¬ gR st x0 1 = 0) <|
  ck ((kd x0).1 = 11) <|
  bd (gR st x0 1) fun o6 =>
  ck ((kd o6).1 = 7) <|
  cv (f_X7_step fu o6 st) fun s7 =>
  bd (x2 + 1) fun v8 =>
  k_15 x0 x1 v8  s7)
  else (
  ck (¬ gR st x0 2 = 0) <|
  ck ((kd x0).1 = 11) <|
  bd (gR st x0 2) fun o9 =>
  ck ((kd x0).1 = 11) <|
  ck ((kd o9).1 = 1) <|
  cv (f_X1_step fu o9 x3 (gI st x0 8) st) fun s10 =>
  bd (x3 + 1) fun v11 =>
  k_32 x0 x1 x2 v11  s10)
set_option maxHeartbeats 4000000 in
set_option maxRecDepth 100000 in
theorem t_X11_tick_32_b {X : CX} {res : Int32 × St} (B : BI X cX11_tick RX11 4 8 NN (some .int) res) (fu : Nat) (k_15 : Nat → Int32 → Int32 → St → Option (Int32 × St)) (k_32 : Nat → Int32 → Int32 → Int32 → St → Option (Int32 × St)) (h_15 : ∀ (x0 : Nat) (x1 : Int32) (x2 : Int32)  (st : St), WW X res NN 15 [(0, .ref (x_b X + x0)), (1, .int x1), (2, .int x2)] [] st (k_15 x0 x1 x2 st)) (h_32 : ∀ (x0 : Nat) (x1 : Int32) (x2 : Int32) (x3 : Int32)  (st : St), WW X res NN 32 [(0, .ref (x_b X + x0)), (1, .int x1), (2, .int x2), (3, .int x3)] [] st (k_32 x0 x1 x2 x3 st)) (x0 : Nat) (x1 : Int32) (x2 : Int32) (x3 : Int32)  (st : St) : WW X res NN 32 [(0, .ref (x_b X + x0)), (1, .int x1), (2, .int x2), (3, .int x3)] [] st (b_X11_tick_32_b fu k_15 k_32 x0 x1 x2 x3 st) := by
  have hX := B.1
  have hL := B.2.1
  unfold b_X11_tick_32_b
  refine ww_iload_n hX 3 rfl dX11_tick_32 rfl ?_
  refine ww_iconst (v := 4) hX rfl dX11_tick_33 ?_
  refine ww_icmp_ge (tgt := 55) hX dX11_tick_34 (by decide) ?_ ?_
  · refine ww_aload_n hX 0 rfl dX11_tick_55 rfl ?_
    refine ww_getR hX f_X11_19 (Or.inl ⟨_, rfl⟩) dX11_tick_56 ?_
    refine ww_bdR (fun o6 => ?_)
    refine ww_callVV (As := []) (rest := []) (o := o6) hX (Rk.of B.2.2.1 B.2.2.2.1 (by decide) (by decide)) g_X11_224 g_X11_224.in (fun _ => c_X7_step (x_G X) (x_l X) fu o6 st) rfl rfl (Nat.le_of_ble_eq_true rfl) dX11_tick_59 (fun s7 => ?_)
    refine ww_iincb (lv' := fun v8 => [(2, .int v8), (0, .ref (x_b X + x0)), (1, .int x1), (3, .int x3)]) (c := 1) hX hL 2 rfl dX11_tick_62 rfl (by decide) (fun _ => rfl) (fun v8 => ?_)
    refine ww_goto (tgt := 15) hX dX11_tick_65 (by decide) ?_
    exact ww_sub [1, 2, 0] rfl (h_15 x0 x1 v8  s7)
  · refine ww_aload_n hX 0 rfl dX11_tick_37 rfl ?_
    refine ww_getR hX f_X11_28 (Or.inl ⟨_, rfl⟩) dX11_tick_38 ?_
    refine ww_bdR (fun o9 => ?_)
    refine ww_iload_n hX 3 rfl dX11_tick_41 rfl ?_
    refine ww_aload_n hX 0 rfl dX11_tick_42 rfl ?_
    refine ww_getI hX f_X11_69 (Or.inl rfl) dX11_tick_43 ?_
    refine ww_callVV (As := [.int x3, .int (gI st x0 8)]) (rest := []) (o := o9) hX (Rk.of B.2.2.1 B.2.2.2.1 (by decide) (by decide)) g_X11_220 g_X11_220.in (fun _ => c_X1_step (x_G X) (x_l X) fu o9 x3 (gI st x0 8) st) rfl rfl (Nat.le_of_ble_eq_true rfl) dX11_tick_46 (fun s10 => ?_)
    refine ww_iincb (lv' := fun v11 => [(3, .int v11), (0, .ref (x_b X + x0)), (1, .int x1), (2, .int x2)]) (c := 1) hX hL 3 rfl dX11_tick_49 rfl (by decide) (fun _ => rfl) (fun v11 => ?_)
    refine ww_pc (b := 52) rfl ?_
    refine ww_goto (tgt := 32) hX dX11_tick_52 (by decide) ?_
    exact ww_sub [1, 2, 3, 0] rfl (h_32 x0 x1 x2 v11  s10)
def b_X11_tick_32 (fu : Nat) (k_15 : Nat → Int32 → Int32 → St → Option (Int32 × St)) : Nat → Nat → Int32 → Int32 → Int32 → St → Option (Int32 × St)
  | 0, _, _, _, _, _ => none
  | i + 1, x0, x1, x2, x3, st => b_X11_tick_32_b fu k_15 (b_X11_tick_32 fu k_15 i) x0 x1 x2 x3 st
theorem t_X11_tick_32 {X : CX} {res : Int32 × St} (B : BI X cX11_tick RX11 4 8 NN (some .int) res) (fu : Nat) (k_15 : Nat → Int32 → Int32 → St → Option (Int32 × St)) (h_15 : ∀ (x0 : Nat) (x1 : Int32) (x2 : Int32)  (st : St), WW X res NN 15 [(0, .ref (x_b X + x0)), (1, .int x1), (2, .int x2)] [] st (k_15 x0 x1 x2 st)) : ∀ (i : Nat) (x0 : Nat) (x1 : Int32) (x2 : Int32) (x3 : Int32)  (st : St), WW X res NN 32 [(0, .ref (x_b X + x0)), (1, .int x1), (2, .int x2), (3, .int x3)] [] st (b_X11_tick_32 fu k_15 i x0 x1 x2 x3 st) := by
  intro i
  induction i with
  | zero => intro x0 x1 x2 x3 st; exact ww_none
  | succ i ih => intro x0 x1 x2 x3 st; exact t_X11_tick_32_b B fu k_15 (b_X11_tick_32 fu k_15 i) h_15 ih x0 x1 x2 x3 st
def b_X11_tick_15_b (fu : Nat) (k_15 : Nat → Int32 → Int32 → St → Option (Int32 × St)) (x0 : Nat) (x1 : Int32) (x2 : Int32)  (st : St) : Option (Int32 × St) :=
  if x1 ≤ x2 then (
  ck (¬ gR st x0 5 = 0) <|
  ck ((kd x0).1 = 11) <|
  bd (gR st x0 5) fun o3 =>
  ck ((kd x0).1 = 11) <|
  ck ((kd o3).1 = 2) <|
  cv (f_X2_expire fu o3 (gI st x0 8) st) fun s4 =>
  ck ((kd x0).1 = 11) <|
  some (gI s4 x0 8, s4))
  else (
  ck ((kd x0).1 = 11) <|
  ck ((kd x0).1 = 11) <|
  bd (sI st x0 8 ((gI st x0 8) + 1)) fun s5 =>
  b_X11_tick_32 fu k_15 fu x0 x1 x2 0  s5)
set_option maxHeartbeats 4000000 in
set_option maxRecDepth 100000 in
theorem t_X11_tick_15_b {X : CX} {res : Int32 × St} (B : BI X cX11_tick RX11 4 8 NN (some .int) res) (fu : Nat) (k_15 : Nat → Int32 → Int32 → St → Option (Int32 × St)) (h_15 : ∀ (x0 : Nat) (x1 : Int32) (x2 : Int32)  (st : St), WW X res NN 15 [(0, .ref (x_b X + x0)), (1, .int x1), (2, .int x2)] [] st (k_15 x0 x1 x2 st)) (x0 : Nat) (x1 : Int32) (x2 : Int32)  (st : St) : WW X res NN 15 [(0, .ref (x_b X + x0)), (1, .int x1), (2, .int x2)] [] st (b_X11_tick_15_b fu k_15 x0 x1 x2 st) := by
  have hX := B.1
  have hL := B.2.1
  unfold b_X11_tick_15_b
  refine ww_iload_n hX 2 rfl dX11_tick_15 rfl ?_
  refine ww_iload_n hX 1 rfl dX11_tick_16 rfl ?_
  refine ww_icmp_ge (tgt := 68) hX dX11_tick_17 (by decide) ?_ ?_
  · refine ww_aload_n hX 0 rfl dX11_tick_68 rfl ?_
    refine ww_getR hX f_X11_51 (Or.inl ⟨_, rfl⟩) dX11_tick_69 ?_
    refine ww_bdR (fun o3 => ?_)
    refine ww_aload_n hX 0 rfl dX11_tick_72 rfl ?_
    refine ww_getI hX f_X11_69 (Or.inl rfl) dX11_tick_73 ?_
    refine ww_callVV (As := [.int (gI st x0 8)]) (rest := []) (o := o3) hX (Rk.of B.2.2.1 B.2.2.2.1 (by decide) (by decide)) g_X11_226 g_X11_226.in (fun _ => c_X2_expire (x_G X) (x_l X) fu o3 (gI st x0 8) st) rfl rfl (Nat.le_of_ble_eq_true rfl) dX11_tick_76 (fun s4 => ?_)
    refine ww_aload_n hX 0 rfl dX11_tick_79 rfl ?_
    refine ww_getI hX f_X11_69 (Or.inl rfl) dX11_tick_80 ?_
    refine ww_pc (b := 83) rfl ?_
    exact ww_iret B dX11_tick_83
  · refine ww_aload_n hX 0 rfl dX11_tick_20 rfl ?_
    refine ww_dup hX rfl dX11_tick_21 ?_
    refine ww_getI hX f_X11_69 (Or.inl rfl) dX11_tick_22 ?_
    refine ww_iconst (v := 1) hX rfl dX11_tick_25 ?_
    refine ww_iadd hX dX11_tick_26 ?_
    refine ww_putI hX f_X11_69 rfl dX11_tick_27 ?_
    refine ww_bds (fun s5 => ?_)
    refine ww_iconst (v := 0) hX rfl dX11_tick_30 ?_
    refine ww_pc (b := 31) rfl ?_
    refine ww_istore_n (lv' := [(3, .int 0), (0, .ref (x_b X + x0)), (1, .int x1), (2, .int x2)]) hX hL dX11_tick_31 rfl (by decide) rfl ?_
    exact ww_sub [1, 2, 3, 0] rfl (t_X11_tick_32 B fu k_15 h_15 fu x0 x1 x2 0  s5)
def b_X11_tick_15 (fu : Nat) : Nat → Nat → Int32 → Int32 → St → Option (Int32 × St)
  | 0, _, _, _, _ => none
  | i + 1, x0, x1, x2, st => b_X11_tick_15_b fu (b_X11_tick_15 fu i) x0 x1 x2 st
theorem t_X11_tick_15 {X : CX} {res : Int32 × St} (B : BI X cX11_tick RX11 4 8 NN (some .int) res) (fu : Nat) : ∀ (i : Nat) (x0 : Nat) (x1 : Int32) (x2 : Int32)  (st : St), WW X res NN 15 [(0, .ref (x_b X + x0)), (1, .int x1), (2, .int x2)] [] st (b_X11_tick_15 fu i x0 x1 x2 st) := by
  intro i
  induction i with
  | zero => intro x0 x1 x2 st; exact ww_none
  | succ i ih => intro x0 x1 x2 st; exact t_X11_tick_15_b B fu (b_X11_tick_15 fu i) ih x0 x1 x2 st
def f_X11_tick (fu : Nat) (th : Nat) (p1 : Int32) (st : St) : Option (Int32 × St) :=
  ca (f_X11_within fu p1 0 500 st) fun r1 s2 =>
  if r1 = 0 then (
  some ((-1), s2))
  else (
  b_X11_tick_15 fu fu th p1 0  s2)
set_option maxHeartbeats 4000000 in
set_option maxRecDepth 100000 in
theorem t_X11_tick {X : CX} {res : Int32 × St} (B : BI X cX11_tick RX11 4 8 NN (some .int) res) (fu : Nat) (th : Nat) (p1 : Int32) (st : St) : WW X res NN 0 [(0, .ref (x_b X + th)), (1, .int p1)] [] st (f_X11_tick fu th p1 st) := by
  have hX := B.1
  have hL := B.2.1
  unfold f_X11_tick
  refine ww_iload_n hX 1 rfl dX11_tick_0 rfl ?_
  refine ww_iconst (v := 0) hX rfl dX11_tick_1 ?_
  refine ww_sipush (v := 500) hX rfl dX11_tick_2 ?_
  refine ww_callSI (As := [.int p1, .int 0, .int 500]) (rest := []) hX (Rk.of B.2.2.1 B.2.2.2.1 (by decide) (by decide)) g_X11_84 (c_X11_within (x_G X) (x_l X) fu p1 0 500 st) rfl rfl (Nat.le_of_ble_eq_true rfl) dX11_tick_5 (fun r1 s2 => ?_)
  refine ww_if_ne (tgt := 13) hX dX11_tick_8 (by decide) ?_ ?_
  · refine ww_iconst (v := 0) hX rfl dX11_tick_13 ?_
    refine ww_istore_n (lv' := [(2, .int 0), (0, .ref (x_b X + th)), (1, .int p1)]) hX hL dX11_tick_14 rfl (by decide) rfl ?_
    exact ww_sub [1, 2, 0] rfl (t_X11_tick_15 B fu fu th p1 0  s2)
  · refine ww_iconst (v := (-1)) hX rfl dX11_tick_11 ?_
    exact ww_iret B dX11_tick_12
theorem c_X11_tick (G : GX) (l : Launch) (fu : Nat) (th : Nat) (p1 : Int32) (st : St) : MI G NN l yX11_tick cX11_tick 4 (some .int) 8 [.ref (G.2.2.1 + th), .int p1] st (f_X11_tick fu th p1 st) := mkI (by decide) (Nat.le_of_ble_eq_true rfl) (fun X res hl hG B => by subst hl; subst hG; exact t_X11_tick B fu th p1 st)
/-! StageHouse.section(II)Z -/
def b_X11_section_20 (fu : Nat)   (st : St) : Option (Int32 × St) :=
  ck (isb 0) (some (0, st))
set_option maxHeartbeats 4000000 in
set_option maxRecDepth 100000 in
theorem t_X11_section_20 {X : CX} {res : Int32 × St} (B : BI X cX11_section RX11 3 2 NN (some .boolean) res) (fu : Nat)   (st : St) : WW X res NN 20 [] [] st (b_X11_section_20 fu  st) := by
  have hX := B.1
  have hL := B.2.1
  unfold b_X11_section_20
  refine ww_iconst (v := 0) hX rfl dX11_section_20 ?_
  exact ww_zret B dX11_section_21
def f_X11_section (fu : Nat) (th : Nat) (p1 : Int32) (p2 : Int32) (st : St) : Option (Int32 × St) :=
  ca (f_X11_within fu p1 0 7 st) fun r1 s2 =>
  if r1 = 0 then (
  b_X11_section_20 fu   s2)
  else (
  ca (f_X11_within fu p2 0 99999 s2) fun r3 s4 =>
  if r3 = 0 then (
  b_X11_section_20 fu   s4)
  else (
  ck (¬ gR s4 th 3 = 0) <|
  ck ((kd th).1 = 11) <|
  bd (gR s4 th 3) fun o5 =>
  ck (¬ gR s4 o5 0 = 0) <|
  ck ((kd o5).1 = 4) <|
  bd (gR s4 o5 0) fun o6 =>
  ck ((kd o6).1 = 100 ∧ inb p1 (kd o6).2) <|
  bd (sI s4 o6 (ix p1) p2) fun s7 =>
  ck (isb 1) (some (1, s7))))
set_option maxHeartbeats 4000000 in
set_option maxRecDepth 100000 in
theorem t_X11_section {X : CX} {res : Int32 × St} (B : BI X cX11_section RX11 3 2 NN (some .boolean) res) (fu : Nat) (th : Nat) (p1 : Int32) (p2 : Int32) (st : St) : WW X res NN 0 [(0, .ref (x_b X + th)), (1, .int p1), (2, .int p2)] [] st (f_X11_section fu th p1 p2 st) := by
  have hX := B.1
  have hL := B.2.1
  unfold f_X11_section
  refine ww_iload_n hX 1 rfl dX11_section_0 rfl ?_
  refine ww_iconst (v := 0) hX rfl dX11_section_1 ?_
  refine ww_bipush (v := 7) hX rfl dX11_section_2 ?_
  refine ww_callSI (As := [.int p1, .int 0, .int 7]) (rest := []) hX (Rk.of B.2.2.1 B.2.2.2.1 (by decide) (by decide)) g_X11_84 (c_X11_within (x_G X) (x_l X) fu p1 0 7 st) rfl rfl (Nat.le_of_ble_eq_true rfl) dX11_section_4 (fun r1 s2 => ?_)
  refine ww_if_eq (tgt := 20) hX dX11_section_7 (by decide) ?_ ?_
  · exact ww_sub [] rfl (t_X11_section_20 B fu   s2)
  · refine ww_iload_n hX 2 rfl dX11_section_10 rfl ?_
    refine ww_iconst (v := 0) hX rfl dX11_section_11 ?_
    refine ww_ldc (v := 99999) hX k_X11_184 dX11_section_12 ?_
    refine ww_callSI (As := [.int p2, .int 0, .int 99999]) (rest := []) hX (Rk.of B.2.2.1 B.2.2.2.1 (by decide) (by decide)) g_X11_84 (c_X11_within (x_G X) (x_l X) fu p2 0 99999 s2) rfl rfl (Nat.le_of_ble_eq_true rfl) dX11_section_14 (fun r3 s4 => ?_)
    refine ww_if_ne (tgt := 22) hX dX11_section_17 (by decide) ?_ ?_
    · refine ww_aload_n hX 0 rfl dX11_section_22 rfl ?_
      refine ww_getR hX f_X11_35 (Or.inl ⟨_, rfl⟩) dX11_section_23 ?_
      refine ww_bdR (fun o5 => ?_)
      refine ww_getR hX f_X11_229 (Or.inr ⟨_, rfl⟩) dX11_section_26 ?_
      refine ww_bdR (fun o6 => ?_)
      refine ww_iload_n hX 1 rfl dX11_section_29 rfl ?_
      refine ww_iload_n hX 2 rfl dX11_section_30 rfl ?_
      refine ww_iastc hX k_iast dX11_section_31 ?_
      refine ww_bds (fun s7 => ?_)
      refine ww_iconst (v := 1) hX rfl dX11_section_32 ?_
      refine ww_pc (b := 33) rfl ?_
      exact ww_zret B dX11_section_33
    · exact ww_sub [] rfl (t_X11_section_20 B fu   s4)
theorem c_X11_section (G : GX) (l : Launch) (fu : Nat) (th : Nat) (p1 : Int32) (p2 : Int32) (st : St) : MI G NN l yX11_section cX11_section 3 (some .boolean) 2 [.ref (G.2.2.1 + th), .int p1, .int p2] st (f_X11_section fu th p1 p2 st) := mkI (by decide) (Nat.le_of_ble_eq_true rfl) (fun X res hl hG B => by subst hl; subst hG; exact t_X11_section B fu th p1 p2 st)
/-! StageHouse.row(III)Z -/
def b_X11_row_30 (fu : Nat)   (st : St) : Option (Int32 × St) :=
  ck (isb 0) (some (0, st))
set_option maxHeartbeats 4000000 in
set_option maxRecDepth 100000 in
theorem t_X11_row_30 {X : CX} {res : Int32 × St} (B : BI X cX11_row RX11 4 2 NN (some .boolean) res) (fu : Nat)   (st : St) : WW X res NN 30 [] [] st (b_X11_row_30 fu  st) := by
  have hX := B.1
  have hL := B.2.1
  unfold b_X11_row_30
  refine ww_iconst (v := 0) hX rfl dX11_row_30 ?_
  exact ww_zret B dX11_row_31
def f_X11_row (fu : Nat) (th : Nat) (p1 : Int32) (p2 : Int32) (p3 : Int32) (st : St) : Option (Int32 × St) :=
  ca (f_X11_within fu p1 0 39 st) fun r1 s2 =>
  if r1 = 0 then (
  b_X11_row_30 fu   s2)
  else (
  ca (f_X11_within fu p2 0 7 s2) fun r3 s4 =>
  if r3 = 0 then (
  b_X11_row_30 fu   s4)
  else (
  ca (f_X11_within fu p3 1 30 s4) fun r5 s6 =>
  if r5 = 0 then (
  b_X11_row_30 fu   s6)
  else (
  ck (¬ gR s6 th 3 = 0) <|
  ck ((kd th).1 = 11) <|
  bd (gR s6 th 3) fun o7 =>
  ck ((kd o7).1 = 4) <|
  ca (f_X4_build fu o7 p1 p2 p3 s6) fun r8 s9 =>
  ck (isb r8) (some (r8, s9)))))
set_option maxHeartbeats 4000000 in
set_option maxRecDepth 100000 in
theorem t_X11_row {X : CX} {res : Int32 × St} (B : BI X cX11_row RX11 4 2 NN (some .boolean) res) (fu : Nat) (th : Nat) (p1 : Int32) (p2 : Int32) (p3 : Int32) (st : St) : WW X res NN 0 [(0, .ref (x_b X + th)), (1, .int p1), (2, .int p2), (3, .int p3)] [] st (f_X11_row fu th p1 p2 p3 st) := by
  have hX := B.1
  have hL := B.2.1
  unfold f_X11_row
  refine ww_iload_n hX 1 rfl dX11_row_0 rfl ?_
  refine ww_iconst (v := 0) hX rfl dX11_row_1 ?_
  refine ww_bipush (v := 39) hX rfl dX11_row_2 ?_
  refine ww_callSI (As := [.int p1, .int 0, .int 39]) (rest := []) hX (Rk.of B.2.2.1 B.2.2.2.1 (by decide) (by decide)) g_X11_84 (c_X11_within (x_G X) (x_l X) fu p1 0 39 st) rfl rfl (Nat.le_of_ble_eq_true rfl) dX11_row_4 (fun r1 s2 => ?_)
  refine ww_if_eq (tgt := 30) hX dX11_row_7 (by decide) ?_ ?_
  · exact ww_sub [] rfl (t_X11_row_30 B fu   s2)
  · refine ww_iload_n hX 2 rfl dX11_row_10 rfl ?_
    refine ww_iconst (v := 0) hX rfl dX11_row_11 ?_
    refine ww_bipush (v := 7) hX rfl dX11_row_12 ?_
    refine ww_callSI (As := [.int p2, .int 0, .int 7]) (rest := []) hX (Rk.of B.2.2.1 B.2.2.2.1 (by decide) (by decide)) g_X11_84 (c_X11_within (x_G X) (x_l X) fu p2 0 7 s2) rfl rfl (Nat.le_of_ble_eq_true rfl) dX11_row_14 (fun r3 s4 => ?_)
    refine ww_if_eq (tgt := 30) hX dX11_row_17 (by decide) ?_ ?_
    · exact ww_sub [] rfl (t_X11_row_30 B fu   s4)
    · refine ww_iload_n hX 3 rfl dX11_row_20 rfl ?_
      refine ww_iconst (v := 1) hX rfl dX11_row_21 ?_
      refine ww_bipush (v := 30) hX rfl dX11_row_22 ?_
      refine ww_callSI (As := [.int p3, .int 1, .int 30]) (rest := []) hX (Rk.of B.2.2.1 B.2.2.2.1 (by decide) (by decide)) g_X11_84 (c_X11_within (x_G X) (x_l X) fu p3 1 30 s4) rfl rfl (Nat.le_of_ble_eq_true rfl) dX11_row_24 (fun r5 s6 => ?_)
      refine ww_if_ne (tgt := 32) hX dX11_row_27 (by decide) ?_ ?_
      · refine ww_aload_n hX 0 rfl dX11_row_32 rfl ?_
        refine ww_getR hX f_X11_35 (Or.inl ⟨_, rfl⟩) dX11_row_33 ?_
        refine ww_bdR (fun o7 => ?_)
        refine ww_iload_n hX 1 rfl dX11_row_36 rfl ?_
        refine ww_iload_n hX 2 rfl dX11_row_37 rfl ?_
        refine ww_iload_n hX 3 rfl dX11_row_38 rfl ?_
        refine ww_callVI (As := [.int p1, .int p2, .int p3]) (rest := []) (o := o7) hX (Rk.of B.2.2.1 B.2.2.2.1 (by decide) (by decide)) g_X11_231 g_X11_231.in (fun _ => c_X4_build (x_G X) (x_l X) fu o7 p1 p2 p3 s6) rfl rfl (Nat.le_of_ble_eq_true rfl) dX11_row_39 (fun r8 s9 => ?_)
        exact ww_zret B dX11_row_42
      · exact ww_sub [] rfl (t_X11_row_30 B fu   s6)
theorem c_X11_row (G : GX) (l : Launch) (fu : Nat) (th : Nat) (p1 : Int32) (p2 : Int32) (p3 : Int32) (st : St) : MI G NN l yX11_row cX11_row 4 (some .boolean) 2 [.ref (G.2.2.1 + th), .int p1, .int p2, .int p3] st (f_X11_row fu th p1 p2 p3 st) := mkI (by decide) (Nat.le_of_ble_eq_true rfl) (fun X res hl hG B => by subst hl; subst hG; exact t_X11_row B fu th p1 p2 p3 st)
/-! StageHouse.line(IZ)Z -/
def b_X11_line_28 (fu : Nat)  (y0 : Nat) (y1 : Int32) (y2 : Int32) (st : St) : Option (Int32 × St) :=
  ck (isb y2) <|
  ck ((kd y0).1 = 102 ∧ inb y1 (kd y0).2) <|
  bd (sI st y0 (ix y1) y2) fun s5 =>
  ck (isb 1) (some (1, s5))
set_option maxHeartbeats 4000000 in
set_option maxRecDepth 100000 in
theorem t_X11_line_28 {X : CX} {res : Int32 × St} (B : BI X cX11_line RX11 3 2 NN (some .boolean) res) (fu : Nat)  (y0 : Nat) (y1 : Int32) (y2 : Int32) (st : St) : WW X res NN 28 [] [.int y2, .int y1, .ref (x_b X + y0)] st (b_X11_line_28 fu y0 y1 y2 st) := by
  have hX := B.1
  have hL := B.2.1
  unfold b_X11_line_28
  refine ww_zastc hX k_zast dX11_line_28 ?_
  refine ww_bds (fun s5 => ?_)
  refine ww_iconst (v := 1) hX rfl dX11_line_29 ?_
  exact ww_zret B dX11_line_30
def f_X11_line (fu : Nat) (th : Nat) (p1 : Int32) (p2 : Int32) (st : St) : Option (Int32 × St) :=
  ca (f_X11_within fu p1 0 3 st) fun r1 s2 =>
  if r1 = 0 then (
  ck (isb 0) (some (0, s2)))
  else (
  ck (¬ gR s2 th 3 = 0) <|
  ck ((kd th).1 = 11) <|
  bd (gR s2 th 3) fun o3 =>
  ck (¬ gR s2 o3 4 = 0) <|
  ck ((kd o3).1 = 4) <|
  bd (gR s2 o3 4) fun o4 =>
  if p2 = 0 then (
  b_X11_line_28 fu  o4 p1 1 s2)
  else (
  b_X11_line_28 fu  o4 p1 0 s2))
set_option maxHeartbeats 4000000 in
set_option maxRecDepth 100000 in
theorem t_X11_line {X : CX} {res : Int32 × St} (B : BI X cX11_line RX11 3 2 NN (some .boolean) res) (fu : Nat) (th : Nat) (p1 : Int32) (p2 : Int32) (st : St) : WW X res NN 0 [(0, .ref (x_b X + th)), (1, .int p1), (2, .int p2)] [] st (f_X11_line fu th p1 p2 st) := by
  have hX := B.1
  have hL := B.2.1
  unfold f_X11_line
  refine ww_iload_n hX 1 rfl dX11_line_0 rfl ?_
  refine ww_iconst (v := 0) hX rfl dX11_line_1 ?_
  refine ww_iconst (v := 3) hX rfl dX11_line_2 ?_
  refine ww_callSI (As := [.int p1, .int 0, .int 3]) (rest := []) hX (Rk.of B.2.2.1 B.2.2.2.1 (by decide) (by decide)) g_X11_84 (c_X11_within (x_G X) (x_l X) fu p1 0 3 st) rfl rfl (Nat.le_of_ble_eq_true rfl) dX11_line_3 (fun r1 s2 => ?_)
  refine ww_if_ne (tgt := 11) hX dX11_line_6 (by decide) ?_ ?_
  · refine ww_aload_n hX 0 rfl dX11_line_11 rfl ?_
    refine ww_getR hX f_X11_35 (Or.inl ⟨_, rfl⟩) dX11_line_12 ?_
    refine ww_bdR (fun o3 => ?_)
    refine ww_getR hX f_X11_234 (Or.inr ⟨_, rfl⟩) dX11_line_15 ?_
    refine ww_bdR (fun o4 => ?_)
    refine ww_iload_n hX 1 rfl dX11_line_18 rfl ?_
    refine ww_iload_n hX 2 rfl dX11_line_19 rfl ?_
    refine ww_if_ne (tgt := 27) hX dX11_line_20 (by decide) ?_ ?_
    · refine ww_iconst (v := 0) hX rfl dX11_line_27 ?_
      exact ww_sub [] rfl (t_X11_line_28 B fu  o4 p1 0 s2)
    · refine ww_iconst (v := 1) hX rfl dX11_line_23 ?_
      refine ww_goto (tgt := 28) hX dX11_line_24 (by decide) ?_
      exact ww_sub [] rfl (t_X11_line_28 B fu  o4 p1 1 s2)
  · refine ww_iconst (v := 0) hX rfl dX11_line_9 ?_
    exact ww_zret B dX11_line_10
theorem c_X11_line (G : GX) (l : Launch) (fu : Nat) (th : Nat) (p1 : Int32) (p2 : Int32) (st : St) : MI G NN l yX11_line cX11_line 3 (some .boolean) 2 [.ref (G.2.2.1 + th), .int p1, .int p2] st (f_X11_line fu th p1 p2 st) := mkI (by decide) (Nat.le_of_ble_eq_true rfl) (fun X res hl hG B => by subst hl; subst hG; exact t_X11_line B fu th p1 p2 st)
/-! StageHouse.ask(IIIIII)I -/
def b_X11_ask_101 (fu : Nat) (x0 : Nat) (x3 : Int32) (x4 : Int32) (x5 : Int32) (x6 : Int32) (x8 : Int32) (y0 : Int32) (st : St) : Option (Int32 × St) :=
  if 0 ≤ y0 then (
  ck (¬ gR st x0 5 = 0) <|
  ck ((kd x0).1 = 11) <|
  bd (gR st x0 5) fun o9 =>
  ck ((kd o9).1 = 2) <|
  cv (f_X2_keep fu o9 x8 y0 x3 st) fun s10 =>
  ck (¬ gR s10 x0 5 = 0) <|
  ck ((kd x0).1 = 11) <|
  bd (gR s10 x0 5) fun o11 =>
  ck ((kd o11).1 = 2) <|
  cv (f_X2_describe fu o11 x8 x4 x5 x6 s10) fun s12 =>
  some (x8, s12))
  else (
  some ((-1), st))
set_option maxHeartbeats 4000000 in
set_option maxRecDepth 100000 in
theorem t_X11_ask_101 {X : CX} {res : Int32 × St} (B : BI X cX11_ask RX11 10 4 NN (some .int) res) (fu : Nat) (x0 : Nat) (x3 : Int32) (x4 : Int32) (x5 : Int32) (x6 : Int32) (x8 : Int32) (y0 : Int32) (st : St) : WW X res NN 101 [(0, .ref (x_b X + x0)), (3, .int x3), (4, .int x4), (5, .int x5), (6, .int x6), (8, .int x8)] [.int y0] st (b_X11_ask_101 fu x0 x3 x4 x5 x6 x8 y0 st) := by
  have hX := B.1
  have hL := B.2.1
  unfold b_X11_ask_101
  refine ww_istore (lv' := [(9, .int y0), (0, .ref (x_b X + x0)), (3, .int x3), (4, .int x4), (5, .int x5), (6, .int x6), (8, .int x8)]) hX hL dX11_ask_101 (by decide) rfl ?_
  refine ww_iload hX 0 rfl dX11_ask_103 ?_
  refine ww_if_ge (tgt := 110) hX dX11_ask_105 (by decide) ?_ ?_
  · refine ww_aload_n hX 1 rfl dX11_ask_110 rfl ?_
    refine ww_getR hX f_X11_51 (Or.inl ⟨_, rfl⟩) dX11_ask_111 ?_
    refine ww_bdR (fun o9 => ?_)
    refine ww_iload hX 6 rfl dX11_ask_114 ?_
    refine ww_iload hX 0 rfl dX11_ask_116 ?_
    refine ww_iload_n hX 2 rfl dX11_ask_118 rfl ?_
    refine ww_callVV (As := [.int x8, .int y0, .int x3]) (rest := []) (o := o9) hX (Rk.of B.2.2.1 B.2.2.2.1 (by decide) (by decide)) g_X11_243 g_X11_243.in (fun _ => c_X2_keep (x_G X) (x_l X) fu o9 x8 y0 x3 st) rfl rfl (Nat.le_of_ble_eq_true rfl) dX11_ask_119 (fun s10 => ?_)
    refine ww_aload_n hX 1 rfl dX11_ask_122 rfl ?_
    refine ww_pc (b := 123) rfl ?_
    refine ww_getR hX f_X11_51 (Or.inl ⟨_, rfl⟩) dX11_ask_123 ?_
    refine ww_bdR (fun o11 => ?_)
    refine ww_iload hX 6 rfl dX11_ask_126 ?_
    refine ww_iload hX 3 rfl dX11_ask_128 ?_
    refine ww_iload hX 4 rfl dX11_ask_130 ?_
    refine ww_iload hX 5 rfl dX11_ask_132 ?_
    refine ww_callVV (As := [.int x8, .int x4, .int x5, .int x6]) (rest := []) (o := o11) hX (Rk.of B.2.2.1 B.2.2.2.1 (by decide) (by decide)) g_X11_246 g_X11_246.in (fun _ => c_X2_describe (x_G X) (x_l X) fu o11 x8 x4 x5 x6 s10) rfl rfl (Nat.le_of_ble_eq_true rfl) dX11_ask_134 (fun s12 => ?_)
    refine ww_iload hX 6 rfl dX11_ask_137 ?_
    exact ww_iret B dX11_ask_139
  · refine ww_iconst (v := (-1)) hX rfl dX11_ask_108 ?_
    exact ww_iret B dX11_ask_109
def b_X11_ask_64 (fu : Nat) (x0 : Nat) (x1 : Int32) (x2 : Int32) (x3 : Int32) (x4 : Int32) (x5 : Int32) (x6 : Int32) (y0 : Int32) (st : St) : Option (Int32 × St) :=
  if y0 = 0 then (
  some ((-1), st))
  else (
  ck (¬ gR st x0 5 = 0) <|
  ck ((kd x0).1 = 11) <|
  bd (gR st x0 5) fun o3 =>
  ck ((kd o3).1 = 2) <|
  ca (f_X2_freeHold fu o3 st) fun r4 s5 =>
  if 0 ≤ r4 then (
  ck (¬ gR s5 x0 3 = 0) <|
  ck ((kd x0).1 = 11) <|
  bd (gR s5 x0 3) fun o6 =>
  ck ((kd o6).1 = 4) <|
  ca (f_X4_best fu o6 x1 x2 x3 s5) fun r7 s8 =>
  b_X11_ask_101 fu x0 x3 x4 x5 x6 r4 r7 s8)
  else (
  b_X11_ask_101 fu x0 x3 x4 x5 x6 r4 ((-1)) s5))
set_option maxHeartbeats 4000000 in
set_option maxRecDepth 100000 in
theorem t_X11_ask_64 {X : CX} {res : Int32 × St} (B : BI X cX11_ask RX11 10 4 NN (some .int) res) (fu : Nat) (x0 : Nat) (x1 : Int32) (x2 : Int32) (x3 : Int32) (x4 : Int32) (x5 : Int32) (x6 : Int32) (y0 : Int32) (st : St) : WW X res NN 64 [(0, .ref (x_b X + x0)), (1, .int x1), (2, .int x2), (3, .int x3), (4, .int x4), (5, .int x5), (6, .int x6)] [.int y0] st (b_X11_ask_64 fu x0 x1 x2 x3 x4 x5 x6 y0 st) := by
  have hX := B.1
  have hL := B.2.1
  unfold b_X11_ask_64
  refine ww_istore (lv' := [(7, .int y0), (0, .ref (x_b X + x0)), (1, .int x1), (2, .int x2), (3, .int x3), (4, .int x4), (5, .int x5), (6, .int x6)]) hX hL dX11_ask_64 (by decide) rfl ?_
  refine ww_iload hX 0 rfl dX11_ask_66 ?_
  refine ww_if_ne (tgt := 73) hX dX11_ask_68 (by decide) ?_ ?_
  · refine ww_aload_n hX 1 rfl dX11_ask_73 rfl ?_
    refine ww_getR hX f_X11_51 (Or.inl ⟨_, rfl⟩) dX11_ask_74 ?_
    refine ww_bdR (fun o3 => ?_)
    refine ww_callVI (As := []) (rest := []) (o := o3) hX (Rk.of B.2.2.1 B.2.2.2.1 (by decide) (by decide)) g_X11_237 g_X11_237.in (fun _ => c_X2_freeHold (x_G X) (x_l X) fu o3 st) rfl rfl (Nat.le_of_ble_eq_true rfl) dX11_ask_77 (fun r4 s5 => ?_)
    refine ww_istore (lv' := [(8, .int r4), (7, .int y0), (0, .ref (x_b X + x0)), (1, .int x1), (2, .int x2), (3, .int x3), (4, .int x4), (5, .int x5), (6, .int x6)]) hX hL dX11_ask_80 (by decide) rfl ?_
    refine ww_iload hX 0 rfl dX11_ask_82 ?_
    refine ww_if_ge (tgt := 91) hX dX11_ask_84 (by decide) ?_ ?_
    · refine ww_aload_n hX 2 rfl dX11_ask_91 rfl ?_
      refine ww_getR hX f_X11_35 (Or.inl ⟨_, rfl⟩) dX11_ask_92 ?_
      refine ww_bdR (fun o6 => ?_)
      refine ww_iload_n hX 3 rfl dX11_ask_95 rfl ?_
      refine ww_iload_n hX 4 rfl dX11_ask_96 rfl ?_
      refine ww_iload_n hX 5 rfl dX11_ask_97 rfl ?_
      refine ww_callVI (As := [.int x1, .int x2, .int x3]) (rest := []) (o := o6) hX (Rk.of B.2.2.1 B.2.2.2.1 (by decide) (by decide)) g_X11_240 g_X11_240.in (fun _ => c_X4_best (x_G X) (x_l X) fu o6 x1 x2 x3 s5) rfl rfl (Nat.le_of_ble_eq_true rfl) dX11_ask_98 (fun r7 s8 => ?_)
      exact ww_sub [2, 5, 6, 7, 8, 0] rfl (t_X11_ask_101 B fu x0 x3 x4 x5 x6 r4 r7 s8)
    · refine ww_iconst (v := (-1)) hX rfl dX11_ask_87 ?_
      refine ww_goto (tgt := 101) hX dX11_ask_88 (by decide) ?_
      exact ww_sub [2, 5, 6, 7, 8, 0] rfl (t_X11_ask_101 B fu x0 x3 x4 x5 x6 r4 ((-1)) s5)
  · refine ww_iconst (v := (-1)) hX rfl dX11_ask_71 ?_
    exact ww_iret B dX11_ask_72
def b_X11_ask_63 (fu : Nat) (x0 : Nat) (x1 : Int32) (x2 : Int32) (x3 : Int32) (x4 : Int32) (x5 : Int32) (x6 : Int32)  (st : St) : Option (Int32 × St) :=
  b_X11_ask_64 fu x0 x1 x2 x3 x4 x5 x6 0 st
set_option maxHeartbeats 4000000 in
set_option maxRecDepth 100000 in
theorem t_X11_ask_63 {X : CX} {res : Int32 × St} (B : BI X cX11_ask RX11 10 4 NN (some .int) res) (fu : Nat) (x0 : Nat) (x1 : Int32) (x2 : Int32) (x3 : Int32) (x4 : Int32) (x5 : Int32) (x6 : Int32)  (st : St) : WW X res NN 63 [(0, .ref (x_b X + x0)), (1, .int x1), (2, .int x2), (3, .int x3), (4, .int x4), (5, .int x5), (6, .int x6)] [] st (b_X11_ask_63 fu x0 x1 x2 x3 x4 x5 x6 st) := by
  have hX := B.1
  have hL := B.2.1
  unfold b_X11_ask_63
  refine ww_iconst (v := 0) hX rfl dX11_ask_63 ?_
  exact t_X11_ask_64 B fu x0 x1 x2 x3 x4 x5 x6 0 st
def f_X11_ask (fu : Nat) (th : Nat) (p1 : Int32) (p2 : Int32) (p3 : Int32) (p4 : Int32) (p5 : Int32) (p6 : Int32) (st : St) : Option (Int32 × St) :=
  ca (f_X11_within fu p1 0 3 st) fun r1 s2 =>
  if r1 = 0 then (
  b_X11_ask_63 fu th p1 p2 p3 p4 p5 p6  s2)
  else (
  ca (f_X11_within fu p2 0 7 s2) fun r13 s14 =>
  if r13 = 0 then (
  b_X11_ask_63 fu th p1 p2 p3 p4 p5 p6  s14)
  else (
  ca (f_X11_within fu p3 1 10 s14) fun r15 s16 =>
  if r15 = 0 then (
  b_X11_ask_63 fu th p1 p2 p3 p4 p5 p6  s16)
  else (
  ca (f_X11_within fu p4 0 3 s16) fun r17 s18 =>
  if r17 = 0 then (
  b_X11_ask_63 fu th p1 p2 p3 p4 p5 p6  s18)
  else (
  ca (f_X11_within fu p5 0 6 s18) fun r19 s20 =>
  if r19 = 0 then (
  b_X11_ask_63 fu th p1 p2 p3 p4 p5 p6  s20)
  else (
  ck ((kd th).1 = 11) <|
  if p6 ≤ (gI s20 th 8) then (
  b_X11_ask_63 fu th p1 p2 p3 p4 p5 p6  s20)
  else (
  b_X11_ask_64 fu th p1 p2 p3 p4 p5 p6 1 s20))))))
set_option maxHeartbeats 4000000 in
set_option maxRecDepth 100000 in
theorem t_X11_ask {X : CX} {res : Int32 × St} (B : BI X cX11_ask RX11 10 4 NN (some .int) res) (fu : Nat) (th : Nat) (p1 : Int32) (p2 : Int32) (p3 : Int32) (p4 : Int32) (p5 : Int32) (p6 : Int32) (st : St) : WW X res NN 0 [(0, .ref (x_b X + th)), (1, .int p1), (2, .int p2), (3, .int p3), (4, .int p4), (5, .int p5), (6, .int p6)] [] st (f_X11_ask fu th p1 p2 p3 p4 p5 p6 st) := by
  have hX := B.1
  have hL := B.2.1
  unfold f_X11_ask
  refine ww_iload_n hX 1 rfl dX11_ask_0 rfl ?_
  refine ww_iconst (v := 0) hX rfl dX11_ask_1 ?_
  refine ww_iconst (v := 3) hX rfl dX11_ask_2 ?_
  refine ww_callSI (As := [.int p1, .int 0, .int 3]) (rest := []) hX (Rk.of B.2.2.1 B.2.2.2.1 (by decide) (by decide)) g_X11_84 (c_X11_within (x_G X) (x_l X) fu p1 0 3 st) rfl rfl (Nat.le_of_ble_eq_true rfl) dX11_ask_3 (fun r1 s2 => ?_)
  refine ww_if_eq (tgt := 63) hX dX11_ask_6 (by decide) ?_ ?_
  · exact t_X11_ask_63 B fu th p1 p2 p3 p4 p5 p6  s2
  · refine ww_iload_n hX 2 rfl dX11_ask_9 rfl ?_
    refine ww_iconst (v := 0) hX rfl dX11_ask_10 ?_
    refine ww_bipush (v := 7) hX rfl dX11_ask_11 ?_
    refine ww_callSI (As := [.int p2, .int 0, .int 7]) (rest := []) hX (Rk.of B.2.2.1 B.2.2.2.1 (by decide) (by decide)) g_X11_84 (c_X11_within (x_G X) (x_l X) fu p2 0 7 s2) rfl rfl (Nat.le_of_ble_eq_true rfl) dX11_ask_13 (fun r13 s14 => ?_)
    refine ww_if_eq (tgt := 63) hX dX11_ask_16 (by decide) ?_ ?_
    · exact t_X11_ask_63 B fu th p1 p2 p3 p4 p5 p6  s14
    · refine ww_iload_n hX 3 rfl dX11_ask_19 rfl ?_
      refine ww_iconst (v := 1) hX rfl dX11_ask_20 ?_
      refine ww_bipush (v := 10) hX rfl dX11_ask_21 ?_
      refine ww_callSI (As := [.int p3, .int 1, .int 10]) (rest := []) hX (Rk.of B.2.2.1 B.2.2.2.1 (by decide) (by decide)) g_X11_84 (c_X11_within (x_G X) (x_l X) fu p3 1 10 s14) rfl rfl (Nat.le_of_ble_eq_true rfl) dX11_ask_23 (fun r15 s16 => ?_)
      refine ww_if_eq (tgt := 63) hX dX11_ask_26 (by decide) ?_ ?_
      · exact t_X11_ask_63 B fu th p1 p2 p3 p4 p5 p6  s16
      · refine ww_iload hX 4 rfl dX11_ask_29 ?_
        refine ww_iconst (v := 0) hX rfl dX11_ask_31 ?_
        refine ww_iconst (v := 3) hX rfl dX11_ask_32 ?_
        refine ww_callSI (As := [.int p4, .int 0, .int 3]) (rest := []) hX (Rk.of B.2.2.1 B.2.2.2.1 (by decide) (by decide)) g_X11_84 (c_X11_within (x_G X) (x_l X) fu p4 0 3 s16) rfl rfl (Nat.le_of_ble_eq_true rfl) dX11_ask_33 (fun r17 s18 => ?_)
        refine ww_if_eq (tgt := 63) hX dX11_ask_36 (by decide) ?_ ?_
        · exact t_X11_ask_63 B fu th p1 p2 p3 p4 p5 p6  s18
        · refine ww_iload hX 5 rfl dX11_ask_39 ?_
          refine ww_iconst (v := 0) hX rfl dX11_ask_41 ?_
          refine ww_bipush (v := 6) hX rfl dX11_ask_42 ?_
          refine ww_callSI (As := [.int p5, .int 0, .int 6]) (rest := []) hX (Rk.of B.2.2.1 B.2.2.2.1 (by decide) (by decide)) g_X11_84 (c_X11_within (x_G X) (x_l X) fu p5 0 6 s18) rfl rfl (Nat.le_of_ble_eq_true rfl) dX11_ask_44 (fun r19 s20 => ?_)
          refine ww_if_eq (tgt := 63) hX dX11_ask_47 (by decide) ?_ ?_
          · exact t_X11_ask_63 B fu th p1 p2 p3 p4 p5 p6  s20
          · refine ww_iload hX 6 rfl dX11_ask_50 ?_
            refine ww_aload_n hX 0 rfl dX11_ask_52 rfl ?_
            refine ww_getI hX f_X11_69 (Or.inl rfl) dX11_ask_53 ?_
            refine ww_icmp_le (tgt := 63) hX dX11_ask_56 (by decide) ?_ ?_
            · exact t_X11_ask_63 B fu th p1 p2 p3 p4 p5 p6  s20
            · refine ww_iconst (v := 1) hX rfl dX11_ask_59 ?_
              refine ww_goto (tgt := 64) hX dX11_ask_60 (by decide) ?_
              exact t_X11_ask_64 B fu th p1 p2 p3 p4 p5 p6 1 s20
theorem c_X11_ask (G : GX) (l : Launch) (fu : Nat) (th : Nat) (p1 : Int32) (p2 : Int32) (p3 : Int32) (p4 : Int32) (p5 : Int32) (p6 : Int32) (st : St) : MI G NN l yX11_ask cX11_ask 10 (some .int) 4 [.ref (G.2.2.1 + th), .int p1, .int p2, .int p3, .int p4, .int p5, .int p6] st (f_X11_ask fu th p1 p2 p3 p4 p5 p6 st) := mkI (by decide) (Nat.le_of_ble_eq_true rfl) (fun X res hl hG B => by subst hl; subst hG; exact t_X11_ask B fu th p1 p2 p3 p4 p5 p6 st)
/-! StageHouse.hold(II)I -/
def b_X11_hold_24 (fu : Nat)  (y0 : Int32) (st : St) : Option (Int32 × St) :=
  some (y0, st)
set_option maxHeartbeats 4000000 in
set_option maxRecDepth 100000 in
theorem t_X11_hold_24 {X : CX} {res : Int32 × St} (B : BI X cX11_hold RX11 3 6 NN (some .int) res) (fu : Nat)  (y0 : Int32) (st : St) : WW X res NN 24 [] [.int y0] st (b_X11_hold_24 fu y0 st) := by
  have hX := B.1
  have hL := B.2.1
  unfold b_X11_hold_24
  exact ww_iret B dX11_hold_24
def f_X11_hold (fu : Nat) (th : Nat) (p1 : Int32) (p2 : Int32) (st : St) : Option (Int32 × St) :=
  ck (¬ gR st th 5 = 0) <|
  ck ((kd th).1 = 11) <|
  bd (gR st th 5) fun o1 =>
  ck ((kd o1).1 = 2) <|
  ca (f_X2_hasHold fu o1 p1 st) fun r2 s3 =>
  if r2 = 0 then (
  b_X11_hold_24 fu  ((-1)) s3)
  else (
  ck (¬ gR s3 th 5 = 0) <|
  ck ((kd th).1 = 11) <|
  bd (gR s3 th 5) fun o4 =>
  ck ((kd o4).1 = 2) <|
  ca (f_X2_tellHold fu o4 p1 p2 s3) fun r5 s6 =>
  b_X11_hold_24 fu  r5 s6)
set_option maxHeartbeats 4000000 in
set_option maxRecDepth 100000 in
theorem t_X11_hold {X : CX} {res : Int32 × St} (B : BI X cX11_hold RX11 3 6 NN (some .int) res) (fu : Nat) (th : Nat) (p1 : Int32) (p2 : Int32) (st : St) : WW X res NN 0 [(0, .ref (x_b X + th)), (1, .int p1), (2, .int p2)] [] st (f_X11_hold fu th p1 p2 st) := by
  have hX := B.1
  have hL := B.2.1
  unfold f_X11_hold
  refine ww_aload_n hX 0 rfl dX11_hold_0 rfl ?_
  refine ww_getR hX f_X11_51 (Or.inl ⟨_, rfl⟩) dX11_hold_1 ?_
  refine ww_bdR (fun o1 => ?_)
  refine ww_iload_n hX 1 rfl dX11_hold_4 rfl ?_
  refine ww_callVI (As := [.int p1]) (rest := []) (o := o1) hX (Rk.of B.2.2.1 B.2.2.2.1 (by decide) (by decide)) g_X11_249 g_X11_249.in (fun _ => c_X2_hasHold (x_G X) (x_l X) fu o1 p1 st) rfl rfl (Nat.le_of_ble_eq_true rfl) dX11_hold_5 (fun r2 s3 => ?_)
  refine ww_if_eq (tgt := 23) hX dX11_hold_8 (by decide) ?_ ?_
  · refine ww_iconst (v := (-1)) hX rfl dX11_hold_23 ?_
    exact ww_sub [] rfl (t_X11_hold_24 B fu  ((-1)) s3)
  · refine ww_aload_n hX 0 rfl dX11_hold_11 rfl ?_
    refine ww_getR hX f_X11_51 (Or.inl ⟨_, rfl⟩) dX11_hold_12 ?_
    refine ww_bdR (fun o4 => ?_)
    refine ww_iload_n hX 1 rfl dX11_hold_15 rfl ?_
    refine ww_iload_n hX 2 rfl dX11_hold_16 rfl ?_
    refine ww_callVI (As := [.int p1, .int p2]) (rest := []) (o := o4) hX (Rk.of B.2.2.1 B.2.2.2.1 (by decide) (by decide)) g_X11_252 g_X11_252.in (fun _ => c_X2_tellHold (x_G X) (x_l X) fu o4 p1 p2 s3) rfl rfl (Nat.le_of_ble_eq_true rfl) dX11_hold_17 (fun r5 s6 => ?_)
    refine ww_goto (tgt := 24) hX dX11_hold_20 (by decide) ?_
    exact ww_sub [] rfl (t_X11_hold_24 B fu  r5 s6)
theorem c_X11_hold (G : GX) (l : Launch) (fu : Nat) (th : Nat) (p1 : Int32) (p2 : Int32) (st : St) : MI G NN l yX11_hold cX11_hold 3 (some .int) 6 [.ref (G.2.2.1 + th), .int p1, .int p2] st (f_X11_hold fu th p1 p2 st) := mkI (by decide) (Nat.le_of_ble_eq_true rfl) (fun X res hl hG B => by subst hl; subst hG; exact t_X11_hold B fu th p1 p2 st)
/-! StageHouse.pay(II)I -/
def b_X11_pay_36 (fu : Nat)   (st : St) : Option (Int32 × St) :=
  some ((-1), st)
set_option maxHeartbeats 4000000 in
set_option maxRecDepth 100000 in
theorem t_X11_pay_36 {X : CX} {res : Int32 × St} (B : BI X cX11_pay RX11 3 5 NN (some .int) res) (fu : Nat)   (st : St) : WW X res NN 36 [] [] st (b_X11_pay_36 fu  st) := by
  have hX := B.1
  have hL := B.2.1
  unfold b_X11_pay_36
  refine ww_iconst (v := (-1)) hX rfl dX11_pay_36 ?_
  exact ww_iret B dX11_pay_37
def f_X11_pay (fu : Nat) (th : Nat) (p1 : Int32) (p2 : Int32) (st : St) : Option (Int32 × St) :=
  ck (¬ gR st th 5 = 0) <|
  ck ((kd th).1 = 11) <|
  bd (gR st th 5) fun o1 =>
  ck ((kd o1).1 = 2) <|
  ca (f_X2_hasHold fu o1 p1 st) fun r2 s3 =>
  if r2 = 0 then (
  b_X11_pay_36 fu   s3)
  else (
  ck (¬ gR s3 th 5 = 0) <|
  ck ((kd th).1 = 11) <|
  bd (gR s3 th 5) fun o4 =>
  ck ((kd o4).1 = 2) <|
  if 300 ≤ (gI s3 o4 12) then (
  b_X11_pay_36 fu   s3)
  else (
  ck (¬ gR s3 th 5 = 0) <|
  ck ((kd th).1 = 11) <|
  bd (gR s3 th 5) fun o5 =>
  ck ((kd o5).1 = 2) <|
  ca (f_X2_price fu o5 p1 s3) fun r6 s7 =>
  if r6 = p2 then (
  ck (¬ gR s7 th 5 = 0) <|
  ck ((kd th).1 = 11) <|
  bd (gR s7 th 5) fun o8 =>
  ck ((kd o8).1 = 2) <|
  ca (f_X2_sell fu o8 p1 p2 s7) fun r9 s10 =>
  some (r9, s10))
  else (
  b_X11_pay_36 fu   s7)))
set_option maxHeartbeats 4000000 in
set_option maxRecDepth 100000 in
theorem t_X11_pay {X : CX} {res : Int32 × St} (B : BI X cX11_pay RX11 3 5 NN (some .int) res) (fu : Nat) (th : Nat) (p1 : Int32) (p2 : Int32) (st : St) : WW X res NN 0 [(0, .ref (x_b X + th)), (1, .int p1), (2, .int p2)] [] st (f_X11_pay fu th p1 p2 st) := by
  have hX := B.1
  have hL := B.2.1
  unfold f_X11_pay
  refine ww_aload_n hX 0 rfl dX11_pay_0 rfl ?_
  refine ww_getR hX f_X11_51 (Or.inl ⟨_, rfl⟩) dX11_pay_1 ?_
  refine ww_bdR (fun o1 => ?_)
  refine ww_iload_n hX 1 rfl dX11_pay_4 rfl ?_
  refine ww_callVI (As := [.int p1]) (rest := []) (o := o1) hX (Rk.of B.2.2.1 B.2.2.2.1 (by decide) (by decide)) g_X11_249 g_X11_249.in (fun _ => c_X2_hasHold (x_G X) (x_l X) fu o1 p1 st) rfl rfl (Nat.le_of_ble_eq_true rfl) dX11_pay_5 (fun r2 s3 => ?_)
  refine ww_if_eq (tgt := 36) hX dX11_pay_8 (by decide) ?_ ?_
  · exact ww_sub [] rfl (t_X11_pay_36 B fu   s3)
  · refine ww_aload_n hX 0 rfl dX11_pay_11 rfl ?_
    refine ww_getR hX f_X11_51 (Or.inl ⟨_, rfl⟩) dX11_pay_12 ?_
    refine ww_bdR (fun o4 => ?_)
    refine ww_getI hX f_X11_255 (Or.inl rfl) dX11_pay_15 ?_
    refine ww_sipush (v := 300) hX rfl dX11_pay_18 ?_
    refine ww_icmp_ge (tgt := 36) hX dX11_pay_21 (by decide) ?_ ?_
    · exact ww_sub [] rfl (t_X11_pay_36 B fu   s3)
    · refine ww_aload_n hX 0 rfl dX11_pay_24 rfl ?_
      refine ww_getR hX f_X11_51 (Or.inl ⟨_, rfl⟩) dX11_pay_25 ?_
      refine ww_bdR (fun o5 => ?_)
      refine ww_iload_n hX 1 rfl dX11_pay_28 rfl ?_
      refine ww_callVI (As := [.int p1]) (rest := []) (o := o5) hX (Rk.of B.2.2.1 B.2.2.2.1 (by decide) (by decide)) g_X11_258 g_X11_258.in (fun _ => c_X2_price (x_G X) (x_l X) fu o5 p1 s3) rfl rfl (Nat.le_of_ble_eq_true rfl) dX11_pay_29 (fun r6 s7 => ?_)
      refine ww_iload_n hX 2 rfl dX11_pay_32 rfl ?_
      refine ww_icmp_eq (tgt := 38) hX dX11_pay_33 (by decide) ?_ ?_
      · refine ww_aload_n hX 0 rfl dX11_pay_38 rfl ?_
        refine ww_getR hX f_X11_51 (Or.inl ⟨_, rfl⟩) dX11_pay_39 ?_
        refine ww_bdR (fun o8 => ?_)
        refine ww_iload_n hX 1 rfl dX11_pay_42 rfl ?_
        refine ww_iload_n hX 2 rfl dX11_pay_43 rfl ?_
        refine ww_callVI (As := [.int p1, .int p2]) (rest := []) (o := o8) hX (Rk.of B.2.2.1 B.2.2.2.1 (by decide) (by decide)) g_X11_261 g_X11_261.in (fun _ => c_X2_sell (x_G X) (x_l X) fu o8 p1 p2 s7) rfl rfl (Nat.le_of_ble_eq_true rfl) dX11_pay_44 (fun r9 s10 => ?_)
        exact ww_iret B dX11_pay_47
      · exact ww_sub [] rfl (t_X11_pay_36 B fu   s7)
theorem c_X11_pay (G : GX) (l : Launch) (fu : Nat) (th : Nat) (p1 : Int32) (p2 : Int32) (st : St) : MI G NN l yX11_pay cX11_pay 3 (some .int) 5 [.ref (G.2.2.1 + th), .int p1, .int p2] st (f_X11_pay fu th p1 p2 st) := mkI (by decide) (Nat.le_of_ble_eq_true rfl) (fun X res hl hG B => by subst hl; subst hG; exact t_X11_pay B fu th p1 p2 st)
/-! StageHouse.give(I)Z -/
def f_X11_give (fu : Nat) (th : Nat) (p1 : Int32) (st : St) : Option (Int32 × St) :=
  ck (¬ gR st th 5 = 0) <|
  ck ((kd th).1 = 11) <|
  bd (gR st th 5) fun o1 =>
  ck ((kd o1).1 = 2) <|
  ca (f_X2_hasHold fu o1 p1 st) fun r2 s3 =>
  if r2 = 0 then (
  ck (isb 0) (some (0, s3)))
  else (
  ck (¬ gR s3 th 5 = 0) <|
  ck ((kd th).1 = 11) <|
  bd (gR s3 th 5) fun o4 =>
  ck ((kd o4).1 = 2) <|
  cv (f_X2_drop fu o4 p1 s3) fun s5 =>
  ck (isb 1) (some (1, s5)))
set_option maxHeartbeats 4000000 in
set_option maxRecDepth 100000 in
theorem t_X11_give {X : CX} {res : Int32 × St} (B : BI X cX11_give RX11 2 3 NN (some .boolean) res) (fu : Nat) (th : Nat) (p1 : Int32) (st : St) : WW X res NN 0 [(0, .ref (x_b X + th)), (1, .int p1)] [] st (f_X11_give fu th p1 st) := by
  have hX := B.1
  have hL := B.2.1
  unfold f_X11_give
  refine ww_aload_n hX 0 rfl dX11_give_0 rfl ?_
  refine ww_getR hX f_X11_51 (Or.inl ⟨_, rfl⟩) dX11_give_1 ?_
  refine ww_bdR (fun o1 => ?_)
  refine ww_iload_n hX 1 rfl dX11_give_4 rfl ?_
  refine ww_callVI (As := [.int p1]) (rest := []) (o := o1) hX (Rk.of B.2.2.1 B.2.2.2.1 (by decide) (by decide)) g_X11_249 g_X11_249.in (fun _ => c_X2_hasHold (x_G X) (x_l X) fu o1 p1 st) rfl rfl (Nat.le_of_ble_eq_true rfl) dX11_give_5 (fun r2 s3 => ?_)
  refine ww_if_ne (tgt := 13) hX dX11_give_8 (by decide) ?_ ?_
  · refine ww_aload_n hX 0 rfl dX11_give_13 rfl ?_
    refine ww_getR hX f_X11_51 (Or.inl ⟨_, rfl⟩) dX11_give_14 ?_
    refine ww_bdR (fun o4 => ?_)
    refine ww_iload_n hX 1 rfl dX11_give_17 rfl ?_
    refine ww_callVV (As := [.int p1]) (rest := []) (o := o4) hX (Rk.of B.2.2.1 B.2.2.2.1 (by decide) (by decide)) g_X11_264 g_X11_264.in (fun _ => c_X2_drop (x_G X) (x_l X) fu o4 p1 s3) rfl rfl (Nat.le_of_ble_eq_true rfl) dX11_give_18 (fun s5 => ?_)
    refine ww_iconst (v := 1) hX rfl dX11_give_21 ?_
    exact ww_zret B dX11_give_22
  · refine ww_iconst (v := 0) hX rfl dX11_give_11 ?_
    exact ww_zret B dX11_give_12
theorem c_X11_give (G : GX) (l : Launch) (fu : Nat) (th : Nat) (p1 : Int32) (st : St) : MI G NN l yX11_give cX11_give 2 (some .boolean) 3 [.ref (G.2.2.1 + th), .int p1] st (f_X11_give fu th p1 st) := mkI (by decide) (Nat.le_of_ble_eq_true rfl) (fun X res hl hG B => by subst hl; subst hG; exact t_X11_give B fu th p1 st)
/-! StageHouse.back(II)I -/
def b_X11_back_32 (fu : Nat)   (st : St) : Option (Int32 × St) :=
  some ((-1), st)
set_option maxHeartbeats 4000000 in
set_option maxRecDepth 100000 in
theorem t_X11_back_32 {X : CX} {res : Int32 × St} (B : BI X cX11_back RX11 3 3 NN (some .int) res) (fu : Nat)   (st : St) : WW X res NN 32 [] [] st (b_X11_back_32 fu  st) := by
  have hX := B.1
  have hL := B.2.1
  unfold b_X11_back_32
  refine ww_iconst (v := (-1)) hX rfl dX11_back_32 ?_
  exact ww_iret B dX11_back_33
def f_X11_back (fu : Nat) (th : Nat) (p1 : Int32) (p2 : Int32) (st : St) : Option (Int32 × St) :=
  ca (f_X11_within fu p1 0 3 st) fun r1 s2 =>
  if r1 = 0 then (
  b_X11_back_32 fu   s2)
  else (
  ck (¬ gR s2 th 3 = 0) <|
  ck ((kd th).1 = 11) <|
  bd (gR s2 th 3) fun o3 =>
  ck (¬ gR s2 o3 4 = 0) <|
  ck ((kd o3).1 = 4) <|
  bd (gR s2 o3 4) fun o4 =>
  ck ((kd o4).1 = 102 ∧ inb p1 (kd o4).2) <|
  if (gI s2 o4 (ix p1)) = 0 then (
  ck (¬ gR s2 th 5 = 0) <|
  ck ((kd th).1 = 11) <|
  bd (gR s2 th 5) fun o5 =>
  ck ((kd o5).1 = 2) <|
  ca (f_X2_isOpen fu o5 p2 s2) fun r6 s7 =>
  if r6 = 0 then (
  b_X11_back_32 fu   s7)
  else (
  ck (¬ gR s7 th 5 = 0) <|
  ck ((kd th).1 = 11) <|
  bd (gR s7 th 5) fun o8 =>
  ck ((kd o8).1 = 2) <|
  ca (f_X2_refund fu o8 p2 s7) fun r9 s10 =>
  some (r9, s10)))
  else (
  b_X11_back_32 fu   s2))
set_option maxHeartbeats 4000000 in
set_option maxRecDepth 100000 in
theorem t_X11_back {X : CX} {res : Int32 × St} (B : BI X cX11_back RX11 3 3 NN (some .int) res) (fu : Nat) (th : Nat) (p1 : Int32) (p2 : Int32) (st : St) : WW X res NN 0 [(0, .ref (x_b X + th)), (1, .int p1), (2, .int p2)] [] st (f_X11_back fu th p1 p2 st) := by
  have hX := B.1
  have hL := B.2.1
  unfold f_X11_back
  refine ww_iload_n hX 1 rfl dX11_back_0 rfl ?_
  refine ww_iconst (v := 0) hX rfl dX11_back_1 ?_
  refine ww_iconst (v := 3) hX rfl dX11_back_2 ?_
  refine ww_callSI (As := [.int p1, .int 0, .int 3]) (rest := []) hX (Rk.of B.2.2.1 B.2.2.2.1 (by decide) (by decide)) g_X11_84 (c_X11_within (x_G X) (x_l X) fu p1 0 3 st) rfl rfl (Nat.le_of_ble_eq_true rfl) dX11_back_3 (fun r1 s2 => ?_)
  refine ww_if_eq (tgt := 32) hX dX11_back_6 (by decide) ?_ ?_
  · exact ww_sub [] rfl (t_X11_back_32 B fu   s2)
  · refine ww_aload_n hX 0 rfl dX11_back_9 rfl ?_
    refine ww_getR hX f_X11_35 (Or.inl ⟨_, rfl⟩) dX11_back_10 ?_
    refine ww_bdR (fun o3 => ?_)
    refine ww_getR hX f_X11_234 (Or.inr ⟨_, rfl⟩) dX11_back_13 ?_
    refine ww_bdR (fun o4 => ?_)
    refine ww_iload_n hX 1 rfl dX11_back_16 rfl ?_
    refine ww_zaldc hX k_zald dX11_back_17 ?_
    refine ww_if_ne (tgt := 32) hX dX11_back_18 (by decide) ?_ ?_
    · exact ww_sub [] rfl (t_X11_back_32 B fu   s2)
    · refine ww_aload_n hX 0 rfl dX11_back_21 rfl ?_
      refine ww_getR hX f_X11_51 (Or.inl ⟨_, rfl⟩) dX11_back_22 ?_
      refine ww_bdR (fun o5 => ?_)
      refine ww_iload_n hX 2 rfl dX11_back_25 rfl ?_
      refine ww_callVI (As := [.int p2]) (rest := []) (o := o5) hX (Rk.of B.2.2.1 B.2.2.2.1 (by decide) (by decide)) g_X11_267 g_X11_267.in (fun _ => c_X2_isOpen (x_G X) (x_l X) fu o5 p2 s2) rfl rfl (Nat.le_of_ble_eq_true rfl) dX11_back_26 (fun r6 s7 => ?_)
      refine ww_if_ne (tgt := 34) hX dX11_back_29 (by decide) ?_ ?_
      · refine ww_aload_n hX 0 rfl dX11_back_34 rfl ?_
        refine ww_getR hX f_X11_51 (Or.inl ⟨_, rfl⟩) dX11_back_35 ?_
        refine ww_bdR (fun o8 => ?_)
        refine ww_iload_n hX 2 rfl dX11_back_38 rfl ?_
        refine ww_callVI (As := [.int p2]) (rest := []) (o := o8) hX (Rk.of B.2.2.1 B.2.2.2.1 (by decide) (by decide)) g_X11_270 g_X11_270.in (fun _ => c_X2_refund (x_G X) (x_l X) fu o8 p2 s7) rfl rfl (Nat.le_of_ble_eq_true rfl) dX11_back_39 (fun r9 s10 => ?_)
        exact ww_iret B dX11_back_42
      · exact ww_sub [] rfl (t_X11_back_32 B fu   s7)
theorem c_X11_back (G : GX) (l : Launch) (fu : Nat) (th : Nat) (p1 : Int32) (p2 : Int32) (st : St) : MI G NN l yX11_back cX11_back 3 (some .int) 3 [.ref (G.2.2.1 + th), .int p1, .int p2] st (f_X11_back fu th p1 p2 st) := mkI (by decide) (Nat.le_of_ble_eq_true rfl) (fun X res hl hG B => by subst hl; subst hG; exact t_X11_back B fu th p1 p2 st)
/-! StageHouse.enter(I)I -/
def b_X11_enter_23 (fu : Nat)  (y0 : Int32) (st : St) : Option (Int32 × St) :=
  some (y0, st)
set_option maxHeartbeats 4000000 in
set_option maxRecDepth 100000 in
theorem t_X11_enter_23 {X : CX} {res : Int32 × St} (B : BI X cX11_enter RX11 2 2 NN (some .int) res) (fu : Nat)  (y0 : Int32) (st : St) : WW X res NN 23 [] [.int y0] st (b_X11_enter_23 fu y0 st) := by
  have hX := B.1
  have hL := B.2.1
  unfold b_X11_enter_23
  exact ww_iret B dX11_enter_23
def f_X11_enter (fu : Nat) (th : Nat) (p1 : Int32) (st : St) : Option (Int32 × St) :=
  ck (¬ gR st th 5 = 0) <|
  ck ((kd th).1 = 11) <|
  bd (gR st th 5) fun o1 =>
  ck ((kd o1).1 = 2) <|
  ca (f_X2_isOpen fu o1 p1 st) fun r2 s3 =>
  if r2 = 0 then (
  b_X11_enter_23 fu  ((-1)) s3)
  else (
  ck (¬ gR s3 th 5 = 0) <|
  ck ((kd th).1 = 11) <|
  bd (gR s3 th 5) fun o4 =>
  ck ((kd o4).1 = 2) <|
  ca (f_X2_letIn fu o4 p1 s3) fun r5 s6 =>
  b_X11_enter_23 fu  r5 s6)
set_option maxHeartbeats 4000000 in
set_option maxRecDepth 100000 in
theorem t_X11_enter {X : CX} {res : Int32 × St} (B : BI X cX11_enter RX11 2 2 NN (some .int) res) (fu : Nat) (th : Nat) (p1 : Int32) (st : St) : WW X res NN 0 [(0, .ref (x_b X + th)), (1, .int p1)] [] st (f_X11_enter fu th p1 st) := by
  have hX := B.1
  have hL := B.2.1
  unfold f_X11_enter
  refine ww_aload_n hX 0 rfl dX11_enter_0 rfl ?_
  refine ww_getR hX f_X11_51 (Or.inl ⟨_, rfl⟩) dX11_enter_1 ?_
  refine ww_bdR (fun o1 => ?_)
  refine ww_iload_n hX 1 rfl dX11_enter_4 rfl ?_
  refine ww_callVI (As := [.int p1]) (rest := []) (o := o1) hX (Rk.of B.2.2.1 B.2.2.2.1 (by decide) (by decide)) g_X11_267 g_X11_267.in (fun _ => c_X2_isOpen (x_G X) (x_l X) fu o1 p1 st) rfl rfl (Nat.le_of_ble_eq_true rfl) dX11_enter_5 (fun r2 s3 => ?_)
  refine ww_if_eq (tgt := 22) hX dX11_enter_8 (by decide) ?_ ?_
  · refine ww_iconst (v := (-1)) hX rfl dX11_enter_22 ?_
    exact ww_sub [] rfl (t_X11_enter_23 B fu  ((-1)) s3)
  · refine ww_aload_n hX 0 rfl dX11_enter_11 rfl ?_
    refine ww_getR hX f_X11_51 (Or.inl ⟨_, rfl⟩) dX11_enter_12 ?_
    refine ww_bdR (fun o4 => ?_)
    refine ww_iload_n hX 1 rfl dX11_enter_15 rfl ?_
    refine ww_callVI (As := [.int p1]) (rest := []) (o := o4) hX (Rk.of B.2.2.1 B.2.2.2.1 (by decide) (by decide)) g_X11_273 g_X11_273.in (fun _ => c_X2_letIn (x_G X) (x_l X) fu o4 p1 s3) rfl rfl (Nat.le_of_ble_eq_true rfl) dX11_enter_16 (fun r5 s6 => ?_)
    refine ww_goto (tgt := 23) hX dX11_enter_19 (by decide) ?_
    exact ww_sub [] rfl (t_X11_enter_23 B fu  r5 s6)
theorem c_X11_enter (G : GX) (l : Launch) (fu : Nat) (th : Nat) (p1 : Int32) (st : St) : MI G NN l yX11_enter cX11_enter 2 (some .int) 2 [.ref (G.2.2.1 + th), .int p1] st (f_X11_enter fu th p1 st) := mkI (by decide) (Nat.le_of_ble_eq_true rfl) (fun X res hl hG B => by subst hl; subst hG; exact t_X11_enter B fu th p1 st)
/-! StageHouse.seat(II)I -/
def b_X11_seat_33 (fu : Nat)   (st : St) : Option (Int32 × St) :=
  some ((-1), st)
set_option maxHeartbeats 4000000 in
set_option maxRecDepth 100000 in
theorem t_X11_seat_33 {X : CX} {res : Int32 × St} (B : BI X cX11_seat RX11 3 2 NN (some .int) res) (fu : Nat)   (st : St) : WW X res NN 33 [] [] st (b_X11_seat_33 fu  st) := by
  have hX := B.1
  have hL := B.2.1
  unfold b_X11_seat_33
  refine ww_iconst (v := (-1)) hX rfl dX11_seat_33 ?_
  exact ww_iret B dX11_seat_34
def f_X11_seat (fu : Nat) (th : Nat) (p1 : Int32) (p2 : Int32) (st : St) : Option (Int32 × St) :=
  ca (f_X11_within fu p1 0 39 st) fun r1 s2 =>
  if r1 = 0 then (
  b_X11_seat_33 fu   s2)
  else (
  ca (f_X11_within fu p2 0 29 s2) fun r3 s4 =>
  if r3 = 0 then (
  b_X11_seat_33 fu   s4)
  else (
  ck (¬ gR s4 th 3 = 0) <|
  ck ((kd th).1 = 11) <|
  bd (gR s4 th 3) fun o5 =>
  ck (¬ gR s4 o5 2 = 0) <|
  ck ((kd o5).1 = 4) <|
  bd (gR s4 o5 2) fun o6 =>
  ck ((kd o6).1 = 100 ∧ inb p1 (kd o6).2) <|
  if p2 < (gI s4 o6 (ix p1)) then (
  ck (¬ gR s4 th 3 = 0) <|
  ck ((kd th).1 = 11) <|
  bd (gR s4 th 3) fun o7 =>
  ck (¬ gR s4 o7 3 = 0) <|
  ck ((kd o7).1 = 4) <|
  bd (gR s4 o7 3) fun o8 =>
  ck ((kd o8).1 = 100 ∧ inb ((p1 * 30) + p2) (kd o8).2) <|
  some (gI s4 o8 (ix ((p1 * 30) + p2)), s4))
  else (
  b_X11_seat_33 fu   s4)))
set_option maxHeartbeats 4000000 in
set_option maxRecDepth 100000 in
theorem t_X11_seat {X : CX} {res : Int32 × St} (B : BI X cX11_seat RX11 3 2 NN (some .int) res) (fu : Nat) (th : Nat) (p1 : Int32) (p2 : Int32) (st : St) : WW X res NN 0 [(0, .ref (x_b X + th)), (1, .int p1), (2, .int p2)] [] st (f_X11_seat fu th p1 p2 st) := by
  have hX := B.1
  have hL := B.2.1
  unfold f_X11_seat
  refine ww_iload_n hX 1 rfl dX11_seat_0 rfl ?_
  refine ww_iconst (v := 0) hX rfl dX11_seat_1 ?_
  refine ww_bipush (v := 39) hX rfl dX11_seat_2 ?_
  refine ww_callSI (As := [.int p1, .int 0, .int 39]) (rest := []) hX (Rk.of B.2.2.1 B.2.2.2.1 (by decide) (by decide)) g_X11_84 (c_X11_within (x_G X) (x_l X) fu p1 0 39 st) rfl rfl (Nat.le_of_ble_eq_true rfl) dX11_seat_4 (fun r1 s2 => ?_)
  refine ww_if_eq (tgt := 33) hX dX11_seat_7 (by decide) ?_ ?_
  · exact ww_sub [] rfl (t_X11_seat_33 B fu   s2)
  · refine ww_iload_n hX 2 rfl dX11_seat_10 rfl ?_
    refine ww_iconst (v := 0) hX rfl dX11_seat_11 ?_
    refine ww_bipush (v := 29) hX rfl dX11_seat_12 ?_
    refine ww_callSI (As := [.int p2, .int 0, .int 29]) (rest := []) hX (Rk.of B.2.2.1 B.2.2.2.1 (by decide) (by decide)) g_X11_84 (c_X11_within (x_G X) (x_l X) fu p2 0 29 s2) rfl rfl (Nat.le_of_ble_eq_true rfl) dX11_seat_14 (fun r3 s4 => ?_)
    refine ww_if_eq (tgt := 33) hX dX11_seat_17 (by decide) ?_ ?_
    · exact ww_sub [] rfl (t_X11_seat_33 B fu   s4)
    · refine ww_iload_n hX 2 rfl dX11_seat_20 rfl ?_
      refine ww_aload_n hX 0 rfl dX11_seat_21 rfl ?_
      refine ww_getR hX f_X11_35 (Or.inl ⟨_, rfl⟩) dX11_seat_22 ?_
      refine ww_bdR (fun o5 => ?_)
      refine ww_getR hX f_X11_276 (Or.inr ⟨_, rfl⟩) dX11_seat_25 ?_
      refine ww_bdR (fun o6 => ?_)
      refine ww_iload_n hX 1 rfl dX11_seat_28 rfl ?_
      refine ww_ialdc hX k_iald dX11_seat_29 ?_
      refine ww_icmp_lt (tgt := 35) hX dX11_seat_30 (by decide) ?_ ?_
      · refine ww_aload_n hX 0 rfl dX11_seat_35 rfl ?_
        refine ww_getR hX f_X11_35 (Or.inl ⟨_, rfl⟩) dX11_seat_36 ?_
        refine ww_bdR (fun o7 => ?_)
        refine ww_getR hX f_X11_279 (Or.inr ⟨_, rfl⟩) dX11_seat_39 ?_
        refine ww_bdR (fun o8 => ?_)
        refine ww_iload_n hX 1 rfl dX11_seat_42 rfl ?_
        refine ww_bipush (v := 30) hX rfl dX11_seat_43 ?_
        refine ww_imul hX dX11_seat_45 ?_
        refine ww_iload_n hX 2 rfl dX11_seat_46 rfl ?_
        refine ww_pc (b := 47) rfl ?_
        refine ww_iadd hX dX11_seat_47 ?_
        refine ww_ialdc hX k_iald dX11_seat_48 ?_
        exact ww_iret B dX11_seat_49
      · exact ww_sub [] rfl (t_X11_seat_33 B fu   s4)
theorem c_X11_seat (G : GX) (l : Launch) (fu : Nat) (th : Nat) (p1 : Int32) (p2 : Int32) (st : St) : MI G NN l yX11_seat cX11_seat 3 (some .int) 2 [.ref (G.2.2.1 + th), .int p1, .int p2] st (f_X11_seat fu th p1 p2 st) := mkI (by decide) (Nat.le_of_ble_eq_true rfl) (fun X res hl hG B => by subst hl; subst hG; exact t_X11_seat B fu th p1 p2 st)
/-! StageHouse.told(I)I -/
def b_X11_told_124 (fu : Nat)  (y0 : Int32) (st : St) : Option (Int32 × St) :=
  some (y0, st)
set_option maxHeartbeats 4000000 in
set_option maxRecDepth 100000 in
theorem t_X11_told_124 {X : CX} {res : Int32 × St} (B : BI X cX11_told RX11 2 2 NN (some .int) res) (fu : Nat)  (y0 : Int32) (st : St) : WW X res NN 124 [] [.int y0] st (b_X11_told_124 fu y0 st) := by
  have hX := B.1
  have hL := B.2.1
  unfold b_X11_told_124
  exact ww_iret B dX11_told_124
def f_X11_told (fu : Nat) (th : Nat) (p1 : Int32) (st : St) : Option (Int32 × St) :=
  if p1 = 0 then (
  ck (¬ gR st th 5 = 0) <|
  ck ((kd th).1 = 11) <|
  bd (gR st th 5) fun o1 =>
  ck ((kd o1).1 = 2) <|
  some (gI st o1 14, st))
  else if p1 = 1 then (
  ck (¬ gR st th 5 = 0) <|
  ck ((kd th).1 = 11) <|
  bd (gR st th 5) fun o2 =>
  ck ((kd o2).1 = 2) <|
  ck (¬ gR st th 5 = 0) <|
  ck ((kd th).1 = 11) <|
  bd (gR st th 5) fun o3 =>
  ck ((kd o3).1 = 2) <|
  some ((gI st o2 12) - (gI st o3 13), st))
  else if p1 = 2 then (
  ck (¬ gR st th 5 = 0) <|
  ck ((kd th).1 = 11) <|
  bd (gR st th 5) fun o4 =>
  ck ((kd o4).1 = 2) <|
  some (gI st o4 15, st))
  else if p1 = 3 then (
  ck (¬ gR st th 5 = 0) <|
  ck ((kd th).1 = 11) <|
  bd (gR st th 5) fun o5 =>
  ck ((kd o5).1 = 2) <|
  some (gI st o5 11, st))
  else if p1 = 4 then (
  ck (¬ gR st th 5 = 0) <|
  ck ((kd th).1 = 11) <|
  bd (gR st th 5) fun o6 =>
  ck ((kd o6).1 = 2) <|
  some (gI st o6 16, st))
  else if p1 = 5 then (
  ck ((kd th).1 = 11) <|
  some (gI st th 8, st))
  else if p1 = 6 then (
  ck (¬ gR st th 1 = 0) <|
  ck ((kd th).1 = 11) <|
  bd (gR st th 1) fun o7 =>
  ck ((kd o7).1 = 7) <|
  ca (f_X7_refusals fu o7 st) fun r8 s9 =>
  some (r8, s9))
  else if p1 = 7 then (
  ck (¬ gR st th 1 = 0) <|
  ck ((kd th).1 = 11) <|
  bd (gR st th 1) fun o10 =>
  ck ((kd o10).1 = 7) <|
  if (gI st o10 2) = 0 then (
  b_X11_told_124 fu  0 st)
  else (
  b_X11_told_124 fu  1 st))
  else (
  some ((-1), st))
set_option maxHeartbeats 4000000 in
set_option maxRecDepth 100000 in
theorem t_X11_told {X : CX} {res : Int32 × St} (B : BI X cX11_told RX11 2 2 NN (some .int) res) (fu : Nat) (th : Nat) (p1 : Int32) (st : St) : WW X res NN 0 [(0, .ref (x_b X + th)), (1, .int p1)] [] st (f_X11_told fu th p1 st) := by
  have hX := B.1
  have hL := B.2.1
  unfold f_X11_told
  refine ww_iload_n hX 1 rfl dX11_told_0 rfl ?_
  refine ww_if (fun c1_0 => ?_) (fun c1_0 => ?_)
  · refine ww_tsw (off := 47) (tgt := 48) hX dX11_told_1 (by rw [c1_0]; decide) (by rw [c1_0]; decide) (by rw [c1_0]; rfl) (by decide) ?_
    refine ww_aload_n hX 0 rfl dX11_told_48 rfl ?_
    refine ww_getR hX f_X11_51 (Or.inl ⟨_, rfl⟩) dX11_told_49 ?_
    refine ww_bdR (fun o1 => ?_)
    refine ww_getI hX f_X11_282 (Or.inl rfl) dX11_told_52 ?_
    exact ww_iret B dX11_told_55
  refine ww_if (fun c1_1 => ?_) (fun c1_1 => ?_)
  · refine ww_tsw (off := 55) (tgt := 56) hX dX11_told_1 (by rw [c1_1]; decide) (by rw [c1_1]; decide) (by rw [c1_1]; rfl) (by decide) ?_
    refine ww_aload_n hX 0 rfl dX11_told_56 rfl ?_
    refine ww_getR hX f_X11_51 (Or.inl ⟨_, rfl⟩) dX11_told_57 ?_
    refine ww_bdR (fun o2 => ?_)
    refine ww_getI hX f_X11_255 (Or.inl rfl) dX11_told_60 ?_
    refine ww_aload_n hX 0 rfl dX11_told_63 rfl ?_
    refine ww_getR hX f_X11_51 (Or.inl ⟨_, rfl⟩) dX11_told_64 ?_
    refine ww_bdR (fun o3 => ?_)
    refine ww_getI hX f_X11_285 (Or.inl rfl) dX11_told_67 ?_
    refine ww_isub hX dX11_told_70 ?_
    refine ww_pc (b := 71) rfl ?_
    exact ww_iret B dX11_told_71
  refine ww_if (fun c1_2 => ?_) (fun c1_2 => ?_)
  · refine ww_tsw (off := 71) (tgt := 72) hX dX11_told_1 (by rw [c1_2]; decide) (by rw [c1_2]; decide) (by rw [c1_2]; rfl) (by decide) ?_
    refine ww_aload_n hX 0 rfl dX11_told_72 rfl ?_
    refine ww_getR hX f_X11_51 (Or.inl ⟨_, rfl⟩) dX11_told_73 ?_
    refine ww_bdR (fun o4 => ?_)
    refine ww_getI hX f_X11_288 (Or.inl rfl) dX11_told_76 ?_
    exact ww_iret B dX11_told_79
  refine ww_if (fun c1_3 => ?_) (fun c1_3 => ?_)
  · refine ww_tsw (off := 79) (tgt := 80) hX dX11_told_1 (by rw [c1_3]; decide) (by rw [c1_3]; decide) (by rw [c1_3]; rfl) (by decide) ?_
    refine ww_aload_n hX 0 rfl dX11_told_80 rfl ?_
    refine ww_getR hX f_X11_51 (Or.inl ⟨_, rfl⟩) dX11_told_81 ?_
    refine ww_bdR (fun o5 => ?_)
    refine ww_getI hX f_X11_291 (Or.inl rfl) dX11_told_84 ?_
    exact ww_iret B dX11_told_87
  refine ww_if (fun c1_4 => ?_) (fun c1_4 => ?_)
  · refine ww_tsw (off := 87) (tgt := 88) hX dX11_told_1 (by rw [c1_4]; decide) (by rw [c1_4]; decide) (by rw [c1_4]; rfl) (by decide) ?_
    refine ww_aload_n hX 0 rfl dX11_told_88 rfl ?_
    refine ww_getR hX f_X11_51 (Or.inl ⟨_, rfl⟩) dX11_told_89 ?_
    refine ww_bdR (fun o6 => ?_)
    refine ww_getI hX f_X11_294 (Or.inl rfl) dX11_told_92 ?_
    exact ww_iret B dX11_told_95
  refine ww_if (fun c1_5 => ?_) (fun c1_5 => ?_)
  · refine ww_tsw (off := 95) (tgt := 96) hX dX11_told_1 (by rw [c1_5]; decide) (by rw [c1_5]; decide) (by rw [c1_5]; rfl) (by decide) ?_
    refine ww_aload_n hX 0 rfl dX11_told_96 rfl ?_
    refine ww_getI hX f_X11_69 (Or.inl rfl) dX11_told_97 ?_
    exact ww_iret B dX11_told_100
  refine ww_if (fun c1_6 => ?_) (fun c1_6 => ?_)
  · refine ww_tsw (off := 100) (tgt := 101) hX dX11_told_1 (by rw [c1_6]; decide) (by rw [c1_6]; decide) (by rw [c1_6]; rfl) (by decide) ?_
    refine ww_aload_n hX 0 rfl dX11_told_101 rfl ?_
    refine ww_getR hX f_X11_19 (Or.inl ⟨_, rfl⟩) dX11_told_102 ?_
    refine ww_bdR (fun o7 => ?_)
    refine ww_callVI (As := []) (rest := []) (o := o7) hX (Rk.of B.2.2.1 B.2.2.2.1 (by decide) (by decide)) g_X11_297 g_X11_297.in (fun _ => c_X7_refusals (x_G X) (x_l X) fu o7 st) rfl rfl (Nat.le_of_ble_eq_true rfl) dX11_told_105 (fun r8 s9 => ?_)
    exact ww_iret B dX11_told_108
  refine ww_if (fun c1_7 => ?_) (fun c1_7 => ?_)
  · refine ww_tsw (off := 108) (tgt := 109) hX dX11_told_1 (by rw [c1_7]; decide) (by rw [c1_7]; decide) (by rw [c1_7]; rfl) (by decide) ?_
    refine ww_aload_n hX 0 rfl dX11_told_109 rfl ?_
    refine ww_getR hX f_X11_19 (Or.inl ⟨_, rfl⟩) dX11_told_110 ?_
    refine ww_bdR (fun o10 => ?_)
    refine ww_getI hX f_X11_300 (Or.inr rfl) dX11_told_113 ?_
    refine ww_if_eq (tgt := 123) hX dX11_told_116 (by decide) ?_ ?_
    · refine ww_iconst (v := 0) hX rfl dX11_told_123 ?_
      exact ww_sub [] rfl (t_X11_told_124 B fu  0 st)
    · refine ww_iconst (v := 1) hX rfl dX11_told_119 ?_
      refine ww_goto (tgt := 124) hX dX11_told_120 (by decide) ?_
      exact ww_sub [] rfl (t_X11_told_124 B fu  1 st)
  refine ww_tswd (tgt := 125) hX dX11_told_1 (by have z0 : p1.toInt ≠ 0 := fun q => c1_0 (Int32.toInt_inj.mp (q.trans (by decide))); have z1 : p1.toInt ≠ 1 := fun q => c1_1 (Int32.toInt_inj.mp (q.trans (by decide))); have z2 : p1.toInt ≠ 2 := fun q => c1_2 (Int32.toInt_inj.mp (q.trans (by decide))); have z3 : p1.toInt ≠ 3 := fun q => c1_3 (Int32.toInt_inj.mp (q.trans (by decide))); have z4 : p1.toInt ≠ 4 := fun q => c1_4 (Int32.toInt_inj.mp (q.trans (by decide))); have z5 : p1.toInt ≠ 5 := fun q => c1_5 (Int32.toInt_inj.mp (q.trans (by decide))); have z6 : p1.toInt ≠ 6 := fun q => c1_6 (Int32.toInt_inj.mp (q.trans (by decide))); have z7 : p1.toInt ≠ 7 := fun q => c1_7 (Int32.toInt_inj.mp (q.trans (by decide))); omega) (by decide) ?_
  refine ww_iconst (v := (-1)) hX rfl dX11_told_125 ?_
  exact ww_iret B dX11_told_126
theorem c_X11_told (G : GX) (l : Launch) (fu : Nat) (th : Nat) (p1 : Int32) (st : St) : MI G NN l yX11_told cX11_told 2 (some .int) 2 [.ref (G.2.2.1 + th), .int p1] st (f_X11_told fu th p1 st) := mkI (by decide) (Nat.le_of_ble_eq_true rfl) (fun X res hl hG B => by subst hl; subst hG; exact t_X11_told B fu th p1 st)
/-! StageHouse.share(II)J -/
def b_X11_share_18 (fu : Nat)   (st : St) : Option (Int64 × St) :=
  some ((-1), st)
set_option maxHeartbeats 4000000 in
set_option maxRecDepth 100000 in
theorem t_X11_share_18 {X : CX} {res : Int64 × St} (B : BL X cX11_share RX11 3 3 NN (some .long) res) (fu : Nat)   (st : St) : WW X res NN 18 [] [] st (b_X11_share_18 fu  st) := by
  have hX := B.1
  have hL := B.2.1
  unfold b_X11_share_18
  refine ww_ldc2 (v := (-1)) hX k_X11_303 dX11_share_18 ?_
  exact ww_lret B dX11_share_21
def f_X11_share (fu : Nat) (th : Nat) (p1 : Int32) (p2 : Int32) (st : St) : Option (Int64 × St) :=
  ca (f_X11_within fu p1 0 2 st) fun r1 s2 =>
  if r1 = 0 then (
  b_X11_share_18 fu   s2)
  else (
  ca (f_X11_within fu p2 0 3 s2) fun r3 s4 =>
  if r3 = 0 then (
  b_X11_share_18 fu   s4)
  else (
  ck (¬ gR s4 th 6 = 0) <|
  ck ((kd th).1 = 11) <|
  bd (gR s4 th 6) fun o5 =>
  ck (¬ gR s4 th 5 = 0) <|
  ck ((kd th).1 = 11) <|
  bd (gR s4 th 5) fun o6 =>
  ck ((kd o6).1 = 2) <|
  ck ((kd o5).1 = 5) <|
  ca (f_X5_tell fu o5 p1 p2 (gI s4 o6 14) s4) fun r7 s8 =>
  some (r7, s8)))
set_option maxHeartbeats 4000000 in
set_option maxRecDepth 100000 in
theorem t_X11_share {X : CX} {res : Int64 × St} (B : BL X cX11_share RX11 3 3 NN (some .long) res) (fu : Nat) (th : Nat) (p1 : Int32) (p2 : Int32) (st : St) : WW X res NN 0 [(0, .ref (x_b X + th)), (1, .int p1), (2, .int p2)] [] st (f_X11_share fu th p1 p2 st) := by
  have hX := B.1
  have hL := B.2.1
  unfold f_X11_share
  refine ww_iload_n hX 1 rfl dX11_share_0 rfl ?_
  refine ww_iconst (v := 0) hX rfl dX11_share_1 ?_
  refine ww_iconst (v := 2) hX rfl dX11_share_2 ?_
  refine ww_callSI (As := [.int p1, .int 0, .int 2]) (rest := []) hX (Rk.of B.2.2.1 B.2.2.2.1 (by decide) (by decide)) g_X11_84 (c_X11_within (x_G X) (x_l X) fu p1 0 2 st) rfl rfl (Nat.le_of_ble_eq_true rfl) dX11_share_3 (fun r1 s2 => ?_)
  refine ww_if_eq (tgt := 18) hX dX11_share_6 (by decide) ?_ ?_
  · exact ww_sub [] rfl (t_X11_share_18 B fu   s2)
  · refine ww_iload_n hX 2 rfl dX11_share_9 rfl ?_
    refine ww_iconst (v := 0) hX rfl dX11_share_10 ?_
    refine ww_iconst (v := 3) hX rfl dX11_share_11 ?_
    refine ww_callSI (As := [.int p2, .int 0, .int 3]) (rest := []) hX (Rk.of B.2.2.1 B.2.2.2.1 (by decide) (by decide)) g_X11_84 (c_X11_within (x_G X) (x_l X) fu p2 0 3 s2) rfl rfl (Nat.le_of_ble_eq_true rfl) dX11_share_12 (fun r3 s4 => ?_)
    refine ww_if_ne (tgt := 22) hX dX11_share_15 (by decide) ?_ ?_
    · refine ww_aload_n hX 0 rfl dX11_share_22 rfl ?_
      refine ww_getR hX f_X11_58 (Or.inl ⟨_, rfl⟩) dX11_share_23 ?_
      refine ww_bdR (fun o5 => ?_)
      refine ww_iload_n hX 1 rfl dX11_share_26 rfl ?_
      refine ww_iload_n hX 2 rfl dX11_share_27 rfl ?_
      refine ww_aload_n hX 0 rfl dX11_share_28 rfl ?_
      refine ww_getR hX f_X11_51 (Or.inl ⟨_, rfl⟩) dX11_share_29 ?_
      refine ww_bdR (fun o6 => ?_)
      refine ww_getI hX f_X11_282 (Or.inl rfl) dX11_share_32 ?_
      refine ww_pc (b := 35) rfl ?_
      refine ww_callVL (As := [.int p1, .int p2, .int (gI s4 o6 14)]) (rest := []) (o := o5) hX (Rk.of B.2.2.1 B.2.2.2.1 (by decide) (by decide)) g_X11_305 g_X11_305.in (fun _ => c_X5_tell (x_G X) (x_l X) fu o5 p1 p2 (gI s4 o6 14) s4) rfl rfl (Nat.le_of_ble_eq_true rfl) dX11_share_35 (fun r7 s8 => ?_)
      exact ww_lret B dX11_share_38
    · exact ww_sub [] rfl (t_X11_share_18 B fu   s4)
theorem c_X11_share (G : GX) (l : Launch) (fu : Nat) (th : Nat) (p1 : Int32) (p2 : Int32) (st : St) : ML G NN l yX11_share cX11_share 3 (some .long) 3 [.ref (G.2.2.1 + th), .int p1, .int p2] st (f_X11_share fu th p1 p2 st) := mkL (by decide) (Nat.le_of_ble_eq_true rfl) (fun X res hl hG B => by subst hl; subst hG; exact t_X11_share B fu th p1 p2 st)
/-! StageHouse.way(IIII)I -/
def b_X11_way_86 (fu : Nat)  (y0 : Int32) (st : St) : Option (Int32 × St) :=
  some (y0, st)
set_option maxHeartbeats 4000000 in
set_option maxRecDepth 100000 in
theorem t_X11_way_86 {X : CX} {res : Int32 × St} (B : BI X cX11_way RX11 6 3 NN (some .int) res) (fu : Nat)  (y0 : Int32) (st : St) : WW X res NN 86 [] [.int y0] st (b_X11_way_86 fu y0 st) := by
  have hX := B.1
  have hL := B.2.1
  unfold b_X11_way_86
  exact ww_iret B dX11_way_86
def b_X11_way_85 (fu : Nat)   (st : St) : Option (Int32 × St) :=
  b_X11_way_86 fu  ((-1)) st
set_option maxHeartbeats 4000000 in
set_option maxRecDepth 100000 in
theorem t_X11_way_85 {X : CX} {res : Int32 × St} (B : BI X cX11_way RX11 6 3 NN (some .int) res) (fu : Nat)   (st : St) : WW X res NN 85 [] [] st (b_X11_way_85 fu  st) := by
  have hX := B.1
  have hL := B.2.1
  unfold b_X11_way_85
  refine ww_iconst (v := (-1)) hX rfl dX11_way_85 ?_
  exact t_X11_way_86 B fu  ((-1)) st
def b_X11_way_51 (fu : Nat) (x0 : Nat) (x1 : Int32) (x2 : Int32) (x3 : Int32) (x4 : Int32) (y0 : Int32) (st : St) : Option (Int32 × St) :=
  if y0 = 0 then (
  b_X11_way_85 fu   st)
  else (
  ck (¬ gR st x0 7 = 0) <|
  ck ((kd x0).1 = 11) <|
  bd (gR st x0 7) fun o3 =>
  ck ((kd o3).1 = 10) <|
  if 20 ≤ (gI st o3 13) then (
  b_X11_way_85 fu   st)
  else (
  ck (¬ gR st x0 7 = 0) <|
  ck ((kd x0).1 = 11) <|
  bd (gR st x0 7) fun o4 =>
  ck ((kd o4).1 = 10) <|
  ca (f_X10_add fu o4 x1 x2 x3 x4 st) fun r5 s6 =>
  b_X11_way_86 fu  r5 s6))
set_option maxHeartbeats 4000000 in
set_option maxRecDepth 100000 in
theorem t_X11_way_51 {X : CX} {res : Int32 × St} (B : BI X cX11_way RX11 6 3 NN (some .int) res) (fu : Nat) (x0 : Nat) (x1 : Int32) (x2 : Int32) (x3 : Int32) (x4 : Int32) (y0 : Int32) (st : St) : WW X res NN 51 [(0, .ref (x_b X + x0)), (1, .int x1), (2, .int x2), (3, .int x3), (4, .int x4)] [.int y0] st (b_X11_way_51 fu x0 x1 x2 x3 x4 y0 st) := by
  have hX := B.1
  have hL := B.2.1
  unfold b_X11_way_51
  refine ww_istore (lv' := [(5, .int y0), (0, .ref (x_b X + x0)), (1, .int x1), (2, .int x2), (3, .int x3), (4, .int x4)]) hX hL dX11_way_51 (by decide) rfl ?_
  refine ww_iload hX 0 rfl dX11_way_53 ?_
  refine ww_if_eq (tgt := 85) hX dX11_way_55 (by decide) ?_ ?_
  · exact ww_sub [] rfl (t_X11_way_85 B fu   st)
  · refine ww_aload_n hX 1 rfl dX11_way_58 rfl ?_
    refine ww_getR hX f_X11_65 (Or.inl ⟨_, rfl⟩) dX11_way_59 ?_
    refine ww_bdR (fun o3 => ?_)
    refine ww_getI hX f_X11_308 (Or.inl rfl) dX11_way_62 ?_
    refine ww_bipush (v := 20) hX rfl dX11_way_65 ?_
    refine ww_icmp_ge (tgt := 85) hX dX11_way_67 (by decide) ?_ ?_
    · exact ww_sub [] rfl (t_X11_way_85 B fu   st)
    · refine ww_aload_n hX 1 rfl dX11_way_70 rfl ?_
      refine ww_getR hX f_X11_65 (Or.inl ⟨_, rfl⟩) dX11_way_71 ?_
      refine ww_bdR (fun o4 => ?_)
      refine ww_iload_n hX 2 rfl dX11_way_74 rfl ?_
      refine ww_iload_n hX 3 rfl dX11_way_75 rfl ?_
      refine ww_iload_n hX 4 rfl dX11_way_76 rfl ?_
      refine ww_iload hX 5 rfl dX11_way_77 ?_
      refine ww_callVI (As := [.int x1, .int x2, .int x3, .int x4]) (rest := []) (o := o4) hX (Rk.of B.2.2.1 B.2.2.2.1 (by decide) (by decide)) g_X11_309 g_X11_309.in (fun _ => c_X10_add (x_G X) (x_l X) fu o4 x1 x2 x3 x4 st) rfl rfl (Nat.le_of_ble_eq_true rfl) dX11_way_79 (fun r5 s6 => ?_)
      refine ww_pc (b := 82) rfl ?_
      refine ww_goto (tgt := 86) hX dX11_way_82 (by decide) ?_
      exact ww_sub [] rfl (t_X11_way_86 B fu  r5 s6)
def b_X11_way_50 (fu : Nat) (x0 : Nat) (x1 : Int32) (x2 : Int32) (x3 : Int32) (x4 : Int32)  (st : St) : Option (Int32 × St) :=
  b_X11_way_51 fu x0 x1 x2 x3 x4 0 st
set_option maxHeartbeats 4000000 in
set_option maxRecDepth 100000 in
theorem t_X11_way_50 {X : CX} {res : Int32 × St} (B : BI X cX11_way RX11 6 3 NN (some .int) res) (fu : Nat) (x0 : Nat) (x1 : Int32) (x2 : Int32) (x3 : Int32) (x4 : Int32)  (st : St) : WW X res NN 50 [(0, .ref (x_b X + x0)), (1, .int x1), (2, .int x2), (3, .int x3), (4, .int x4)] [] st (b_X11_way_50 fu x0 x1 x2 x3 x4 st) := by
  have hX := B.1
  have hL := B.2.1
  unfold b_X11_way_50
  refine ww_iconst (v := 0) hX rfl dX11_way_50 ?_
  exact t_X11_way_51 B fu x0 x1 x2 x3 x4 0 st
def f_X11_way (fu : Nat) (th : Nat) (p1 : Int32) (p2 : Int32) (p3 : Int32) (p4 : Int32) (st : St) : Option (Int32 × St) :=
  ca (f_X11_within fu p1 0 11 st) fun r1 s2 =>
  if r1 = 0 then (
  b_X11_way_50 fu th p1 p2 p3 p4  s2)
  else (
  ca (f_X11_within fu p2 0 11 s2) fun r7 s8 =>
  if r7 = 0 then (
  b_X11_way_50 fu th p1 p2 p3 p4  s8)
  else (
  if p1 = p2 then (
  b_X11_way_50 fu th p1 p2 p3 p4  s8)
  else (
  ca (f_X11_within fu p3 1 50 s8) fun r9 s10 =>
  if r9 = 0 then (
  b_X11_way_50 fu th p1 p2 p3 p4  s10)
  else (
  ca (f_X11_within fu p4 1 20 s10) fun r11 s12 =>
  if r11 = 0 then (
  b_X11_way_50 fu th p1 p2 p3 p4  s12)
  else (
  b_X11_way_51 fu th p1 p2 p3 p4 1 s12)))))
set_option maxHeartbeats 4000000 in
set_option maxRecDepth 100000 in
theorem t_X11_way {X : CX} {res : Int32 × St} (B : BI X cX11_way RX11 6 3 NN (some .int) res) (fu : Nat) (th : Nat) (p1 : Int32) (p2 : Int32) (p3 : Int32) (p4 : Int32) (st : St) : WW X res NN 0 [(0, .ref (x_b X + th)), (1, .int p1), (2, .int p2), (3, .int p3), (4, .int p4)] [] st (f_X11_way fu th p1 p2 p3 p4 st) := by
  have hX := B.1
  have hL := B.2.1
  unfold f_X11_way
  refine ww_iload_n hX 1 rfl dX11_way_0 rfl ?_
  refine ww_iconst (v := 0) hX rfl dX11_way_1 ?_
  refine ww_bipush (v := 11) hX rfl dX11_way_2 ?_
  refine ww_callSI (As := [.int p1, .int 0, .int 11]) (rest := []) hX (Rk.of B.2.2.1 B.2.2.2.1 (by decide) (by decide)) g_X11_84 (c_X11_within (x_G X) (x_l X) fu p1 0 11 st) rfl rfl (Nat.le_of_ble_eq_true rfl) dX11_way_4 (fun r1 s2 => ?_)
  refine ww_if_eq (tgt := 50) hX dX11_way_7 (by decide) ?_ ?_
  · exact t_X11_way_50 B fu th p1 p2 p3 p4  s2
  · refine ww_iload_n hX 2 rfl dX11_way_10 rfl ?_
    refine ww_iconst (v := 0) hX rfl dX11_way_11 ?_
    refine ww_bipush (v := 11) hX rfl dX11_way_12 ?_
    refine ww_callSI (As := [.int p2, .int 0, .int 11]) (rest := []) hX (Rk.of B.2.2.1 B.2.2.2.1 (by decide) (by decide)) g_X11_84 (c_X11_within (x_G X) (x_l X) fu p2 0 11 s2) rfl rfl (Nat.le_of_ble_eq_true rfl) dX11_way_14 (fun r7 s8 => ?_)
    refine ww_if_eq (tgt := 50) hX dX11_way_17 (by decide) ?_ ?_
    · exact t_X11_way_50 B fu th p1 p2 p3 p4  s8
    · refine ww_iload_n hX 1 rfl dX11_way_20 rfl ?_
      refine ww_iload_n hX 2 rfl dX11_way_21 rfl ?_
      refine ww_icmp_eq (tgt := 50) hX dX11_way_22 (by decide) ?_ ?_
      · exact t_X11_way_50 B fu th p1 p2 p3 p4  s8
      · refine ww_iload_n hX 3 rfl dX11_way_25 rfl ?_
        refine ww_iconst (v := 1) hX rfl dX11_way_26 ?_
        refine ww_bipush (v := 50) hX rfl dX11_way_27 ?_
        refine ww_callSI (As := [.int p3, .int 1, .int 50]) (rest := []) hX (Rk.of B.2.2.1 B.2.2.2.1 (by decide) (by decide)) g_X11_84 (c_X11_within (x_G X) (x_l X) fu p3 1 50 s8) rfl rfl (Nat.le_of_ble_eq_true rfl) dX11_way_29 (fun r9 s10 => ?_)
        refine ww_if_eq (tgt := 50) hX dX11_way_32 (by decide) ?_ ?_
        · exact t_X11_way_50 B fu th p1 p2 p3 p4  s10
        · refine ww_iload hX 4 rfl dX11_way_35 ?_
          refine ww_iconst (v := 1) hX rfl dX11_way_37 ?_
          refine ww_bipush (v := 20) hX rfl dX11_way_38 ?_
          refine ww_callSI (As := [.int p4, .int 1, .int 20]) (rest := []) hX (Rk.of B.2.2.1 B.2.2.2.1 (by decide) (by decide)) g_X11_84 (c_X11_within (x_G X) (x_l X) fu p4 1 20 s10) rfl rfl (Nat.le_of_ble_eq_true rfl) dX11_way_40 (fun r11 s12 => ?_)
          refine ww_if_eq (tgt := 50) hX dX11_way_43 (by decide) ?_ ?_
          · exact t_X11_way_50 B fu th p1 p2 p3 p4  s12
          · refine ww_iconst (v := 1) hX rfl dX11_way_46 ?_
            refine ww_goto (tgt := 51) hX dX11_way_47 (by decide) ?_
            exact t_X11_way_51 B fu th p1 p2 p3 p4 1 s12
theorem c_X11_way (G : GX) (l : Launch) (fu : Nat) (th : Nat) (p1 : Int32) (p2 : Int32) (p3 : Int32) (p4 : Int32) (st : St) : MI G NN l yX11_way cX11_way 6 (some .int) 3 [.ref (G.2.2.1 + th), .int p1, .int p2, .int p3, .int p4] st (f_X11_way fu th p1 p2 p3 p4 st) := mkI (by decide) (Nat.le_of_ble_eq_true rfl) (fun X res hl hG B => by subst hl; subst hG; exact t_X11_way B fu th p1 p2 p3 p4 st)
/-! StageHouse.crowd(II)Z -/
def b_X11_crowd_20 (fu : Nat)   (st : St) : Option (Int32 × St) :=
  ck (isb 0) (some (0, st))
set_option maxHeartbeats 4000000 in
set_option maxRecDepth 100000 in
theorem t_X11_crowd_20 {X : CX} {res : Int32 × St} (B : BI X cX11_crowd RX11 3 2 NN (some .boolean) res) (fu : Nat)   (st : St) : WW X res NN 20 [] [] st (b_X11_crowd_20 fu  st) := by
  have hX := B.1
  have hL := B.2.1
  unfold b_X11_crowd_20
  refine ww_iconst (v := 0) hX rfl dX11_crowd_20 ?_
  exact ww_zret B dX11_crowd_21
def f_X11_crowd (fu : Nat) (th : Nat) (p1 : Int32) (p2 : Int32) (st : St) : Option (Int32 × St) :=
  ca (f_X11_within fu p1 0 10 st) fun r1 s2 =>
  if r1 = 0 then (
  b_X11_crowd_20 fu   s2)
  else (
  ca (f_X11_within fu p2 0 60 s2) fun r3 s4 =>
  if r3 = 0 then (
  b_X11_crowd_20 fu   s4)
  else (
  ck (¬ gR s4 th 7 = 0) <|
  ck ((kd th).1 = 11) <|
  bd (gR s4 th 7) fun o5 =>
  ck (¬ gR s4 o5 4 = 0) <|
  ck ((kd o5).1 = 10) <|
  bd (gR s4 o5 4) fun o6 =>
  ck ((kd o6).1 = 100 ∧ inb p1 (kd o6).2) <|
  bd (sI s4 o6 (ix p1) p2) fun s7 =>
  ck (isb 1) (some (1, s7))))
set_option maxHeartbeats 4000000 in
set_option maxRecDepth 100000 in
theorem t_X11_crowd {X : CX} {res : Int32 × St} (B : BI X cX11_crowd RX11 3 2 NN (some .boolean) res) (fu : Nat) (th : Nat) (p1 : Int32) (p2 : Int32) (st : St) : WW X res NN 0 [(0, .ref (x_b X + th)), (1, .int p1), (2, .int p2)] [] st (f_X11_crowd fu th p1 p2 st) := by
  have hX := B.1
  have hL := B.2.1
  unfold f_X11_crowd
  refine ww_iload_n hX 1 rfl dX11_crowd_0 rfl ?_
  refine ww_iconst (v := 0) hX rfl dX11_crowd_1 ?_
  refine ww_bipush (v := 10) hX rfl dX11_crowd_2 ?_
  refine ww_callSI (As := [.int p1, .int 0, .int 10]) (rest := []) hX (Rk.of B.2.2.1 B.2.2.2.1 (by decide) (by decide)) g_X11_84 (c_X11_within (x_G X) (x_l X) fu p1 0 10 st) rfl rfl (Nat.le_of_ble_eq_true rfl) dX11_crowd_4 (fun r1 s2 => ?_)
  refine ww_if_eq (tgt := 20) hX dX11_crowd_7 (by decide) ?_ ?_
  · exact ww_sub [] rfl (t_X11_crowd_20 B fu   s2)
  · refine ww_iload_n hX 2 rfl dX11_crowd_10 rfl ?_
    refine ww_iconst (v := 0) hX rfl dX11_crowd_11 ?_
    refine ww_bipush (v := 60) hX rfl dX11_crowd_12 ?_
    refine ww_callSI (As := [.int p2, .int 0, .int 60]) (rest := []) hX (Rk.of B.2.2.1 B.2.2.2.1 (by decide) (by decide)) g_X11_84 (c_X11_within (x_G X) (x_l X) fu p2 0 60 s2) rfl rfl (Nat.le_of_ble_eq_true rfl) dX11_crowd_14 (fun r3 s4 => ?_)
    refine ww_if_ne (tgt := 22) hX dX11_crowd_17 (by decide) ?_ ?_
    · refine ww_aload_n hX 0 rfl dX11_crowd_22 rfl ?_
      refine ww_getR hX f_X11_65 (Or.inl ⟨_, rfl⟩) dX11_crowd_23 ?_
      refine ww_bdR (fun o5 => ?_)
      refine ww_getR hX f_X11_313 (Or.inr ⟨_, rfl⟩) dX11_crowd_26 ?_
      refine ww_bdR (fun o6 => ?_)
      refine ww_iload_n hX 1 rfl dX11_crowd_29 rfl ?_
      refine ww_iload_n hX 2 rfl dX11_crowd_30 rfl ?_
      refine ww_iastc hX k_iast dX11_crowd_31 ?_
      refine ww_bds (fun s7 => ?_)
      refine ww_iconst (v := 1) hX rfl dX11_crowd_32 ?_
      refine ww_pc (b := 33) rfl ?_
      exact ww_zret B dX11_crowd_33
    · exact ww_sub [] rfl (t_X11_crowd_20 B fu   s4)
theorem c_X11_crowd (G : GX) (l : Launch) (fu : Nat) (th : Nat) (p1 : Int32) (p2 : Int32) (st : St) : MI G NN l yX11_crowd cX11_crowd 3 (some .boolean) 2 [.ref (G.2.2.1 + th), .int p1, .int p2] st (f_X11_crowd fu th p1 p2 st) := mkI (by decide) (Nat.le_of_ble_eq_true rfl) (fun X res hl hG B => by subst hl; subst hG; exact t_X11_crowd B fu th p1 p2 st)
/-! StageHouse.clearWays()V -/
def f_X11_clearWays (fu : Nat) (th : Nat) (st : St) : Option (St) :=
  ck (¬ gR st th 7 = 0) <|
  ck ((kd th).1 = 11) <|
  bd (gR st th 7) fun o1 =>
  ck ((kd o1).1 = 10) <|
  cv (f_X10_clear fu o1 st) fun s2 =>
  some s2
set_option maxHeartbeats 4000000 in
set_option maxRecDepth 100000 in
theorem t_X11_clearWays {X : CX} {res : St} (B : BV X cX11_clearWays RX11 1 3 NN none res) (fu : Nat) (th : Nat) (st : St) : WW X res NN 0 [(0, .ref (x_b X + th))] [] st (f_X11_clearWays fu th st) := by
  have hX := B.1
  have hL := B.2.1
  unfold f_X11_clearWays
  refine ww_aload_n hX 0 rfl dX11_clearWays_0 rfl ?_
  refine ww_getR hX f_X11_65 (Or.inl ⟨_, rfl⟩) dX11_clearWays_1 ?_
  refine ww_bdR (fun o1 => ?_)
  refine ww_callVV (As := []) (rest := []) (o := o1) hX (Rk.of B.2.2.1 B.2.2.2.1 (by decide) (by decide)) g_X11_316 g_X11_316.in (fun _ => c_X10_clear (x_G X) (x_l X) fu o1 st) rfl rfl (Nat.le_of_ble_eq_true rfl) dX11_clearWays_4 (fun s2 => ?_)
  exact ww_vret B dX11_clearWays_7
theorem c_X11_clearWays (G : GX) (l : Launch) (fu : Nat) (th : Nat) (st : St) : MV G NN l yX11_clearWays cX11_clearWays 1 none 3 [.ref (G.2.2.1 + th)] st (f_X11_clearWays fu th st) := mkV (by decide) (Nat.le_of_ble_eq_true rfl) (fun X res hl hG B => by subst hl; subst hG; exact t_X11_clearWays B fu th st)
/-! StageHouse.empty()I -/
def f_X11_empty (fu : Nat) (th : Nat) (st : St) : Option (Int32 × St) :=
  ck (¬ gR st th 7 = 0) <|
  ck ((kd th).1 = 11) <|
  bd (gR st th 7) fun o1 =>
  ck ((kd o1).1 = 10) <|
  ca (f_X10_leastTime fu o1 st) fun r2 s3 =>
  some (r2, s3)
set_option maxHeartbeats 4000000 in
set_option maxRecDepth 100000 in
theorem t_X11_empty {X : CX} {res : Int32 × St} (B : BI X cX11_empty RX11 1 7 NN (some .int) res) (fu : Nat) (th : Nat) (st : St) : WW X res NN 0 [(0, .ref (x_b X + th))] [] st (f_X11_empty fu th st) := by
  have hX := B.1
  have hL := B.2.1
  unfold f_X11_empty
  refine ww_aload_n hX 0 rfl dX11_empty_0 rfl ?_
  refine ww_getR hX f_X11_65 (Or.inl ⟨_, rfl⟩) dX11_empty_1 ?_
  refine ww_bdR (fun o1 => ?_)
  refine ww_callVI (As := []) (rest := []) (o := o1) hX (Rk.of B.2.2.1 B.2.2.2.1 (by decide) (by decide)) g_X11_319 g_X11_319.in (fun _ => c_X10_leastTime (x_G X) (x_l X) fu o1 st) rfl rfl (Nat.le_of_ble_eq_true rfl) dX11_empty_4 (fun r2 s3 => ?_)
  exact ww_iret B dX11_empty_7
theorem c_X11_empty (G : GX) (l : Launch) (fu : Nat) (th : Nat) (st : St) : MI G NN l yX11_empty cX11_empty 1 (some .int) 7 [.ref (G.2.2.1 + th)] st (f_X11_empty fu th st) := mkI (by decide) (Nat.le_of_ble_eq_true rfl) (fun X res hl hG B => by subst hl; subst hG; exact t_X11_empty B fu th st)
/-! StageHouseModel.lay(I)V -/
def b_X12_lay_3_b (fu : Nat) (k_3 : Nat → Int32 → Int32 → St → Option (St)) (x0 : Nat) (x1 : Int32) (x2 : Int32)  (st : St) : Option (St) :=
  if x2 < 0 then (
  some st)
  else (
  ck (¬ gR st x0 0 = 0) <|
  ck ((kd x0).1 = 12) <|
  bd (gR st x0 0) fun o1 =>
  ck ((kd x0).1 = 12) <|
  ck ((kd o1).1 = 101 ∧ inb (gI st x0 1) (kd o1).2) <|
  bd (sI st o1 (ix (gI st x0 1)) ((x1 >>> (x2 &&& 31)).toInt8.toInt32).toInt8.toInt32) fun s2 =>
  ck ((kd x0).1 = 12) <|
  ck ((kd x0).1 = 12) <|
  bd (sI s2 x0 1 ((gI s2 x0 1) + 1)) fun s3 =>
  bd (x2 + (-8)) fun v4 =>
  k_3 x0 x1 v4  s3)
set_option maxHeartbeats 4000000 in
set_option maxRecDepth 100000 in
theorem t_X12_lay_3_b {X : CX} {res : St} (B : BV X cX12_lay RX12 3 1 NN none res) (fu : Nat) (k_3 : Nat → Int32 → Int32 → St → Option (St)) (h_3 : ∀ (x0 : Nat) (x1 : Int32) (x2 : Int32)  (st : St), WW X res NN 3 [(0, .ref (x_b X + x0)), (1, .int x1), (2, .int x2)] [] st (k_3 x0 x1 x2 st)) (x0 : Nat) (x1 : Int32) (x2 : Int32)  (st : St) : WW X res NN 3 [(0, .ref (x_b X + x0)), (1, .int x1), (2, .int x2)] [] st (b_X12_lay_3_b fu k_3 x0 x1 x2 st) := by
  have hX := B.1
  have hL := B.2.1
  unfold b_X12_lay_3_b
  refine ww_iload_n hX 2 rfl dX12_lay_3 rfl ?_
  refine ww_if_lt (tgt := 36) hX dX12_lay_4 (by decide) ?_ ?_
  · exact ww_vret B dX12_lay_36
  · refine ww_aload_n hX 0 rfl dX12_lay_7 rfl ?_
    refine ww_getR hX f_X12_9 (Or.inr ⟨_, rfl⟩) dX12_lay_8 ?_
    refine ww_bdR (fun o1 => ?_)
    refine ww_aload_n hX 0 rfl dX12_lay_11 rfl ?_
    refine ww_getI hX f_X12_345 (Or.inl rfl) dX12_lay_12 ?_
    refine ww_iload_n hX 1 rfl dX12_lay_15 rfl ?_
    refine ww_iload_n hX 2 rfl dX12_lay_16 rfl ?_
    refine ww_ishr hX dX12_lay_17 ?_
    refine ww_pc (b := 18) rfl ?_
    refine ww_i2b hX dX12_lay_18 ?_
    refine ww_bastc hX k_bast dX12_lay_19 ?_
    refine ww_bds (fun s2 => ?_)
    refine ww_aload_n hX 0 rfl dX12_lay_20 rfl ?_
    refine ww_dup hX rfl dX12_lay_21 ?_
    refine ww_getI hX f_X12_345 (Or.inl rfl) dX12_lay_22 ?_
    refine ww_iconst (v := 1) hX rfl dX12_lay_25 ?_
    refine ww_iadd hX dX12_lay_26 ?_
    refine ww_putI hX f_X12_345 rfl dX12_lay_27 ?_
    refine ww_bds (fun s3 => ?_)
    refine ww_pc (b := 30) rfl ?_
    refine ww_iincb (lv' := fun v4 => [(2, .int v4), (0, .ref (x_b X + x0)), (1, .int x1)]) (c := (-8)) hX hL 2 rfl dX12_lay_30 rfl (by decide) (fun _ => rfl) (fun v4 => ?_)
    refine ww_goto (tgt := 3) hX dX12_lay_33 (by decide) ?_
    exact ww_sub [1, 2, 0] rfl (h_3 x0 x1 v4  s3)
def b_X12_lay_3 (fu : Nat) : Nat → Nat → Int32 → Int32 → St → Option (St)
  | 0, _, _, _, _ => none
  | i + 1, x0, x1, x2, st => b_X12_lay_3_b fu (b_X12_lay_3 fu i) x0 x1 x2 st
theorem t_X12_lay_3 {X : CX} {res : St} (B : BV X cX12_lay RX12 3 1 NN none res) (fu : Nat) : ∀ (i : Nat) (x0 : Nat) (x1 : Int32) (x2 : Int32)  (st : St), WW X res NN 3 [(0, .ref (x_b X + x0)), (1, .int x1), (2, .int x2)] [] st (b_X12_lay_3 fu i x0 x1 x2 st) := by
  intro i
  induction i with
  | zero => intro x0 x1 x2 st; exact ww_none
  | succ i ih => intro x0 x1 x2 st; exact t_X12_lay_3_b B fu (b_X12_lay_3 fu i) ih x0 x1 x2 st
def f_X12_lay (fu : Nat) (th : Nat) (p1 : Int32) (st : St) : Option (St) :=
  b_X12_lay_3 fu fu th p1 24  st
set_option maxHeartbeats 4000000 in
set_option maxRecDepth 100000 in
theorem t_X12_lay {X : CX} {res : St} (B : BV X cX12_lay RX12 3 1 NN none res) (fu : Nat) (th : Nat) (p1 : Int32) (st : St) : WW X res NN 0 [(0, .ref (x_b X + th)), (1, .int p1)] [] st (f_X12_lay fu th p1 st) := by
  have hX := B.1
  have hL := B.2.1
  unfold f_X12_lay
  refine ww_bipush (v := 24) hX rfl dX12_lay_0 ?_
  refine ww_istore_n (lv' := [(2, .int 24), (0, .ref (x_b X + th)), (1, .int p1)]) hX hL dX12_lay_2 rfl (by decide) rfl ?_
  exact ww_sub [1, 2, 0] rfl (t_X12_lay_3 B fu fu th p1 24  st)
theorem c_X12_lay (G : GX) (l : Launch) (fu : Nat) (th : Nat) (p1 : Int32) (st : St) : MV G NN l yX12_lay cX12_lay 3 none 1 [.ref (G.2.2.1 + th), .int p1] st (f_X12_lay fu th p1 st) := mkV (by decide) (Nat.le_of_ble_eq_true rfl) (fun X res hl hG B => by subst hl; subst hG; exact t_X12_lay B fu th p1 st)
/-! StageHouseModel.feed(IIIII)I -/
def f_X12_feed (fu : Nat) (th : Nat) (p1 : Int32) (p2 : Int32) (p3 : Int32) (p4 : Int32) (p5 : Int32) (st : St) : Option (Int32 × St) :=
  ck ((kd th).1 = 12) <|
  if ((gI st th 1) + 20) ≤ 4000 then (
  ck ((kd th).1 = 12) <|
  cv (f_X12_lay fu th p1 st) fun s1 =>
  ck ((kd th).1 = 12) <|
  cv (f_X12_lay fu th p2 s1) fun s2 =>
  ck ((kd th).1 = 12) <|
  cv (f_X12_lay fu th p3 s2) fun s3 =>
  ck ((kd th).1 = 12) <|
  cv (f_X12_lay fu th p4 s3) fun s4 =>
  ck ((kd th).1 = 12) <|
  cv (f_X12_lay fu th p5 s4) fun s5 =>
  ck ((kd th).1 = 12) <|
  some (gI s5 th 1, s5))
  else (
  some ((-1), st))
set_option maxHeartbeats 4000000 in
set_option maxRecDepth 100000 in
theorem t_X12_feed {X : CX} {res : Int32 × St} (B : BI X cX12_feed RX12 6 2 NN (some .int) res) (fu : Nat) (th : Nat) (p1 : Int32) (p2 : Int32) (p3 : Int32) (p4 : Int32) (p5 : Int32) (st : St) : WW X res NN 0 [(0, .ref (x_b X + th)), (1, .int p1), (2, .int p2), (3, .int p3), (4, .int p4), (5, .int p5)] [] st (f_X12_feed fu th p1 p2 p3 p4 p5 st) := by
  have hX := B.1
  have hL := B.2.1
  unfold f_X12_feed
  refine ww_aload_n hX 0 rfl dX12_feed_0 rfl ?_
  refine ww_getI hX f_X12_345 (Or.inl rfl) dX12_feed_1 ?_
  refine ww_bipush (v := 20) hX rfl dX12_feed_4 ?_
  refine ww_iadd hX dX12_feed_6 ?_
  refine ww_sipush (v := 4000) hX rfl dX12_feed_7 ?_
  refine ww_icmp_le (tgt := 15) hX dX12_feed_10 (by decide) ?_ ?_
  · refine ww_aload_n hX 0 rfl dX12_feed_15 rfl ?_
    refine ww_iload_n hX 1 rfl dX12_feed_16 rfl ?_
    refine ww_callVV (As := [.int p1]) (rest := []) (o := th) hX (Rk.of B.2.2.1 B.2.2.2.1 (by decide) (by decide)) g_X12_348 g_X12_348.in (fun _ => c_X12_lay (x_G X) (x_l X) fu th p1 st) rfl rfl (Nat.le_of_ble_eq_true rfl) dX12_feed_17 (fun s1 => ?_)
    refine ww_aload_n hX 0 rfl dX12_feed_20 rfl ?_
    refine ww_iload_n hX 2 rfl dX12_feed_21 rfl ?_
    refine ww_callVV (As := [.int p2]) (rest := []) (o := th) hX (Rk.of B.2.2.1 B.2.2.2.1 (by decide) (by decide)) g_X12_348 g_X12_348.in (fun _ => c_X12_lay (x_G X) (x_l X) fu th p2 s1) rfl rfl (Nat.le_of_ble_eq_true rfl) dX12_feed_22 (fun s2 => ?_)
    refine ww_aload_n hX 0 rfl dX12_feed_25 rfl ?_
    refine ww_pc (b := 26) rfl ?_
    refine ww_iload_n hX 3 rfl dX12_feed_26 rfl ?_
    refine ww_callVV (As := [.int p3]) (rest := []) (o := th) hX (Rk.of B.2.2.1 B.2.2.2.1 (by decide) (by decide)) g_X12_348 g_X12_348.in (fun _ => c_X12_lay (x_G X) (x_l X) fu th p3 s2) rfl rfl (Nat.le_of_ble_eq_true rfl) dX12_feed_27 (fun s3 => ?_)
    refine ww_aload_n hX 0 rfl dX12_feed_30 rfl ?_
    refine ww_iload hX 4 rfl dX12_feed_31 ?_
    refine ww_callVV (As := [.int p4]) (rest := []) (o := th) hX (Rk.of B.2.2.1 B.2.2.2.1 (by decide) (by decide)) g_X12_348 g_X12_348.in (fun _ => c_X12_lay (x_G X) (x_l X) fu th p4 s3) rfl rfl (Nat.le_of_ble_eq_true rfl) dX12_feed_33 (fun s4 => ?_)
    refine ww_aload_n hX 0 rfl dX12_feed_36 rfl ?_
    refine ww_iload hX 5 rfl dX12_feed_37 ?_
    refine ww_callVV (As := [.int p5]) (rest := []) (o := th) hX (Rk.of B.2.2.1 B.2.2.2.1 (by decide) (by decide)) g_X12_348 g_X12_348.in (fun _ => c_X12_lay (x_G X) (x_l X) fu th p5 s4) rfl rfl (Nat.le_of_ble_eq_true rfl) dX12_feed_39 (fun s5 => ?_)
    refine ww_pc (b := 42) rfl ?_
    refine ww_aload_n hX 0 rfl dX12_feed_42 rfl ?_
    refine ww_getI hX f_X12_345 (Or.inl rfl) dX12_feed_43 ?_
    exact ww_iret B dX12_feed_46
  · refine ww_iconst (v := (-1)) hX rfl dX12_feed_13 ?_
    exact ww_iret B dX12_feed_14
theorem c_X12_feed (G : GX) (l : Launch) (fu : Nat) (th : Nat) (p1 : Int32) (p2 : Int32) (p3 : Int32) (p4 : Int32) (p5 : Int32) (st : St) : MI G NN l yX12_feed cX12_feed 6 (some .int) 2 [.ref (G.2.2.1 + th), .int p1, .int p2, .int p3, .int p4, .int p5] st (f_X12_feed fu th p1 p2 p3 p4 p5 st) := mkI (by decide) (Nat.le_of_ble_eq_true rfl) (fun X res hl hG B => by subst hl; subst hG; exact t_X12_feed B fu th p1 p2 p3 p4 p5 st)
/-! StageHouseModel.cut(I)I -/
def b_X12_cut_12 (fu : Nat)   (st : St) : Option (Int32 × St) :=
  some ((-1), st)
set_option maxHeartbeats 4000000 in
set_option maxRecDepth 100000 in
theorem t_X12_cut_12 {X : CX} {res : Int32 × St} (B : BI X cX12_cut RX12 3 1 NN (some .int) res) (fu : Nat)   (st : St) : WW X res NN 12 [] [] st (b_X12_cut_12 fu  st) := by
  have hX := B.1
  have hL := B.2.1
  unfold b_X12_cut_12
  refine ww_iconst (v := (-1)) hX rfl dX12_cut_12 ?_
  exact ww_iret B dX12_cut_13
def f_X12_cut (fu : Nat) (th : Nat) (p1 : Int32) (st : St) : Option (Int32 × St) :=
  if p1 < 0 then (
  b_X12_cut_12 fu   st)
  else (
  ck ((kd th).1 = 12) <|
  if p1 ≤ (gI st th 1) then (
  ck ((kd th).1 = 12) <|
  bd ((gI st th 1) - p1) fun v1 =>
  ck ((kd th).1 = 12) <|
  bd (sI st th 1 p1) fun s2 =>
  some (v1, s2))
  else (
  b_X12_cut_12 fu   st))
set_option maxHeartbeats 4000000 in
set_option maxRecDepth 100000 in
theorem t_X12_cut {X : CX} {res : Int32 × St} (B : BI X cX12_cut RX12 3 1 NN (some .int) res) (fu : Nat) (th : Nat) (p1 : Int32) (st : St) : WW X res NN 0 [(0, .ref (x_b X + th)), (1, .int p1)] [] st (f_X12_cut fu th p1 st) := by
  have hX := B.1
  have hL := B.2.1
  unfold f_X12_cut
  refine ww_iload_n hX 1 rfl dX12_cut_0 rfl ?_
  refine ww_if_lt (tgt := 12) hX dX12_cut_1 (by decide) ?_ ?_
  · exact ww_sub [] rfl (t_X12_cut_12 B fu   st)
  · refine ww_iload_n hX 1 rfl dX12_cut_4 rfl ?_
    refine ww_aload_n hX 0 rfl dX12_cut_5 rfl ?_
    refine ww_getI hX f_X12_345 (Or.inl rfl) dX12_cut_6 ?_
    refine ww_icmp_le (tgt := 14) hX dX12_cut_9 (by decide) ?_ ?_
    · refine ww_aload_n hX 0 rfl dX12_cut_14 rfl ?_
      refine ww_getI hX f_X12_345 (Or.inl rfl) dX12_cut_15 ?_
      refine ww_iload_n hX 1 rfl dX12_cut_18 rfl ?_
      refine ww_isub hX dX12_cut_19 ?_
      refine ww_bdi (fun v1 => ?_)
      refine ww_istore_n (lv' := [(2, .int v1), (0, .ref (x_b X + th)), (1, .int p1)]) hX hL dX12_cut_20 rfl (by decide) rfl ?_
      refine ww_aload_n hX 1 rfl dX12_cut_21 rfl ?_
      refine ww_iload_n hX 2 rfl dX12_cut_22 rfl ?_
      refine ww_pc (b := 23) rfl ?_
      refine ww_putI hX f_X12_345 rfl dX12_cut_23 ?_
      refine ww_bds (fun s2 => ?_)
      refine ww_iload_n hX 0 rfl dX12_cut_26 rfl ?_
      exact ww_iret B dX12_cut_27
    · exact ww_sub [] rfl (t_X12_cut_12 B fu   st)
theorem c_X12_cut (G : GX) (l : Launch) (fu : Nat) (th : Nat) (p1 : Int32) (st : St) : MI G NN l yX12_cut cX12_cut 3 (some .int) 1 [.ref (G.2.2.1 + th), .int p1] st (f_X12_cut fu th p1 st) := mkI (by decide) (Nat.le_of_ble_eq_true rfl) (fun X res hl hG B => by subst hl; subst hG; exact t_X12_cut B fu th p1 st)
/-! StageHouseModel.nearest(JJ)J -/
def b_X12_nearest_41 (fu : Nat)  (y0 : Int64) (st : St) : Option (Int64 × St) :=
  some (y0, st)
set_option maxHeartbeats 4000000 in
set_option maxRecDepth 100000 in
theorem t_X12_nearest_41 {X : CX} {res : Int64 × St} (B : BL X cX12_nearest RX12 8 1 NN (some .long) res) (fu : Nat)  (y0 : Int64) (st : St) : WW X res NN 41 [] [.long y0] st (b_X12_nearest_41 fu y0 st) := by
  have hX := B.1
  have hL := B.2.1
  unfold b_X12_nearest_41
  exact ww_lret B dX12_nearest_41
def f_X12_nearest (fu : Nat) (p0 : Int64) (p2 : Int64) (st : St) : Option (Int64 × St) :=
  bd ((2 * p0) + p2) fun v1 =>
  ck (¬ (2 * p2) = 0) <|
  bd (v1 / (2 * p2)) fun v2 =>
  ck (¬ (2 * p2) = 0) <|
  if 0 ≤ (lg_cmp (v1 - v1 / (2 * p2) * (2 * p2)) 0) then (
  b_X12_nearest_41 fu  v2 st)
  else (
  b_X12_nearest_41 fu  (v2 - 1) st)
set_option maxHeartbeats 4000000 in
set_option maxRecDepth 100000 in
theorem t_X12_nearest {X : CX} {res : Int64 × St} (B : BL X cX12_nearest RX12 8 1 NN (some .long) res) (fu : Nat) (p0 : Int64) (p2 : Int64) (st : St) : WW X res NN 0 [(0, .long p0), (2, .long p2)] [] st (f_X12_nearest fu p0 p2 st) := by
  have hX := B.1
  have hL := B.2.1
  unfold f_X12_nearest
  refine ww_ldc2 (v := 2) hX k_X12_351 dX12_nearest_0 ?_
  refine ww_lload_n hX 0 rfl dX12_nearest_3 rfl ?_
  refine ww_lmul hX dX12_nearest_4 ?_
  refine ww_lload_n hX 1 rfl dX12_nearest_5 rfl ?_
  refine ww_ladd hX dX12_nearest_6 ?_
  refine ww_bdl (fun v1 => ?_)
  refine ww_lstore (lv' := [(4, .long v1), (0, .long p0), (2, .long p2)]) hX hL dX12_nearest_7 (by decide) rfl ?_
  refine ww_lload hX 0 rfl dX12_nearest_9 ?_
  refine ww_pc (b := 11) rfl ?_
  refine ww_ldc2 (v := 2) hX k_X12_351 dX12_nearest_11 ?_
  refine ww_lload_n hX 2 rfl dX12_nearest_14 rfl ?_
  refine ww_lmul hX dX12_nearest_15 ?_
  refine ww_ldiv hX dX12_nearest_16 ?_
  refine ww_bdl (fun v2 => ?_)
  refine ww_lstore (lv' := [(6, .long v2), (4, .long v1), (0, .long p0), (2, .long p2)]) hX hL dX12_nearest_17 (by decide) rfl ?_
  refine ww_lload hX 1 rfl dX12_nearest_19 ?_
  refine ww_ldc2 (v := 2) hX k_X12_351 dX12_nearest_21 ?_
  refine ww_lload_n hX 3 rfl dX12_nearest_24 rfl ?_
  refine ww_pc (b := 25) rfl ?_
  refine ww_lmul hX dX12_nearest_25 ?_
  refine ww_lrem hX dX12_nearest_26 ?_
  refine ww_lconst (v := 0) hX rfl dX12_nearest_27 ?_
  refine ww_lcmp hX dX12_nearest_28 ?_
  refine ww_if_ge (tgt := 39) hX dX12_nearest_29 (by decide) ?_ ?_
  · refine ww_lload hX 0 rfl dX12_nearest_39 ?_
    exact ww_sub [] rfl (t_X12_nearest_41 B fu  v2 st)
  · refine ww_lload hX 0 rfl dX12_nearest_32 ?_
    refine ww_lconst (v := 1) hX rfl dX12_nearest_34 ?_
    refine ww_lsub hX dX12_nearest_35 ?_
    refine ww_goto (tgt := 41) hX dX12_nearest_36 (by decide) ?_
    exact ww_sub [] rfl (t_X12_nearest_41 B fu  (v2 - 1) st)
theorem c_X12_nearest (G : GX) (l : Launch) (fu : Nat) (p0 : Int64) (p2 : Int64) (st : St) : ML G NN l yX12_nearest cX12_nearest 8 (some .long) 1 [.long p0, .long p2] st (f_X12_nearest fu p0 p2 st) := mkL (by decide) (Nat.le_of_ble_eq_true rfl) (fun X res hl hG B => by subst hl; subst hG; exact t_X12_nearest B fu p0 p2 st)
/-! StageHouseModel.word(Ljava/lang/String;)J -/
def b_X12_word_4_b (fu : Nat) (k_4 : Nat → Int64 → Int32 → St → Option (Int64 × St)) (x0 : Nat) (x1 : Int64) (x3 : Int32)  (st : St) : Option (Int64 × St) :=
  ck (x0 < sB.length) <|
  ca (f_J0_length_8abf5 fu x0 st) fun r1 s2 =>
  if r1 ≤ x3 then (
  some (x1, s2))
  else (
  ck (x0 < sB.length) <|
  ca (f_J0_charAt_5068e fu x0 x3 s2) fun r3 s4 =>
  bd ((x1 <<< ((5 : Int32).toInt64 &&& 63)) ||| ((r3 - 96).toInt64)) fun v5 =>
  bd (x3 + 1) fun v6 =>
  k_4 x0 v5 v6  s4)
set_option maxHeartbeats 4000000 in
set_option maxRecDepth 100000 in
theorem t_X12_word_4_b {X : CX} {res : Int64 × St} (B : BL X cX12_word RX12 4 5 NN (some .long) res) (fu : Nat) (k_4 : Nat → Int64 → Int32 → St → Option (Int64 × St)) (h_4 : ∀ (x0 : Nat) (x1 : Int64) (x3 : Int32)  (st : St), WW X res NN 4 [(0, .ref ((x_K X).1 x0)), (1, .long x1), (3, .int x3)] [] st (k_4 x0 x1 x3 st)) (x0 : Nat) (x1 : Int64) (x3 : Int32)  (st : St) : WW X res NN 4 [(0, .ref ((x_K X).1 x0)), (1, .long x1), (3, .int x3)] [] st (b_X12_word_4_b fu k_4 x0 x1 x3 st) := by
  have hX := B.1
  have hL := B.2.1
  unfold b_X12_word_4_b
  refine ww_iload_n hX 2 rfl dX12_word_4 rfl ?_
  refine ww_aload_n hX 0 rfl dX12_word_5 rfl ?_
  refine ww_callsI (As := []) (rest := [.int x3]) (w := x0) hX (Rk.of B.2.2.1 B.2.2.2.1 (by decide) (by decide)) g_X12_353 (c_J0_length_8abf5 (x_G X) (x_l X) fu x0 st) rfl rfl (Nat.le_of_ble_eq_true rfl) dX12_word_6 (fun r1 s2 => ?_)
  refine ww_icmp_ge (tgt := 32) hX dX12_word_9 (by decide) ?_ ?_
  · refine ww_lload_n hX 1 rfl dX12_word_32 rfl ?_
    exact ww_lret B dX12_word_33
  · refine ww_lload_n hX 1 rfl dX12_word_12 rfl ?_
    refine ww_iconst (v := 5) hX rfl dX12_word_13 ?_
    refine ww_lshl hX dX12_word_14 ?_
    refine ww_aload_n hX 0 rfl dX12_word_15 rfl ?_
    refine ww_iload_n hX 2 rfl dX12_word_16 rfl ?_
    refine ww_callsI (As := [.int x3]) (rest := [.long (x1 <<< ((5 : Int32).toInt64 &&& 63))]) (w := x0) hX (Rk.of B.2.2.1 B.2.2.2.1 (by decide) (by decide)) g_X12_359 (c_J0_charAt_5068e (x_G X) (x_l X) fu x0 x3 s2) rfl rfl (Nat.le_of_ble_eq_true rfl) dX12_word_17 (fun r3 s4 => ?_)
    refine ww_bipush (v := 96) hX rfl dX12_word_20 ?_
    refine ww_pc (b := 22) rfl ?_
    refine ww_isub hX dX12_word_22 ?_
    refine ww_i2l hX dX12_word_23 ?_
    refine ww_lor hX dX12_word_24 ?_
    refine ww_bdl (fun v5 => ?_)
    refine ww_lstore_n (lv' := [(1, .long v5), (0, .ref ((x_K X).1 x0)), (3, .int x3)]) hX hL dX12_word_25 rfl (by decide) rfl ?_
    refine ww_iincb (lv' := fun v6 => [(3, .int v6), (1, .long v5), (0, .ref ((x_K X).1 x0))]) (c := 1) hX hL 2 rfl dX12_word_26 rfl (by decide) (fun _ => rfl) (fun v6 => ?_)
    refine ww_goto (tgt := 4) hX dX12_word_29 (by decide) ?_
    exact ww_sub [2, 1, 0] rfl (h_4 x0 v5 v6  s4)
def b_X12_word_4 (fu : Nat) : Nat → Nat → Int64 → Int32 → St → Option (Int64 × St)
  | 0, _, _, _, _ => none
  | i + 1, x0, x1, x3, st => b_X12_word_4_b fu (b_X12_word_4 fu i) x0 x1 x3 st
theorem t_X12_word_4 {X : CX} {res : Int64 × St} (B : BL X cX12_word RX12 4 5 NN (some .long) res) (fu : Nat) : ∀ (i : Nat) (x0 : Nat) (x1 : Int64) (x3 : Int32)  (st : St), WW X res NN 4 [(0, .ref ((x_K X).1 x0)), (1, .long x1), (3, .int x3)] [] st (b_X12_word_4 fu i x0 x1 x3 st) := by
  intro i
  induction i with
  | zero => intro x0 x1 x3 st; exact ww_none
  | succ i ih => intro x0 x1 x3 st; exact t_X12_word_4_b B fu (b_X12_word_4 fu i) ih x0 x1 x3 st
def f_X12_word (fu : Nat) (p0 : Nat) (st : St) : Option (Int64 × St) :=
  b_X12_word_4 fu fu p0 0 0  st
set_option maxHeartbeats 4000000 in
set_option maxRecDepth 100000 in
theorem t_X12_word {X : CX} {res : Int64 × St} (B : BL X cX12_word RX12 4 5 NN (some .long) res) (fu : Nat) (p0 : Nat) (st : St) : WW X res NN 0 [(0, .ref ((x_K X).1 p0))] [] st (f_X12_word fu p0 st) := by
  have hX := B.1
  have hL := B.2.1
  unfold f_X12_word
  refine ww_lconst (v := 0) hX rfl dX12_word_0 ?_
  refine ww_lstore_n (lv' := [(1, .long 0), (0, .ref ((x_K X).1 p0))]) hX hL dX12_word_1 rfl (by decide) rfl ?_
  refine ww_iconst (v := 0) hX rfl dX12_word_2 ?_
  refine ww_istore_n (lv' := [(3, .int 0), (1, .long 0), (0, .ref ((x_K X).1 p0))]) hX hL dX12_word_3 rfl (by decide) rfl ?_
  exact ww_sub [2, 1, 0] rfl (t_X12_word_4 B fu fu p0 0 0  st)
theorem c_X12_word (G : GX) (l : Launch) (fu : Nat) (p0 : Nat) (st : St) : ML G NN l yX12_word cX12_word 4 (some .long) 5 [.ref ((G.2.2.2).1 p0)] st (f_X12_word fu p0 st) := mkL (by decide) (Nat.le_of_ble_eq_true rfl) (fun X res hl hG B => by subst hl; subst hG; exact t_X12_word B fu p0 st)
/-! StageHouseModel.isLetter(I)Z -/
def b_X12_isLetter_17 (fu : Nat)  (y0 : Int32) (st : St) : Option (Int32 × St) :=
  ck (isb y0) (some (y0, st))
set_option maxHeartbeats 4000000 in
set_option maxRecDepth 100000 in
theorem t_X12_isLetter_17 {X : CX} {res : Int32 × St} (B : BI X cX12_isLetter RX12 1 1 NN (some .boolean) res) (fu : Nat)  (y0 : Int32) (st : St) : WW X res NN 17 [] [.int y0] st (b_X12_isLetter_17 fu y0 st) := by
  have hX := B.1
  have hL := B.2.1
  unfold b_X12_isLetter_17
  exact ww_zret B dX12_isLetter_17
def b_X12_isLetter_16 (fu : Nat)   (st : St) : Option (Int32 × St) :=
  b_X12_isLetter_17 fu  0 st
set_option maxHeartbeats 4000000 in
set_option maxRecDepth 100000 in
theorem t_X12_isLetter_16 {X : CX} {res : Int32 × St} (B : BI X cX12_isLetter RX12 1 1 NN (some .boolean) res) (fu : Nat)   (st : St) : WW X res NN 16 [] [] st (b_X12_isLetter_16 fu  st) := by
  have hX := B.1
  have hL := B.2.1
  unfold b_X12_isLetter_16
  refine ww_iconst (v := 0) hX rfl dX12_isLetter_16 ?_
  exact t_X12_isLetter_17 B fu  0 st
def f_X12_isLetter (fu : Nat) (p0 : Int32) (st : St) : Option (Int32 × St) :=
  if p0 < 97 then (
  b_X12_isLetter_16 fu   st)
  else (
  if 122 < p0 then (
  b_X12_isLetter_16 fu   st)
  else (
  b_X12_isLetter_17 fu  1 st))
set_option maxHeartbeats 4000000 in
set_option maxRecDepth 100000 in
theorem t_X12_isLetter {X : CX} {res : Int32 × St} (B : BI X cX12_isLetter RX12 1 1 NN (some .boolean) res) (fu : Nat) (p0 : Int32) (st : St) : WW X res NN 0 [(0, .int p0)] [] st (f_X12_isLetter fu p0 st) := by
  have hX := B.1
  have hL := B.2.1
  unfold f_X12_isLetter
  refine ww_iload_n hX 0 rfl dX12_isLetter_0 rfl ?_
  refine ww_bipush (v := 97) hX rfl dX12_isLetter_1 ?_
  refine ww_icmp_lt (tgt := 16) hX dX12_isLetter_3 (by decide) ?_ ?_
  · exact ww_sub [] rfl (t_X12_isLetter_16 B fu   st)
  · refine ww_iload_n hX 0 rfl dX12_isLetter_6 rfl ?_
    refine ww_bipush (v := 122) hX rfl dX12_isLetter_7 ?_
    refine ww_icmp_gt (tgt := 16) hX dX12_isLetter_9 (by decide) ?_ ?_
    · exact ww_sub [] rfl (t_X12_isLetter_16 B fu   st)
    · refine ww_iconst (v := 1) hX rfl dX12_isLetter_12 ?_
      refine ww_goto (tgt := 17) hX dX12_isLetter_13 (by decide) ?_
      exact ww_sub [] rfl (t_X12_isLetter_17 B fu  1 st)
theorem c_X12_isLetter (G : GX) (l : Launch) (fu : Nat) (p0 : Int32) (st : St) : MI G NN l yX12_isLetter cX12_isLetter 1 (some .boolean) 1 [.int p0] st (f_X12_isLetter fu p0 st) := mkI (by decide) (Nat.le_of_ble_eq_true rfl) (fun X res hl hG B => by subst hl; subst hG; exact t_X12_isLetter B fu p0 st)
/-! StageHouseModel.isDigit(I)Z -/
def b_X12_isDigit_17 (fu : Nat)  (y0 : Int32) (st : St) : Option (Int32 × St) :=
  ck (isb y0) (some (y0, st))
set_option maxHeartbeats 4000000 in
set_option maxRecDepth 100000 in
theorem t_X12_isDigit_17 {X : CX} {res : Int32 × St} (B : BI X cX12_isDigit RX12 1 1 NN (some .boolean) res) (fu : Nat)  (y0 : Int32) (st : St) : WW X res NN 17 [] [.int y0] st (b_X12_isDigit_17 fu y0 st) := by
  have hX := B.1
  have hL := B.2.1
  unfold b_X12_isDigit_17
  exact ww_zret B dX12_isDigit_17
def b_X12_isDigit_16 (fu : Nat)   (st : St) : Option (Int32 × St) :=
  b_X12_isDigit_17 fu  0 st
set_option maxHeartbeats 4000000 in
set_option maxRecDepth 100000 in
theorem t_X12_isDigit_16 {X : CX} {res : Int32 × St} (B : BI X cX12_isDigit RX12 1 1 NN (some .boolean) res) (fu : Nat)   (st : St) : WW X res NN 16 [] [] st (b_X12_isDigit_16 fu  st) := by
  have hX := B.1
  have hL := B.2.1
  unfold b_X12_isDigit_16
  refine ww_iconst (v := 0) hX rfl dX12_isDigit_16 ?_
  exact t_X12_isDigit_17 B fu  0 st
def f_X12_isDigit (fu : Nat) (p0 : Int32) (st : St) : Option (Int32 × St) :=
  if p0 < 48 then (
  b_X12_isDigit_16 fu   st)
  else (
  if 57 < p0 then (
  b_X12_isDigit_16 fu   st)
  else (
  b_X12_isDigit_17 fu  1 st))
set_option maxHeartbeats 4000000 in
set_option maxRecDepth 100000 in
theorem t_X12_isDigit {X : CX} {res : Int32 × St} (B : BI X cX12_isDigit RX12 1 1 NN (some .boolean) res) (fu : Nat) (p0 : Int32) (st : St) : WW X res NN 0 [(0, .int p0)] [] st (f_X12_isDigit fu p0 st) := by
  have hX := B.1
  have hL := B.2.1
  unfold f_X12_isDigit
  refine ww_iload_n hX 0 rfl dX12_isDigit_0 rfl ?_
  refine ww_bipush (v := 48) hX rfl dX12_isDigit_1 ?_
  refine ww_icmp_lt (tgt := 16) hX dX12_isDigit_3 (by decide) ?_ ?_
  · exact ww_sub [] rfl (t_X12_isDigit_16 B fu   st)
  · refine ww_iload_n hX 0 rfl dX12_isDigit_6 rfl ?_
    refine ww_bipush (v := 57) hX rfl dX12_isDigit_7 ?_
    refine ww_icmp_gt (tgt := 16) hX dX12_isDigit_9 (by decide) ?_ ?_
    · exact ww_sub [] rfl (t_X12_isDigit_16 B fu   st)
    · refine ww_iconst (v := 1) hX rfl dX12_isDigit_12 ?_
      refine ww_goto (tgt := 17) hX dX12_isDigit_13 (by decide) ?_
      exact ww_sub [] rfl (t_X12_isDigit_17 B fu  1 st)
theorem c_X12_isDigit (G : GX) (l : Launch) (fu : Nat) (p0 : Int32) (st : St) : MI G NN l yX12_isDigit cX12_isDigit 1 (some .boolean) 1 [.int p0] st (f_X12_isDigit fu p0 st) := mkI (by decide) (Nat.le_of_ble_eq_true rfl) (fun X res hl hG B => by subst hl; subst hG; exact t_X12_isDigit B fu p0 st)
/-! StageHouseModel.isSign(I)Z -/
def b_X12_isSign_113 (fu : Nat)  (y0 : Int32) (st : St) : Option (Int32 × St) :=
  ck (isb y0) (some (y0, st))
set_option maxHeartbeats 4000000 in
set_option maxRecDepth 100000 in
theorem t_X12_isSign_113 {X : CX} {res : Int32 × St} (B : BI X cX12_isSign RX12 1 1 NN (some .boolean) res) (fu : Nat)  (y0 : Int32) (st : St) : WW X res NN 113 [] [.int y0] st (b_X12_isSign_113 fu y0 st) := by
  have hX := B.1
  have hL := B.2.1
  unfold b_X12_isSign_113
  exact ww_zret B dX12_isSign_113
def b_X12_isSign_108 (fu : Nat)   (st : St) : Option (Int32 × St) :=
  b_X12_isSign_113 fu  1 st
set_option maxHeartbeats 4000000 in
set_option maxRecDepth 100000 in
theorem t_X12_isSign_108 {X : CX} {res : Int32 × St} (B : BI X cX12_isSign RX12 1 1 NN (some .boolean) res) (fu : Nat)   (st : St) : WW X res NN 108 [] [] st (b_X12_isSign_108 fu  st) := by
  have hX := B.1
  have hL := B.2.1
  unfold b_X12_isSign_108
  refine ww_iconst (v := 1) hX rfl dX12_isSign_108 ?_
  refine ww_goto (tgt := 113) hX dX12_isSign_109 (by decide) ?_
  exact t_X12_isSign_113 B fu  1 st
def f_X12_isSign (fu : Nat) (p0 : Int32) (st : St) : Option (Int32 × St) :=
  if p0 = 123 then (
  b_X12_isSign_108 fu   st)
  else (
  if p0 = 125 then (
  b_X12_isSign_108 fu   st)
  else (
  if p0 = 40 then (
  b_X12_isSign_108 fu   st)
  else (
  if p0 = 41 then (
  b_X12_isSign_108 fu   st)
  else (
  if p0 = 59 then (
  b_X12_isSign_108 fu   st)
  else (
  if p0 = 44 then (
  b_X12_isSign_108 fu   st)
  else (
  if p0 = 46 then (
  b_X12_isSign_108 fu   st)
  else (
  if p0 = 45 then (
  b_X12_isSign_108 fu   st)
  else (
  if p0 = 58 then (
  b_X12_isSign_108 fu   st)
  else (
  if p0 = 64 then (
  b_X12_isSign_108 fu   st)
  else (
  if p0 = 47 then (
  b_X12_isSign_108 fu   st)
  else (
  if p0 = 124 then (
  b_X12_isSign_108 fu   st)
  else (
  if p0 = 38 then (
  b_X12_isSign_108 fu   st)
  else (
  if p0 = 33 then (
  b_X12_isSign_108 fu   st)
  else (
  if p0 = 60 then (
  b_X12_isSign_108 fu   st)
  else (
  if p0 = 62 then (
  b_X12_isSign_108 fu   st)
  else (
  if p0 = 43 then (
  b_X12_isSign_108 fu   st)
  else (
  if p0 = 37 then (
  b_X12_isSign_108 fu   st)
  else (
  b_X12_isSign_113 fu  0 st))))))))))))))))))
set_option maxHeartbeats 4000000 in
set_option maxRecDepth 100000 in
theorem t_X12_isSign {X : CX} {res : Int32 × St} (B : BI X cX12_isSign RX12 1 1 NN (some .boolean) res) (fu : Nat) (p0 : Int32) (st : St) : WW X res NN 0 [(0, .int p0)] [] st (f_X12_isSign fu p0 st) := by
  have hX := B.1
  have hL := B.2.1
  unfold f_X12_isSign
  refine ww_iload_n hX 0 rfl dX12_isSign_0 rfl ?_
  refine ww_bipush (v := 123) hX rfl dX12_isSign_1 ?_
  refine ww_icmp_eq (tgt := 108) hX dX12_isSign_3 (by decide) ?_ ?_
  · exact ww_sub [] rfl (t_X12_isSign_108 B fu   st)
  · refine ww_iload_n hX 0 rfl dX12_isSign_6 rfl ?_
    refine ww_bipush (v := 125) hX rfl dX12_isSign_7 ?_
    refine ww_icmp_eq (tgt := 108) hX dX12_isSign_9 (by decide) ?_ ?_
    · exact ww_sub [] rfl (t_X12_isSign_108 B fu   st)
    · refine ww_iload_n hX 0 rfl dX12_isSign_12 rfl ?_
      refine ww_bipush (v := 40) hX rfl dX12_isSign_13 ?_
      refine ww_icmp_eq (tgt := 108) hX dX12_isSign_15 (by decide) ?_ ?_
      · exact ww_sub [] rfl (t_X12_isSign_108 B fu   st)
      · refine ww_iload_n hX 0 rfl dX12_isSign_18 rfl ?_
        refine ww_bipush (v := 41) hX rfl dX12_isSign_19 ?_
        refine ww_icmp_eq (tgt := 108) hX dX12_isSign_21 (by decide) ?_ ?_
        · exact ww_sub [] rfl (t_X12_isSign_108 B fu   st)
        · refine ww_iload_n hX 0 rfl dX12_isSign_24 rfl ?_
          refine ww_bipush (v := 59) hX rfl dX12_isSign_25 ?_
          refine ww_icmp_eq (tgt := 108) hX dX12_isSign_27 (by decide) ?_ ?_
          · exact ww_sub [] rfl (t_X12_isSign_108 B fu   st)
          · refine ww_iload_n hX 0 rfl dX12_isSign_30 rfl ?_
            refine ww_bipush (v := 44) hX rfl dX12_isSign_31 ?_
            refine ww_icmp_eq (tgt := 108) hX dX12_isSign_33 (by decide) ?_ ?_
            · exact ww_sub [] rfl (t_X12_isSign_108 B fu   st)
            · refine ww_iload_n hX 0 rfl dX12_isSign_36 rfl ?_
              refine ww_bipush (v := 46) hX rfl dX12_isSign_37 ?_
              refine ww_icmp_eq (tgt := 108) hX dX12_isSign_39 (by decide) ?_ ?_
              · exact ww_sub [] rfl (t_X12_isSign_108 B fu   st)
              · refine ww_iload_n hX 0 rfl dX12_isSign_42 rfl ?_
                refine ww_bipush (v := 45) hX rfl dX12_isSign_43 ?_
                refine ww_icmp_eq (tgt := 108) hX dX12_isSign_45 (by decide) ?_ ?_
                · exact ww_sub [] rfl (t_X12_isSign_108 B fu   st)
                · refine ww_iload_n hX 0 rfl dX12_isSign_48 rfl ?_
                  refine ww_bipush (v := 58) hX rfl dX12_isSign_49 ?_
                  refine ww_icmp_eq (tgt := 108) hX dX12_isSign_51 (by decide) ?_ ?_
                  · exact ww_sub [] rfl (t_X12_isSign_108 B fu   st)
                  · refine ww_iload_n hX 0 rfl dX12_isSign_54 rfl ?_
                    refine ww_bipush (v := 64) hX rfl dX12_isSign_55 ?_
                    refine ww_icmp_eq (tgt := 108) hX dX12_isSign_57 (by decide) ?_ ?_
                    · exact ww_sub [] rfl (t_X12_isSign_108 B fu   st)
                    · refine ww_iload_n hX 0 rfl dX12_isSign_60 rfl ?_
                      refine ww_bipush (v := 47) hX rfl dX12_isSign_61 ?_
                      refine ww_icmp_eq (tgt := 108) hX dX12_isSign_63 (by decide) ?_ ?_
                      · exact ww_sub [] rfl (t_X12_isSign_108 B fu   st)
                      · refine ww_iload_n hX 0 rfl dX12_isSign_66 rfl ?_
                        refine ww_bipush (v := 124) hX rfl dX12_isSign_67 ?_
                        refine ww_icmp_eq (tgt := 108) hX dX12_isSign_69 (by decide) ?_ ?_
                        · exact ww_sub [] rfl (t_X12_isSign_108 B fu   st)
                        · refine ww_iload_n hX 0 rfl dX12_isSign_72 rfl ?_
                          refine ww_bipush (v := 38) hX rfl dX12_isSign_73 ?_
                          refine ww_icmp_eq (tgt := 108) hX dX12_isSign_75 (by decide) ?_ ?_
                          · exact ww_sub [] rfl (t_X12_isSign_108 B fu   st)
                          · refine ww_iload_n hX 0 rfl dX12_isSign_78 rfl ?_
                            refine ww_bipush (v := 33) hX rfl dX12_isSign_79 ?_
                            refine ww_icmp_eq (tgt := 108) hX dX12_isSign_81 (by decide) ?_ ?_
                            · exact ww_sub [] rfl (t_X12_isSign_108 B fu   st)
                            · refine ww_iload_n hX 0 rfl dX12_isSign_84 rfl ?_
                              refine ww_bipush (v := 60) hX rfl dX12_isSign_85 ?_
                              refine ww_icmp_eq (tgt := 108) hX dX12_isSign_87 (by decide) ?_ ?_
                              · exact ww_sub [] rfl (t_X12_isSign_108 B fu   st)
                              · refine ww_iload_n hX 0 rfl dX12_isSign_90 rfl ?_
                                refine ww_bipush (v := 62) hX rfl dX12_isSign_91 ?_
                                refine ww_icmp_eq (tgt := 108) hX dX12_isSign_93 (by decide) ?_ ?_
                                · exact ww_sub [] rfl (t_X12_isSign_108 B fu   st)
                                · refine ww_iload_n hX 0 rfl dX12_isSign_96 rfl ?_
                                  refine ww_bipush (v := 43) hX rfl dX12_isSign_97 ?_
                                  refine ww_icmp_eq (tgt := 108) hX dX12_isSign_99 (by decide) ?_ ?_
                                  · exact ww_sub [] rfl (t_X12_isSign_108 B fu   st)
                                  · refine ww_iload_n hX 0 rfl dX12_isSign_102 rfl ?_
                                    refine ww_bipush (v := 37) hX rfl dX12_isSign_103 ?_
                                    refine ww_icmp_ne (tgt := 112) hX dX12_isSign_105 (by decide) ?_ ?_
                                    · refine ww_iconst (v := 0) hX rfl dX12_isSign_112 ?_
                                      exact ww_sub [] rfl (t_X12_isSign_113 B fu  0 st)
                                    · exact ww_sub [] rfl (t_X12_isSign_108 B fu   st)
theorem c_X12_isSign (G : GX) (l : Launch) (fu : Nat) (p0 : Int32) (st : St) : MI G NN l yX12_isSign cX12_isSign 1 (some .boolean) 1 [.int p0] st (f_X12_isSign fu p0 st) := mkI (by decide) (Nat.le_of_ble_eq_true rfl) (fun X res hl hG B => by subst hl; subst hG; exact t_X12_isSign B fu p0 st)
/-! StageHouseModel.read()V -/
def b_X12_read_317 (fu : Nat) (k_14 : Nat → Int32 → Int32 → Int32 → St → Option (St)) (x0 : Nat) (x1 : Int32) (x2 : Int32) (x3 : Int32)  (st : St) : Option (St) :=
  k_14 x0 x1 x2 x3  st
set_option maxHeartbeats 4000000 in
set_option maxRecDepth 100000 in
theorem t_X12_read_317 {X : CX} {res : St} (B : BV X cX12_read RX12 6 2 NN none res) (fu : Nat) (k_14 : Nat → Int32 → Int32 → Int32 → St → Option (St)) (h_14 : ∀ (x0 : Nat) (x1 : Int32) (x2 : Int32) (x3 : Int32)  (st : St), WW X res NN 14 [(0, .ref (x_b X + x0)), (1, .int x1), (2, .int x2), (3, .int x3)] [] st (k_14 x0 x1 x2 x3 st)) (x0 : Nat) (x1 : Int32) (x2 : Int32) (x3 : Int32)  (st : St) : WW X res NN 317 [(0, .ref (x_b X + x0)), (1, .int x1), (2, .int x2), (3, .int x3)] [] st (b_X12_read_317 fu k_14 x0 x1 x2 x3 st) := by
  have hX := B.1
  have hL := B.2.1
  unfold b_X12_read_317
  refine ww_goto (tgt := 14) hX dX12_read_317 (by decide) ?_
  exact h_14 x0 x1 x2 x3  st
def b_X12_read_55 (fu : Nat) (k_14 : Nat → Int32 → Int32 → Int32 → St → Option (St)) (x0 : Nat) (x1 : Int32) (x2 : Int32) (x3 : Int32)  (st : St) : Option (St) :=
  bd (x3 + 1) fun v13 =>
  b_X12_read_317 fu k_14 x0 x1 x2 v13  st
set_option maxHeartbeats 4000000 in
set_option maxRecDepth 100000 in
theorem t_X12_read_55 {X : CX} {res : St} (B : BV X cX12_read RX12 6 2 NN none res) (fu : Nat) (k_14 : Nat → Int32 → Int32 → Int32 → St → Option (St)) (h_14 : ∀ (x0 : Nat) (x1 : Int32) (x2 : Int32) (x3 : Int32)  (st : St), WW X res NN 14 [(0, .ref (x_b X + x0)), (1, .int x1), (2, .int x2), (3, .int x3)] [] st (k_14 x0 x1 x2 x3 st)) (x0 : Nat) (x1 : Int32) (x2 : Int32) (x3 : Int32)  (st : St) : WW X res NN 55 [(0, .ref (x_b X + x0)), (1, .int x1), (2, .int x2), (3, .int x3)] [] st (b_X12_read_55 fu k_14 x0 x1 x2 x3 st) := by
  have hX := B.1
  have hL := B.2.1
  unfold b_X12_read_55
  refine ww_iincb (lv' := fun v13 => [(3, .int v13), (0, .ref (x_b X + x0)), (1, .int x1), (2, .int x2)]) (c := 1) hX hL 3 rfl dX12_read_55 rfl (by decide) (fun _ => rfl) (fun v13 => ?_)
  refine ww_goto (tgt := 317) hX dX12_read_58 (by decide) ?_
  exact ww_sub [1, 2, 3, 0] rfl (t_X12_read_317 B fu k_14 h_14 x0 x1 x2 v13  st)
def b_X12_read_314 (fu : Nat) (k_14 : Nat → Int32 → Int32 → Int32 → St → Option (St)) (x0 : Nat) (x1 : Int32) (x2 : Int32) (x3 : Int32)  (st : St) : Option (St) :=
  bd (x2 + 1) fun v27 =>
  b_X12_read_317 fu k_14 x0 x1 v27 x3  st
set_option maxHeartbeats 4000000 in
set_option maxRecDepth 100000 in
theorem t_X12_read_314 {X : CX} {res : St} (B : BV X cX12_read RX12 6 2 NN none res) (fu : Nat) (k_14 : Nat → Int32 → Int32 → Int32 → St → Option (St)) (h_14 : ∀ (x0 : Nat) (x1 : Int32) (x2 : Int32) (x3 : Int32)  (st : St), WW X res NN 14 [(0, .ref (x_b X + x0)), (1, .int x1), (2, .int x2), (3, .int x3)] [] st (k_14 x0 x1 x2 x3 st)) (x0 : Nat) (x1 : Int32) (x2 : Int32) (x3 : Int32)  (st : St) : WW X res NN 314 [(0, .ref (x_b X + x0)), (1, .int x1), (2, .int x2), (3, .int x3)] [] st (b_X12_read_314 fu k_14 x0 x1 x2 x3 st) := by
  have hX := B.1
  have hL := B.2.1
  unfold b_X12_read_314
  refine ww_iincb (lv' := fun v27 => [(2, .int v27), (0, .ref (x_b X + x0)), (1, .int x1), (3, .int x3)]) (c := 1) hX hL 2 rfl dX12_read_314 rfl (by decide) (fun _ => rfl) (fun v27 => ?_)
  exact ww_sub [1, 2, 0, 3] rfl (t_X12_read_317 B fu k_14 h_14 x0 x1 v27 x3  st)
def b_X12_read_310 (fu : Nat) (k_14 : Nat → Int32 → Int32 → Int32 → St → Option (St)) (x0 : Nat) (x1 : Int32) (x2 : Int32) (x3 : Int32) (y0 : Nat) (y1 : Int32) (y2 : Int32) (st : St) : Option (St) :=
  ck ((kd y0).1 = 100 ∧ inb y1 (kd y0).2) <|
  bd (sI st y0 (ix y1) y2) fun s25 =>
  bd (x3 + 1) fun v26 =>
  b_X12_read_314 fu k_14 x0 x1 x2 v26  s25
set_option maxHeartbeats 4000000 in
set_option maxRecDepth 100000 in
theorem t_X12_read_310 {X : CX} {res : St} (B : BV X cX12_read RX12 6 2 NN none res) (fu : Nat) (k_14 : Nat → Int32 → Int32 → Int32 → St → Option (St)) (h_14 : ∀ (x0 : Nat) (x1 : Int32) (x2 : Int32) (x3 : Int32)  (st : St), WW X res NN 14 [(0, .ref (x_b X + x0)), (1, .int x1), (2, .int x2), (3, .int x3)] [] st (k_14 x0 x1 x2 x3 st)) (x0 : Nat) (x1 : Int32) (x2 : Int32) (x3 : Int32) (y0 : Nat) (y1 : Int32) (y2 : Int32) (st : St) : WW X res NN 310 [(0, .ref (x_b X + x0)), (1, .int x1), (2, .int x2), (3, .int x3)] [.int y2, .int y1, .ref (x_b X + y0)] st (b_X12_read_310 fu k_14 x0 x1 x2 x3 y0 y1 y2 st) := by
  have hX := B.1
  have hL := B.2.1
  unfold b_X12_read_310
  refine ww_iastc hX k_iast dX12_read_310 ?_
  refine ww_bds (fun s25 => ?_)
  refine ww_iincb (lv' := fun v26 => [(3, .int v26), (0, .ref (x_b X + x0)), (1, .int x1), (2, .int x2)]) (c := 1) hX hL 3 rfl dX12_read_311 rfl (by decide) (fun _ => rfl) (fun v26 => ?_)
  exact ww_sub [1, 2, 3, 0] rfl (t_X12_read_314 B fu k_14 h_14 x0 x1 x2 v26  s25)
def b_X12_read_287 (fu : Nat) (k_14 : Nat → Int32 → Int32 → Int32 → St → Option (St)) (x0 : Nat) (x1 : Int32) (x2 : Int32) (x3 : Int32) (y0 : Nat) (y1 : Int32) (y2 : Int32) (st : St) : Option (St) :=
  ck ((kd y0).1 = 100 ∧ inb y1 (kd y0).2) <|
  bd (sI st y0 (ix y1) y2) fun s30 =>
  b_X12_read_314 fu k_14 x0 x1 x2 x3  s30
set_option maxHeartbeats 4000000 in
set_option maxRecDepth 100000 in
theorem t_X12_read_287 {X : CX} {res : St} (B : BV X cX12_read RX12 6 2 NN none res) (fu : Nat) (k_14 : Nat → Int32 → Int32 → Int32 → St → Option (St)) (h_14 : ∀ (x0 : Nat) (x1 : Int32) (x2 : Int32) (x3 : Int32)  (st : St), WW X res NN 14 [(0, .ref (x_b X + x0)), (1, .int x1), (2, .int x2), (3, .int x3)] [] st (k_14 x0 x1 x2 x3 st)) (x0 : Nat) (x1 : Int32) (x2 : Int32) (x3 : Int32) (y0 : Nat) (y1 : Int32) (y2 : Int32) (st : St) : WW X res NN 287 [(0, .ref (x_b X + x0)), (1, .int x1), (2, .int x2), (3, .int x3)] [.int y2, .int y1, .ref (x_b X + y0)] st (b_X12_read_287 fu k_14 x0 x1 x2 x3 y0 y1 y2 st) := by
  have hX := B.1
  have hL := B.2.1
  unfold b_X12_read_287
  refine ww_iastc hX k_iast dX12_read_287 ?_
  refine ww_bds (fun s30 => ?_)
  refine ww_goto (tgt := 314) hX dX12_read_288 (by decide) ?_
  exact t_X12_read_314 B fu k_14 h_14 x0 x1 x2 x3  s30
def b_X12_read_282 (fu : Nat) (k_14 : Nat → Int32 → Int32 → Int32 → St → Option (St)) (x0 : Nat) (x1 : Int32) (x2 : Int32) (x3 : Int32) (y0 : Nat) (y1 : Int32) (st : St) : Option (St) :=
  b_X12_read_287 fu k_14 x0 x1 x2 x3 y0 y1 3 st
set_option maxHeartbeats 4000000 in
set_option maxRecDepth 100000 in
theorem t_X12_read_282 {X : CX} {res : St} (B : BV X cX12_read RX12 6 2 NN none res) (fu : Nat) (k_14 : Nat → Int32 → Int32 → Int32 → St → Option (St)) (h_14 : ∀ (x0 : Nat) (x1 : Int32) (x2 : Int32) (x3 : Int32)  (st : St), WW X res NN 14 [(0, .ref (x_b X + x0)), (1, .int x1), (2, .int x2), (3, .int x3)] [] st (k_14 x0 x1 x2 x3 st)) (x0 : Nat) (x1 : Int32) (x2 : Int32) (x3 : Int32) (y0 : Nat) (y1 : Int32) (st : St) : WW X res NN 282 [(0, .ref (x_b X + x0)), (1, .int x1), (2, .int x2), (3, .int x3)] [.int y1, .ref (x_b X + y0)] st (b_X12_read_282 fu k_14 x0 x1 x2 x3 y0 y1 st) := by
  have hX := B.1
  have hL := B.2.1
  unfold b_X12_read_282
  refine ww_iconst (v := 3) hX rfl dX12_read_282 ?_
  refine ww_goto (tgt := 287) hX dX12_read_283 (by decide) ?_
  exact t_X12_read_287 B fu k_14 h_14 x0 x1 x2 x3 y0 y1 3 st
def b_X12_read_286 (fu : Nat) (k_14 : Nat → Int32 → Int32 → Int32 → St → Option (St)) (x0 : Nat) (x1 : Int32) (x2 : Int32) (x3 : Int32) (y0 : Nat) (y1 : Int32) (st : St) : Option (St) :=
  b_X12_read_287 fu k_14 x0 x1 x2 x3 y0 y1 2 st
set_option maxHeartbeats 4000000 in
set_option maxRecDepth 100000 in
theorem t_X12_read_286 {X : CX} {res : St} (B : BV X cX12_read RX12 6 2 NN none res) (fu : Nat) (k_14 : Nat → Int32 → Int32 → Int32 → St → Option (St)) (h_14 : ∀ (x0 : Nat) (x1 : Int32) (x2 : Int32) (x3 : Int32)  (st : St), WW X res NN 14 [(0, .ref (x_b X + x0)), (1, .int x1), (2, .int x2), (3, .int x3)] [] st (k_14 x0 x1 x2 x3 st)) (x0 : Nat) (x1 : Int32) (x2 : Int32) (x3 : Int32) (y0 : Nat) (y1 : Int32) (st : St) : WW X res NN 286 [(0, .ref (x_b X + x0)), (1, .int x1), (2, .int x2), (3, .int x3)] [.int y1, .ref (x_b X + y0)] st (b_X12_read_286 fu k_14 x0 x1 x2 x3 y0 y1 st) := by
  have hX := B.1
  have hL := B.2.1
  unfold b_X12_read_286
  refine ww_iconst (v := 2) hX rfl dX12_read_286 ?_
  exact t_X12_read_287 B fu k_14 h_14 x0 x1 x2 x3 y0 y1 2 st
def b_X12_read_247 (fu : Nat) (k_14 : Nat → Int32 → Int32 → Int32 → St → Option (St)) (x0 : Nat) (x1 : Int32) (x2 : Int32) (x3 : Int32)  (st : St) : Option (St) :=
  ck (¬ gR st x0 2 = 0) <|
  ck ((kd x0).1 = 12) <|
  bd (gR st x0 2) fun o28 =>
  ck (¬ gR st x0 3 = 0) <|
  ck ((kd x0).1 = 12) <|
  bd (gR st x0 3) fun o29 =>
  ck ((kd o29).1 = 103 ∧ inb x2 (kd o29).2) <|
  if 0 < (lg_cmp (gL st o29 (ix x2)) 99999) then (
  b_X12_read_282 fu k_14 x0 x1 x2 x3 o28 x2 st)
  else (
  if x1 ≤ x3 then (
  b_X12_read_286 fu k_14 x0 x1 x2 x3 o28 x2 st)
  else (
  ck (¬ gR st x0 0 = 0) <|
  ck ((kd x0).1 = 12) <|
  bd (gR st x0 0) fun o31 =>
  ck ((kd o31).1 = 101 ∧ inb x3 (kd o31).2) <|
  ca (f_X12_isLetter fu (gI st o31 (ix x3)) st) fun r32 s33 =>
  if r32 = 0 then (
  b_X12_read_286 fu k_14 x0 x1 x2 x3 o28 x2 s33)
  else (
  b_X12_read_282 fu k_14 x0 x1 x2 x3 o28 x2 s33)))
set_option maxHeartbeats 4000000 in
set_option maxRecDepth 100000 in
theorem t_X12_read_247 {X : CX} {res : St} (B : BV X cX12_read RX12 6 2 NN none res) (fu : Nat) (k_14 : Nat → Int32 → Int32 → Int32 → St → Option (St)) (h_14 : ∀ (x0 : Nat) (x1 : Int32) (x2 : Int32) (x3 : Int32)  (st : St), WW X res NN 14 [(0, .ref (x_b X + x0)), (1, .int x1), (2, .int x2), (3, .int x3)] [] st (k_14 x0 x1 x2 x3 st)) (x0 : Nat) (x1 : Int32) (x2 : Int32) (x3 : Int32)  (st : St) : WW X res NN 247 [(0, .ref (x_b X + x0)), (1, .int x1), (2, .int x2), (3, .int x3)] [] st (b_X12_read_247 fu k_14 x0 x1 x2 x3 st) := by
  have hX := B.1
  have hL := B.2.1
  unfold b_X12_read_247
  refine ww_aload_n hX 0 rfl dX12_read_247 rfl ?_
  refine ww_getR hX f_X12_13 (Or.inr ⟨_, rfl⟩) dX12_read_248 ?_
  refine ww_bdR (fun o28 => ?_)
  refine ww_iload_n hX 2 rfl dX12_read_251 rfl ?_
  refine ww_aload_n hX 0 rfl dX12_read_252 rfl ?_
  refine ww_getR hX f_X12_17 (Or.inr ⟨_, rfl⟩) dX12_read_253 ?_
  refine ww_bdR (fun o29 => ?_)
  refine ww_iload_n hX 2 rfl dX12_read_256 rfl ?_
  refine ww_laldc hX k_lald dX12_read_257 ?_
  refine ww_pc (b := 258) rfl ?_
  refine ww_ldc2 (v := 99999) hX k_X12_376 dX12_read_258 ?_
  refine ww_lcmp hX dX12_read_261 ?_
  refine ww_if_gt (tgt := 282) hX dX12_read_262 (by decide) ?_ ?_
  · exact t_X12_read_282 B fu k_14 h_14 x0 x1 x2 x3 o28 x2 st
  · refine ww_iload_n hX 3 rfl dX12_read_265 rfl ?_
    refine ww_iload_n hX 1 rfl dX12_read_266 rfl ?_
    refine ww_icmp_ge (tgt := 286) hX dX12_read_267 (by decide) ?_ ?_
    · exact t_X12_read_286 B fu k_14 h_14 x0 x1 x2 x3 o28 x2 st
    · refine ww_aload_n hX 0 rfl dX12_read_270 rfl ?_
      refine ww_getR hX f_X12_9 (Or.inr ⟨_, rfl⟩) dX12_read_271 ?_
      refine ww_bdR (fun o31 => ?_)
      refine ww_iload_n hX 3 rfl dX12_read_274 rfl ?_
      refine ww_baldc hX k_bald dX12_read_275 ?_
      refine ww_callSI (As := [.int (gI st o31 (ix x3))]) (rest := [.int x2, .ref (x_b X + o28)]) hX (Rk.of B.2.2.1 B.2.2.2.1 (by decide) (by decide)) g_X12_363 (c_X12_isLetter (x_G X) (x_l X) fu (gI st o31 (ix x3)) st) rfl rfl (Nat.le_of_ble_eq_true rfl) dX12_read_276 (fun r32 s33 => ?_)
      refine ww_if_eq (tgt := 286) hX dX12_read_279 (by decide) ?_ ?_
      · exact t_X12_read_286 B fu k_14 h_14 x0 x1 x2 x3 o28 x2 s33
      · exact t_X12_read_282 B fu k_14 h_14 x0 x1 x2 x3 o28 x2 s33
def b_X12_read_240 (fu : Nat) (k_14 : Nat → Int32 → Int32 → Int32 → St → Option (St)) (k_165 : Nat → Int32 → Int32 → Int32 → St → Option (St)) (x0 : Nat) (x1 : Int32) (x2 : Int32) (x3 : Int32) (y0 : Nat) (y1 : Int32) (y2 : Int64) (st : St) : Option (St) :=
  ck ((kd y0).1 = 103 ∧ inb y1 (kd y0).2) <|
  bd (sL st y0 (ix y1) y2) fun s44 =>
  bd (x3 + 1) fun v45 =>
  k_165 x0 x1 x2 v45  s44
set_option maxHeartbeats 4000000 in
set_option maxRecDepth 100000 in
theorem t_X12_read_240 {X : CX} {res : St} (B : BV X cX12_read RX12 6 2 NN none res) (fu : Nat) (k_14 : Nat → Int32 → Int32 → Int32 → St → Option (St)) (k_165 : Nat → Int32 → Int32 → Int32 → St → Option (St)) (h_14 : ∀ (x0 : Nat) (x1 : Int32) (x2 : Int32) (x3 : Int32)  (st : St), WW X res NN 14 [(0, .ref (x_b X + x0)), (1, .int x1), (2, .int x2), (3, .int x3)] [] st (k_14 x0 x1 x2 x3 st)) (h_165 : ∀ (x0 : Nat) (x1 : Int32) (x2 : Int32) (x3 : Int32)  (st : St), WW X res NN 165 [(0, .ref (x_b X + x0)), (1, .int x1), (2, .int x2), (3, .int x3)] [] st (k_165 x0 x1 x2 x3 st)) (x0 : Nat) (x1 : Int32) (x2 : Int32) (x3 : Int32) (y0 : Nat) (y1 : Int32) (y2 : Int64) (st : St) : WW X res NN 240 [(0, .ref (x_b X + x0)), (1, .int x1), (2, .int x2), (3, .int x3)] [.long y2, .int y1, .ref (x_b X + y0)] st (b_X12_read_240 fu k_14 k_165 x0 x1 x2 x3 y0 y1 y2 st) := by
  have hX := B.1
  have hL := B.2.1
  unfold b_X12_read_240
  refine ww_lastc hX k_last dX12_read_240 ?_
  refine ww_bds (fun s44 => ?_)
  refine ww_iincb (lv' := fun v45 => [(3, .int v45), (0, .ref (x_b X + x0)), (1, .int x1), (2, .int x2)]) (c := 1) hX hL 3 rfl dX12_read_241 rfl (by decide) (fun _ => rfl) (fun v45 => ?_)
  refine ww_goto (tgt := 165) hX dX12_read_244 (by decide) ?_
  exact ww_sub [1, 2, 3, 0] rfl (h_165 x0 x1 x2 v45  s44)
def b_X12_read_165_b (fu : Nat) (k_14 : Nat → Int32 → Int32 → Int32 → St → Option (St)) (k_165 : Nat → Int32 → Int32 → Int32 → St → Option (St)) (x0 : Nat) (x1 : Int32) (x2 : Int32) (x3 : Int32)  (st : St) : Option (St) :=
  if x1 ≤ x3 then (
  b_X12_read_247 fu k_14 x0 x1 x2 x3  st)
  else (
  ck (¬ gR st x0 0 = 0) <|
  ck ((kd x0).1 = 12) <|
  bd (gR st x0 0) fun o34 =>
  ck ((kd o34).1 = 101 ∧ inb x3 (kd o34).2) <|
  ca (f_X12_isDigit fu (gI st o34 (ix x3)) st) fun r35 s36 =>
  if r35 = 0 then (
  b_X12_read_247 fu k_14 x0 x1 x2 x3  s36)
  else (
  ck (¬ gR s36 x0 3 = 0) <|
  ck ((kd x0).1 = 12) <|
  bd (gR s36 x0 3) fun o37 =>
  ck (¬ gR s36 x0 3 = 0) <|
  ck ((kd x0).1 = 12) <|
  bd (gR s36 x0 3) fun o38 =>
  ck ((kd o38).1 = 103 ∧ inb x2 (kd o38).2) <|
  ck (¬ gR s36 x0 0 = 0) <|
  ck ((kd x0).1 = 12) <|
  bd (gR s36 x0 0) fun o39 =>
  ck ((kd o39).1 = 101 ∧ inb x3 (kd o39).2) <|
  ck ((kd o37).1 = 103 ∧ inb x2 (kd o37).2) <|
  bd (sL s36 o37 (ix x2) ((((gL s36 o38 (ix x2)) * 10) + ((gI s36 o39 (ix x3)).toInt64)) - 48)) fun s40 =>
  ck (¬ gR s40 x0 3 = 0) <|
  ck ((kd x0).1 = 12) <|
  bd (gR s40 x0 3) fun o41 =>
  ck (¬ gR s40 x0 3 = 0) <|
  ck ((kd x0).1 = 12) <|
  bd (gR s40 x0 3) fun o42 =>
  ck ((kd o42).1 = 103 ∧ inb x2 (kd o42).2) <|
  if (lg_cmp (gL s40 o42 (ix x2)) 100000) ≤ 0 then (
  ck (¬ gR s40 x0 3 = 0) <|
  ck ((kd x0).1 = 12) <|
  bd (gR s40 x0 3) fun o43 =>
  ck ((kd o43).1 = 103 ∧ inb x2 (kd o43).2) <|
  b_X12_read_240 fu k_14 k_165 x0 x1 x2 x3 o41 x2 (gL s40 o43 (ix x2)) s40)
  else (
  b_X12_read_240 fu k_14 k_165 x0 x1 x2 x3 o41 x2 100000 s40)))
set_option maxHeartbeats 4000000 in
set_option maxRecDepth 100000 in
theorem t_X12_read_165_b {X : CX} {res : St} (B : BV X cX12_read RX12 6 2 NN none res) (fu : Nat) (k_14 : Nat → Int32 → Int32 → Int32 → St → Option (St)) (k_165 : Nat → Int32 → Int32 → Int32 → St → Option (St)) (h_14 : ∀ (x0 : Nat) (x1 : Int32) (x2 : Int32) (x3 : Int32)  (st : St), WW X res NN 14 [(0, .ref (x_b X + x0)), (1, .int x1), (2, .int x2), (3, .int x3)] [] st (k_14 x0 x1 x2 x3 st)) (h_165 : ∀ (x0 : Nat) (x1 : Int32) (x2 : Int32) (x3 : Int32)  (st : St), WW X res NN 165 [(0, .ref (x_b X + x0)), (1, .int x1), (2, .int x2), (3, .int x3)] [] st (k_165 x0 x1 x2 x3 st)) (x0 : Nat) (x1 : Int32) (x2 : Int32) (x3 : Int32)  (st : St) : WW X res NN 165 [(0, .ref (x_b X + x0)), (1, .int x1), (2, .int x2), (3, .int x3)] [] st (b_X12_read_165_b fu k_14 k_165 x0 x1 x2 x3 st) := by
  have hX := B.1
  have hL := B.2.1
  unfold b_X12_read_165_b
  refine ww_iload_n hX 3 rfl dX12_read_165 rfl ?_
  refine ww_iload_n hX 1 rfl dX12_read_166 rfl ?_
  refine ww_icmp_ge (tgt := 247) hX dX12_read_167 (by decide) ?_ ?_
  · exact t_X12_read_247 B fu k_14 h_14 x0 x1 x2 x3  st
  · refine ww_aload_n hX 0 rfl dX12_read_170 rfl ?_
    refine ww_getR hX f_X12_9 (Or.inr ⟨_, rfl⟩) dX12_read_171 ?_
    refine ww_bdR (fun o34 => ?_)
    refine ww_iload_n hX 3 rfl dX12_read_174 rfl ?_
    refine ww_baldc hX k_bald dX12_read_175 ?_
    refine ww_callSI (As := [.int (gI st o34 (ix x3))]) (rest := []) hX (Rk.of B.2.2.1 B.2.2.2.1 (by decide) (by decide)) g_X12_367 (c_X12_isDigit (x_G X) (x_l X) fu (gI st o34 (ix x3)) st) rfl rfl (Nat.le_of_ble_eq_true rfl) dX12_read_176 (fun r35 s36 => ?_)
    refine ww_if_eq (tgt := 247) hX dX12_read_179 (by decide) ?_ ?_
    · exact t_X12_read_247 B fu k_14 h_14 x0 x1 x2 x3  s36
    · refine ww_aload_n hX 0 rfl dX12_read_182 rfl ?_
      refine ww_getR hX f_X12_17 (Or.inr ⟨_, rfl⟩) dX12_read_183 ?_
      refine ww_bdR (fun o37 => ?_)
      refine ww_iload_n hX 2 rfl dX12_read_186 rfl ?_
      refine ww_aload_n hX 0 rfl dX12_read_187 rfl ?_
      refine ww_getR hX f_X12_17 (Or.inr ⟨_, rfl⟩) dX12_read_188 ?_
      refine ww_bdR (fun o38 => ?_)
      refine ww_iload_n hX 2 rfl dX12_read_191 rfl ?_
      refine ww_laldc hX k_lald dX12_read_192 ?_
      refine ww_pc (b := 193) rfl ?_
      refine ww_ldc2 (v := 10) hX k_X12_370 dX12_read_193 ?_
      refine ww_lmul hX dX12_read_196 ?_
      refine ww_aload_n hX 0 rfl dX12_read_197 rfl ?_
      refine ww_getR hX f_X12_9 (Or.inr ⟨_, rfl⟩) dX12_read_198 ?_
      refine ww_bdR (fun o39 => ?_)
      refine ww_iload_n hX 3 rfl dX12_read_201 rfl ?_
      refine ww_baldc hX k_bald dX12_read_202 ?_
      refine ww_i2l hX dX12_read_203 ?_
      refine ww_ladd hX dX12_read_204 ?_
      refine ww_pc (b := 205) rfl ?_
      refine ww_ldc2 (v := 48) hX k_X12_372 dX12_read_205 ?_
      refine ww_lsub hX dX12_read_208 ?_
      refine ww_lastc hX k_last dX12_read_209 ?_
      refine ww_bds (fun s40 => ?_)
      refine ww_aload_n hX 0 rfl dX12_read_210 rfl ?_
      refine ww_getR hX f_X12_17 (Or.inr ⟨_, rfl⟩) dX12_read_211 ?_
      refine ww_bdR (fun o41 => ?_)
      refine ww_iload_n hX 2 rfl dX12_read_214 rfl ?_
      refine ww_aload_n hX 0 rfl dX12_read_215 rfl ?_
      refine ww_getR hX f_X12_17 (Or.inr ⟨_, rfl⟩) dX12_read_216 ?_
      refine ww_bdR (fun o42 => ?_)
      refine ww_pc (b := 219) rfl ?_
      refine ww_iload_n hX 2 rfl dX12_read_219 rfl ?_
      refine ww_laldc hX k_lald dX12_read_220 ?_
      refine ww_ldc2 (v := 100000) hX k_X12_374 dX12_read_221 ?_
      refine ww_lcmp hX dX12_read_224 ?_
      refine ww_if_le (tgt := 234) hX dX12_read_225 (by decide) ?_ ?_
      · refine ww_aload_n hX 0 rfl dX12_read_234 rfl ?_
        refine ww_getR hX f_X12_17 (Or.inr ⟨_, rfl⟩) dX12_read_235 ?_
        refine ww_bdR (fun o43 => ?_)
        refine ww_iload_n hX 2 rfl dX12_read_238 rfl ?_
        refine ww_laldc hX k_lald dX12_read_239 ?_
        exact t_X12_read_240 B fu k_14 k_165 h_14 h_165 x0 x1 x2 x3 o41 x2 (gL s40 o43 (ix x2)) s40
      · refine ww_ldc2 (v := 100000) hX k_X12_374 dX12_read_228 ?_
        refine ww_goto (tgt := 240) hX dX12_read_231 (by decide) ?_
        exact t_X12_read_240 B fu k_14 k_165 h_14 h_165 x0 x1 x2 x3 o41 x2 100000 s40
def b_X12_read_165 (fu : Nat) (k_14 : Nat → Int32 → Int32 → Int32 → St → Option (St)) : Nat → Nat → Int32 → Int32 → Int32 → St → Option (St)
  | 0, _, _, _, _, _ => none
  | i + 1, x0, x1, x2, x3, st => b_X12_read_165_b fu k_14 (b_X12_read_165 fu k_14 i) x0 x1 x2 x3 st
theorem t_X12_read_165 {X : CX} {res : St} (B : BV X cX12_read RX12 6 2 NN none res) (fu : Nat) (k_14 : Nat → Int32 → Int32 → Int32 → St → Option (St)) (h_14 : ∀ (x0 : Nat) (x1 : Int32) (x2 : Int32) (x3 : Int32)  (st : St), WW X res NN 14 [(0, .ref (x_b X + x0)), (1, .int x1), (2, .int x2), (3, .int x3)] [] st (k_14 x0 x1 x2 x3 st)) : ∀ (i : Nat) (x0 : Nat) (x1 : Int32) (x2 : Int32) (x3 : Int32)  (st : St), WW X res NN 165 [(0, .ref (x_b X + x0)), (1, .int x1), (2, .int x2), (3, .int x3)] [] st (b_X12_read_165 fu k_14 i x0 x1 x2 x3 st) := by
  intro i
  induction i with
  | zero => intro x0 x1 x2 x3 st; exact ww_none
  | succ i ih => intro x0 x1 x2 x3 st; exact t_X12_read_165_b B fu k_14 (b_X12_read_165 fu k_14 i) h_14 ih x0 x1 x2 x3 st
def b_X12_read_153 (fu : Nat) (k_14 : Nat → Int32 → Int32 → Int32 → St → Option (St)) (x0 : Nat) (x1 : Int32) (x2 : Int32) (x3 : Int32) (y0 : Nat) (y1 : Int32) (y2 : Int32) (st : St) : Option (St) :=
  ck ((kd y0).1 = 100 ∧ inb y1 (kd y0).2) <|
  bd (sI st y0 (ix y1) y2) fun s47 =>
  b_X12_read_314 fu k_14 x0 x1 x2 x3  s47
set_option maxHeartbeats 4000000 in
set_option maxRecDepth 100000 in
theorem t_X12_read_153 {X : CX} {res : St} (B : BV X cX12_read RX12 6 2 NN none res) (fu : Nat) (k_14 : Nat → Int32 → Int32 → Int32 → St → Option (St)) (h_14 : ∀ (x0 : Nat) (x1 : Int32) (x2 : Int32) (x3 : Int32)  (st : St), WW X res NN 14 [(0, .ref (x_b X + x0)), (1, .int x1), (2, .int x2), (3, .int x3)] [] st (k_14 x0 x1 x2 x3 st)) (x0 : Nat) (x1 : Int32) (x2 : Int32) (x3 : Int32) (y0 : Nat) (y1 : Int32) (y2 : Int32) (st : St) : WW X res NN 153 [(0, .ref (x_b X + x0)), (1, .int x1), (2, .int x2), (3, .int x3)] [.int y2, .int y1, .ref (x_b X + y0)] st (b_X12_read_153 fu k_14 x0 x1 x2 x3 y0 y1 y2 st) := by
  have hX := B.1
  have hL := B.2.1
  unfold b_X12_read_153
  refine ww_iastc hX k_iast dX12_read_153 ?_
  refine ww_bds (fun s47 => ?_)
  refine ww_goto (tgt := 314) hX dX12_read_154 (by decide) ?_
  exact t_X12_read_314 B fu k_14 h_14 x0 x1 x2 x3  s47
def b_X12_read_134 (fu : Nat) (k_14 : Nat → Int32 → Int32 → Int32 → St → Option (St)) (x0 : Nat) (x1 : Int32) (x2 : Int32) (x3 : Int32) (x5 : Int32)  (st : St) : Option (St) :=
  ck (¬ gR st x0 2 = 0) <|
  ck ((kd x0).1 = 12) <|
  bd (gR st x0 2) fun o46 =>
  if (x3 - x5) ≤ 12 then (
  b_X12_read_153 fu k_14 x0 x1 x2 x3 o46 x2 1 st)
  else (
  b_X12_read_153 fu k_14 x0 x1 x2 x3 o46 x2 3 st)
set_option maxHeartbeats 4000000 in
set_option maxRecDepth 100000 in
theorem t_X12_read_134 {X : CX} {res : St} (B : BV X cX12_read RX12 6 2 NN none res) (fu : Nat) (k_14 : Nat → Int32 → Int32 → Int32 → St → Option (St)) (h_14 : ∀ (x0 : Nat) (x1 : Int32) (x2 : Int32) (x3 : Int32)  (st : St), WW X res NN 14 [(0, .ref (x_b X + x0)), (1, .int x1), (2, .int x2), (3, .int x3)] [] st (k_14 x0 x1 x2 x3 st)) (x0 : Nat) (x1 : Int32) (x2 : Int32) (x3 : Int32) (x5 : Int32)  (st : St) : WW X res NN 134 [(0, .ref (x_b X + x0)), (1, .int x1), (2, .int x2), (3, .int x3), (5, .int x5)] [] st (b_X12_read_134 fu k_14 x0 x1 x2 x3 x5 st) := by
  have hX := B.1
  have hL := B.2.1
  unfold b_X12_read_134
  refine ww_aload_n hX 0 rfl dX12_read_134 rfl ?_
  refine ww_getR hX f_X12_13 (Or.inr ⟨_, rfl⟩) dX12_read_135 ?_
  refine ww_bdR (fun o46 => ?_)
  refine ww_iload_n hX 2 rfl dX12_read_138 rfl ?_
  refine ww_iload_n hX 3 rfl dX12_read_139 rfl ?_
  refine ww_iload hX 4 rfl dX12_read_140 ?_
  refine ww_isub hX dX12_read_142 ?_
  refine ww_bipush (v := 12) hX rfl dX12_read_143 ?_
  refine ww_pc (b := 145) rfl ?_
  refine ww_icmp_le (tgt := 152) hX dX12_read_145 (by decide) ?_ ?_
  · refine ww_iconst (v := 1) hX rfl dX12_read_152 ?_
    exact ww_sub [0, 1, 2, 3] rfl (t_X12_read_153 B fu k_14 h_14 x0 x1 x2 x3 o46 x2 1 st)
  · refine ww_iconst (v := 3) hX rfl dX12_read_148 ?_
    refine ww_goto (tgt := 153) hX dX12_read_149 (by decide) ?_
    exact ww_sub [0, 1, 2, 3] rfl (t_X12_read_153 B fu k_14 h_14 x0 x1 x2 x3 o46 x2 3 st)
def b_X12_read_86_b (fu : Nat) (k_14 : Nat → Int32 → Int32 → Int32 → St → Option (St)) (k_86 : Nat → Int32 → Int32 → Int32 → Int32 → St → Option (St)) (x0 : Nat) (x1 : Int32) (x2 : Int32) (x3 : Int32) (x5 : Int32)  (st : St) : Option (St) :=
  if x1 ≤ x3 then (
  b_X12_read_134 fu k_14 x0 x1 x2 x3 x5  st)
  else (
  ck (¬ gR st x0 0 = 0) <|
  ck ((kd x0).1 = 12) <|
  bd (gR st x0 0) fun o48 =>
  ck ((kd o48).1 = 101 ∧ inb x3 (kd o48).2) <|
  ca (f_X12_isLetter fu (gI st o48 (ix x3)) st) fun r49 s50 =>
  if r49 = 0 then (
  b_X12_read_134 fu k_14 x0 x1 x2 x3 x5  s50)
  else (
  ck (¬ gR s50 x0 3 = 0) <|
  ck ((kd x0).1 = 12) <|
  bd (gR s50 x0 3) fun o51 =>
  ck (¬ gR s50 x0 3 = 0) <|
  ck ((kd x0).1 = 12) <|
  bd (gR s50 x0 3) fun o52 =>
  ck ((kd o52).1 = 103 ∧ inb x2 (kd o52).2) <|
  ck (¬ gR s50 x0 0 = 0) <|
  ck ((kd x0).1 = 12) <|
  bd (gR s50 x0 0) fun o53 =>
  ck ((kd o53).1 = 101 ∧ inb x3 (kd o53).2) <|
  ck ((kd o51).1 = 103 ∧ inb x2 (kd o51).2) <|
  bd (sL s50 o51 (ix x2) (((gL s50 o52 (ix x2)) <<< ((5 : Int32).toInt64 &&& 63)) ||| (((gI s50 o53 (ix x3)) - 96).toInt64))) fun s54 =>
  bd (x3 + 1) fun v55 =>
  k_86 x0 x1 x2 v55 x5  s54))
set_option maxHeartbeats 4000000 in
set_option maxRecDepth 100000 in
theorem t_X12_read_86_b {X : CX} {res : St} (B : BV X cX12_read RX12 6 2 NN none res) (fu : Nat) (k_14 : Nat → Int32 → Int32 → Int32 → St → Option (St)) (k_86 : Nat → Int32 → Int32 → Int32 → Int32 → St → Option (St)) (h_14 : ∀ (x0 : Nat) (x1 : Int32) (x2 : Int32) (x3 : Int32)  (st : St), WW X res NN 14 [(0, .ref (x_b X + x0)), (1, .int x1), (2, .int x2), (3, .int x3)] [] st (k_14 x0 x1 x2 x3 st)) (h_86 : ∀ (x0 : Nat) (x1 : Int32) (x2 : Int32) (x3 : Int32) (x5 : Int32)  (st : St), WW X res NN 86 [(0, .ref (x_b X + x0)), (1, .int x1), (2, .int x2), (3, .int x3), (5, .int x5)] [] st (k_86 x0 x1 x2 x3 x5 st)) (x0 : Nat) (x1 : Int32) (x2 : Int32) (x3 : Int32) (x5 : Int32)  (st : St) : WW X res NN 86 [(0, .ref (x_b X + x0)), (1, .int x1), (2, .int x2), (3, .int x3), (5, .int x5)] [] st (b_X12_read_86_b fu k_14 k_86 x0 x1 x2 x3 x5 st) := by
  have hX := B.1
  have hL := B.2.1
  unfold b_X12_read_86_b
  refine ww_iload_n hX 3 rfl dX12_read_86 rfl ?_
  refine ww_iload_n hX 1 rfl dX12_read_87 rfl ?_
  refine ww_icmp_ge (tgt := 134) hX dX12_read_88 (by decide) ?_ ?_
  · exact t_X12_read_134 B fu k_14 h_14 x0 x1 x2 x3 x5  st
  · refine ww_aload_n hX 0 rfl dX12_read_91 rfl ?_
    refine ww_getR hX f_X12_9 (Or.inr ⟨_, rfl⟩) dX12_read_92 ?_
    refine ww_bdR (fun o48 => ?_)
    refine ww_iload_n hX 3 rfl dX12_read_95 rfl ?_
    refine ww_baldc hX k_bald dX12_read_96 ?_
    refine ww_callSI (As := [.int (gI st o48 (ix x3))]) (rest := []) hX (Rk.of B.2.2.1 B.2.2.2.1 (by decide) (by decide)) g_X12_363 (c_X12_isLetter (x_G X) (x_l X) fu (gI st o48 (ix x3)) st) rfl rfl (Nat.le_of_ble_eq_true rfl) dX12_read_97 (fun r49 s50 => ?_)
    refine ww_if_eq (tgt := 134) hX dX12_read_100 (by decide) ?_ ?_
    · exact t_X12_read_134 B fu k_14 h_14 x0 x1 x2 x3 x5  s50
    · refine ww_aload_n hX 0 rfl dX12_read_103 rfl ?_
      refine ww_getR hX f_X12_17 (Or.inr ⟨_, rfl⟩) dX12_read_104 ?_
      refine ww_bdR (fun o51 => ?_)
      refine ww_iload_n hX 2 rfl dX12_read_107 rfl ?_
      refine ww_aload_n hX 0 rfl dX12_read_108 rfl ?_
      refine ww_getR hX f_X12_17 (Or.inr ⟨_, rfl⟩) dX12_read_109 ?_
      refine ww_bdR (fun o52 => ?_)
      refine ww_iload_n hX 2 rfl dX12_read_112 rfl ?_
      refine ww_laldc hX k_lald dX12_read_113 ?_
      refine ww_pc (b := 114) rfl ?_
      refine ww_iconst (v := 5) hX rfl dX12_read_114 ?_
      refine ww_lshl hX dX12_read_115 ?_
      refine ww_aload_n hX 0 rfl dX12_read_116 rfl ?_
      refine ww_getR hX f_X12_9 (Or.inr ⟨_, rfl⟩) dX12_read_117 ?_
      refine ww_bdR (fun o53 => ?_)
      refine ww_iload_n hX 3 rfl dX12_read_120 rfl ?_
      refine ww_baldc hX k_bald dX12_read_121 ?_
      refine ww_bipush (v := 96) hX rfl dX12_read_122 ?_
      refine ww_isub hX dX12_read_124 ?_
      refine ww_pc (b := 125) rfl ?_
      refine ww_i2l hX dX12_read_125 ?_
      refine ww_lor hX dX12_read_126 ?_
      refine ww_lastc hX k_last dX12_read_127 ?_
      refine ww_bds (fun s54 => ?_)
      refine ww_iincb (lv' := fun v55 => [(3, .int v55), (0, .ref (x_b X + x0)), (1, .int x1), (2, .int x2), (5, .int x5)]) (c := 1) hX hL 3 rfl dX12_read_128 rfl (by decide) (fun _ => rfl) (fun v55 => ?_)
      refine ww_goto (tgt := 86) hX dX12_read_131 (by decide) ?_
      exact ww_sub [1, 2, 3, 0, 4] rfl (h_86 x0 x1 x2 v55 x5  s54)
def b_X12_read_86 (fu : Nat) (k_14 : Nat → Int32 → Int32 → Int32 → St → Option (St)) : Nat → Nat → Int32 → Int32 → Int32 → Int32 → St → Option (St)
  | 0, _, _, _, _, _, _ => none
  | i + 1, x0, x1, x2, x3, x5, st => b_X12_read_86_b fu k_14 (b_X12_read_86 fu k_14 i) x0 x1 x2 x3 x5 st
theorem t_X12_read_86 {X : CX} {res : St} (B : BV X cX12_read RX12 6 2 NN none res) (fu : Nat) (k_14 : Nat → Int32 → Int32 → Int32 → St → Option (St)) (h_14 : ∀ (x0 : Nat) (x1 : Int32) (x2 : Int32) (x3 : Int32)  (st : St), WW X res NN 14 [(0, .ref (x_b X + x0)), (1, .int x1), (2, .int x2), (3, .int x3)] [] st (k_14 x0 x1 x2 x3 st)) : ∀ (i : Nat) (x0 : Nat) (x1 : Int32) (x2 : Int32) (x3 : Int32) (x5 : Int32)  (st : St), WW X res NN 86 [(0, .ref (x_b X + x0)), (1, .int x1), (2, .int x2), (3, .int x3), (5, .int x5)] [] st (b_X12_read_86 fu k_14 i x0 x1 x2 x3 x5 st) := by
  intro i
  induction i with
  | zero => intro x0 x1 x2 x3 x5 st; exact ww_none
  | succ i ih => intro x0 x1 x2 x3 x5 st; exact t_X12_read_86_b B fu k_14 (b_X12_read_86 fu k_14 i) h_14 ih x0 x1 x2 x3 x5 st
def b_X12_read_14_b (fu : Nat) (k_14 : Nat → Int32 → Int32 → Int32 → St → Option (St)) (x0 : Nat) (x1 : Int32) (x2 : Int32) (x3 : Int32)  (st : St) : Option (St) :=
  if x1 ≤ x3 then (
  ck (¬ gR st x0 2 = 0) <|
  ck ((kd x0).1 = 12) <|
  bd (gR st x0 2) fun o3 =>
  ck ((kd o3).1 = 100 ∧ inb x2 (kd o3).2) <|
  bd (sI st o3 (ix x2) 0) fun s4 =>
  ck (¬ gR s4 x0 4 = 0) <|
  ck ((kd x0).1 = 12) <|
  bd (gR s4 x0 4) fun o5 =>
  ck ((kd o5).1 = 100 ∧ inb x2 (kd o5).2) <|
  bd (sI s4 o5 (ix x2) x1) fun s6 =>
  ck ((kd x0).1 = 12) <|
  bd (sI s6 x0 5 0) fun s7 =>
  ck ((kd x0).1 = 12) <|
  bd (sI s7 x0 6 0) fun s8 =>
  ck ((kd x0).1 = 12) <|
  bd (sI s8 x0 7 0) fun s9 =>
  ck (isb 0) <|
  ck ((kd x0).1 = 12) <|
  bd (sI s9 x0 8 0) fun s10 =>
  some s10)
  else (
  ck (¬ gR st x0 0 = 0) <|
  ck ((kd x0).1 = 12) <|
  bd (gR st x0 0) fun o11 =>
  ck ((kd o11).1 = 101 ∧ inb x3 (kd o11).2) <|
  bd (gI st o11 (ix x3)) fun v12 =>
  if v12 = 32 then (
  b_X12_read_55 fu k_14 x0 x1 x2 x3  st)
  else (
  if v12 = 9 then (
  b_X12_read_55 fu k_14 x0 x1 x2 x3  st)
  else (
  if v12 = 13 then (
  b_X12_read_55 fu k_14 x0 x1 x2 x3  st)
  else (
  if v12 = 10 then (
  b_X12_read_55 fu k_14 x0 x1 x2 x3  st)
  else (
  ck (¬ gR st x0 4 = 0) <|
  ck ((kd x0).1 = 12) <|
  bd (gR st x0 4) fun o14 =>
  ck ((kd o14).1 = 100 ∧ inb x2 (kd o14).2) <|
  bd (sI st o14 (ix x2) x3) fun s15 =>
  ck (¬ gR s15 x0 3 = 0) <|
  ck ((kd x0).1 = 12) <|
  bd (gR s15 x0 3) fun o16 =>
  ck ((kd o16).1 = 103 ∧ inb x2 (kd o16).2) <|
  bd (sL s15 o16 (ix x2) 0) fun s17 =>
  ca (f_X12_isLetter fu v12 s17) fun r18 s19 =>
  if r18 = 0 then (
  ca (f_X12_isDigit fu v12 s19) fun r20 s21 =>
  if r20 = 0 then (
  ck (¬ gR s21 x0 2 = 0) <|
  ck ((kd x0).1 = 12) <|
  bd (gR s21 x0 2) fun o22 =>
  ca (f_X12_isSign fu v12 s21) fun r23 s24 =>
  if r23 = 0 then (
  b_X12_read_310 fu k_14 x0 x1 x2 x3 o22 x2 3 s24)
  else (
  b_X12_read_310 fu k_14 x0 x1 x2 x3 o22 x2 v12 s24))
  else (
  b_X12_read_165 fu k_14 fu x0 x1 x2 x3  s21))
  else (
  b_X12_read_86 fu k_14 fu x0 x1 x2 x3 x3  s19))))))
set_option maxHeartbeats 4000000 in
set_option maxRecDepth 100000 in
theorem t_X12_read_14_b {X : CX} {res : St} (B : BV X cX12_read RX12 6 2 NN none res) (fu : Nat) (k_14 : Nat → Int32 → Int32 → Int32 → St → Option (St)) (h_14 : ∀ (x0 : Nat) (x1 : Int32) (x2 : Int32) (x3 : Int32)  (st : St), WW X res NN 14 [(0, .ref (x_b X + x0)), (1, .int x1), (2, .int x2), (3, .int x3)] [] st (k_14 x0 x1 x2 x3 st)) (x0 : Nat) (x1 : Int32) (x2 : Int32) (x3 : Int32)  (st : St) : WW X res NN 14 [(0, .ref (x_b X + x0)), (1, .int x1), (2, .int x2), (3, .int x3)] [] st (b_X12_read_14_b fu k_14 x0 x1 x2 x3 st) := by
  have hX := B.1
  have hL := B.2.1
  unfold b_X12_read_14_b
  refine ww_iload_n hX 3 rfl dX12_read_14 rfl ?_
  refine ww_iload_n hX 1 rfl dX12_read_15 rfl ?_
  refine ww_icmp_ge (tgt := 320) hX dX12_read_16 (by decide) ?_ ?_
  · refine ww_aload_n hX 0 rfl dX12_read_320 rfl ?_
    refine ww_getR hX f_X12_13 (Or.inr ⟨_, rfl⟩) dX12_read_321 ?_
    refine ww_bdR (fun o3 => ?_)
    refine ww_iload_n hX 2 rfl dX12_read_324 rfl ?_
    refine ww_iconst (v := 0) hX rfl dX12_read_325 ?_
    refine ww_iastc hX k_iast dX12_read_326 ?_
    refine ww_bds (fun s4 => ?_)
    refine ww_aload_n hX 0 rfl dX12_read_327 rfl ?_
    refine ww_getR hX f_X12_21 (Or.inr ⟨_, rfl⟩) dX12_read_328 ?_
    refine ww_bdR (fun o5 => ?_)
    refine ww_pc (b := 331) rfl ?_
    refine ww_iload_n hX 2 rfl dX12_read_331 rfl ?_
    refine ww_iload_n hX 1 rfl dX12_read_332 rfl ?_
    refine ww_iastc hX k_iast dX12_read_333 ?_
    refine ww_bds (fun s6 => ?_)
    refine ww_aload_n hX 0 rfl dX12_read_334 rfl ?_
    refine ww_iconst (v := 0) hX rfl dX12_read_335 ?_
    refine ww_putI hX f_X12_381 rfl dX12_read_336 ?_
    refine ww_bds (fun s7 => ?_)
    refine ww_aload_n hX 0 rfl dX12_read_339 rfl ?_
    refine ww_iconst (v := 0) hX rfl dX12_read_340 ?_
    refine ww_pc (b := 341) rfl ?_
    refine ww_putI hX f_X12_384 rfl dX12_read_341 ?_
    refine ww_bds (fun s8 => ?_)
    refine ww_aload_n hX 0 rfl dX12_read_344 rfl ?_
    refine ww_iconst (v := 0) hX rfl dX12_read_345 ?_
    refine ww_putI hX f_X12_387 rfl dX12_read_346 ?_
    refine ww_bds (fun s9 => ?_)
    refine ww_aload_n hX 0 rfl dX12_read_349 rfl ?_
    refine ww_iconst (v := 0) hX rfl dX12_read_350 ?_
    refine ww_putZ hX f_X12_390 rfl dX12_read_351 ?_
    refine ww_bds (fun s10 => ?_)
    exact ww_vret B dX12_read_354
  · refine ww_aload_n hX 0 rfl dX12_read_19 rfl ?_
    refine ww_getR hX f_X12_9 (Or.inr ⟨_, rfl⟩) dX12_read_20 ?_
    refine ww_bdR (fun o11 => ?_)
    refine ww_iload_n hX 3 rfl dX12_read_23 rfl ?_
    refine ww_baldc hX k_bald dX12_read_24 ?_
    refine ww_bdi (fun v12 => ?_)
    refine ww_istore (lv' := [(4, .int v12), (0, .ref (x_b X + x0)), (1, .int x1), (2, .int x2), (3, .int x3)]) hX hL dX12_read_25 (by decide) rfl ?_
    refine ww_iload hX 0 rfl dX12_read_27 ?_
    refine ww_bipush (v := 32) hX rfl dX12_read_29 ?_
    refine ww_pc (b := 31) rfl ?_
    refine ww_icmp_eq (tgt := 55) hX dX12_read_31 (by decide) ?_ ?_
    · exact ww_sub [1, 2, 3, 4] rfl (t_X12_read_55 B fu k_14 h_14 x0 x1 x2 x3  st)
    · refine ww_iload hX 0 rfl dX12_read_34 ?_
      refine ww_bipush (v := 9) hX rfl dX12_read_36 ?_
      refine ww_icmp_eq (tgt := 55) hX dX12_read_38 (by decide) ?_ ?_
      · exact ww_sub [1, 2, 3, 4] rfl (t_X12_read_55 B fu k_14 h_14 x0 x1 x2 x3  st)
      · refine ww_iload hX 0 rfl dX12_read_41 ?_
        refine ww_bipush (v := 13) hX rfl dX12_read_43 ?_
        refine ww_icmp_eq (tgt := 55) hX dX12_read_45 (by decide) ?_ ?_
        · exact ww_sub [1, 2, 3, 4] rfl (t_X12_read_55 B fu k_14 h_14 x0 x1 x2 x3  st)
        · refine ww_iload hX 0 rfl dX12_read_48 ?_
          refine ww_bipush (v := 10) hX rfl dX12_read_50 ?_
          refine ww_icmp_ne (tgt := 61) hX dX12_read_52 (by decide) ?_ ?_
          · refine ww_aload_n hX 1 rfl dX12_read_61 rfl ?_
            refine ww_getR hX f_X12_21 (Or.inr ⟨_, rfl⟩) dX12_read_62 ?_
            refine ww_bdR (fun o14 => ?_)
            refine ww_iload_n hX 3 rfl dX12_read_65 rfl ?_
            refine ww_iload_n hX 4 rfl dX12_read_66 rfl ?_
            refine ww_iastc hX k_iast dX12_read_67 ?_
            refine ww_bds (fun s15 => ?_)
            refine ww_aload_n hX 1 rfl dX12_read_68 rfl ?_
            refine ww_getR hX f_X12_17 (Or.inr ⟨_, rfl⟩) dX12_read_69 ?_
            refine ww_bdR (fun o16 => ?_)
            refine ww_pc (b := 72) rfl ?_
            refine ww_iload_n hX 3 rfl dX12_read_72 rfl ?_
            refine ww_lconst (v := 0) hX rfl dX12_read_73 ?_
            refine ww_lastc hX k_last dX12_read_74 ?_
            refine ww_bds (fun s17 => ?_)
            refine ww_iload hX 0 rfl dX12_read_75 ?_
            refine ww_callSI (As := [.int v12]) (rest := []) hX (Rk.of B.2.2.1 B.2.2.2.1 (by decide) (by decide)) g_X12_363 (c_X12_isLetter (x_G X) (x_l X) fu v12 s17) rfl rfl (Nat.le_of_ble_eq_true rfl) dX12_read_77 (fun r18 s19 => ?_)
            refine ww_if_eq (tgt := 157) hX dX12_read_80 (by decide) ?_ ?_
            · refine ww_iload hX 0 rfl dX12_read_157 ?_
              refine ww_callSI (As := [.int v12]) (rest := []) hX (Rk.of B.2.2.1 B.2.2.2.1 (by decide) (by decide)) g_X12_367 (c_X12_isDigit (x_G X) (x_l X) fu v12 s19) rfl rfl (Nat.le_of_ble_eq_true rfl) dX12_read_159 (fun r20 s21 => ?_)
              refine ww_if_eq (tgt := 291) hX dX12_read_162 (by decide) ?_ ?_
              · refine ww_aload_n hX 1 rfl dX12_read_291 rfl ?_
                refine ww_getR hX f_X12_13 (Or.inr ⟨_, rfl⟩) dX12_read_292 ?_
                refine ww_bdR (fun o22 => ?_)
                refine ww_iload_n hX 3 rfl dX12_read_295 rfl ?_
                refine ww_iload hX 0 rfl dX12_read_296 ?_
                refine ww_callSI (As := [.int v12]) (rest := [.int x2, .ref (x_b X + o22)]) hX (Rk.of B.2.2.1 B.2.2.2.1 (by decide) (by decide)) g_X12_378 (c_X12_isSign (x_G X) (x_l X) fu v12 s21) rfl rfl (Nat.le_of_ble_eq_true rfl) dX12_read_298 (fun r23 s24 => ?_)
                refine ww_if_eq (tgt := 309) hX dX12_read_301 (by decide) ?_ ?_
                · refine ww_iconst (v := 3) hX rfl dX12_read_309 ?_
                  exact ww_sub [1, 2, 3, 4] rfl (t_X12_read_310 B fu k_14 h_14 x0 x1 x2 x3 o22 x2 3 s24)
                · refine ww_iload hX 0 rfl dX12_read_304 ?_
                  refine ww_goto (tgt := 310) hX dX12_read_306 (by decide) ?_
                  exact ww_sub [1, 2, 3, 4] rfl (t_X12_read_310 B fu k_14 h_14 x0 x1 x2 x3 o22 x2 v12 s24)
              · exact ww_sub [1, 2, 3, 4] rfl (t_X12_read_165 B fu k_14 h_14 fu x0 x1 x2 x3  s21)
            · refine ww_iload_n hX 4 rfl dX12_read_83 rfl ?_
              refine ww_istore (lv' := [(5, .int x3), (4, .int v12), (0, .ref (x_b X + x0)), (1, .int x1), (2, .int x2), (3, .int x3)]) hX hL dX12_read_84 (by decide) rfl ?_
              exact ww_sub [2, 3, 4, 5, 0] rfl (t_X12_read_86 B fu k_14 h_14 fu x0 x1 x2 x3 x3  s19)
          · exact ww_sub [1, 2, 3, 4] rfl (t_X12_read_55 B fu k_14 h_14 x0 x1 x2 x3  st)
def b_X12_read_14 (fu : Nat) : Nat → Nat → Int32 → Int32 → Int32 → St → Option (St)
  | 0, _, _, _, _, _ => none
  | i + 1, x0, x1, x2, x3, st => b_X12_read_14_b fu (b_X12_read_14 fu i) x0 x1 x2 x3 st
theorem t_X12_read_14 {X : CX} {res : St} (B : BV X cX12_read RX12 6 2 NN none res) (fu : Nat) : ∀ (i : Nat) (x0 : Nat) (x1 : Int32) (x2 : Int32) (x3 : Int32)  (st : St), WW X res NN 14 [(0, .ref (x_b X + x0)), (1, .int x1), (2, .int x2), (3, .int x3)] [] st (b_X12_read_14 fu i x0 x1 x2 x3 st) := by
  intro i
  induction i with
  | zero => intro x0 x1 x2 x3 st; exact ww_none
  | succ i ih => intro x0 x1 x2 x3 st; exact t_X12_read_14_b B fu (b_X12_read_14 fu i) ih x0 x1 x2 x3 st
def f_X12_read (fu : Nat) (th : Nat) (st : St) : Option (St) :=
  ck ((kd th).1 = 12) <|
  bd (gI st th 1) fun v1 =>
  ck ((kd th).1 = 12) <|
  bd (sI st th 1 0) fun s2 =>
  b_X12_read_14 fu fu th v1 0 0  s2
set_option maxHeartbeats 4000000 in
set_option maxRecDepth 100000 in
theorem t_X12_read {X : CX} {res : St} (B : BV X cX12_read RX12 6 2 NN none res) (fu : Nat) (th : Nat) (st : St) : WW X res NN 0 [(0, .ref (x_b X + th))] [] st (f_X12_read fu th st) := by
  have hX := B.1
  have hL := B.2.1
  unfold f_X12_read
  refine ww_aload_n hX 0 rfl dX12_read_0 rfl ?_
  refine ww_getI hX f_X12_345 (Or.inl rfl) dX12_read_1 ?_
  refine ww_bdi (fun v1 => ?_)
  refine ww_istore_n (lv' := [(1, .int v1), (0, .ref (x_b X + th))]) hX hL dX12_read_4 rfl (by decide) rfl ?_
  refine ww_aload_n hX 1 rfl dX12_read_5 rfl ?_
  refine ww_iconst (v := 0) hX rfl dX12_read_6 ?_
  refine ww_putI hX f_X12_345 rfl dX12_read_7 ?_
  refine ww_bds (fun s2 => ?_)
  refine ww_iconst (v := 0) hX rfl dX12_read_10 ?_
  refine ww_pc (b := 11) rfl ?_
  refine ww_istore_n (lv' := [(2, .int 0), (1, .int v1), (0, .ref (x_b X + th))]) hX hL dX12_read_11 rfl (by decide) rfl ?_
  refine ww_iconst (v := 0) hX rfl dX12_read_12 ?_
  refine ww_istore_n (lv' := [(3, .int 0), (2, .int 0), (1, .int v1), (0, .ref (x_b X + th))]) hX hL dX12_read_13 rfl (by decide) rfl ?_
  exact ww_sub [3, 2, 1, 0] rfl (t_X12_read_14 B fu fu th v1 0 0  s2)
theorem c_X12_read (G : GX) (l : Launch) (fu : Nat) (th : Nat) (st : St) : MV G NN l yX12_read cX12_read 6 none 2 [.ref (G.2.2.1 + th)] st (f_X12_read fu th st) := mkV (by decide) (Nat.le_of_ble_eq_true rfl) (fun X res hl hG B => by subst hl; subst hG; exact t_X12_read B fu th st)
/-! StageHouseModel.tell(II)V -/
def b_X12_tell_41 (fu : Nat)   (st : St) : Option (St) :=
  some st
set_option maxHeartbeats 4000000 in
set_option maxRecDepth 100000 in
theorem t_X12_tell_41 {X : CX} {res : St} (B : BV X cX12_tell RX12 3 1 NN none res) (fu : Nat)   (st : St) : WW X res NN 41 [] [] st (b_X12_tell_41 fu  st) := by
  have hX := B.1
  have hL := B.2.1
  unfold b_X12_tell_41
  exact ww_vret B dX12_tell_41
def b_X12_tell_31 (fu : Nat) (x0 : Nat) (x1 : Int32) (x2 : Int32)  (st : St) : Option (St) :=
  ck ((kd x0).1 = 12) <|
  bd (sI st x0 6 x1) fun s1 =>
  ck ((kd x0).1 = 12) <|
  bd (sI s1 x0 7 x2) fun s2 =>
  b_X12_tell_41 fu   s2
set_option maxHeartbeats 4000000 in
set_option maxRecDepth 100000 in
theorem t_X12_tell_31 {X : CX} {res : St} (B : BV X cX12_tell RX12 3 1 NN none res) (fu : Nat) (x0 : Nat) (x1 : Int32) (x2 : Int32)  (st : St) : WW X res NN 31 [(0, .ref (x_b X + x0)), (1, .int x1), (2, .int x2)] [] st (b_X12_tell_31 fu x0 x1 x2 st) := by
  have hX := B.1
  have hL := B.2.1
  unfold b_X12_tell_31
  refine ww_aload_n hX 0 rfl dX12_tell_31 rfl ?_
  refine ww_iload_n hX 1 rfl dX12_tell_32 rfl ?_
  refine ww_putI hX f_X12_384 rfl dX12_tell_33 ?_
  refine ww_bds (fun s1 => ?_)
  refine ww_aload_n hX 0 rfl dX12_tell_36 rfl ?_
  refine ww_iload_n hX 2 rfl dX12_tell_37 rfl ?_
  refine ww_putI hX f_X12_387 rfl dX12_tell_38 ?_
  refine ww_bds (fun s2 => ?_)
  exact ww_sub [] rfl (t_X12_tell_41 B fu   s2)
def f_X12_tell (fu : Nat) (th : Nat) (p1 : Int32) (p2 : Int32) (st : St) : Option (St) :=
  ck ((kd th).1 = 12) <|
  if (gI st th 6) = 0 then (
  b_X12_tell_31 fu th p1 p2  st)
  else (
  ck ((kd th).1 = 12) <|
  if p2 < (gI st th 7) then (
  b_X12_tell_31 fu th p1 p2  st)
  else (
  ck ((kd th).1 = 12) <|
  if p2 = (gI st th 7) then (
  ck ((kd th).1 = 12) <|
  if (gI st th 6) ≤ p1 then (
  b_X12_tell_41 fu   st)
  else (
  b_X12_tell_31 fu th p1 p2  st))
  else (
  b_X12_tell_41 fu   st)))
set_option maxHeartbeats 4000000 in
set_option maxRecDepth 100000 in
theorem t_X12_tell {X : CX} {res : St} (B : BV X cX12_tell RX12 3 1 NN none res) (fu : Nat) (th : Nat) (p1 : Int32) (p2 : Int32) (st : St) : WW X res NN 0 [(0, .ref (x_b X + th)), (1, .int p1), (2, .int p2)] [] st (f_X12_tell fu th p1 p2 st) := by
  have hX := B.1
  have hL := B.2.1
  unfold f_X12_tell
  refine ww_aload_n hX 0 rfl dX12_tell_0 rfl ?_
  refine ww_getI hX f_X12_384 (Or.inl rfl) dX12_tell_1 ?_
  refine ww_if_eq (tgt := 31) hX dX12_tell_4 (by decide) ?_ ?_
  · exact t_X12_tell_31 B fu th p1 p2  st
  · refine ww_iload_n hX 2 rfl dX12_tell_7 rfl ?_
    refine ww_aload_n hX 0 rfl dX12_tell_8 rfl ?_
    refine ww_getI hX f_X12_387 (Or.inl rfl) dX12_tell_9 ?_
    refine ww_icmp_lt (tgt := 31) hX dX12_tell_12 (by decide) ?_ ?_
    · exact t_X12_tell_31 B fu th p1 p2  st
    · refine ww_iload_n hX 2 rfl dX12_tell_15 rfl ?_
      refine ww_aload_n hX 0 rfl dX12_tell_16 rfl ?_
      refine ww_getI hX f_X12_387 (Or.inl rfl) dX12_tell_17 ?_
      refine ww_icmp_ne (tgt := 41) hX dX12_tell_20 (by decide) ?_ ?_
      · exact ww_sub [] rfl (t_X12_tell_41 B fu   st)
      · refine ww_iload_n hX 1 rfl dX12_tell_23 rfl ?_
        refine ww_aload_n hX 0 rfl dX12_tell_24 rfl ?_
        refine ww_getI hX f_X12_384 (Or.inl rfl) dX12_tell_25 ?_
        refine ww_icmp_ge (tgt := 41) hX dX12_tell_28 (by decide) ?_ ?_
        · exact ww_sub [] rfl (t_X12_tell_41 B fu   st)
        · exact t_X12_tell_31 B fu th p1 p2  st
theorem c_X12_tell (G : GX) (l : Launch) (fu : Nat) (th : Nat) (p1 : Int32) (p2 : Int32) (st : St) : MV G NN l yX12_tell cX12_tell 3 none 1 [.ref (G.2.2.1 + th), .int p1, .int p2] st (f_X12_tell fu th p1 p2 st) := mkV (by decide) (Nat.le_of_ble_eq_true rfl) (fun X res hl hG B => by subst hl; subst hG; exact t_X12_tell B fu th p1 p2 st)
