/-! StageHouseModel.list(I)I -/
def b_X12_list_9 (fu : Nat) (x0 : Nat)  (st : St) : Option (Int32 × St) :=
  ck ((kd x0).1 = 12) <|
  bd (sI st x0 1 0) fun s1 =>
  some ((-1), s1)
set_option maxHeartbeats 4000000 in
set_option maxRecDepth 100000 in
theorem t_X12_list_9 {X : CX} {res : Int32 × St} (B : BI X cX12_list RX12 6 12 NN (some .int) res) (fu : Nat) (x0 : Nat)  (st : St) : WW X res NN 9 [(0, .ref (x_b X + x0))] [] st (b_X12_list_9 fu x0 st) := by
  have hX := B.1
  have hL := B.2.1
  unfold b_X12_list_9
  refine ww_aload_n hX 0 rfl dX12_list_9 rfl ?_
  refine ww_iconst (v := 0) hX rfl dX12_list_10 ?_
  refine ww_putI hX f_X12_345 rfl dX12_list_11 ?_
  refine ww_bds (fun s1 => ?_)
  refine ww_iconst (v := (-1)) hX rfl dX12_list_14 ?_
  exact ww_iret B dX12_list_15
def b_X12_list_189 (fu : Nat) (k_154 : Nat → Int32 → Int32 → Int32 → St → Option (Int32 × St)) (x0 : Nat) (x1 : Int32) (x3 : Int32) (x5 : Int32) (y0 : Nat) (y1 : Int32) (y2 : Int32) (st : St) : Option (Int32 × St) :=
  ck ((kd y0).1 = 100 ∧ inb y1 (kd y0).2) <|
  bd (sI st y0 (ix y1) y2) fun s11 =>
  bd (x5 + 1) fun v12 =>
  k_154 x0 x1 x3 v12  s11
set_option maxHeartbeats 4000000 in
set_option maxRecDepth 100000 in
theorem t_X12_list_189 {X : CX} {res : Int32 × St} (B : BI X cX12_list RX12 6 12 NN (some .int) res) (fu : Nat) (k_154 : Nat → Int32 → Int32 → Int32 → St → Option (Int32 × St)) (h_154 : ∀ (x0 : Nat) (x1 : Int32) (x3 : Int32) (x5 : Int32)  (st : St), WW X res NN 154 [(0, .ref (x_b X + x0)), (1, .int x1), (3, .int x3), (5, .int x5)] [] st (k_154 x0 x1 x3 x5 st)) (x0 : Nat) (x1 : Int32) (x3 : Int32) (x5 : Int32) (y0 : Nat) (y1 : Int32) (y2 : Int32) (st : St) : WW X res NN 189 [(0, .ref (x_b X + x0)), (1, .int x1), (3, .int x3), (5, .int x5)] [.int y2, .int y1, .ref (x_b X + y0)] st (b_X12_list_189 fu k_154 x0 x1 x3 x5 y0 y1 y2 st) := by
  have hX := B.1
  have hL := B.2.1
  unfold b_X12_list_189
  refine ww_iastc hX k_iast dX12_list_189 ?_
  refine ww_bds (fun s11 => ?_)
  refine ww_iincb (lv' := fun v12 => [(5, .int v12), (0, .ref (x_b X + x0)), (1, .int x1), (3, .int x3)]) (c := 1) hX hL 3 rfl dX12_list_190 rfl (by decide) (fun _ => rfl) (fun v12 => ?_)
  refine ww_goto (tgt := 154) hX dX12_list_193 (by decide) ?_
  exact ww_sub [1, 2, 3, 0] rfl (h_154 x0 x1 x3 v12  s11)
def b_X12_list_154_b (fu : Nat) (k_154 : Nat → Int32 → Int32 → Int32 → St → Option (Int32 × St)) (x0 : Nat) (x1 : Int32) (x3 : Int32) (x5 : Int32)  (st : St) : Option (Int32 × St) :=
  if 64 < x5 then (
  some (x3, st))
  else (
  ck (¬ gR st x0 50 = 0) <|
  ck ((kd x0).1 = 12) <|
  bd (gR st x0 50) fun o8 =>
  ck (¬ gR st x0 50 = 0) <|
  ck ((kd x0).1 = 12) <|
  bd (gR st x0 50) fun o9 =>
  ck ((kd o9).1 = 100 ∧ inb x5 (kd o9).2) <|
  if (gI st o9 (ix x5)) = x1 then (
  b_X12_list_189 fu k_154 x0 x1 x3 x5 o8 x5 ((-1)) st)
  else (
  ck (¬ gR st x0 50 = 0) <|
  ck ((kd x0).1 = 12) <|
  bd (gR st x0 50) fun o10 =>
  ck ((kd o10).1 = 100 ∧ inb x5 (kd o10).2) <|
  b_X12_list_189 fu k_154 x0 x1 x3 x5 o8 x5 (gI st o10 (ix x5)) st))
set_option maxHeartbeats 4000000 in
set_option maxRecDepth 100000 in
theorem t_X12_list_154_b {X : CX} {res : Int32 × St} (B : BI X cX12_list RX12 6 12 NN (some .int) res) (fu : Nat) (k_154 : Nat → Int32 → Int32 → Int32 → St → Option (Int32 × St)) (h_154 : ∀ (x0 : Nat) (x1 : Int32) (x3 : Int32) (x5 : Int32)  (st : St), WW X res NN 154 [(0, .ref (x_b X + x0)), (1, .int x1), (3, .int x3), (5, .int x5)] [] st (k_154 x0 x1 x3 x5 st)) (x0 : Nat) (x1 : Int32) (x3 : Int32) (x5 : Int32)  (st : St) : WW X res NN 154 [(0, .ref (x_b X + x0)), (1, .int x1), (3, .int x3), (5, .int x5)] [] st (b_X12_list_154_b fu k_154 x0 x1 x3 x5 st) := by
  have hX := B.1
  have hL := B.2.1
  unfold b_X12_list_154_b
  refine ww_iload hX 3 rfl dX12_list_154 ?_
  refine ww_bipush (v := 64) hX rfl dX12_list_156 ?_
  refine ww_icmp_gt (tgt := 196) hX dX12_list_158 (by decide) ?_ ?_
  · refine ww_iload_n hX 2 rfl dX12_list_196 rfl ?_
    exact ww_iret B dX12_list_197
  · refine ww_aload_n hX 0 rfl dX12_list_161 rfl ?_
    refine ww_getR hX f_X12_136 (Or.inr ⟨_, rfl⟩) dX12_list_162 ?_
    refine ww_bdR (fun o8 => ?_)
    refine ww_iload hX 3 rfl dX12_list_165 ?_
    refine ww_aload_n hX 0 rfl dX12_list_167 rfl ?_
    refine ww_getR hX f_X12_136 (Or.inr ⟨_, rfl⟩) dX12_list_168 ?_
    refine ww_bdR (fun o9 => ?_)
    refine ww_iload hX 3 rfl dX12_list_171 ?_
    refine ww_ialdc hX k_iald dX12_list_173 ?_
    refine ww_pc (b := 174) rfl ?_
    refine ww_iload_n hX 1 rfl dX12_list_174 rfl ?_
    refine ww_icmp_ne (tgt := 182) hX dX12_list_175 (by decide) ?_ ?_
    · refine ww_aload_n hX 0 rfl dX12_list_182 rfl ?_
      refine ww_getR hX f_X12_136 (Or.inr ⟨_, rfl⟩) dX12_list_183 ?_
      refine ww_bdR (fun o10 => ?_)
      refine ww_iload hX 3 rfl dX12_list_186 ?_
      refine ww_ialdc hX k_iald dX12_list_188 ?_
      exact t_X12_list_189 B fu k_154 h_154 x0 x1 x3 x5 o8 x5 (gI st o10 (ix x5)) st
    · refine ww_iconst (v := (-1)) hX rfl dX12_list_178 ?_
      refine ww_goto (tgt := 189) hX dX12_list_179 (by decide) ?_
      exact t_X12_list_189 B fu k_154 h_154 x0 x1 x3 x5 o8 x5 ((-1)) st
def b_X12_list_154 (fu : Nat) : Nat → Nat → Int32 → Int32 → Int32 → St → Option (Int32 × St)
  | 0, _, _, _, _, _ => none
  | i + 1, x0, x1, x3, x5, st => b_X12_list_154_b fu (b_X12_list_154 fu i) x0 x1 x3 x5 st
theorem t_X12_list_154 {X : CX} {res : Int32 × St} (B : BI X cX12_list RX12 6 12 NN (some .int) res) (fu : Nat) : ∀ (i : Nat) (x0 : Nat) (x1 : Int32) (x3 : Int32) (x5 : Int32)  (st : St), WW X res NN 154 [(0, .ref (x_b X + x0)), (1, .int x1), (3, .int x3), (5, .int x5)] [] st (b_X12_list_154 fu i x0 x1 x3 x5 st) := by
  intro i
  induction i with
  | zero => intro x0 x1 x3 x5 st; exact ww_none
  | succ i ih => intro x0 x1 x3 x5 st; exact t_X12_list_154_b B fu (b_X12_list_154 fu i) ih x0 x1 x3 x5 st
def b_X12_list_120 (fu : Nat) (x0 : Nat) (x1 : Int32) (x3 : Int32)  (st : St) : Option (Int32 × St) :=
  ck ((kd x0).1 = 12) <|
  if (gI st x0 6) = 0 then (
  ck ((kd x0).1 = 12) <|
  bd (sI st x0 34 x3) fun s5 =>
  ck ((kd x0).1 = 12) <|
  cv (f_X12_keep fu x0 x1 s5) fun s6 =>
  ck ((kd x0).1 = 12) <|
  cv (f_X12_fresh fu x0 x1 s6) fun s7 =>
  b_X12_list_154 fu fu x0 x1 x3 49  s7)
  else (
  ck ((kd x0).1 = 12) <|
  some (((-10)) - (gI st x0 7), st))
set_option maxHeartbeats 4000000 in
set_option maxRecDepth 100000 in
theorem t_X12_list_120 {X : CX} {res : Int32 × St} (B : BI X cX12_list RX12 6 12 NN (some .int) res) (fu : Nat) (x0 : Nat) (x1 : Int32) (x3 : Int32)  (st : St) : WW X res NN 120 [(0, .ref (x_b X + x0)), (1, .int x1), (3, .int x3)] [] st (b_X12_list_120 fu x0 x1 x3 st) := by
  have hX := B.1
  have hL := B.2.1
  unfold b_X12_list_120
  refine ww_aload_n hX 0 rfl dX12_list_120 rfl ?_
  refine ww_getI hX f_X12_384 (Or.inl rfl) dX12_list_121 ?_
  refine ww_if_eq (tgt := 135) hX dX12_list_124 (by decide) ?_ ?_
  · refine ww_aload_n hX 0 rfl dX12_list_135 rfl ?_
    refine ww_iload_n hX 2 rfl dX12_list_136 rfl ?_
    refine ww_putI hX f_X12_429 rfl dX12_list_137 ?_
    refine ww_bds (fun s5 => ?_)
    refine ww_aload_n hX 0 rfl dX12_list_140 rfl ?_
    refine ww_iload_n hX 1 rfl dX12_list_141 rfl ?_
    refine ww_callVV (As := [.int x1]) (rest := []) (o := x0) hX (Rk.of B.2.2.1 B.2.2.2.1 (by decide) (by decide)) g_X12_443 g_X12_443.in (fun _ => c_X12_keep (x_G X) (x_l X) fu x0 x1 s5) rfl rfl (Nat.le_of_ble_eq_true rfl) dX12_list_142 (fun s6 => ?_)
    refine ww_aload_n hX 0 rfl dX12_list_145 rfl ?_
    refine ww_pc (b := 146) rfl ?_
    refine ww_iload_n hX 1 rfl dX12_list_146 rfl ?_
    refine ww_callVV (As := [.int x1]) (rest := []) (o := x0) hX (Rk.of B.2.2.1 B.2.2.2.1 (by decide) (by decide)) g_X12_337 g_X12_337.in (fun _ => c_X12_fresh (x_G X) (x_l X) fu x0 x1 s6) rfl rfl (Nat.le_of_ble_eq_true rfl) dX12_list_147 (fun s7 => ?_)
    refine ww_bipush (v := 49) hX rfl dX12_list_150 ?_
    refine ww_istore (lv' := [(5, .int 49), (0, .ref (x_b X + x0)), (1, .int x1), (3, .int x3)]) hX hL dX12_list_152 (by decide) rfl ?_
    exact ww_sub [1, 2, 3, 0] rfl (t_X12_list_154 B fu fu x0 x1 x3 49  s7)
  · refine ww_bipush (v := (-10)) hX rfl dX12_list_127 ?_
    refine ww_aload_n hX 0 rfl dX12_list_129 rfl ?_
    refine ww_getI hX f_X12_387 (Or.inl rfl) dX12_list_130 ?_
    refine ww_isub hX dX12_list_133 ?_
    exact ww_iret B dX12_list_134
def b_X12_list_117 (fu : Nat) (k_37 : Nat → Int32 → Int32 → Int32 → St → Option (Int32 × St)) (x0 : Nat) (x1 : Int32) (x2 : Int32) (x3 : Int32)  (st : St) : Option (Int32 × St) :=
  k_37 x0 x1 x2 x3  st
set_option maxHeartbeats 4000000 in
set_option maxRecDepth 100000 in
theorem t_X12_list_117 {X : CX} {res : Int32 × St} (B : BI X cX12_list RX12 6 12 NN (some .int) res) (fu : Nat) (k_37 : Nat → Int32 → Int32 → Int32 → St → Option (Int32 × St)) (h_37 : ∀ (x0 : Nat) (x1 : Int32) (x2 : Int32) (x3 : Int32)  (st : St), WW X res NN 37 [(0, .ref (x_b X + x0)), (1, .int x1), (2, .int x2), (3, .int x3)] [] st (k_37 x0 x1 x2 x3 st)) (x0 : Nat) (x1 : Int32) (x2 : Int32) (x3 : Int32)  (st : St) : WW X res NN 117 [(0, .ref (x_b X + x0)), (1, .int x1), (2, .int x2), (3, .int x3)] [] st (b_X12_list_117 fu k_37 x0 x1 x2 x3 st) := by
  have hX := B.1
  have hL := B.2.1
  unfold b_X12_list_117
  refine ww_goto (tgt := 37) hX dX12_list_117 (by decide) ?_
  exact h_37 x0 x1 x2 x3  st
def b_X12_list_113 (fu : Nat) (k_37 : Nat → Int32 → Int32 → Int32 → St → Option (Int32 × St)) (x0 : Nat) (x1 : Int32) (x3 : Int32) (y0 : Nat) (y1 : Int32) (y2 : Int32) (st : St) : Option (Int32 × St) :=
  ck ((kd y0).1 = 12) <|
  ca (f_X12_cue fu y0 y1 y2 st) fun r18 s19 =>
  b_X12_list_117 fu k_37 x0 x1 r18 x3  s19
set_option maxHeartbeats 4000000 in
set_option maxRecDepth 100000 in
theorem t_X12_list_113 {X : CX} {res : Int32 × St} (B : BI X cX12_list RX12 6 12 NN (some .int) res) (fu : Nat) (k_37 : Nat → Int32 → Int32 → Int32 → St → Option (Int32 × St)) (h_37 : ∀ (x0 : Nat) (x1 : Int32) (x2 : Int32) (x3 : Int32)  (st : St), WW X res NN 37 [(0, .ref (x_b X + x0)), (1, .int x1), (2, .int x2), (3, .int x3)] [] st (k_37 x0 x1 x2 x3 st)) (x0 : Nat) (x1 : Int32) (x3 : Int32) (y0 : Nat) (y1 : Int32) (y2 : Int32) (st : St) : WW X res NN 113 [(0, .ref (x_b X + x0)), (1, .int x1), (3, .int x3)] [.int y2, .int y1, .ref (x_b X + y0)] st (b_X12_list_113 fu k_37 x0 x1 x3 y0 y1 y2 st) := by
  have hX := B.1
  have hL := B.2.1
  unfold b_X12_list_113
  refine ww_callVI (As := [.int y1, .int y2]) (rest := []) (o := y0) hX (Rk.of B.2.2.1 B.2.2.2.1 (by decide) (by decide)) g_X12_441 g_X12_441.in (fun _ => c_X12_cue (x_G X) (x_l X) fu y0 y1 y2 st) rfl rfl (Nat.le_of_ble_eq_true rfl) dX12_list_113 (fun r18 s19 => ?_)
  refine ww_istore_n (lv' := [(2, .int r18), (0, .ref (x_b X + x0)), (1, .int x1), (3, .int x3)]) hX hL dX12_list_116 rfl (by decide) rfl ?_
  exact ww_sub [1, 2, 0, 3] rfl (t_X12_list_117 B fu k_37 h_37 x0 x1 r18 x3  s19)
def b_X12_list_97 (fu : Nat) (k_37 : Nat → Int32 → Int32 → Int32 → St → Option (Int32 × St)) (x0 : Nat) (x1 : Int32) (x2 : Int32) (x3 : Int32)  (st : St) : Option (Int32 × St) :=
  if 60 < x3 then (
  b_X12_list_113 fu k_37 x0 x1 x3 x0 x2 59 st)
  else (
  b_X12_list_113 fu k_37 x0 x1 x3 x0 x2 (x3 - 1) st)
set_option maxHeartbeats 4000000 in
set_option maxRecDepth 100000 in
theorem t_X12_list_97 {X : CX} {res : Int32 × St} (B : BI X cX12_list RX12 6 12 NN (some .int) res) (fu : Nat) (k_37 : Nat → Int32 → Int32 → Int32 → St → Option (Int32 × St)) (h_37 : ∀ (x0 : Nat) (x1 : Int32) (x2 : Int32) (x3 : Int32)  (st : St), WW X res NN 37 [(0, .ref (x_b X + x0)), (1, .int x1), (2, .int x2), (3, .int x3)] [] st (k_37 x0 x1 x2 x3 st)) (x0 : Nat) (x1 : Int32) (x2 : Int32) (x3 : Int32)  (st : St) : WW X res NN 97 [(0, .ref (x_b X + x0)), (1, .int x1), (2, .int x2), (3, .int x3)] [] st (b_X12_list_97 fu k_37 x0 x1 x2 x3 st) := by
  have hX := B.1
  have hL := B.2.1
  unfold b_X12_list_97
  refine ww_aload_n hX 0 rfl dX12_list_97 rfl ?_
  refine ww_iload_n hX 2 rfl dX12_list_98 rfl ?_
  refine ww_iload_n hX 3 rfl dX12_list_99 rfl ?_
  refine ww_bipush (v := 60) hX rfl dX12_list_100 ?_
  refine ww_icmp_gt (tgt := 111) hX dX12_list_102 (by decide) ?_ ?_
  · refine ww_bipush (v := 59) hX rfl dX12_list_111 ?_
    exact ww_sub [0, 1, 3] rfl (t_X12_list_113 B fu k_37 h_37 x0 x1 x3 x0 x2 59 st)
  · refine ww_iload_n hX 3 rfl dX12_list_105 rfl ?_
    refine ww_iconst (v := 1) hX rfl dX12_list_106 ?_
    refine ww_isub hX dX12_list_107 ?_
    refine ww_goto (tgt := 113) hX dX12_list_108 (by decide) ?_
    exact ww_sub [0, 1, 3] rfl (t_X12_list_113 B fu k_37 h_37 x0 x1 x3 x0 x2 (x3 - 1) st)
def b_X12_list_37_b (fu : Nat) (k_37 : Nat → Int32 → Int32 → Int32 → St → Option (Int32 × St)) (x0 : Nat) (x1 : Int32) (x2 : Int32) (x3 : Int32)  (st : St) : Option (Int32 × St) :=
  ck ((kd x0).1 = 12) <|
  if (gI st x0 8) = 0 then (
  ck (¬ gR st x0 2 = 0) <|
  ck ((kd x0).1 = 12) <|
  bd (gR st x0 2) fun o13 =>
  ck ((kd x0).1 = 12) <|
  ck ((kd o13).1 = 100 ∧ inb (gI st x0 5) (kd o13).2) <|
  if (gI st o13 (ix (gI st x0 5))) = 0 then (
  b_X12_list_120 fu x0 x1 x3  st)
  else (
  ck (¬ gR st x0 4 = 0) <|
  ck ((kd x0).1 = 12) <|
  bd (gR st x0 4) fun o14 =>
  ck ((kd x0).1 = 12) <|
  ck ((kd o14).1 = 100 ∧ inb (gI st x0 5) (kd o14).2) <|
  bd (gI st o14 (ix (gI st x0 5))) fun v15 =>
  ck ((kd x0).1 = 12) <|
  cv (f_X12_needWord fu x0 1 st) fun s16 =>
  ck ((kd x0).1 = 12) <|
  if (gI s16 x0 8) = 0 then (
  bd (x3 + 1) fun v17 =>
  if v17 ≤ 60 then (
  b_X12_list_97 fu k_37 x0 x1 x2 v17  s16)
  else (
  ck ((kd x0).1 = 12) <|
  cv (f_X12_tell fu x0 2 v15 s16) fun s20 =>
  b_X12_list_97 fu k_37 x0 x1 x2 v17  s20))
  else (
  b_X12_list_117 fu k_37 x0 x1 x2 x3  s16)))
  else (
  b_X12_list_120 fu x0 x1 x3  st)
set_option maxHeartbeats 4000000 in
set_option maxRecDepth 100000 in
theorem t_X12_list_37_b {X : CX} {res : Int32 × St} (B : BI X cX12_list RX12 6 12 NN (some .int) res) (fu : Nat) (k_37 : Nat → Int32 → Int32 → Int32 → St → Option (Int32 × St)) (h_37 : ∀ (x0 : Nat) (x1 : Int32) (x2 : Int32) (x3 : Int32)  (st : St), WW X res NN 37 [(0, .ref (x_b X + x0)), (1, .int x1), (2, .int x2), (3, .int x3)] [] st (k_37 x0 x1 x2 x3 st)) (x0 : Nat) (x1 : Int32) (x2 : Int32) (x3 : Int32)  (st : St) : WW X res NN 37 [(0, .ref (x_b X + x0)), (1, .int x1), (2, .int x2), (3, .int x3)] [] st (b_X12_list_37_b fu k_37 x0 x1 x2 x3 st) := by
  have hX := B.1
  have hL := B.2.1
  unfold b_X12_list_37_b
  refine ww_aload_n hX 0 rfl dX12_list_37 rfl ?_
  refine ww_getI hX f_X12_390 (Or.inr rfl) dX12_list_38 ?_
  refine ww_if_ne (tgt := 120) hX dX12_list_41 (by decide) ?_ ?_
  · exact ww_sub [0, 1, 3] rfl (t_X12_list_120 B fu x0 x1 x3  st)
  · refine ww_aload_n hX 0 rfl dX12_list_44 rfl ?_
    refine ww_getR hX f_X12_13 (Or.inr ⟨_, rfl⟩) dX12_list_45 ?_
    refine ww_bdR (fun o13 => ?_)
    refine ww_aload_n hX 0 rfl dX12_list_48 rfl ?_
    refine ww_getI hX f_X12_381 (Or.inl rfl) dX12_list_49 ?_
    refine ww_ialdc hX k_iald dX12_list_52 ?_
    refine ww_if_eq (tgt := 120) hX dX12_list_53 (by decide) ?_ ?_
    · exact ww_sub [0, 1, 3] rfl (t_X12_list_120 B fu x0 x1 x3  st)
    · refine ww_aload_n hX 0 rfl dX12_list_56 rfl ?_
      refine ww_getR hX f_X12_21 (Or.inr ⟨_, rfl⟩) dX12_list_57 ?_
      refine ww_bdR (fun o14 => ?_)
      refine ww_aload_n hX 0 rfl dX12_list_60 rfl ?_
      refine ww_getI hX f_X12_381 (Or.inl rfl) dX12_list_61 ?_
      refine ww_ialdc hX k_iald dX12_list_64 ?_
      refine ww_bdi (fun v15 => ?_)
      refine ww_istore (lv' := [(5, .int v15), (0, .ref (x_b X + x0)), (1, .int x1), (2, .int x2), (3, .int x3)]) hX hL dX12_list_65 (by decide) rfl ?_
      refine ww_aload_n hX 1 rfl dX12_list_67 rfl ?_
      refine ww_pc (b := 68) rfl ?_
      refine ww_ldcwS (q := 25) hX rfl dX12_list_68 ?_
      refine ww_callVV (As := [.ref ((x_K X).1 1)]) (rest := []) (o := x0) hX (Rk.of B.2.2.1 B.2.2.2.1 (by decide) (by decide)) g_X12_437 g_X12_437.in (fun _ => c_X12_needWord (x_G X) (x_l X) fu x0 1 st) rfl rfl (Nat.le_of_ble_eq_true rfl) dX12_list_71 (fun s16 => ?_)
      refine ww_aload_n hX 1 rfl dX12_list_74 rfl ?_
      refine ww_getI hX f_X12_390 (Or.inr rfl) dX12_list_75 ?_
      refine ww_if_ne (tgt := 117) hX dX12_list_78 (by decide) ?_ ?_
      · exact ww_sub [1, 2, 3, 4] rfl (t_X12_list_117 B fu k_37 h_37 x0 x1 x2 x3  s16)
      · refine ww_iincb (lv' := fun v17 => [(3, .int v17), (5, .int v15), (0, .ref (x_b X + x0)), (1, .int x1), (2, .int x2)]) (c := 1) hX hL 4 rfl dX12_list_81 rfl (by decide) (fun _ => rfl) (fun v17 => ?_)
        refine ww_iload_n hX 0 rfl dX12_list_84 rfl ?_
        refine ww_bipush (v := 60) hX rfl dX12_list_85 ?_
        refine ww_icmp_le (tgt := 97) hX dX12_list_87 (by decide) ?_ ?_
        · exact ww_sub [2, 3, 4, 0] rfl (t_X12_list_97 B fu k_37 h_37 x0 x1 x2 v17  s16)
        · refine ww_aload_n hX 2 rfl dX12_list_90 rfl ?_
          refine ww_iconst (v := 2) hX rfl dX12_list_91 ?_
          refine ww_iload hX 1 rfl dX12_list_92 ?_
          refine ww_callVV (As := [.int 2, .int v15]) (rest := []) (o := x0) hX (Rk.of B.2.2.1 B.2.2.2.1 (by decide) (by decide)) g_X12_394 g_X12_394.in (fun _ => c_X12_tell (x_G X) (x_l X) fu x0 2 v15 s16) rfl rfl (Nat.le_of_ble_eq_true rfl) dX12_list_94 (fun s20 => ?_)
          exact ww_sub [2, 3, 4, 0] rfl (t_X12_list_97 B fu k_37 h_37 x0 x1 x2 v17  s20)
def b_X12_list_37 (fu : Nat) : Nat → Nat → Int32 → Int32 → Int32 → St → Option (Int32 × St)
  | 0, _, _, _, _, _ => none
  | i + 1, x0, x1, x2, x3, st => b_X12_list_37_b fu (b_X12_list_37 fu i) x0 x1 x2 x3 st
theorem t_X12_list_37 {X : CX} {res : Int32 × St} (B : BI X cX12_list RX12 6 12 NN (some .int) res) (fu : Nat) : ∀ (i : Nat) (x0 : Nat) (x1 : Int32) (x2 : Int32) (x3 : Int32)  (st : St), WW X res NN 37 [(0, .ref (x_b X + x0)), (1, .int x1), (2, .int x2), (3, .int x3)] [] st (b_X12_list_37 fu i x0 x1 x2 x3 st) := by
  intro i
  induction i with
  | zero => intro x0 x1 x2 x3 st; exact ww_none
  | succ i ih => intro x0 x1 x2 x3 st; exact t_X12_list_37_b B fu (b_X12_list_37 fu i) ih x0 x1 x2 x3 st
def f_X12_list (fu : Nat) (th : Nat) (p1 : Int32) (st : St) : Option (Int32 × St) :=
  if p1 < 0 then (
  b_X12_list_9 fu th  st)
  else (
  if p1 < 4 then (
  ck ((kd th).1 = 12) <|
  cv (f_X12_read fu th st) fun s2 =>
  ck ((kd th).1 = 12) <|
  bd (sI s2 th 34 0) fun s3 =>
  ck ((kd th).1 = 12) <|
  bd (sI s3 th 35 0) fun s4 =>
  b_X12_list_37 fu fu th p1 0 0  s4)
  else (
  b_X12_list_9 fu th  st))
set_option maxHeartbeats 4000000 in
set_option maxRecDepth 100000 in
theorem t_X12_list {X : CX} {res : Int32 × St} (B : BI X cX12_list RX12 6 12 NN (some .int) res) (fu : Nat) (th : Nat) (p1 : Int32) (st : St) : WW X res NN 0 [(0, .ref (x_b X + th)), (1, .int p1)] [] st (f_X12_list fu th p1 st) := by
  have hX := B.1
  have hL := B.2.1
  unfold f_X12_list
  refine ww_iload_n hX 1 rfl dX12_list_0 rfl ?_
  refine ww_if_lt (tgt := 9) hX dX12_list_1 (by decide) ?_ ?_
  · exact ww_sub [0] rfl (t_X12_list_9 B fu th  st)
  · refine ww_iload_n hX 1 rfl dX12_list_4 rfl ?_
    refine ww_iconst (v := 4) hX rfl dX12_list_5 ?_
    refine ww_icmp_lt (tgt := 16) hX dX12_list_6 (by decide) ?_ ?_
    · refine ww_aload_n hX 0 rfl dX12_list_16 rfl ?_
      refine ww_callVV (As := []) (rest := []) (o := th) hX (Rk.of B.2.2.1 B.2.2.2.1 (by decide) (by decide)) g_X12_426 g_X12_426.in (fun _ => c_X12_read (x_G X) (x_l X) fu th st) rfl rfl (Nat.le_of_ble_eq_true rfl) dX12_list_17 (fun s2 => ?_)
      refine ww_aload_n hX 0 rfl dX12_list_20 rfl ?_
      refine ww_iconst (v := 0) hX rfl dX12_list_21 ?_
      refine ww_putI hX f_X12_429 rfl dX12_list_22 ?_
      refine ww_bds (fun s3 => ?_)
      refine ww_aload_n hX 0 rfl dX12_list_25 rfl ?_
      refine ww_iconst (v := 0) hX rfl dX12_list_26 ?_
      refine ww_pc (b := 27) rfl ?_
      refine ww_putI hX f_X12_432 rfl dX12_list_27 ?_
      refine ww_bds (fun s4 => ?_)
      refine ww_iconst (v := 0) hX rfl dX12_list_30 ?_
      refine ww_istore_n (lv' := [(2, .int 0), (0, .ref (x_b X + th)), (1, .int p1)]) hX hL dX12_list_31 rfl (by decide) rfl ?_
      refine ww_iconst (v := 0) hX rfl dX12_list_32 ?_
      refine ww_istore_n (lv' := [(3, .int 0), (2, .int 0), (0, .ref (x_b X + th)), (1, .int p1)]) hX hL dX12_list_33 rfl (by decide) rfl ?_
      refine ww_iconst (v := 0) hX rfl dX12_list_34 ?_
      refine ww_istore (lv' := [(4, .int 0), (3, .int 0), (2, .int 0), (0, .ref (x_b X + th)), (1, .int p1)]) hX hL dX12_list_35 (by decide) rfl ?_
      exact ww_sub [3, 4, 2, 1] rfl (t_X12_list_37 B fu fu th p1 0 0  s4)
    · exact ww_sub [0] rfl (t_X12_list_9 B fu th  st)
theorem c_X12_list (G : GX) (l : Launch) (fu : Nat) (th : Nat) (p1 : Int32) (st : St) : MI G NN l yX12_list cX12_list 6 (some .int) 12 [.ref (G.2.2.1 + th), .int p1] st (f_X12_list fu th p1 st) := mkI (by decide) (Nat.le_of_ble_eq_true rfl) (fun X res hl hG B => by subst hl; subst hG; exact t_X12_list B fu th p1 st)
/-! StageHouseModel.cueOf(II)I -/
def b_X12_cueOf_2_b (fu : Nat) (k_2 : Nat → Int32 → Int32 → Int32 → St → Option (Int32 × St)) (x0 : Nat) (x1 : Int32) (x2 : Int32) (x3 : Int32)  (st : St) : Option (Int32 × St) :=
  ck (¬ gR st x0 9 = 0) <|
  ck ((kd x0).1 = 12) <|
  bd (gR st x0 9) fun o1 =>
  ck ((kd o1).1 = 100 ∧ inb x1 (kd o1).2) <|
  if (gI st o1 (ix x1)) ≤ x3 then (
  some ((-1), st))
  else (
  ck (¬ gR st x0 10 = 0) <|
  ck ((kd x0).1 = 12) <|
  bd (gR st x0 10) fun o2 =>
  ck ((kd o2).1 = 100 ∧ inb ((x1 * 60) + x3) (kd o2).2) <|
  if (gI st o2 (ix ((x1 * 60) + x3))) = x2 then (
  some (x3, st))
  else (
  bd (x3 + 1) fun v3 =>
  k_2 x0 x1 x2 v3  st))
set_option maxHeartbeats 4000000 in
set_option maxRecDepth 100000 in
theorem t_X12_cueOf_2_b {X : CX} {res : Int32 × St} (B : BI X cX12_cueOf RX12 4 1 NN (some .int) res) (fu : Nat) (k_2 : Nat → Int32 → Int32 → Int32 → St → Option (Int32 × St)) (h_2 : ∀ (x0 : Nat) (x1 : Int32) (x2 : Int32) (x3 : Int32)  (st : St), WW X res NN 2 [(0, .ref (x_b X + x0)), (1, .int x1), (2, .int x2), (3, .int x3)] [] st (k_2 x0 x1 x2 x3 st)) (x0 : Nat) (x1 : Int32) (x2 : Int32) (x3 : Int32)  (st : St) : WW X res NN 2 [(0, .ref (x_b X + x0)), (1, .int x1), (2, .int x2), (3, .int x3)] [] st (b_X12_cueOf_2_b fu k_2 x0 x1 x2 x3 st) := by
  have hX := B.1
  have hL := B.2.1
  unfold b_X12_cueOf_2_b
  refine ww_iload_n hX 3 rfl dX12_cueOf_2 rfl ?_
  refine ww_aload_n hX 0 rfl dX12_cueOf_3 rfl ?_
  refine ww_getR hX f_X12_24 (Or.inr ⟨_, rfl⟩) dX12_cueOf_4 ?_
  refine ww_bdR (fun o1 => ?_)
  refine ww_iload_n hX 1 rfl dX12_cueOf_7 rfl ?_
  refine ww_ialdc hX k_iald dX12_cueOf_8 ?_
  refine ww_icmp_ge (tgt := 35) hX dX12_cueOf_9 (by decide) ?_ ?_
  · refine ww_iconst (v := (-1)) hX rfl dX12_cueOf_35 ?_
    exact ww_iret B dX12_cueOf_36
  · refine ww_aload_n hX 0 rfl dX12_cueOf_12 rfl ?_
    refine ww_getR hX f_X12_27 (Or.inr ⟨_, rfl⟩) dX12_cueOf_13 ?_
    refine ww_bdR (fun o2 => ?_)
    refine ww_iload_n hX 1 rfl dX12_cueOf_16 rfl ?_
    refine ww_bipush (v := 60) hX rfl dX12_cueOf_17 ?_
    refine ww_imul hX dX12_cueOf_19 ?_
    refine ww_iload_n hX 3 rfl dX12_cueOf_20 rfl ?_
    refine ww_iadd hX dX12_cueOf_21 ?_
    refine ww_pc (b := 22) rfl ?_
    refine ww_ialdc hX k_iald dX12_cueOf_22 ?_
    refine ww_iload_n hX 2 rfl dX12_cueOf_23 rfl ?_
    refine ww_icmp_ne (tgt := 29) hX dX12_cueOf_24 (by decide) ?_ ?_
    · refine ww_iincb (lv' := fun v3 => [(3, .int v3), (0, .ref (x_b X + x0)), (1, .int x1), (2, .int x2)]) (c := 1) hX hL 3 rfl dX12_cueOf_29 rfl (by decide) (fun _ => rfl) (fun v3 => ?_)
      refine ww_goto (tgt := 2) hX dX12_cueOf_32 (by decide) ?_
      exact ww_sub [1, 2, 3, 0] rfl (h_2 x0 x1 x2 v3  st)
    · refine ww_iload_n hX 3 rfl dX12_cueOf_27 rfl ?_
      exact ww_iret B dX12_cueOf_28
def b_X12_cueOf_2 (fu : Nat) : Nat → Nat → Int32 → Int32 → Int32 → St → Option (Int32 × St)
  | 0, _, _, _, _, _ => none
  | i + 1, x0, x1, x2, x3, st => b_X12_cueOf_2_b fu (b_X12_cueOf_2 fu i) x0 x1 x2 x3 st
theorem t_X12_cueOf_2 {X : CX} {res : Int32 × St} (B : BI X cX12_cueOf RX12 4 1 NN (some .int) res) (fu : Nat) : ∀ (i : Nat) (x0 : Nat) (x1 : Int32) (x2 : Int32) (x3 : Int32)  (st : St), WW X res NN 2 [(0, .ref (x_b X + x0)), (1, .int x1), (2, .int x2), (3, .int x3)] [] st (b_X12_cueOf_2 fu i x0 x1 x2 x3 st) := by
  intro i
  induction i with
  | zero => intro x0 x1 x2 x3 st; exact ww_none
  | succ i ih => intro x0 x1 x2 x3 st; exact t_X12_cueOf_2_b B fu (b_X12_cueOf_2 fu i) ih x0 x1 x2 x3 st
def f_X12_cueOf (fu : Nat) (th : Nat) (p1 : Int32) (p2 : Int32) (st : St) : Option (Int32 × St) :=
  b_X12_cueOf_2 fu fu th p1 p2 0  st
set_option maxHeartbeats 4000000 in
set_option maxRecDepth 100000 in
theorem t_X12_cueOf {X : CX} {res : Int32 × St} (B : BI X cX12_cueOf RX12 4 1 NN (some .int) res) (fu : Nat) (th : Nat) (p1 : Int32) (p2 : Int32) (st : St) : WW X res NN 0 [(0, .ref (x_b X + th)), (1, .int p1), (2, .int p2)] [] st (f_X12_cueOf fu th p1 p2 st) := by
  have hX := B.1
  have hL := B.2.1
  unfold f_X12_cueOf
  refine ww_iconst (v := 0) hX rfl dX12_cueOf_0 ?_
  refine ww_istore_n (lv' := [(3, .int 0), (0, .ref (x_b X + th)), (1, .int p1), (2, .int p2)]) hX hL dX12_cueOf_1 rfl (by decide) rfl ?_
  exact ww_sub [1, 2, 3, 0] rfl (t_X12_cueOf_2 B fu fu th p1 p2 0  st)
theorem c_X12_cueOf (G : GX) (l : Launch) (fu : Nat) (th : Nat) (p1 : Int32) (p2 : Int32) (st : St) : MI G NN l yX12_cueOf cX12_cueOf 4 (some .int) 1 [.ref (G.2.2.1 + th), .int p1, .int p2] st (f_X12_cueOf fu th p1 p2 st) := mkI (by decide) (Nat.le_of_ble_eq_true rfl) (fun X res hl hG B => by subst hl; subst hG; exact t_X12_cueOf B fu th p1 p2 st)
/-! StageHouseModel.lockNext()I -/
def b_X12_lockNext_37 (fu : Nat)  (y0 : Int32) (st : St) : Option (Int32 × St) :=
  some (y0, st)
set_option maxHeartbeats 4000000 in
set_option maxRecDepth 100000 in
theorem t_X12_lockNext_37 {X : CX} {res : Int32 × St} (B : BI X cX12_lockNext RX12 1 1 NN (some .int) res) (fu : Nat)  (y0 : Int32) (st : St) : WW X res NN 37 [] [.int y0] st (b_X12_lockNext_37 fu y0 st) := by
  have hX := B.1
  have hL := B.2.1
  unfold b_X12_lockNext_37
  exact ww_iret B dX12_lockNext_37
def f_X12_lockNext (fu : Nat) (th : Nat) (st : St) : Option (Int32 × St) :=
  ck ((kd th).1 = 12) <|
  ck (¬ gR st th 68 = 0) <|
  ck ((kd th).1 = 12) <|
  bd (gR st th 68) fun o1 =>
  ck ((kd th).1 = 12) <|
  ck ((kd o1).1 = 100 ∧ inb (gI st th 72) (kd o1).2) <|
  if (gI st o1 (ix (gI st th 72))) ≤ (gI st th 71) then (
  b_X12_lockNext_37 fu  0 st)
  else (
  ck (¬ gR st th 69 = 0) <|
  ck ((kd th).1 = 12) <|
  bd (gR st th 69) fun o2 =>
  ck ((kd th).1 = 12) <|
  ck ((kd th).1 = 12) <|
  ck ((kd o2).1 = 100 ∧ inb ((61 * (gI st th 72)) + (gI st th 71)) (kd o2).2) <|
  b_X12_lockNext_37 fu  (gI st o2 (ix ((61 * (gI st th 72)) + (gI st th 71)))) st)
set_option maxHeartbeats 4000000 in
set_option maxRecDepth 100000 in
theorem t_X12_lockNext {X : CX} {res : Int32 × St} (B : BI X cX12_lockNext RX12 1 1 NN (some .int) res) (fu : Nat) (th : Nat) (st : St) : WW X res NN 0 [(0, .ref (x_b X + th))] [] st (f_X12_lockNext fu th st) := by
  have hX := B.1
  have hL := B.2.1
  unfold f_X12_lockNext
  refine ww_aload_n hX 0 rfl dX12_lockNext_0 rfl ?_
  refine ww_getI hX f_X12_547 (Or.inl rfl) dX12_lockNext_1 ?_
  refine ww_aload_n hX 0 rfl dX12_lockNext_4 rfl ?_
  refine ww_getR hX f_X12_184 (Or.inr ⟨_, rfl⟩) dX12_lockNext_5 ?_
  refine ww_bdR (fun o1 => ?_)
  refine ww_aload_n hX 0 rfl dX12_lockNext_8 rfl ?_
  refine ww_getI hX f_X12_544 (Or.inl rfl) dX12_lockNext_9 ?_
  refine ww_ialdc hX k_iald dX12_lockNext_12 ?_
  refine ww_pc (b := 13) rfl ?_
  refine ww_icmp_ge (tgt := 36) hX dX12_lockNext_13 (by decide) ?_ ?_
  · refine ww_iconst (v := 0) hX rfl dX12_lockNext_36 ?_
    exact ww_sub [] rfl (t_X12_lockNext_37 B fu  0 st)
  · refine ww_aload_n hX 0 rfl dX12_lockNext_16 rfl ?_
    refine ww_getR hX f_X12_187 (Or.inr ⟨_, rfl⟩) dX12_lockNext_17 ?_
    refine ww_bdR (fun o2 => ?_)
    refine ww_bipush (v := 61) hX rfl dX12_lockNext_20 ?_
    refine ww_aload_n hX 0 rfl dX12_lockNext_22 rfl ?_
    refine ww_getI hX f_X12_544 (Or.inl rfl) dX12_lockNext_23 ?_
    refine ww_imul hX dX12_lockNext_26 ?_
    refine ww_aload_n hX 0 rfl dX12_lockNext_27 rfl ?_
    refine ww_pc (b := 28) rfl ?_
    refine ww_getI hX f_X12_547 (Or.inl rfl) dX12_lockNext_28 ?_
    refine ww_iadd hX dX12_lockNext_31 ?_
    refine ww_ialdc hX k_iald dX12_lockNext_32 ?_
    refine ww_goto (tgt := 37) hX dX12_lockNext_33 (by decide) ?_
    exact ww_sub [] rfl (t_X12_lockNext_37 B fu  (gI st o2 (ix ((61 * (gI st th 72)) + (gI st th 71)))) st)
theorem c_X12_lockNext (G : GX) (l : Launch) (fu : Nat) (th : Nat) (st : St) : MI G NN l yX12_lockNext cX12_lockNext 1 (some .int) 1 [.ref (G.2.2.1 + th)] st (f_X12_lockNext fu th st) := mkI (by decide) (Nat.le_of_ble_eq_true rfl) (fun X res hl hG B => by subst hl; subst hG; exact t_X12_lockNext B fu th st)
/-! StageHouseModel.lockNumber()I -/
def f_X12_lockNumber (fu : Nat) (th : Nat) (st : St) : Option (Int32 × St) :=
  ck (¬ gR st th 70 = 0) <|
  ck ((kd th).1 = 12) <|
  bd (gR st th 70) fun o1 =>
  ck ((kd th).1 = 12) <|
  ck ((kd th).1 = 12) <|
  ck ((kd o1).1 = 103 ∧ inb ((61 * (gI st th 72)) + (gI st th 71)) (kd o1).2) <|
  bd ((gL st o1 (ix ((61 * (gI st th 72)) + (gI st th 71)))).toInt32) fun v2 =>
  ck ((kd th).1 = 12) <|
  ck ((kd th).1 = 12) <|
  bd (sI st th 71 ((gI st th 71) + 1)) fun s3 =>
  some (v2, s3)
set_option maxHeartbeats 4000000 in
set_option maxRecDepth 100000 in
theorem t_X12_lockNumber {X : CX} {res : Int32 × St} (B : BI X cX12_lockNumber RX12 2 1 NN (some .int) res) (fu : Nat) (th : Nat) (st : St) : WW X res NN 0 [(0, .ref (x_b X + th))] [] st (f_X12_lockNumber fu th st) := by
  have hX := B.1
  have hL := B.2.1
  unfold f_X12_lockNumber
  refine ww_aload_n hX 0 rfl dX12_lockNumber_0 rfl ?_
  refine ww_getR hX f_X12_190 (Or.inr ⟨_, rfl⟩) dX12_lockNumber_1 ?_
  refine ww_bdR (fun o1 => ?_)
  refine ww_bipush (v := 61) hX rfl dX12_lockNumber_4 ?_
  refine ww_aload_n hX 0 rfl dX12_lockNumber_6 rfl ?_
  refine ww_getI hX f_X12_544 (Or.inl rfl) dX12_lockNumber_7 ?_
  refine ww_imul hX dX12_lockNumber_10 ?_
  refine ww_aload_n hX 0 rfl dX12_lockNumber_11 rfl ?_
  refine ww_pc (b := 12) rfl ?_
  refine ww_getI hX f_X12_547 (Or.inl rfl) dX12_lockNumber_12 ?_
  refine ww_iadd hX dX12_lockNumber_15 ?_
  refine ww_laldc hX k_lald dX12_lockNumber_16 ?_
  refine ww_l2i hX dX12_lockNumber_17 ?_
  refine ww_bdi (fun v2 => ?_)
  refine ww_istore_n (lv' := [(1, .int v2), (0, .ref (x_b X + th))]) hX hL dX12_lockNumber_18 rfl (by decide) rfl ?_
  refine ww_aload_n hX 1 rfl dX12_lockNumber_19 rfl ?_
  refine ww_dup hX rfl dX12_lockNumber_20 ?_
  refine ww_getI hX f_X12_547 (Or.inl rfl) dX12_lockNumber_21 ?_
  refine ww_pc (b := 24) rfl ?_
  refine ww_iconst (v := 1) hX rfl dX12_lockNumber_24 ?_
  refine ww_iadd hX dX12_lockNumber_25 ?_
  refine ww_putI hX f_X12_547 rfl dX12_lockNumber_26 ?_
  refine ww_bds (fun s3 => ?_)
  refine ww_iload_n hX 0 rfl dX12_lockNumber_29 rfl ?_
  exact ww_iret B dX12_lockNumber_30
theorem c_X12_lockNumber (G : GX) (l : Launch) (fu : Nat) (th : Nat) (st : St) : MI G NN l yX12_lockNumber cX12_lockNumber 2 (some .int) 1 [.ref (G.2.2.1 + th)] st (f_X12_lockNumber fu th st) := mkI (by decide) (Nat.le_of_ble_eq_true rfl) (fun X res hl hG B => by subst hl; subst hG; exact t_X12_lockNumber B fu th st)
/-! StageHouseModel.orOf()Z -/
/-! StageHouseModel.orOf()Z -/
def b_X12_orOf_42 (fu : Nat) (r_X12_orOf : Nat → St → Option (Int32 × St)) (r_X12_andOf : Nat → St → Option (Int32 × St)) (r_X12_notOf : Nat → St → Option (Int32 × St)) (k_5 : Nat → Int32 → St → Option (Int32 × St)) (x0 : Nat) (y0 : Int32) (st : St) : Option (Int32 × St) :=
  k_5 x0 y0  st
set_option maxHeartbeats 4000000 in
set_option maxRecDepth 100000 in
theorem t_X12_orOf_42 {X : CX} {d : Nat} {res : Int32 × St} (B : BI X cX12_orOf RX12 3 (5 + (d + 1)) NN (some .boolean) res) (fu : Nat) (r_X12_orOf : Nat → St → Option (Int32 × St)) (r_X12_andOf : Nat → St → Option (Int32 × St)) (r_X12_notOf : Nat → St → Option (Int32 × St)) (h_X12_orOf : ∀ (th : Nat) (st : St), MI (x_G X) NN (x_l X) yX12_orOf cX12_orOf 3 (some .boolean) (5 + d) [.ref (x_b X + th)] st (r_X12_orOf th st)) (h_X12_andOf : ∀ (th : Nat) (st : St), MI (x_G X) NN (x_l X) yX12_andOf cX12_andOf 3 (some .boolean) (5 + d) [.ref (x_b X + th)] st (r_X12_andOf th st)) (h_X12_notOf : ∀ (th : Nat) (st : St), MI (x_G X) NN (x_l X) yX12_notOf cX12_notOf 7 (some .boolean) (5 + d) [.ref (x_b X + th)] st (r_X12_notOf th st)) (k_5 : Nat → Int32 → St → Option (Int32 × St)) (h_5 : ∀ (x0 : Nat) (x1 : Int32)  (st : St), WW X res NN 5 [(0, .ref (x_b X + x0)), (1, .int x1)] [] st (k_5 x0 x1 st)) (x0 : Nat) (y0 : Int32) (st : St) : WW X res NN 42 [(0, .ref (x_b X + x0))] [.int y0] st (b_X12_orOf_42 fu r_X12_orOf r_X12_andOf r_X12_notOf k_5 x0 y0 st) := by
  have hX := B.1
  have hL := B.2.1
  unfold b_X12_orOf_42
  refine ww_istore_n (lv' := [(1, .int y0), (0, .ref (x_b X + x0))]) hX hL dX12_orOf_42 rfl (by decide) rfl ?_
  refine ww_goto (tgt := 5) hX dX12_orOf_43 (by decide) ?_
  exact ww_sub [1, 0] rfl (h_5 x0 y0  st)
def b_X12_orOf_37 (fu : Nat) (r_X12_orOf : Nat → St → Option (Int32 × St)) (r_X12_andOf : Nat → St → Option (Int32 × St)) (r_X12_notOf : Nat → St → Option (Int32 × St)) (k_5 : Nat → Int32 → St → Option (Int32 × St)) (x0 : Nat)  (st : St) : Option (Int32 × St) :=
  b_X12_orOf_42 fu r_X12_orOf r_X12_andOf r_X12_notOf k_5 x0 1 st
set_option maxHeartbeats 4000000 in
set_option maxRecDepth 100000 in
theorem t_X12_orOf_37 {X : CX} {d : Nat} {res : Int32 × St} (B : BI X cX12_orOf RX12 3 (5 + (d + 1)) NN (some .boolean) res) (fu : Nat) (r_X12_orOf : Nat → St → Option (Int32 × St)) (r_X12_andOf : Nat → St → Option (Int32 × St)) (r_X12_notOf : Nat → St → Option (Int32 × St)) (h_X12_orOf : ∀ (th : Nat) (st : St), MI (x_G X) NN (x_l X) yX12_orOf cX12_orOf 3 (some .boolean) (5 + d) [.ref (x_b X + th)] st (r_X12_orOf th st)) (h_X12_andOf : ∀ (th : Nat) (st : St), MI (x_G X) NN (x_l X) yX12_andOf cX12_andOf 3 (some .boolean) (5 + d) [.ref (x_b X + th)] st (r_X12_andOf th st)) (h_X12_notOf : ∀ (th : Nat) (st : St), MI (x_G X) NN (x_l X) yX12_notOf cX12_notOf 7 (some .boolean) (5 + d) [.ref (x_b X + th)] st (r_X12_notOf th st)) (k_5 : Nat → Int32 → St → Option (Int32 × St)) (h_5 : ∀ (x0 : Nat) (x1 : Int32)  (st : St), WW X res NN 5 [(0, .ref (x_b X + x0)), (1, .int x1)] [] st (k_5 x0 x1 st)) (x0 : Nat)  (st : St) : WW X res NN 37 [(0, .ref (x_b X + x0))] [] st (b_X12_orOf_37 fu r_X12_orOf r_X12_andOf r_X12_notOf k_5 x0 st) := by
  have hX := B.1
  have hL := B.2.1
  unfold b_X12_orOf_37
  refine ww_iconst (v := 1) hX rfl dX12_orOf_37 ?_
  refine ww_goto (tgt := 42) hX dX12_orOf_38 (by decide) ?_
  exact t_X12_orOf_42 B fu r_X12_orOf r_X12_andOf r_X12_notOf h_X12_orOf h_X12_andOf h_X12_notOf k_5 h_5 x0 1 st
def b_X12_orOf_5_b (fu : Nat) (r_X12_orOf : Nat → St → Option (Int32 × St)) (r_X12_andOf : Nat → St → Option (Int32 × St)) (r_X12_notOf : Nat → St → Option (Int32 × St)) (k_5 : Nat → Int32 → St → Option (Int32 × St)) (x0 : Nat) (x1 : Int32)  (st : St) : Option (Int32 × St) :=
  ck ((kd x0).1 = 12) <|
  ca (f_X12_lockNext fu x0 st) fun r3 s4 =>
  if r3 = 124 then (
  ck ((kd x0).1 = 12) <|
  ck ((kd x0).1 = 12) <|
  bd (sI s4 x0 71 ((gI s4 x0 71) + 1)) fun s5 =>
  ck ((kd x0).1 = 12) <|
  ca (r_X12_andOf x0 s5) fun r6 s7 =>
  if x1 = 0 then (
  if r6 = 0 then (
  b_X12_orOf_42 fu r_X12_orOf r_X12_andOf r_X12_notOf k_5 x0 0 s7)
  else (
  b_X12_orOf_37 fu r_X12_orOf r_X12_andOf r_X12_notOf k_5 x0  s7))
  else (
  b_X12_orOf_37 fu r_X12_orOf r_X12_andOf r_X12_notOf k_5 x0  s7))
  else (
  ck (isb x1) (some (x1, s4)))
set_option maxHeartbeats 4000000 in
set_option maxRecDepth 100000 in
theorem t_X12_orOf_5_b {X : CX} {d : Nat} {res : Int32 × St} (B : BI X cX12_orOf RX12 3 (5 + (d + 1)) NN (some .boolean) res) (fu : Nat) (r_X12_orOf : Nat → St → Option (Int32 × St)) (r_X12_andOf : Nat → St → Option (Int32 × St)) (r_X12_notOf : Nat → St → Option (Int32 × St)) (h_X12_orOf : ∀ (th : Nat) (st : St), MI (x_G X) NN (x_l X) yX12_orOf cX12_orOf 3 (some .boolean) (5 + d) [.ref (x_b X + th)] st (r_X12_orOf th st)) (h_X12_andOf : ∀ (th : Nat) (st : St), MI (x_G X) NN (x_l X) yX12_andOf cX12_andOf 3 (some .boolean) (5 + d) [.ref (x_b X + th)] st (r_X12_andOf th st)) (h_X12_notOf : ∀ (th : Nat) (st : St), MI (x_G X) NN (x_l X) yX12_notOf cX12_notOf 7 (some .boolean) (5 + d) [.ref (x_b X + th)] st (r_X12_notOf th st)) (k_5 : Nat → Int32 → St → Option (Int32 × St)) (h_5 : ∀ (x0 : Nat) (x1 : Int32)  (st : St), WW X res NN 5 [(0, .ref (x_b X + x0)), (1, .int x1)] [] st (k_5 x0 x1 st)) (x0 : Nat) (x1 : Int32)  (st : St) : WW X res NN 5 [(0, .ref (x_b X + x0)), (1, .int x1)] [] st (b_X12_orOf_5_b fu r_X12_orOf r_X12_andOf r_X12_notOf k_5 x0 x1 st) := by
  have hX := B.1
  have hL := B.2.1
  unfold b_X12_orOf_5_b
  refine ww_aload_n hX 0 rfl dX12_orOf_5 rfl ?_
  refine ww_callVI (As := []) (rest := []) (o := x0) hX (Rk.of B.2.2.1 B.2.2.2.1 (by omega) (by decide)) g_X12_556 g_X12_556.in (fun _ => c_X12_lockNext (x_G X) (x_l X) fu x0 st) rfl rfl (Nat.le_of_ble_eq_true rfl) dX12_orOf_6 (fun r3 s4 => ?_)
  refine ww_bipush (v := 124) hX rfl dX12_orOf_9 ?_
  refine ww_icmp_ne (tgt := 46) hX dX12_orOf_11 (by decide) ?_ ?_
  · refine ww_iload_n hX 1 rfl dX12_orOf_46 rfl ?_
    exact ww_zret B dX12_orOf_47
  · refine ww_aload_n hX 0 rfl dX12_orOf_14 rfl ?_
    refine ww_dup hX rfl dX12_orOf_15 ?_
    refine ww_getI hX f_X12_547 (Or.inl rfl) dX12_orOf_16 ?_
    refine ww_iconst (v := 1) hX rfl dX12_orOf_19 ?_
    refine ww_iadd hX dX12_orOf_20 ?_
    refine ww_putI hX f_X12_547 rfl dX12_orOf_21 ?_
    refine ww_bds (fun s5 => ?_)
    refine ww_aload_n hX 0 rfl dX12_orOf_24 rfl ?_
    refine ww_pc (b := 25) rfl ?_
    refine ww_callVI (As := []) (rest := []) (o := x0) hX (Rk.of B.2.2.1 B.2.2.2.1 (by omega) (by decide)) g_X12_553 g_X12_553.in (fun _ => h_X12_andOf x0 s5) rfl rfl (Nat.le_of_ble_eq_true rfl) dX12_orOf_25 (fun r6 s7 => ?_)
    refine ww_istore_n (lv' := [(2, .int r6), (0, .ref (x_b X + x0)), (1, .int x1)]) hX hL dX12_orOf_28 rfl (by decide) rfl ?_
    refine ww_iload_n hX 2 rfl dX12_orOf_29 rfl ?_
    refine ww_if_ne (tgt := 37) hX dX12_orOf_30 (by decide) ?_ ?_
    · exact ww_sub [1] rfl (t_X12_orOf_37 B fu r_X12_orOf r_X12_andOf r_X12_notOf h_X12_orOf h_X12_andOf h_X12_notOf k_5 h_5 x0  s7)
    · refine ww_iload_n hX 0 rfl dX12_orOf_33 rfl ?_
      refine ww_if_eq (tgt := 41) hX dX12_orOf_34 (by decide) ?_ ?_
      · refine ww_iconst (v := 0) hX rfl dX12_orOf_41 ?_
        exact ww_sub [1] rfl (t_X12_orOf_42 B fu r_X12_orOf r_X12_andOf r_X12_notOf h_X12_orOf h_X12_andOf h_X12_notOf k_5 h_5 x0 0 s7)
      · exact ww_sub [1] rfl (t_X12_orOf_37 B fu r_X12_orOf r_X12_andOf r_X12_notOf h_X12_orOf h_X12_andOf h_X12_notOf k_5 h_5 x0  s7)
def b_X12_orOf_5 (fu : Nat) (r_X12_orOf : Nat → St → Option (Int32 × St)) (r_X12_andOf : Nat → St → Option (Int32 × St)) (r_X12_notOf : Nat → St → Option (Int32 × St)) : Nat → Nat → Int32 → St → Option (Int32 × St)
  | 0, _, _, _ => none
  | i + 1, x0, x1, st => b_X12_orOf_5_b fu r_X12_orOf r_X12_andOf r_X12_notOf (b_X12_orOf_5 fu r_X12_orOf r_X12_andOf r_X12_notOf i) x0 x1 st
theorem t_X12_orOf_5 {X : CX} {d : Nat} {res : Int32 × St} (B : BI X cX12_orOf RX12 3 (5 + (d + 1)) NN (some .boolean) res) (fu : Nat) (r_X12_orOf : Nat → St → Option (Int32 × St)) (r_X12_andOf : Nat → St → Option (Int32 × St)) (r_X12_notOf : Nat → St → Option (Int32 × St)) (h_X12_orOf : ∀ (th : Nat) (st : St), MI (x_G X) NN (x_l X) yX12_orOf cX12_orOf 3 (some .boolean) (5 + d) [.ref (x_b X + th)] st (r_X12_orOf th st)) (h_X12_andOf : ∀ (th : Nat) (st : St), MI (x_G X) NN (x_l X) yX12_andOf cX12_andOf 3 (some .boolean) (5 + d) [.ref (x_b X + th)] st (r_X12_andOf th st)) (h_X12_notOf : ∀ (th : Nat) (st : St), MI (x_G X) NN (x_l X) yX12_notOf cX12_notOf 7 (some .boolean) (5 + d) [.ref (x_b X + th)] st (r_X12_notOf th st)) : ∀ (i : Nat) (x0 : Nat) (x1 : Int32)  (st : St), WW X res NN 5 [(0, .ref (x_b X + x0)), (1, .int x1)] [] st (b_X12_orOf_5 fu r_X12_orOf r_X12_andOf r_X12_notOf i x0 x1 st) := by
  intro i
  induction i with
  | zero => intro x0 x1 st; exact ww_none
  | succ i ih => intro x0 x1 st; exact t_X12_orOf_5_b B fu r_X12_orOf r_X12_andOf r_X12_notOf h_X12_orOf h_X12_andOf h_X12_notOf (b_X12_orOf_5 fu r_X12_orOf r_X12_andOf r_X12_notOf i) ih x0 x1 st
def fb_X12_orOf (fu : Nat) (r_X12_orOf : Nat → St → Option (Int32 × St)) (r_X12_andOf : Nat → St → Option (Int32 × St)) (r_X12_notOf : Nat → St → Option (Int32 × St)) (th : Nat) (st : St) : Option (Int32 × St) :=
  ck ((kd th).1 = 12) <|
  ca (r_X12_andOf th st) fun r1 s2 =>
  b_X12_orOf_5 fu r_X12_orOf r_X12_andOf r_X12_notOf fu th r1  s2
set_option maxHeartbeats 4000000 in
set_option maxRecDepth 100000 in
theorem t_X12_orOf {X : CX} {d : Nat} {res : Int32 × St} (B : BI X cX12_orOf RX12 3 (5 + (d + 1)) NN (some .boolean) res) (fu : Nat) (r_X12_orOf : Nat → St → Option (Int32 × St)) (r_X12_andOf : Nat → St → Option (Int32 × St)) (r_X12_notOf : Nat → St → Option (Int32 × St)) (h_X12_orOf : ∀ (th : Nat) (st : St), MI (x_G X) NN (x_l X) yX12_orOf cX12_orOf 3 (some .boolean) (5 + d) [.ref (x_b X + th)] st (r_X12_orOf th st)) (h_X12_andOf : ∀ (th : Nat) (st : St), MI (x_G X) NN (x_l X) yX12_andOf cX12_andOf 3 (some .boolean) (5 + d) [.ref (x_b X + th)] st (r_X12_andOf th st)) (h_X12_notOf : ∀ (th : Nat) (st : St), MI (x_G X) NN (x_l X) yX12_notOf cX12_notOf 7 (some .boolean) (5 + d) [.ref (x_b X + th)] st (r_X12_notOf th st)) (th : Nat) (st : St) : WW X res NN 0 [(0, .ref (x_b X + th))] [] st (fb_X12_orOf fu r_X12_orOf r_X12_andOf r_X12_notOf th st) := by
  have hX := B.1
  have hL := B.2.1
  unfold fb_X12_orOf
  refine ww_aload_n hX 0 rfl dX12_orOf_0 rfl ?_
  refine ww_callVI (As := []) (rest := []) (o := th) hX (Rk.of B.2.2.1 B.2.2.2.1 (by omega) (by decide)) g_X12_553 g_X12_553.in (fun _ => h_X12_andOf th st) rfl rfl (Nat.le_of_ble_eq_true rfl) dX12_orOf_1 (fun r1 s2 => ?_)
  refine ww_istore_n (lv' := [(1, .int r1), (0, .ref (x_b X + th))]) hX hL dX12_orOf_4 rfl (by decide) rfl ?_
  exact ww_sub [1, 0] rfl (t_X12_orOf_5 B fu r_X12_orOf r_X12_andOf r_X12_notOf h_X12_orOf h_X12_andOf h_X12_notOf fu th r1  s2)
/-! StageHouseModel.andOf()Z -/
def b_X12_andOf_42 (fu : Nat) (r_X12_orOf : Nat → St → Option (Int32 × St)) (r_X12_andOf : Nat → St → Option (Int32 × St)) (r_X12_notOf : Nat → St → Option (Int32 × St)) (k_5 : Nat → Int32 → St → Option (Int32 × St)) (x0 : Nat) (y0 : Int32) (st : St) : Option (Int32 × St) :=
  k_5 x0 y0  st
set_option maxHeartbeats 4000000 in
set_option maxRecDepth 100000 in
theorem t_X12_andOf_42 {X : CX} {d : Nat} {res : Int32 × St} (B : BI X cX12_andOf RX12 3 (5 + (d + 1)) NN (some .boolean) res) (fu : Nat) (r_X12_orOf : Nat → St → Option (Int32 × St)) (r_X12_andOf : Nat → St → Option (Int32 × St)) (r_X12_notOf : Nat → St → Option (Int32 × St)) (h_X12_orOf : ∀ (th : Nat) (st : St), MI (x_G X) NN (x_l X) yX12_orOf cX12_orOf 3 (some .boolean) (5 + d) [.ref (x_b X + th)] st (r_X12_orOf th st)) (h_X12_andOf : ∀ (th : Nat) (st : St), MI (x_G X) NN (x_l X) yX12_andOf cX12_andOf 3 (some .boolean) (5 + d) [.ref (x_b X + th)] st (r_X12_andOf th st)) (h_X12_notOf : ∀ (th : Nat) (st : St), MI (x_G X) NN (x_l X) yX12_notOf cX12_notOf 7 (some .boolean) (5 + d) [.ref (x_b X + th)] st (r_X12_notOf th st)) (k_5 : Nat → Int32 → St → Option (Int32 × St)) (h_5 : ∀ (x0 : Nat) (x1 : Int32)  (st : St), WW X res NN 5 [(0, .ref (x_b X + x0)), (1, .int x1)] [] st (k_5 x0 x1 st)) (x0 : Nat) (y0 : Int32) (st : St) : WW X res NN 42 [(0, .ref (x_b X + x0))] [.int y0] st (b_X12_andOf_42 fu r_X12_orOf r_X12_andOf r_X12_notOf k_5 x0 y0 st) := by
  have hX := B.1
  have hL := B.2.1
  unfold b_X12_andOf_42
  refine ww_istore_n (lv' := [(1, .int y0), (0, .ref (x_b X + x0))]) hX hL dX12_andOf_42 rfl (by decide) rfl ?_
  refine ww_goto (tgt := 5) hX dX12_andOf_43 (by decide) ?_
  exact ww_sub [1, 0] rfl (h_5 x0 y0  st)
def b_X12_andOf_41 (fu : Nat) (r_X12_orOf : Nat → St → Option (Int32 × St)) (r_X12_andOf : Nat → St → Option (Int32 × St)) (r_X12_notOf : Nat → St → Option (Int32 × St)) (k_5 : Nat → Int32 → St → Option (Int32 × St)) (x0 : Nat)  (st : St) : Option (Int32 × St) :=
  b_X12_andOf_42 fu r_X12_orOf r_X12_andOf r_X12_notOf k_5 x0 0 st
set_option maxHeartbeats 4000000 in
set_option maxRecDepth 100000 in
theorem t_X12_andOf_41 {X : CX} {d : Nat} {res : Int32 × St} (B : BI X cX12_andOf RX12 3 (5 + (d + 1)) NN (some .boolean) res) (fu : Nat) (r_X12_orOf : Nat → St → Option (Int32 × St)) (r_X12_andOf : Nat → St → Option (Int32 × St)) (r_X12_notOf : Nat → St → Option (Int32 × St)) (h_X12_orOf : ∀ (th : Nat) (st : St), MI (x_G X) NN (x_l X) yX12_orOf cX12_orOf 3 (some .boolean) (5 + d) [.ref (x_b X + th)] st (r_X12_orOf th st)) (h_X12_andOf : ∀ (th : Nat) (st : St), MI (x_G X) NN (x_l X) yX12_andOf cX12_andOf 3 (some .boolean) (5 + d) [.ref (x_b X + th)] st (r_X12_andOf th st)) (h_X12_notOf : ∀ (th : Nat) (st : St), MI (x_G X) NN (x_l X) yX12_notOf cX12_notOf 7 (some .boolean) (5 + d) [.ref (x_b X + th)] st (r_X12_notOf th st)) (k_5 : Nat → Int32 → St → Option (Int32 × St)) (h_5 : ∀ (x0 : Nat) (x1 : Int32)  (st : St), WW X res NN 5 [(0, .ref (x_b X + x0)), (1, .int x1)] [] st (k_5 x0 x1 st)) (x0 : Nat)  (st : St) : WW X res NN 41 [(0, .ref (x_b X + x0))] [] st (b_X12_andOf_41 fu r_X12_orOf r_X12_andOf r_X12_notOf k_5 x0 st) := by
  have hX := B.1
  have hL := B.2.1
  unfold b_X12_andOf_41
  refine ww_iconst (v := 0) hX rfl dX12_andOf_41 ?_
  exact t_X12_andOf_42 B fu r_X12_orOf r_X12_andOf r_X12_notOf h_X12_orOf h_X12_andOf h_X12_notOf k_5 h_5 x0 0 st
def b_X12_andOf_5_b (fu : Nat) (r_X12_orOf : Nat → St → Option (Int32 × St)) (r_X12_andOf : Nat → St → Option (Int32 × St)) (r_X12_notOf : Nat → St → Option (Int32 × St)) (k_5 : Nat → Int32 → St → Option (Int32 × St)) (x0 : Nat) (x1 : Int32)  (st : St) : Option (Int32 × St) :=
  ck ((kd x0).1 = 12) <|
  ca (f_X12_lockNext fu x0 st) fun r3 s4 =>
  if r3 = 38 then (
  ck ((kd x0).1 = 12) <|
  ck ((kd x0).1 = 12) <|
  bd (sI s4 x0 71 ((gI s4 x0 71) + 1)) fun s5 =>
  ck ((kd x0).1 = 12) <|
  ca (r_X12_notOf x0 s5) fun r6 s7 =>
  if x1 = 0 then (
  b_X12_andOf_41 fu r_X12_orOf r_X12_andOf r_X12_notOf k_5 x0  s7)
  else (
  if r6 = 0 then (
  b_X12_andOf_41 fu r_X12_orOf r_X12_andOf r_X12_notOf k_5 x0  s7)
  else (
  b_X12_andOf_42 fu r_X12_orOf r_X12_andOf r_X12_notOf k_5 x0 1 s7)))
  else (
  ck (isb x1) (some (x1, s4)))
set_option maxHeartbeats 4000000 in
set_option maxRecDepth 100000 in
theorem t_X12_andOf_5_b {X : CX} {d : Nat} {res : Int32 × St} (B : BI X cX12_andOf RX12 3 (5 + (d + 1)) NN (some .boolean) res) (fu : Nat) (r_X12_orOf : Nat → St → Option (Int32 × St)) (r_X12_andOf : Nat → St → Option (Int32 × St)) (r_X12_notOf : Nat → St → Option (Int32 × St)) (h_X12_orOf : ∀ (th : Nat) (st : St), MI (x_G X) NN (x_l X) yX12_orOf cX12_orOf 3 (some .boolean) (5 + d) [.ref (x_b X + th)] st (r_X12_orOf th st)) (h_X12_andOf : ∀ (th : Nat) (st : St), MI (x_G X) NN (x_l X) yX12_andOf cX12_andOf 3 (some .boolean) (5 + d) [.ref (x_b X + th)] st (r_X12_andOf th st)) (h_X12_notOf : ∀ (th : Nat) (st : St), MI (x_G X) NN (x_l X) yX12_notOf cX12_notOf 7 (some .boolean) (5 + d) [.ref (x_b X + th)] st (r_X12_notOf th st)) (k_5 : Nat → Int32 → St → Option (Int32 × St)) (h_5 : ∀ (x0 : Nat) (x1 : Int32)  (st : St), WW X res NN 5 [(0, .ref (x_b X + x0)), (1, .int x1)] [] st (k_5 x0 x1 st)) (x0 : Nat) (x1 : Int32)  (st : St) : WW X res NN 5 [(0, .ref (x_b X + x0)), (1, .int x1)] [] st (b_X12_andOf_5_b fu r_X12_orOf r_X12_andOf r_X12_notOf k_5 x0 x1 st) := by
  have hX := B.1
  have hL := B.2.1
  unfold b_X12_andOf_5_b
  refine ww_aload_n hX 0 rfl dX12_andOf_5 rfl ?_
  refine ww_callVI (As := []) (rest := []) (o := x0) hX (Rk.of B.2.2.1 B.2.2.2.1 (by omega) (by decide)) g_X12_556 g_X12_556.in (fun _ => c_X12_lockNext (x_G X) (x_l X) fu x0 st) rfl rfl (Nat.le_of_ble_eq_true rfl) dX12_andOf_6 (fun r3 s4 => ?_)
  refine ww_bipush (v := 38) hX rfl dX12_andOf_9 ?_
  refine ww_icmp_ne (tgt := 46) hX dX12_andOf_11 (by decide) ?_ ?_
  · refine ww_iload_n hX 1 rfl dX12_andOf_46 rfl ?_
    exact ww_zret B dX12_andOf_47
  · refine ww_aload_n hX 0 rfl dX12_andOf_14 rfl ?_
    refine ww_dup hX rfl dX12_andOf_15 ?_
    refine ww_getI hX f_X12_547 (Or.inl rfl) dX12_andOf_16 ?_
    refine ww_iconst (v := 1) hX rfl dX12_andOf_19 ?_
    refine ww_iadd hX dX12_andOf_20 ?_
    refine ww_putI hX f_X12_547 rfl dX12_andOf_21 ?_
    refine ww_bds (fun s5 => ?_)
    refine ww_aload_n hX 0 rfl dX12_andOf_24 rfl ?_
    refine ww_pc (b := 25) rfl ?_
    refine ww_callVI (As := []) (rest := []) (o := x0) hX (Rk.of B.2.2.1 B.2.2.2.1 (by omega) (by decide)) g_X12_559 g_X12_559.in (fun _ => h_X12_notOf x0 s5) rfl rfl (Nat.le_of_ble_eq_true rfl) dX12_andOf_25 (fun r6 s7 => ?_)
    refine ww_istore_n (lv' := [(2, .int r6), (0, .ref (x_b X + x0)), (1, .int x1)]) hX hL dX12_andOf_28 rfl (by decide) rfl ?_
    refine ww_iload_n hX 2 rfl dX12_andOf_29 rfl ?_
    refine ww_if_eq (tgt := 41) hX dX12_andOf_30 (by decide) ?_ ?_
    · exact ww_sub [1] rfl (t_X12_andOf_41 B fu r_X12_orOf r_X12_andOf r_X12_notOf h_X12_orOf h_X12_andOf h_X12_notOf k_5 h_5 x0  s7)
    · refine ww_iload_n hX 0 rfl dX12_andOf_33 rfl ?_
      refine ww_if_eq (tgt := 41) hX dX12_andOf_34 (by decide) ?_ ?_
      · exact ww_sub [1] rfl (t_X12_andOf_41 B fu r_X12_orOf r_X12_andOf r_X12_notOf h_X12_orOf h_X12_andOf h_X12_notOf k_5 h_5 x0  s7)
      · refine ww_iconst (v := 1) hX rfl dX12_andOf_37 ?_
        refine ww_goto (tgt := 42) hX dX12_andOf_38 (by decide) ?_
        exact ww_sub [1] rfl (t_X12_andOf_42 B fu r_X12_orOf r_X12_andOf r_X12_notOf h_X12_orOf h_X12_andOf h_X12_notOf k_5 h_5 x0 1 s7)
def b_X12_andOf_5 (fu : Nat) (r_X12_orOf : Nat → St → Option (Int32 × St)) (r_X12_andOf : Nat → St → Option (Int32 × St)) (r_X12_notOf : Nat → St → Option (Int32 × St)) : Nat → Nat → Int32 → St → Option (Int32 × St)
  | 0, _, _, _ => none
  | i + 1, x0, x1, st => b_X12_andOf_5_b fu r_X12_orOf r_X12_andOf r_X12_notOf (b_X12_andOf_5 fu r_X12_orOf r_X12_andOf r_X12_notOf i) x0 x1 st
theorem t_X12_andOf_5 {X : CX} {d : Nat} {res : Int32 × St} (B : BI X cX12_andOf RX12 3 (5 + (d + 1)) NN (some .boolean) res) (fu : Nat) (r_X12_orOf : Nat → St → Option (Int32 × St)) (r_X12_andOf : Nat → St → Option (Int32 × St)) (r_X12_notOf : Nat → St → Option (Int32 × St)) (h_X12_orOf : ∀ (th : Nat) (st : St), MI (x_G X) NN (x_l X) yX12_orOf cX12_orOf 3 (some .boolean) (5 + d) [.ref (x_b X + th)] st (r_X12_orOf th st)) (h_X12_andOf : ∀ (th : Nat) (st : St), MI (x_G X) NN (x_l X) yX12_andOf cX12_andOf 3 (some .boolean) (5 + d) [.ref (x_b X + th)] st (r_X12_andOf th st)) (h_X12_notOf : ∀ (th : Nat) (st : St), MI (x_G X) NN (x_l X) yX12_notOf cX12_notOf 7 (some .boolean) (5 + d) [.ref (x_b X + th)] st (r_X12_notOf th st)) : ∀ (i : Nat) (x0 : Nat) (x1 : Int32)  (st : St), WW X res NN 5 [(0, .ref (x_b X + x0)), (1, .int x1)] [] st (b_X12_andOf_5 fu r_X12_orOf r_X12_andOf r_X12_notOf i x0 x1 st) := by
  intro i
  induction i with
  | zero => intro x0 x1 st; exact ww_none
  | succ i ih => intro x0 x1 st; exact t_X12_andOf_5_b B fu r_X12_orOf r_X12_andOf r_X12_notOf h_X12_orOf h_X12_andOf h_X12_notOf (b_X12_andOf_5 fu r_X12_orOf r_X12_andOf r_X12_notOf i) ih x0 x1 st
def fb_X12_andOf (fu : Nat) (r_X12_orOf : Nat → St → Option (Int32 × St)) (r_X12_andOf : Nat → St → Option (Int32 × St)) (r_X12_notOf : Nat → St → Option (Int32 × St)) (th : Nat) (st : St) : Option (Int32 × St) :=
  ck ((kd th).1 = 12) <|
  ca (r_X12_notOf th st) fun r1 s2 =>
  b_X12_andOf_5 fu r_X12_orOf r_X12_andOf r_X12_notOf fu th r1  s2
set_option maxHeartbeats 4000000 in
set_option maxRecDepth 100000 in
theorem t_X12_andOf {X : CX} {d : Nat} {res : Int32 × St} (B : BI X cX12_andOf RX12 3 (5 + (d + 1)) NN (some .boolean) res) (fu : Nat) (r_X12_orOf : Nat → St → Option (Int32 × St)) (r_X12_andOf : Nat → St → Option (Int32 × St)) (r_X12_notOf : Nat → St → Option (Int32 × St)) (h_X12_orOf : ∀ (th : Nat) (st : St), MI (x_G X) NN (x_l X) yX12_orOf cX12_orOf 3 (some .boolean) (5 + d) [.ref (x_b X + th)] st (r_X12_orOf th st)) (h_X12_andOf : ∀ (th : Nat) (st : St), MI (x_G X) NN (x_l X) yX12_andOf cX12_andOf 3 (some .boolean) (5 + d) [.ref (x_b X + th)] st (r_X12_andOf th st)) (h_X12_notOf : ∀ (th : Nat) (st : St), MI (x_G X) NN (x_l X) yX12_notOf cX12_notOf 7 (some .boolean) (5 + d) [.ref (x_b X + th)] st (r_X12_notOf th st)) (th : Nat) (st : St) : WW X res NN 0 [(0, .ref (x_b X + th))] [] st (fb_X12_andOf fu r_X12_orOf r_X12_andOf r_X12_notOf th st) := by
  have hX := B.1
  have hL := B.2.1
  unfold fb_X12_andOf
  refine ww_aload_n hX 0 rfl dX12_andOf_0 rfl ?_
  refine ww_callVI (As := []) (rest := []) (o := th) hX (Rk.of B.2.2.1 B.2.2.2.1 (by omega) (by decide)) g_X12_559 g_X12_559.in (fun _ => h_X12_notOf th st) rfl rfl (Nat.le_of_ble_eq_true rfl) dX12_andOf_1 (fun r1 s2 => ?_)
  refine ww_istore_n (lv' := [(1, .int r1), (0, .ref (x_b X + th))]) hX hL dX12_andOf_4 rfl (by decide) rfl ?_
  exact ww_sub [1, 0] rfl (t_X12_andOf_5 B fu r_X12_orOf r_X12_andOf r_X12_notOf h_X12_orOf h_X12_andOf h_X12_notOf fu th r1  s2)
/-! StageHouseModel.notOf()Z -/
def b_X12_notOf_225 (fu : Nat) (r_X12_orOf : Nat → St → Option (Int32 × St)) (r_X12_andOf : Nat → St → Option (Int32 × St)) (r_X12_notOf : Nat → St → Option (Int32 × St))  (y0 : Int32) (st : St) : Option (Int32 × St) :=
  ck (isb y0) (some (y0, st))
set_option maxHeartbeats 4000000 in
set_option maxRecDepth 100000 in
theorem t_X12_notOf_225 {X : CX} {d : Nat} {res : Int32 × St} (B : BI X cX12_notOf RX12 7 (5 + (d + 1)) NN (some .boolean) res) (fu : Nat) (r_X12_orOf : Nat → St → Option (Int32 × St)) (r_X12_andOf : Nat → St → Option (Int32 × St)) (r_X12_notOf : Nat → St → Option (Int32 × St)) (h_X12_orOf : ∀ (th : Nat) (st : St), MI (x_G X) NN (x_l X) yX12_orOf cX12_orOf 3 (some .boolean) (5 + d) [.ref (x_b X + th)] st (r_X12_orOf th st)) (h_X12_andOf : ∀ (th : Nat) (st : St), MI (x_G X) NN (x_l X) yX12_andOf cX12_andOf 3 (some .boolean) (5 + d) [.ref (x_b X + th)] st (r_X12_andOf th st)) (h_X12_notOf : ∀ (th : Nat) (st : St), MI (x_G X) NN (x_l X) yX12_notOf cX12_notOf 7 (some .boolean) (5 + d) [.ref (x_b X + th)] st (r_X12_notOf th st))  (y0 : Int32) (st : St) : WW X res NN 225 [] [.int y0] st (b_X12_notOf_225 fu r_X12_orOf r_X12_andOf r_X12_notOf y0 st) := by
  have hX := B.1
  have hL := B.2.1
  unfold b_X12_notOf_225
  exact ww_zret B dX12_notOf_225
def b_X12_notOf_224 (fu : Nat) (r_X12_orOf : Nat → St → Option (Int32 × St)) (r_X12_andOf : Nat → St → Option (Int32 × St)) (r_X12_notOf : Nat → St → Option (Int32 × St))   (st : St) : Option (Int32 × St) :=
  b_X12_notOf_225 fu r_X12_orOf r_X12_andOf r_X12_notOf  0 st
set_option maxHeartbeats 4000000 in
set_option maxRecDepth 100000 in
theorem t_X12_notOf_224 {X : CX} {d : Nat} {res : Int32 × St} (B : BI X cX12_notOf RX12 7 (5 + (d + 1)) NN (some .boolean) res) (fu : Nat) (r_X12_orOf : Nat → St → Option (Int32 × St)) (r_X12_andOf : Nat → St → Option (Int32 × St)) (r_X12_notOf : Nat → St → Option (Int32 × St)) (h_X12_orOf : ∀ (th : Nat) (st : St), MI (x_G X) NN (x_l X) yX12_orOf cX12_orOf 3 (some .boolean) (5 + d) [.ref (x_b X + th)] st (r_X12_orOf th st)) (h_X12_andOf : ∀ (th : Nat) (st : St), MI (x_G X) NN (x_l X) yX12_andOf cX12_andOf 3 (some .boolean) (5 + d) [.ref (x_b X + th)] st (r_X12_andOf th st)) (h_X12_notOf : ∀ (th : Nat) (st : St), MI (x_G X) NN (x_l X) yX12_notOf cX12_notOf 7 (some .boolean) (5 + d) [.ref (x_b X + th)] st (r_X12_notOf th st))   (st : St) : WW X res NN 224 [] [] st (b_X12_notOf_224 fu r_X12_orOf r_X12_andOf r_X12_notOf  st) := by
  have hX := B.1
  have hL := B.2.1
  unfold b_X12_notOf_224
  refine ww_iconst (v := 0) hX rfl dX12_notOf_224 ?_
  exact t_X12_notOf_225 B fu r_X12_orOf r_X12_andOf r_X12_notOf h_X12_orOf h_X12_andOf h_X12_notOf  0 st
def b_X12_notOf_220 (fu : Nat) (r_X12_orOf : Nat → St → Option (Int32 × St)) (r_X12_andOf : Nat → St → Option (Int32 × St)) (r_X12_notOf : Nat → St → Option (Int32 × St))   (st : St) : Option (Int32 × St) :=
  b_X12_notOf_225 fu r_X12_orOf r_X12_andOf r_X12_notOf  1 st
set_option maxHeartbeats 4000000 in
set_option maxRecDepth 100000 in
theorem t_X12_notOf_220 {X : CX} {d : Nat} {res : Int32 × St} (B : BI X cX12_notOf RX12 7 (5 + (d + 1)) NN (some .boolean) res) (fu : Nat) (r_X12_orOf : Nat → St → Option (Int32 × St)) (r_X12_andOf : Nat → St → Option (Int32 × St)) (r_X12_notOf : Nat → St → Option (Int32 × St)) (h_X12_orOf : ∀ (th : Nat) (st : St), MI (x_G X) NN (x_l X) yX12_orOf cX12_orOf 3 (some .boolean) (5 + d) [.ref (x_b X + th)] st (r_X12_orOf th st)) (h_X12_andOf : ∀ (th : Nat) (st : St), MI (x_G X) NN (x_l X) yX12_andOf cX12_andOf 3 (some .boolean) (5 + d) [.ref (x_b X + th)] st (r_X12_andOf th st)) (h_X12_notOf : ∀ (th : Nat) (st : St), MI (x_G X) NN (x_l X) yX12_notOf cX12_notOf 7 (some .boolean) (5 + d) [.ref (x_b X + th)] st (r_X12_notOf th st))   (st : St) : WW X res NN 220 [] [] st (b_X12_notOf_220 fu r_X12_orOf r_X12_andOf r_X12_notOf  st) := by
  have hX := B.1
  have hL := B.2.1
  unfold b_X12_notOf_220
  refine ww_iconst (v := 1) hX rfl dX12_notOf_220 ?_
  refine ww_goto (tgt := 225) hX dX12_notOf_221 (by decide) ?_
  exact t_X12_notOf_225 B fu r_X12_orOf r_X12_andOf r_X12_notOf h_X12_orOf h_X12_andOf h_X12_notOf  1 st
def b_X12_notOf_160 (fu : Nat) (r_X12_orOf : Nat → St → Option (Int32 × St)) (r_X12_andOf : Nat → St → Option (Int32 × St)) (r_X12_notOf : Nat → St → Option (Int32 × St)) (x0 : Nat) (x4 : Int32) (y0 : Int32) (st : St) : Option (Int32 × St) :=
  ck ((kd x0).1 = 12) <|
  ck ((kd x0).1 = 12) <|
  bd (sI st x0 71 ((gI st x0 71) + 1)) fun s14 =>
  ck ((kd x0).1 = 12) <|
  ca (f_X12_lockNumber fu x0 s14) fun r15 s16 =>
  ck (¬ gR s16 x0 54 = 0) <|
  ck ((kd x0).1 = 12) <|
  bd (gR s16 x0 54) fun o17 =>
  ck ((kd o17).1 = 102 ∧ inb x4 (kd o17).2) <|
  if (gI s16 o17 (ix x4)) = 0 then (
  b_X12_notOf_224 fu r_X12_orOf r_X12_andOf r_X12_notOf   s16)
  else (
  if y0 = 0 then (
  ck (¬ gR s16 x0 62 = 0) <|
  ck ((kd x0).1 = 12) <|
  bd (gR s16 x0 62) fun o18 =>
  ck ((kd o18).1 = 100 ∧ inb x4 (kd o18).2) <|
  if (gI s16 o18 (ix x4)) ≤ r15 then (
  b_X12_notOf_224 fu r_X12_orOf r_X12_andOf r_X12_notOf   s16)
  else (
  b_X12_notOf_220 fu r_X12_orOf r_X12_andOf r_X12_notOf   s16))
  else (
  ck (¬ gR s16 x0 62 = 0) <|
  ck ((kd x0).1 = 12) <|
  bd (gR s16 x0 62) fun o19 =>
  ck ((kd o19).1 = 100 ∧ inb x4 (kd o19).2) <|
  if r15 ≤ (gI s16 o19 (ix x4)) then (
  b_X12_notOf_224 fu r_X12_orOf r_X12_andOf r_X12_notOf   s16)
  else (
  b_X12_notOf_220 fu r_X12_orOf r_X12_andOf r_X12_notOf   s16)))
set_option maxHeartbeats 4000000 in
set_option maxRecDepth 100000 in
theorem t_X12_notOf_160 {X : CX} {d : Nat} {res : Int32 × St} (B : BI X cX12_notOf RX12 7 (5 + (d + 1)) NN (some .boolean) res) (fu : Nat) (r_X12_orOf : Nat → St → Option (Int32 × St)) (r_X12_andOf : Nat → St → Option (Int32 × St)) (r_X12_notOf : Nat → St → Option (Int32 × St)) (h_X12_orOf : ∀ (th : Nat) (st : St), MI (x_G X) NN (x_l X) yX12_orOf cX12_orOf 3 (some .boolean) (5 + d) [.ref (x_b X + th)] st (r_X12_orOf th st)) (h_X12_andOf : ∀ (th : Nat) (st : St), MI (x_G X) NN (x_l X) yX12_andOf cX12_andOf 3 (some .boolean) (5 + d) [.ref (x_b X + th)] st (r_X12_andOf th st)) (h_X12_notOf : ∀ (th : Nat) (st : St), MI (x_G X) NN (x_l X) yX12_notOf cX12_notOf 7 (some .boolean) (5 + d) [.ref (x_b X + th)] st (r_X12_notOf th st)) (x0 : Nat) (x4 : Int32) (y0 : Int32) (st : St) : WW X res NN 160 [(0, .ref (x_b X + x0)), (4, .int x4)] [.int y0] st (b_X12_notOf_160 fu r_X12_orOf r_X12_andOf r_X12_notOf x0 x4 y0 st) := by
  have hX := B.1
  have hL := B.2.1
  unfold b_X12_notOf_160
  refine ww_istore (lv' := [(5, .int y0), (0, .ref (x_b X + x0)), (4, .int x4)]) hX hL dX12_notOf_160 (by decide) rfl ?_
  refine ww_aload_n hX 1 rfl dX12_notOf_162 rfl ?_
  refine ww_dup hX rfl dX12_notOf_163 ?_
  refine ww_getI hX f_X12_547 (Or.inl rfl) dX12_notOf_164 ?_
  refine ww_iconst (v := 1) hX rfl dX12_notOf_167 ?_
  refine ww_iadd hX dX12_notOf_168 ?_
  refine ww_putI hX f_X12_547 rfl dX12_notOf_169 ?_
  refine ww_bds (fun s14 => ?_)
  refine ww_pc (b := 172) rfl ?_
  refine ww_aload_n hX 1 rfl dX12_notOf_172 rfl ?_
  refine ww_callVI (As := []) (rest := []) (o := x0) hX (Rk.of B.2.2.1 B.2.2.2.1 (by omega) (by decide)) g_X12_562 g_X12_562.in (fun _ => c_X12_lockNumber (x_G X) (x_l X) fu x0 s14) rfl rfl (Nat.le_of_ble_eq_true rfl) dX12_notOf_173 (fun r15 s16 => ?_)
  refine ww_istore (lv' := [(6, .int r15), (5, .int y0), (0, .ref (x_b X + x0)), (4, .int x4)]) hX hL dX12_notOf_176 (by decide) rfl ?_
  refine ww_aload_n hX 2 rfl dX12_notOf_178 rfl ?_
  refine ww_getR hX f_X12_145 (Or.inr ⟨_, rfl⟩) dX12_notOf_179 ?_
  refine ww_bdR (fun o17 => ?_)
  refine ww_iload hX 3 rfl dX12_notOf_182 ?_
  refine ww_zaldc hX k_zald dX12_notOf_184 ?_
  refine ww_if_eq (tgt := 224) hX dX12_notOf_185 (by decide) ?_ ?_
  · exact ww_sub [] rfl (t_X12_notOf_224 B fu r_X12_orOf r_X12_andOf r_X12_notOf h_X12_orOf h_X12_andOf h_X12_notOf   s16)
  · refine ww_iload hX 1 rfl dX12_notOf_188 ?_
    refine ww_if_eq (tgt := 208) hX dX12_notOf_190 (by decide) ?_ ?_
    · refine ww_aload_n hX 2 rfl dX12_notOf_208 rfl ?_
      refine ww_getR hX f_X12_169 (Or.inr ⟨_, rfl⟩) dX12_notOf_209 ?_
      refine ww_bdR (fun o18 => ?_)
      refine ww_iload hX 3 rfl dX12_notOf_212 ?_
      refine ww_ialdc hX k_iald dX12_notOf_214 ?_
      refine ww_iload hX 0 rfl dX12_notOf_215 ?_
      refine ww_icmp_le (tgt := 224) hX dX12_notOf_217 (by decide) ?_ ?_
      · exact ww_sub [] rfl (t_X12_notOf_224 B fu r_X12_orOf r_X12_andOf r_X12_notOf h_X12_orOf h_X12_andOf h_X12_notOf   s16)
      · exact ww_sub [] rfl (t_X12_notOf_220 B fu r_X12_orOf r_X12_andOf r_X12_notOf h_X12_orOf h_X12_andOf h_X12_notOf   s16)
    · refine ww_aload_n hX 2 rfl dX12_notOf_193 rfl ?_
      refine ww_getR hX f_X12_169 (Or.inr ⟨_, rfl⟩) dX12_notOf_194 ?_
      refine ww_bdR (fun o19 => ?_)
      refine ww_iload hX 3 rfl dX12_notOf_197 ?_
      refine ww_ialdc hX k_iald dX12_notOf_199 ?_
      refine ww_iload hX 0 rfl dX12_notOf_200 ?_
      refine ww_icmp_ge (tgt := 224) hX dX12_notOf_202 (by decide) ?_ ?_
      · exact ww_sub [] rfl (t_X12_notOf_224 B fu r_X12_orOf r_X12_andOf r_X12_notOf h_X12_orOf h_X12_andOf h_X12_notOf   s16)
      · refine ww_goto (tgt := 220) hX dX12_notOf_205 (by decide) ?_
        exact ww_sub [] rfl (t_X12_notOf_220 B fu r_X12_orOf r_X12_andOf r_X12_notOf h_X12_orOf h_X12_andOf h_X12_notOf   s16)
def b_X12_notOf_126 (fu : Nat) (r_X12_orOf : Nat → St → Option (Int32 × St)) (r_X12_andOf : Nat → St → Option (Int32 × St)) (r_X12_notOf : Nat → St → Option (Int32 × St))  (y0 : Int32) (st : St) : Option (Int32 × St) :=
  ck (isb y0) (some (y0, st))
set_option maxHeartbeats 4000000 in
set_option maxRecDepth 100000 in
theorem t_X12_notOf_126 {X : CX} {d : Nat} {res : Int32 × St} (B : BI X cX12_notOf RX12 7 (5 + (d + 1)) NN (some .boolean) res) (fu : Nat) (r_X12_orOf : Nat → St → Option (Int32 × St)) (r_X12_andOf : Nat → St → Option (Int32 × St)) (r_X12_notOf : Nat → St → Option (Int32 × St)) (h_X12_orOf : ∀ (th : Nat) (st : St), MI (x_G X) NN (x_l X) yX12_orOf cX12_orOf 3 (some .boolean) (5 + d) [.ref (x_b X + th)] st (r_X12_orOf th st)) (h_X12_andOf : ∀ (th : Nat) (st : St), MI (x_G X) NN (x_l X) yX12_andOf cX12_andOf 3 (some .boolean) (5 + d) [.ref (x_b X + th)] st (r_X12_andOf th st)) (h_X12_notOf : ∀ (th : Nat) (st : St), MI (x_G X) NN (x_l X) yX12_notOf cX12_notOf 7 (some .boolean) (5 + d) [.ref (x_b X + th)] st (r_X12_notOf th st))  (y0 : Int32) (st : St) : WW X res NN 126 [] [.int y0] st (b_X12_notOf_126 fu r_X12_orOf r_X12_andOf r_X12_notOf y0 st) := by
  have hX := B.1
  have hL := B.2.1
  unfold b_X12_notOf_126
  exact ww_zret B dX12_notOf_126
def b_X12_notOf_121 (fu : Nat) (r_X12_orOf : Nat → St → Option (Int32 × St)) (r_X12_andOf : Nat → St → Option (Int32 × St)) (r_X12_notOf : Nat → St → Option (Int32 × St))   (st : St) : Option (Int32 × St) :=
  b_X12_notOf_126 fu r_X12_orOf r_X12_andOf r_X12_notOf  1 st
set_option maxHeartbeats 4000000 in
set_option maxRecDepth 100000 in
theorem t_X12_notOf_121 {X : CX} {d : Nat} {res : Int32 × St} (B : BI X cX12_notOf RX12 7 (5 + (d + 1)) NN (some .boolean) res) (fu : Nat) (r_X12_orOf : Nat → St → Option (Int32 × St)) (r_X12_andOf : Nat → St → Option (Int32 × St)) (r_X12_notOf : Nat → St → Option (Int32 × St)) (h_X12_orOf : ∀ (th : Nat) (st : St), MI (x_G X) NN (x_l X) yX12_orOf cX12_orOf 3 (some .boolean) (5 + d) [.ref (x_b X + th)] st (r_X12_orOf th st)) (h_X12_andOf : ∀ (th : Nat) (st : St), MI (x_G X) NN (x_l X) yX12_andOf cX12_andOf 3 (some .boolean) (5 + d) [.ref (x_b X + th)] st (r_X12_andOf th st)) (h_X12_notOf : ∀ (th : Nat) (st : St), MI (x_G X) NN (x_l X) yX12_notOf cX12_notOf 7 (some .boolean) (5 + d) [.ref (x_b X + th)] st (r_X12_notOf th st))   (st : St) : WW X res NN 121 [] [] st (b_X12_notOf_121 fu r_X12_orOf r_X12_andOf r_X12_notOf  st) := by
  have hX := B.1
  have hL := B.2.1
  unfold b_X12_notOf_121
  refine ww_iconst (v := 1) hX rfl dX12_notOf_121 ?_
  refine ww_goto (tgt := 126) hX dX12_notOf_122 (by decide) ?_
  exact t_X12_notOf_126 B fu r_X12_orOf r_X12_andOf r_X12_notOf h_X12_orOf h_X12_andOf h_X12_notOf  1 st
def b_X12_notOf_51 (fu : Nat) (r_X12_orOf : Nat → St → Option (Int32 × St)) (r_X12_andOf : Nat → St → Option (Int32 × St)) (r_X12_notOf : Nat → St → Option (Int32 × St))  (y0 : Int32) (st : St) : Option (Int32 × St) :=
  ck (isb y0) (some (y0, st))
set_option maxHeartbeats 4000000 in
set_option maxRecDepth 100000 in
theorem t_X12_notOf_51 {X : CX} {d : Nat} {res : Int32 × St} (B : BI X cX12_notOf RX12 7 (5 + (d + 1)) NN (some .boolean) res) (fu : Nat) (r_X12_orOf : Nat → St → Option (Int32 × St)) (r_X12_andOf : Nat → St → Option (Int32 × St)) (r_X12_notOf : Nat → St → Option (Int32 × St)) (h_X12_orOf : ∀ (th : Nat) (st : St), MI (x_G X) NN (x_l X) yX12_orOf cX12_orOf 3 (some .boolean) (5 + d) [.ref (x_b X + th)] st (r_X12_orOf th st)) (h_X12_andOf : ∀ (th : Nat) (st : St), MI (x_G X) NN (x_l X) yX12_andOf cX12_andOf 3 (some .boolean) (5 + d) [.ref (x_b X + th)] st (r_X12_andOf th st)) (h_X12_notOf : ∀ (th : Nat) (st : St), MI (x_G X) NN (x_l X) yX12_notOf cX12_notOf 7 (some .boolean) (5 + d) [.ref (x_b X + th)] st (r_X12_notOf th st))  (y0 : Int32) (st : St) : WW X res NN 51 [] [.int y0] st (b_X12_notOf_51 fu r_X12_orOf r_X12_andOf r_X12_notOf y0 st) := by
  have hX := B.1
  have hL := B.2.1
  unfold b_X12_notOf_51
  exact ww_zret B dX12_notOf_51
def fb_X12_notOf (fu : Nat) (r_X12_orOf : Nat → St → Option (Int32 × St)) (r_X12_andOf : Nat → St → Option (Int32 × St)) (r_X12_notOf : Nat → St → Option (Int32 × St)) (th : Nat) (st : St) : Option (Int32 × St) :=
  ck ((kd th).1 = 12) <|
  ca (f_X12_lockNext fu th st) fun r1 s2 =>
  ck (¬ gR s2 th 70 = 0) <|
  ck ((kd th).1 = 12) <|
  bd (gR s2 th 70) fun o3 =>
  ck ((kd th).1 = 12) <|
  ck ((kd th).1 = 12) <|
  ck ((kd o3).1 = 103 ∧ inb ((61 * (gI s2 th 72)) + (gI s2 th 71)) (kd o3).2) <|
  bd (gL s2 o3 (ix ((61 * (gI s2 th 72)) + (gI s2 th 71)))) fun v4 =>
  ck ((kd th).1 = 12) <|
  ck ((kd th).1 = 12) <|
  bd (sI s2 th 71 ((gI s2 th 71) + 1)) fun s5 =>
  if r1 = 33 then (
  ck ((kd th).1 = 12) <|
  ca (r_X12_notOf th s5) fun r27 s28 =>
  if r27 = 0 then (
  b_X12_notOf_51 fu r_X12_orOf r_X12_andOf r_X12_notOf  1 s28)
  else (
  b_X12_notOf_51 fu r_X12_orOf r_X12_andOf r_X12_notOf  0 s28))
  else (
  if r1 = 40 then (
  ck ((kd th).1 = 12) <|
  ca (r_X12_orOf th s5) fun r24 s25 =>
  ck ((kd th).1 = 12) <|
  ck ((kd th).1 = 12) <|
  bd (sI s25 th 71 ((gI s25 th 71) + 1)) fun s26 =>
  ck (isb r24) (some (r24, s26)))
  else (
  ck ((kd th).1 = 12) <|
  ca (f_X12_lockNumber fu th s5) fun r6 s7 =>
  ca (f_X12_word fu 16 s7) fun r8 s9 =>
  if (lg_cmp v4 r8) = 0 then (
  ck (¬ gR s9 th 54 = 0) <|
  ck ((kd th).1 = 12) <|
  bd (gR s9 th 54) fun o21 =>
  ck ((kd o21).1 = 102 ∧ inb r6 (kd o21).2) <|
  if (gI s9 o21 (ix r6)) = 0 then (
  b_X12_notOf_121 fu r_X12_orOf r_X12_andOf r_X12_notOf   s9)
  else (
  ck (¬ gR s9 th 62 = 0) <|
  ck ((kd th).1 = 12) <|
  bd (gR s9 th 62) fun o22 =>
  ck ((kd o22).1 = 100 ∧ inb r6 (kd o22).2) <|
  ck (¬ gR s9 th 63 = 0) <|
  ck ((kd th).1 = 12) <|
  bd (gR s9 th 63) fun o23 =>
  ck ((kd o23).1 = 100 ∧ inb r6 (kd o23).2) <|
  if (gI s9 o22 (ix r6)) = (gI s9 o23 (ix r6)) then (
  b_X12_notOf_121 fu r_X12_orOf r_X12_andOf r_X12_notOf   s9)
  else (
  b_X12_notOf_126 fu r_X12_orOf r_X12_andOf r_X12_notOf  0 s9)))
  else (
  ca (f_X12_word fu 17 s9) fun r10 s11 =>
  if (lg_cmp v4 r10) = 0 then (
  ck (¬ gR s11 th 66 = 0) <|
  ck ((kd th).1 = 12) <|
  bd (gR s11 th 66) fun o20 =>
  ck ((kd o20).1 = 102 ∧ inb r6 (kd o20).2) <|
  ck (isb (gI s11 o20 (ix r6))) (some (gI s11 o20 (ix r6), s11)))
  else (
  ck ((kd th).1 = 12) <|
  ca (f_X12_lockNext fu th s11) fun r12 s13 =>
  if r12 = 60 then (
  b_X12_notOf_160 fu r_X12_orOf r_X12_andOf r_X12_notOf th r6 1 s13)
  else (
  b_X12_notOf_160 fu r_X12_orOf r_X12_andOf r_X12_notOf th r6 0 s13)))))
set_option maxHeartbeats 4000000 in
set_option maxRecDepth 100000 in
theorem t_X12_notOf {X : CX} {d : Nat} {res : Int32 × St} (B : BI X cX12_notOf RX12 7 (5 + (d + 1)) NN (some .boolean) res) (fu : Nat) (r_X12_orOf : Nat → St → Option (Int32 × St)) (r_X12_andOf : Nat → St → Option (Int32 × St)) (r_X12_notOf : Nat → St → Option (Int32 × St)) (h_X12_orOf : ∀ (th : Nat) (st : St), MI (x_G X) NN (x_l X) yX12_orOf cX12_orOf 3 (some .boolean) (5 + d) [.ref (x_b X + th)] st (r_X12_orOf th st)) (h_X12_andOf : ∀ (th : Nat) (st : St), MI (x_G X) NN (x_l X) yX12_andOf cX12_andOf 3 (some .boolean) (5 + d) [.ref (x_b X + th)] st (r_X12_andOf th st)) (h_X12_notOf : ∀ (th : Nat) (st : St), MI (x_G X) NN (x_l X) yX12_notOf cX12_notOf 7 (some .boolean) (5 + d) [.ref (x_b X + th)] st (r_X12_notOf th st)) (th : Nat) (st : St) : WW X res NN 0 [(0, .ref (x_b X + th))] [] st (fb_X12_notOf fu r_X12_orOf r_X12_andOf r_X12_notOf th st) := by
  have hX := B.1
  have hL := B.2.1
  unfold fb_X12_notOf
  refine ww_aload_n hX 0 rfl dX12_notOf_0 rfl ?_
  refine ww_callVI (As := []) (rest := []) (o := th) hX (Rk.of B.2.2.1 B.2.2.2.1 (by omega) (by decide)) g_X12_556 g_X12_556.in (fun _ => c_X12_lockNext (x_G X) (x_l X) fu th st) rfl rfl (Nat.le_of_ble_eq_true rfl) dX12_notOf_1 (fun r1 s2 => ?_)
  refine ww_istore_n (lv' := [(1, .int r1), (0, .ref (x_b X + th))]) hX hL dX12_notOf_4 rfl (by decide) rfl ?_
  refine ww_aload_n hX 1 rfl dX12_notOf_5 rfl ?_
  refine ww_getR hX f_X12_190 (Or.inr ⟨_, rfl⟩) dX12_notOf_6 ?_
  refine ww_bdR (fun o3 => ?_)
  refine ww_bipush (v := 61) hX rfl dX12_notOf_9 ?_
  refine ww_aload_n hX 1 rfl dX12_notOf_11 rfl ?_
  refine ww_pc (b := 12) rfl ?_
  refine ww_getI hX f_X12_544 (Or.inl rfl) dX12_notOf_12 ?_
  refine ww_imul hX dX12_notOf_15 ?_
  refine ww_aload_n hX 1 rfl dX12_notOf_16 rfl ?_
  refine ww_getI hX f_X12_547 (Or.inl rfl) dX12_notOf_17 ?_
  refine ww_iadd hX dX12_notOf_20 ?_
  refine ww_laldc hX k_lald dX12_notOf_21 ?_
  refine ww_bdl (fun v4 => ?_)
  refine ww_lstore_n (lv' := [(2, .long v4), (1, .int r1), (0, .ref (x_b X + th))]) hX hL dX12_notOf_22 rfl (by decide) rfl ?_
  refine ww_aload_n hX 2 rfl dX12_notOf_23 rfl ?_
  refine ww_pc (b := 24) rfl ?_
  refine ww_dup hX rfl dX12_notOf_24 ?_
  refine ww_getI hX f_X12_547 (Or.inl rfl) dX12_notOf_25 ?_
  refine ww_iconst (v := 1) hX rfl dX12_notOf_28 ?_
  refine ww_iadd hX dX12_notOf_29 ?_
  refine ww_putI hX f_X12_547 rfl dX12_notOf_30 ?_
  refine ww_bds (fun s5 => ?_)
  refine ww_iload_n hX 1 rfl dX12_notOf_33 rfl ?_
  refine ww_bipush (v := 33) hX rfl dX12_notOf_34 ?_
  refine ww_icmp_ne (tgt := 52) hX dX12_notOf_36 (by decide) ?_ ?_
  · refine ww_iload_n hX 1 rfl dX12_notOf_52 rfl ?_
    refine ww_bipush (v := 40) hX rfl dX12_notOf_53 ?_
    refine ww_icmp_ne (tgt := 77) hX dX12_notOf_55 (by decide) ?_ ?_
    · refine ww_aload_n hX 2 rfl dX12_notOf_77 rfl ?_
      refine ww_callVI (As := []) (rest := []) (o := th) hX (Rk.of B.2.2.1 B.2.2.2.1 (by omega) (by decide)) g_X12_562 g_X12_562.in (fun _ => c_X12_lockNumber (x_G X) (x_l X) fu th s5) rfl rfl (Nat.le_of_ble_eq_true rfl) dX12_notOf_78 (fun r6 s7 => ?_)
      refine ww_istore (lv' := [(4, .int r6), (2, .long v4), (1, .int r1), (0, .ref (x_b X + th))]) hX hL dX12_notOf_81 (by decide) rfl ?_
      refine ww_lload_n hX 1 rfl dX12_notOf_83 rfl ?_
      refine ww_ldcwS (q := 40) hX rfl dX12_notOf_84 ?_
      refine ww_callSL (As := [.ref ((x_K X).1 16)]) (rest := [.long v4]) hX (Rk.of B.2.2.1 B.2.2.2.1 (by omega) (by decide)) g_X12_398 (c_X12_word (x_G X) (x_l X) fu 16 s7) rfl rfl (Nat.le_of_ble_eq_true rfl) dX12_notOf_87 (fun r8 s9 => ?_)
      refine ww_lcmp hX dX12_notOf_90 ?_
      refine ww_pc (b := 91) rfl ?_
      refine ww_if_ne (tgt := 127) hX dX12_notOf_91 (by decide) ?_ ?_
      · refine ww_lload_n hX 1 rfl dX12_notOf_127 rfl ?_
        refine ww_ldcwS (q := 41) hX rfl dX12_notOf_128 ?_
        refine ww_callSL (As := [.ref ((x_K X).1 17)]) (rest := [.long v4]) hX (Rk.of B.2.2.1 B.2.2.2.1 (by omega) (by decide)) g_X12_398 (c_X12_word (x_G X) (x_l X) fu 17 s9) rfl rfl (Nat.le_of_ble_eq_true rfl) dX12_notOf_131 (fun r10 s11 => ?_)
        refine ww_lcmp hX dX12_notOf_134 ?_
        refine ww_if_ne (tgt := 146) hX dX12_notOf_135 (by decide) ?_ ?_
        · refine ww_aload_n hX 3 rfl dX12_notOf_146 rfl ?_
          refine ww_callVI (As := []) (rest := []) (o := th) hX (Rk.of B.2.2.1 B.2.2.2.1 (by omega) (by decide)) g_X12_556 g_X12_556.in (fun _ => c_X12_lockNext (x_G X) (x_l X) fu th s11) rfl rfl (Nat.le_of_ble_eq_true rfl) dX12_notOf_147 (fun r12 s13 => ?_)
          refine ww_bipush (v := 60) hX rfl dX12_notOf_150 ?_
          refine ww_icmp_ne (tgt := 159) hX dX12_notOf_152 (by decide) ?_ ?_
          · refine ww_iconst (v := 0) hX rfl dX12_notOf_159 ?_
            exact ww_sub [3, 0] rfl (t_X12_notOf_160 B fu r_X12_orOf r_X12_andOf r_X12_notOf h_X12_orOf h_X12_andOf h_X12_notOf th r6 0 s13)
          · refine ww_iconst (v := 1) hX rfl dX12_notOf_155 ?_
            refine ww_goto (tgt := 160) hX dX12_notOf_156 (by decide) ?_
            exact ww_sub [3, 0] rfl (t_X12_notOf_160 B fu r_X12_orOf r_X12_andOf r_X12_notOf h_X12_orOf h_X12_andOf h_X12_notOf th r6 1 s13)
        · refine ww_aload_n hX 3 rfl dX12_notOf_138 rfl ?_
          refine ww_getR hX f_X12_181 (Or.inr ⟨_, rfl⟩) dX12_notOf_139 ?_
          refine ww_bdR (fun o20 => ?_)
          refine ww_iload hX 0 rfl dX12_notOf_142 ?_
          refine ww_zaldc hX k_zald dX12_notOf_144 ?_
          exact ww_zret B dX12_notOf_145
      · refine ww_aload_n hX 3 rfl dX12_notOf_94 rfl ?_
        refine ww_getR hX f_X12_145 (Or.inr ⟨_, rfl⟩) dX12_notOf_95 ?_
        refine ww_bdR (fun o21 => ?_)
        refine ww_iload hX 0 rfl dX12_notOf_98 ?_
        refine ww_zaldc hX k_zald dX12_notOf_100 ?_
        refine ww_if_eq (tgt := 121) hX dX12_notOf_101 (by decide) ?_ ?_
        · exact ww_sub [] rfl (t_X12_notOf_121 B fu r_X12_orOf r_X12_andOf r_X12_notOf h_X12_orOf h_X12_andOf h_X12_notOf   s9)
        · refine ww_aload_n hX 3 rfl dX12_notOf_104 rfl ?_
          refine ww_getR hX f_X12_169 (Or.inr ⟨_, rfl⟩) dX12_notOf_105 ?_
          refine ww_bdR (fun o22 => ?_)
          refine ww_iload hX 0 rfl dX12_notOf_108 ?_
          refine ww_ialdc hX k_iald dX12_notOf_110 ?_
          refine ww_aload_n hX 3 rfl dX12_notOf_111 rfl ?_
          refine ww_getR hX f_X12_172 (Or.inr ⟨_, rfl⟩) dX12_notOf_112 ?_
          refine ww_bdR (fun o23 => ?_)
          refine ww_iload hX 0 rfl dX12_notOf_115 ?_
          refine ww_pc (b := 117) rfl ?_
          refine ww_ialdc hX k_iald dX12_notOf_117 ?_
          refine ww_icmp_ne (tgt := 125) hX dX12_notOf_118 (by decide) ?_ ?_
          · refine ww_iconst (v := 0) hX rfl dX12_notOf_125 ?_
            exact ww_sub [] rfl (t_X12_notOf_126 B fu r_X12_orOf r_X12_andOf r_X12_notOf h_X12_orOf h_X12_andOf h_X12_notOf  0 s9)
          · exact ww_sub [] rfl (t_X12_notOf_121 B fu r_X12_orOf r_X12_andOf r_X12_notOf h_X12_orOf h_X12_andOf h_X12_notOf   s9)
    · refine ww_aload_n hX 2 rfl dX12_notOf_58 rfl ?_
      refine ww_callVI (As := []) (rest := []) (o := th) hX (Rk.of B.2.2.1 B.2.2.2.1 (by omega) (by decide)) g_X12_550 g_X12_550.in (fun _ => h_X12_orOf th s5) rfl rfl (Nat.le_of_ble_eq_true rfl) dX12_notOf_59 (fun r24 s25 => ?_)
      refine ww_istore (lv' := [(4, .int r24), (2, .long v4), (1, .int r1), (0, .ref (x_b X + th))]) hX hL dX12_notOf_62 (by decide) rfl ?_
      refine ww_aload_n hX 3 rfl dX12_notOf_64 rfl ?_
      refine ww_dup hX rfl dX12_notOf_65 ?_
      refine ww_getI hX f_X12_547 (Or.inl rfl) dX12_notOf_66 ?_
      refine ww_iconst (v := 1) hX rfl dX12_notOf_69 ?_
      refine ww_pc (b := 70) rfl ?_
      refine ww_iadd hX dX12_notOf_70 ?_
      refine ww_putI hX f_X12_547 rfl dX12_notOf_71 ?_
      refine ww_bds (fun s26 => ?_)
      refine ww_iload hX 0 rfl dX12_notOf_74 ?_
      exact ww_zret B dX12_notOf_76
  · refine ww_aload_n hX 2 rfl dX12_notOf_39 rfl ?_
    refine ww_callVI (As := []) (rest := []) (o := th) hX (Rk.of B.2.2.1 B.2.2.2.1 (by omega) (by decide)) g_X12_559 g_X12_559.in (fun _ => h_X12_notOf th s5) rfl rfl (Nat.le_of_ble_eq_true rfl) dX12_notOf_40 (fun r27 s28 => ?_)
    refine ww_if_ne (tgt := 50) hX dX12_notOf_43 (by decide) ?_ ?_
    · refine ww_iconst (v := 0) hX rfl dX12_notOf_50 ?_
      exact ww_sub [] rfl (t_X12_notOf_51 B fu r_X12_orOf r_X12_andOf r_X12_notOf h_X12_orOf h_X12_andOf h_X12_notOf  0 s28)
    · refine ww_iconst (v := 1) hX rfl dX12_notOf_46 ?_
      refine ww_goto (tgt := 51) hX dX12_notOf_47 (by decide) ?_
      exact ww_sub [] rfl (t_X12_notOf_51 B fu r_X12_orOf r_X12_andOf r_X12_notOf h_X12_orOf h_X12_andOf h_X12_notOf  1 s28)
def F_X12_orOf (fu : Nat) : Nat → (Nat → St → Option (Int32 × St)) × (Nat → St → Option (Int32 × St)) × (Nat → St → Option (Int32 × St))
  | 0 => (fun _ _ => none, fun _ _ => none, fun _ _ => none)
  | d + 1 => (fb_X12_orOf fu (F_X12_orOf fu d).1 (F_X12_orOf fu d).2.1 (F_X12_orOf fu d).2.2, fb_X12_andOf fu (F_X12_orOf fu d).1 (F_X12_orOf fu d).2.1 (F_X12_orOf fu d).2.2, fb_X12_notOf fu (F_X12_orOf fu d).1 (F_X12_orOf fu d).2.1 (F_X12_orOf fu d).2.2)
theorem CF_X12_orOf (G : GX) (l : Launch) (fu : Nat) : ∀ d : Nat, (∀ (th : Nat) (st : St), MI G NN l yX12_orOf cX12_orOf 3 (some .boolean) (5 + d) [.ref (G.2.2.1 + th)] st ((F_X12_orOf fu d).1 th st)) ∧ (∀ (th : Nat) (st : St), MI G NN l yX12_andOf cX12_andOf 3 (some .boolean) (5 + d) [.ref (G.2.2.1 + th)] st ((F_X12_orOf fu d).2.1 th st)) ∧ (∀ (th : Nat) (st : St), MI G NN l yX12_notOf cX12_notOf 7 (some .boolean) (5 + d) [.ref (G.2.2.1 + th)] st ((F_X12_orOf fu d).2.2 th st)) := by
  intro d
  induction d with
  | zero => exact ⟨fun th st => (fun r u h => by cases h), fun th st => (fun r u h => by cases h), fun th st => (fun r u h => by cases h)⟩
  | succ d ih => exact ⟨fun th st => mkI (by decide) (Nat.le_of_ble_eq_true rfl) (fun X res hl hG B => by subst hl; subst hG; exact t_X12_orOf B fu (F_X12_orOf fu d).1 (F_X12_orOf fu d).2.1 (F_X12_orOf fu d).2.2 ih.1 ih.2.1 ih.2.2 th st), fun th st => mkI (by decide) (Nat.le_of_ble_eq_true rfl) (fun X res hl hG B => by subst hl; subst hG; exact t_X12_andOf B fu (F_X12_orOf fu d).1 (F_X12_orOf fu d).2.1 (F_X12_orOf fu d).2.2 ih.1 ih.2.1 ih.2.2 th st), fun th st => mkI (by decide) (Nat.le_of_ble_eq_true rfl) (fun X res hl hG B => by subst hl; subst hG; exact t_X12_notOf B fu (F_X12_orOf fu d).1 (F_X12_orOf fu d).2.1 (F_X12_orOf fu d).2.2 ih.1 ih.2.1 ih.2.2 th st)⟩
def f_X12_orOf (fu : Nat) (th : Nat) (st : St) : Option (Int32 × St) := (F_X12_orOf fu 45).1 th st
theorem c_X12_orOf (G : GX) (l : Launch) (fu : Nat) (th : Nat) (st : St) : MI G NN l yX12_orOf cX12_orOf 3 (some .boolean) 50 [.ref (G.2.2.1 + th)] st (f_X12_orOf fu th st) := (CF_X12_orOf G l fu 45).1 th st
def f_X12_andOf (fu : Nat) (th : Nat) (st : St) : Option (Int32 × St) := (F_X12_orOf fu 45).2.1 th st
theorem c_X12_andOf (G : GX) (l : Launch) (fu : Nat) (th : Nat) (st : St) : MI G NN l yX12_andOf cX12_andOf 3 (some .boolean) 50 [.ref (G.2.2.1 + th)] st (f_X12_andOf fu th st) := (CF_X12_orOf G l fu 45).2.1 th st
def f_X12_notOf (fu : Nat) (th : Nat) (st : St) : Option (Int32 × St) := (F_X12_orOf fu 45).2.2 th st
theorem c_X12_notOf (G : GX) (l : Launch) (fu : Nat) (th : Nat) (st : St) : MI G NN l yX12_notOf cX12_notOf 7 (some .boolean) 50 [.ref (G.2.2.1 + th)] st (f_X12_notOf fu th st) := (CF_X12_orOf G l fu 45).2.2 th st
/-! StageHouseModel.andOf()Z -/

/-! StageHouseModel.notOf()Z -/

/-! StageHouseModel.isTrue(I)Z -/
def f_X12_isTrue (fu : Nat) (th : Nat) (p1 : Int32) (st : St) : Option (Int32 × St) :=
  ck (¬ gR st th 68 = 0) <|
  ck ((kd th).1 = 12) <|
  bd (gR st th 68) fun o1 =>
  ck ((kd o1).1 = 100 ∧ inb p1 (kd o1).2) <|
  if (gI st o1 (ix p1)) = 0 then (
  ck (isb 1) (some (1, st)))
  else (
  ck ((kd th).1 = 12) <|
  bd (sI st th 72 p1) fun s2 =>
  ck ((kd th).1 = 12) <|
  bd (sI s2 th 71 0) fun s3 =>
  ck ((kd th).1 = 12) <|
  ca (f_X12_orOf fu th s3) fun r4 s5 =>
  ck (isb r4) (some (r4, s5)))
set_option maxHeartbeats 4000000 in
set_option maxRecDepth 100000 in
theorem t_X12_isTrue {X : CX} {res : Int32 × St} (B : BI X cX12_isTrue RX12 2 51 NN (some .boolean) res) (fu : Nat) (th : Nat) (p1 : Int32) (st : St) : WW X res NN 0 [(0, .ref (x_b X + th)), (1, .int p1)] [] st (f_X12_isTrue fu th p1 st) := by
  have hX := B.1
  have hL := B.2.1
  unfold f_X12_isTrue
  refine ww_aload_n hX 0 rfl dX12_isTrue_0 rfl ?_
  refine ww_getR hX f_X12_184 (Or.inr ⟨_, rfl⟩) dX12_isTrue_1 ?_
  refine ww_bdR (fun o1 => ?_)
  refine ww_iload_n hX 1 rfl dX12_isTrue_4 rfl ?_
  refine ww_ialdc hX k_iald dX12_isTrue_5 ?_
  refine ww_if_ne (tgt := 11) hX dX12_isTrue_6 (by decide) ?_ ?_
  · refine ww_aload_n hX 0 rfl dX12_isTrue_11 rfl ?_
    refine ww_iload_n hX 1 rfl dX12_isTrue_12 rfl ?_
    refine ww_putI hX f_X12_544 rfl dX12_isTrue_13 ?_
    refine ww_bds (fun s2 => ?_)
    refine ww_aload_n hX 0 rfl dX12_isTrue_16 rfl ?_
    refine ww_iconst (v := 0) hX rfl dX12_isTrue_17 ?_
    refine ww_putI hX f_X12_547 rfl dX12_isTrue_18 ?_
    refine ww_bds (fun s3 => ?_)
    refine ww_aload_n hX 0 rfl dX12_isTrue_21 rfl ?_
    refine ww_pc (b := 22) rfl ?_
    refine ww_callVI (As := []) (rest := []) (o := th) hX (Rk.of B.2.2.1 B.2.2.2.1 (by decide) (by decide)) g_X12_550 g_X12_550.in (fun _ => c_X12_orOf (x_G X) (x_l X) fu th s3) rfl rfl (Nat.le_of_ble_eq_true rfl) dX12_isTrue_22 (fun r4 s5 => ?_)
    exact ww_zret B dX12_isTrue_25
  · refine ww_iconst (v := 1) hX rfl dX12_isTrue_9 ?_
    exact ww_zret B dX12_isTrue_10
theorem c_X12_isTrue (G : GX) (l : Launch) (fu : Nat) (th : Nat) (p1 : Int32) (st : St) : MI G NN l yX12_isTrue cX12_isTrue 2 (some .boolean) 51 [.ref (G.2.2.1 + th), .int p1] st (f_X12_isTrue fu th p1 st) := mkI (by decide) (Nat.le_of_ble_eq_true rfl) (fun X res hl hG B => by subst hl; subst hG; exact t_X12_isTrue B fu th p1 st)
/-! StageHouseModel.goesTo(II)Z -/
def b_X12_goesTo_85 (fu : Nat) (x3 : Int32)  (st : St) : Option (Int32 × St) :=
  ck (isb x3) (some (x3, st))
set_option maxHeartbeats 4000000 in
set_option maxRecDepth 100000 in
theorem t_X12_goesTo_85 {X : CX} {res : Int32 × St} (B : BI X cX12_goesTo RX12 4 52 NN (some .boolean) res) (fu : Nat) (x3 : Int32)  (st : St) : WW X res NN 85 [(3, .int x3)] [] st (b_X12_goesTo_85 fu x3 st) := by
  have hX := B.1
  have hL := B.2.1
  unfold b_X12_goesTo_85
  refine ww_iload_n hX 0 rfl dX12_goesTo_85 rfl ?_
  exact ww_zret B dX12_goesTo_86
def b_X12_goesTo_60 (fu : Nat) (x0 : Nat) (x1 : Int32) (x2 : Int32) (y0 : Int32) (st : St) : Option (Int32 × St) :=
  if y0 = 0 then (
  ck (¬ gR st x0 65 = 0) <|
  ck ((kd x0).1 = 12) <|
  bd (gR st x0 65) fun o2 =>
  ck ((kd o2).1 = 100 ∧ inb x1 (kd o2).2) <|
  ck ((kd o2).1 = 100 ∧ inb x1 (kd o2).2) <|
  bd (sI st o2 (ix x1) ((gI st o2 (ix x1)) + 1)) fun s3 =>
  b_X12_goesTo_85 fu y0  s3)
  else (
  ck (¬ gR st x0 61 = 0) <|
  ck ((kd x0).1 = 12) <|
  bd (gR st x0 61) fun o4 =>
  ck ((kd o4).1 = 100 ∧ inb x1 (kd o4).2) <|
  bd (sI st o4 (ix x1) x2) fun s5 =>
  b_X12_goesTo_85 fu y0  s5)
set_option maxHeartbeats 4000000 in
set_option maxRecDepth 100000 in
theorem t_X12_goesTo_60 {X : CX} {res : Int32 × St} (B : BI X cX12_goesTo RX12 4 52 NN (some .boolean) res) (fu : Nat) (x0 : Nat) (x1 : Int32) (x2 : Int32) (y0 : Int32) (st : St) : WW X res NN 60 [(0, .ref (x_b X + x0)), (1, .int x1), (2, .int x2)] [.int y0] st (b_X12_goesTo_60 fu x0 x1 x2 y0 st) := by
  have hX := B.1
  have hL := B.2.1
  unfold b_X12_goesTo_60
  refine ww_istore_n (lv' := [(3, .int y0), (0, .ref (x_b X + x0)), (1, .int x1), (2, .int x2)]) hX hL dX12_goesTo_60 rfl (by decide) rfl ?_
  refine ww_iload_n hX 0 rfl dX12_goesTo_61 rfl ?_
  refine ww_if_eq (tgt := 75) hX dX12_goesTo_62 (by decide) ?_ ?_
  · refine ww_aload_n hX 1 rfl dX12_goesTo_75 rfl ?_
    refine ww_getR hX f_X12_178 (Or.inr ⟨_, rfl⟩) dX12_goesTo_76 ?_
    refine ww_bdR (fun o2 => ?_)
    refine ww_iload_n hX 2 rfl dX12_goesTo_79 rfl ?_
    refine ww_dup2_11 hX rfl rfl dX12_goesTo_80 ?_
    refine ww_ialdc hX k_iald dX12_goesTo_81 ?_
    refine ww_iconst (v := 1) hX rfl dX12_goesTo_82 ?_
    refine ww_iadd hX dX12_goesTo_83 ?_
    refine ww_pc (b := 84) rfl ?_
    refine ww_iastc hX k_iast dX12_goesTo_84 ?_
    refine ww_bds (fun s3 => ?_)
    exact ww_sub [0] rfl (t_X12_goesTo_85 B fu y0  s3)
  · refine ww_aload_n hX 1 rfl dX12_goesTo_65 rfl ?_
    refine ww_getR hX f_X12_166 (Or.inr ⟨_, rfl⟩) dX12_goesTo_66 ?_
    refine ww_bdR (fun o4 => ?_)
    refine ww_iload_n hX 2 rfl dX12_goesTo_69 rfl ?_
    refine ww_iload_n hX 3 rfl dX12_goesTo_70 rfl ?_
    refine ww_iastc hX k_iast dX12_goesTo_71 ?_
    refine ww_bds (fun s5 => ?_)
    refine ww_goto (tgt := 85) hX dX12_goesTo_72 (by decide) ?_
    exact ww_sub [0] rfl (t_X12_goesTo_85 B fu y0  s5)
def b_X12_goesTo_59 (fu : Nat) (x0 : Nat) (x1 : Int32) (x2 : Int32)  (st : St) : Option (Int32 × St) :=
  b_X12_goesTo_60 fu x0 x1 x2 0 st
set_option maxHeartbeats 4000000 in
set_option maxRecDepth 100000 in
theorem t_X12_goesTo_59 {X : CX} {res : Int32 × St} (B : BI X cX12_goesTo RX12 4 52 NN (some .boolean) res) (fu : Nat) (x0 : Nat) (x1 : Int32) (x2 : Int32)  (st : St) : WW X res NN 59 [(0, .ref (x_b X + x0)), (1, .int x1), (2, .int x2)] [] st (b_X12_goesTo_59 fu x0 x1 x2 st) := by
  have hX := B.1
  have hL := B.2.1
  unfold b_X12_goesTo_59
  refine ww_iconst (v := 0) hX rfl dX12_goesTo_59 ?_
  exact t_X12_goesTo_60 B fu x0 x1 x2 0 st
def f_X12_goesTo (fu : Nat) (th : Nat) (p1 : Int32) (p2 : Int32) (st : St) : Option (Int32 × St) :=
  ck (¬ gR st th 54 = 0) <|
  ck ((kd th).1 = 12) <|
  bd (gR st th 54) fun o1 =>
  ck ((kd o1).1 = 102 ∧ inb p1 (kd o1).2) <|
  if (gI st o1 (ix p1)) = 0 then (
  b_X12_goesTo_59 fu th p1 p2  st)
  else (
  ck (¬ gR st th 55 = 0) <|
  ck ((kd th).1 = 12) <|
  bd (gR st th 55) fun o6 =>
  ck ((kd o6).1 = 100 ∧ inb p1 (kd o6).2) <|
  if p2 < (gI st o6 (ix p1)) then (
  b_X12_goesTo_59 fu th p1 p2  st)
  else (
  ck (¬ gR st th 56 = 0) <|
  ck ((kd th).1 = 12) <|
  bd (gR st th 56) fun o7 =>
  ck ((kd o7).1 = 100 ∧ inb p1 (kd o7).2) <|
  if (gI st o7 (ix p1)) < p2 then (
  b_X12_goesTo_59 fu th p1 p2  st)
  else (
  ck (¬ gR st th 64 = 0) <|
  ck ((kd th).1 = 12) <|
  bd (gR st th 64) fun o8 =>
  ck ((kd o8).1 = 100 ∧ inb p1 (kd o8).2) <|
  ck (¬ 2 = 0) <|
  if ((gI st o8 (ix p1)) - (gI st o8 (ix p1)) / 2 * 2) = 0 then (
  ck ((kd th).1 = 12) <|
  if (gI st th 67) = 0 then (
  ck ((kd th).1 = 12) <|
  ca (f_X12_isTrue fu th p1 st) fun r9 s10 =>
  if r9 = 0 then (
  b_X12_goesTo_59 fu th p1 p2  s10)
  else (
  b_X12_goesTo_60 fu th p1 p2 1 s10))
  else (
  b_X12_goesTo_59 fu th p1 p2  st))
  else (
  b_X12_goesTo_59 fu th p1 p2  st))))
set_option maxHeartbeats 4000000 in
set_option maxRecDepth 100000 in
theorem t_X12_goesTo {X : CX} {res : Int32 × St} (B : BI X cX12_goesTo RX12 4 52 NN (some .boolean) res) (fu : Nat) (th : Nat) (p1 : Int32) (p2 : Int32) (st : St) : WW X res NN 0 [(0, .ref (x_b X + th)), (1, .int p1), (2, .int p2)] [] st (f_X12_goesTo fu th p1 p2 st) := by
  have hX := B.1
  have hL := B.2.1
  unfold f_X12_goesTo
  refine ww_aload_n hX 0 rfl dX12_goesTo_0 rfl ?_
  refine ww_getR hX f_X12_145 (Or.inr ⟨_, rfl⟩) dX12_goesTo_1 ?_
  refine ww_bdR (fun o1 => ?_)
  refine ww_iload_n hX 1 rfl dX12_goesTo_4 rfl ?_
  refine ww_zaldc hX k_zald dX12_goesTo_5 ?_
  refine ww_if_eq (tgt := 59) hX dX12_goesTo_6 (by decide) ?_ ?_
  · exact t_X12_goesTo_59 B fu th p1 p2  st
  · refine ww_iload_n hX 2 rfl dX12_goesTo_9 rfl ?_
    refine ww_aload_n hX 0 rfl dX12_goesTo_10 rfl ?_
    refine ww_getR hX f_X12_148 (Or.inr ⟨_, rfl⟩) dX12_goesTo_11 ?_
    refine ww_bdR (fun o6 => ?_)
    refine ww_iload_n hX 1 rfl dX12_goesTo_14 rfl ?_
    refine ww_ialdc hX k_iald dX12_goesTo_15 ?_
    refine ww_icmp_lt (tgt := 59) hX dX12_goesTo_16 (by decide) ?_ ?_
    · exact t_X12_goesTo_59 B fu th p1 p2  st
    · refine ww_iload_n hX 2 rfl dX12_goesTo_19 rfl ?_
      refine ww_aload_n hX 0 rfl dX12_goesTo_20 rfl ?_
      refine ww_getR hX f_X12_151 (Or.inr ⟨_, rfl⟩) dX12_goesTo_21 ?_
      refine ww_bdR (fun o7 => ?_)
      refine ww_iload_n hX 1 rfl dX12_goesTo_24 rfl ?_
      refine ww_ialdc hX k_iald dX12_goesTo_25 ?_
      refine ww_icmp_gt (tgt := 59) hX dX12_goesTo_26 (by decide) ?_ ?_
      · exact t_X12_goesTo_59 B fu th p1 p2  st
      · refine ww_aload_n hX 0 rfl dX12_goesTo_29 rfl ?_
        refine ww_getR hX f_X12_175 (Or.inr ⟨_, rfl⟩) dX12_goesTo_30 ?_
        refine ww_bdR (fun o8 => ?_)
        refine ww_iload_n hX 1 rfl dX12_goesTo_33 rfl ?_
        refine ww_ialdc hX k_iald dX12_goesTo_34 ?_
        refine ww_iconst (v := 2) hX rfl dX12_goesTo_35 ?_
        refine ww_irem hX dX12_goesTo_36 ?_
        refine ww_if_ne (tgt := 59) hX dX12_goesTo_37 (by decide) ?_ ?_
        · exact t_X12_goesTo_59 B fu th p1 p2  st
        · refine ww_aload_n hX 0 rfl dX12_goesTo_40 rfl ?_
          refine ww_getI hX f_X12_565 (Or.inr rfl) dX12_goesTo_41 ?_
          refine ww_if_ne (tgt := 59) hX dX12_goesTo_44 (by decide) ?_ ?_
          · exact t_X12_goesTo_59 B fu th p1 p2  st
          · refine ww_aload_n hX 0 rfl dX12_goesTo_47 rfl ?_
            refine ww_iload_n hX 1 rfl dX12_goesTo_48 rfl ?_
            refine ww_callVI (As := [.int p1]) (rest := []) (o := th) hX (Rk.of B.2.2.1 B.2.2.2.1 (by decide) (by decide)) g_X12_568 g_X12_568.in (fun _ => c_X12_isTrue (x_G X) (x_l X) fu th p1 st) rfl rfl (Nat.le_of_ble_eq_true rfl) dX12_goesTo_49 (fun r9 s10 => ?_)
            refine ww_if_eq (tgt := 59) hX dX12_goesTo_52 (by decide) ?_ ?_
            · exact t_X12_goesTo_59 B fu th p1 p2  s10
            · refine ww_iconst (v := 1) hX rfl dX12_goesTo_55 ?_
              refine ww_goto (tgt := 60) hX dX12_goesTo_56 (by decide) ?_
              exact t_X12_goesTo_60 B fu th p1 p2 1 s10
theorem c_X12_goesTo (G : GX) (l : Launch) (fu : Nat) (th : Nat) (p1 : Int32) (p2 : Int32) (st : St) : MI G NN l yX12_goesTo cX12_goesTo 4 (some .boolean) 52 [.ref (G.2.2.1 + th), .int p1, .int p2] st (f_X12_goesTo fu th p1 p2 st) := mkI (by decide) (Nat.le_of_ble_eq_true rfl) (fun X res hl hG B => by subst hl; subst hG; exact t_X12_goesTo B fu th p1 p2 st)
/-! StageHouseModel.plays(III)V -/
/-! StageHouseModel.plays(III)V -/
def b_X12_plays_74 (fu : Nat) (r_X12_plays : Nat → Int32 → Int32 → Int32 → St → Option (St)) (r_X12_begins : Nat → Int32 → St → Option (St))   (st : St) : Option (St) :=
  some st
set_option maxHeartbeats 4000000 in
set_option maxRecDepth 100000 in
theorem t_X12_plays_74 {X : CX} {d : Nat} {res : St} (B : BV X cX12_plays RX12 5 (52 + (d + 1)) NN none res) (fu : Nat) (r_X12_plays : Nat → Int32 → Int32 → Int32 → St → Option (St)) (r_X12_begins : Nat → Int32 → St → Option (St)) (h_X12_plays : ∀ (th : Nat) (p1 : Int32) (p2 : Int32) (p3 : Int32) (st : St), MV (x_G X) NN (x_l X) yX12_plays cX12_plays 5 none (52 + d) [.ref (x_b X + th), .int p1, .int p2, .int p3] st (r_X12_plays th p1 p2 p3 st)) (h_X12_begins : ∀ (th : Nat) (p1 : Int32) (st : St), MV (x_G X) NN (x_l X) yX12_begins cX12_begins 8 none (52 + d) [.ref (x_b X + th), .int p1] st (r_X12_begins th p1 st))   (st : St) : WW X res NN 74 [] [] st (b_X12_plays_74 fu r_X12_plays r_X12_begins  st) := by
  have hX := B.1
  have hL := B.2.1
  unfold b_X12_plays_74
  exact ww_vret B dX12_plays_74
def b_X12_plays_46 (fu : Nat) (r_X12_plays : Nat → Int32 → Int32 → Int32 → St → Option (St)) (r_X12_begins : Nat → Int32 → St → Option (St)) (x0 : Nat) (x1 : Int32) (y0 : Int32) (st : St) : Option (St) :=
  if y0 = 0 then (
  ck ((kd x0).1 = 12) <|
  cv (r_X12_begins x0 x1 st) fun s11 =>
  b_X12_plays_74 fu r_X12_plays r_X12_begins   s11)
  else (
  ck (¬ gR st x0 42 = 0) <|
  ck ((kd x0).1 = 12) <|
  bd (gR st x0 42) fun o9 =>
  ck ((kd x0).1 = 12) <|
  ck ((kd o9).1 = 100 ∧ inb x1 (kd o9).2) <|
  bd (sI st o9 (ix x1) ((gI st x0 40) + y0)) fun s10 =>
  b_X12_plays_74 fu r_X12_plays r_X12_begins   s10)
set_option maxHeartbeats 4000000 in
set_option maxRecDepth 100000 in
theorem t_X12_plays_46 {X : CX} {d : Nat} {res : St} (B : BV X cX12_plays RX12 5 (52 + (d + 1)) NN none res) (fu : Nat) (r_X12_plays : Nat → Int32 → Int32 → Int32 → St → Option (St)) (r_X12_begins : Nat → Int32 → St → Option (St)) (h_X12_plays : ∀ (th : Nat) (p1 : Int32) (p2 : Int32) (p3 : Int32) (st : St), MV (x_G X) NN (x_l X) yX12_plays cX12_plays 5 none (52 + d) [.ref (x_b X + th), .int p1, .int p2, .int p3] st (r_X12_plays th p1 p2 p3 st)) (h_X12_begins : ∀ (th : Nat) (p1 : Int32) (st : St), MV (x_G X) NN (x_l X) yX12_begins cX12_begins 8 none (52 + d) [.ref (x_b X + th), .int p1] st (r_X12_begins th p1 st)) (x0 : Nat) (x1 : Int32) (y0 : Int32) (st : St) : WW X res NN 46 [(0, .ref (x_b X + x0)), (1, .int x1)] [.int y0] st (b_X12_plays_46 fu r_X12_plays r_X12_begins x0 x1 y0 st) := by
  have hX := B.1
  have hL := B.2.1
  unfold b_X12_plays_46
  refine ww_istore (lv' := [(4, .int y0), (0, .ref (x_b X + x0)), (1, .int x1)]) hX hL dX12_plays_46 (by decide) rfl ?_
  refine ww_iload hX 0 rfl dX12_plays_48 ?_
  refine ww_if_ne (tgt := 61) hX dX12_plays_50 (by decide) ?_ ?_
  · refine ww_aload_n hX 1 rfl dX12_plays_61 rfl ?_
    refine ww_getR hX f_X12_112 (Or.inr ⟨_, rfl⟩) dX12_plays_62 ?_
    refine ww_bdR (fun o9 => ?_)
    refine ww_iload_n hX 2 rfl dX12_plays_65 rfl ?_
    refine ww_aload_n hX 1 rfl dX12_plays_66 rfl ?_
    refine ww_getI hX f_X12_490 (Or.inl rfl) dX12_plays_67 ?_
    refine ww_iload hX 0 rfl dX12_plays_70 ?_
    refine ww_iadd hX dX12_plays_72 ?_
    refine ww_pc (b := 73) rfl ?_
    refine ww_iastc hX k_iast dX12_plays_73 ?_
    refine ww_bds (fun s10 => ?_)
    exact ww_sub [] rfl (t_X12_plays_74 B fu r_X12_plays r_X12_begins h_X12_plays h_X12_begins   s10)
  · refine ww_aload_n hX 1 rfl dX12_plays_53 rfl ?_
    refine ww_iload_n hX 2 rfl dX12_plays_54 rfl ?_
    refine ww_callVV (As := [.int x1]) (rest := []) (o := x0) hX (Rk.of B.2.2.1 B.2.2.2.1 (by omega) (by decide)) g_X12_487 g_X12_487.in (fun _ => h_X12_begins x0 x1 st) rfl rfl (Nat.le_of_ble_eq_true rfl) dX12_plays_55 (fun s11 => ?_)
    refine ww_goto (tgt := 74) hX dX12_plays_58 (by decide) ?_
    exact ww_sub [] rfl (t_X12_plays_74 B fu r_X12_plays r_X12_begins h_X12_plays h_X12_begins   s11)
def fb_X12_plays (fu : Nat) (r_X12_plays : Nat → Int32 → Int32 → Int32 → St → Option (St)) (r_X12_begins : Nat → Int32 → St → Option (St)) (th : Nat) (p1 : Int32) (p2 : Int32) (p3 : Int32) (st : St) : Option (St) :=
  ck (¬ gR st th 41 = 0) <|
  ck ((kd th).1 = 12) <|
  bd (gR st th 41) fun o1 =>
  ck ((kd o1).1 = 100 ∧ inb p1 (kd o1).2) <|
  bd (sI st o1 (ix p1) p2) fun s2 =>
  ck (¬ gR s2 th 43 = 0) <|
  ck ((kd th).1 = 12) <|
  bd (gR s2 th 43) fun o3 =>
  ck ((kd o3).1 = 100 ∧ inb p1 (kd o3).2) <|
  bd (sI s2 o3 (ix p1) ((-1))) fun s4 =>
  ck (¬ gR s4 th 42 = 0) <|
  ck ((kd th).1 = 12) <|
  bd (gR s4 th 42) fun o5 =>
  ck ((kd o5).1 = 100 ∧ inb p1 (kd o5).2) <|
  bd (sI s4 o5 (ix p1) ((-1))) fun s6 =>
  ck (¬ gR s6 th 13 = 0) <|
  ck ((kd th).1 = 12) <|
  bd (gR s6 th 13) fun o7 =>
  ck ((kd o7).1 = 100 ∧ inb ((p1 * 60) + p2) (kd o7).2) <|
  bd (gI s6 o7 (ix ((p1 * 60) + p2))) fun v8 =>
  if p3 ≤ v8 then (
  b_X12_plays_46 fu r_X12_plays r_X12_begins th p1 v8 s6)
  else (
  b_X12_plays_46 fu r_X12_plays r_X12_begins th p1 p3 s6)
set_option maxHeartbeats 4000000 in
set_option maxRecDepth 100000 in
theorem t_X12_plays {X : CX} {d : Nat} {res : St} (B : BV X cX12_plays RX12 5 (52 + (d + 1)) NN none res) (fu : Nat) (r_X12_plays : Nat → Int32 → Int32 → Int32 → St → Option (St)) (r_X12_begins : Nat → Int32 → St → Option (St)) (h_X12_plays : ∀ (th : Nat) (p1 : Int32) (p2 : Int32) (p3 : Int32) (st : St), MV (x_G X) NN (x_l X) yX12_plays cX12_plays 5 none (52 + d) [.ref (x_b X + th), .int p1, .int p2, .int p3] st (r_X12_plays th p1 p2 p3 st)) (h_X12_begins : ∀ (th : Nat) (p1 : Int32) (st : St), MV (x_G X) NN (x_l X) yX12_begins cX12_begins 8 none (52 + d) [.ref (x_b X + th), .int p1] st (r_X12_begins th p1 st)) (th : Nat) (p1 : Int32) (p2 : Int32) (p3 : Int32) (st : St) : WW X res NN 0 [(0, .ref (x_b X + th)), (1, .int p1), (2, .int p2), (3, .int p3)] [] st (fb_X12_plays fu r_X12_plays r_X12_begins th p1 p2 p3 st) := by
  have hX := B.1
  have hL := B.2.1
  unfold fb_X12_plays
  refine ww_aload_n hX 0 rfl dX12_plays_0 rfl ?_
  refine ww_getR hX f_X12_109 (Or.inr ⟨_, rfl⟩) dX12_plays_1 ?_
  refine ww_bdR (fun o1 => ?_)
  refine ww_iload_n hX 1 rfl dX12_plays_4 rfl ?_
  refine ww_iload_n hX 2 rfl dX12_plays_5 rfl ?_
  refine ww_iastc hX k_iast dX12_plays_6 ?_
  refine ww_bds (fun s2 => ?_)
  refine ww_aload_n hX 0 rfl dX12_plays_7 rfl ?_
  refine ww_getR hX f_X12_115 (Or.inr ⟨_, rfl⟩) dX12_plays_8 ?_
  refine ww_bdR (fun o3 => ?_)
  refine ww_pc (b := 11) rfl ?_
  refine ww_iload_n hX 1 rfl dX12_plays_11 rfl ?_
  refine ww_iconst (v := (-1)) hX rfl dX12_plays_12 ?_
  refine ww_iastc hX k_iast dX12_plays_13 ?_
  refine ww_bds (fun s4 => ?_)
  refine ww_aload_n hX 0 rfl dX12_plays_14 rfl ?_
  refine ww_getR hX f_X12_112 (Or.inr ⟨_, rfl⟩) dX12_plays_15 ?_
  refine ww_bdR (fun o5 => ?_)
  refine ww_iload_n hX 1 rfl dX12_plays_18 rfl ?_
  refine ww_iconst (v := (-1)) hX rfl dX12_plays_19 ?_
  refine ww_iastc hX k_iast dX12_plays_20 ?_
  refine ww_bds (fun s6 => ?_)
  refine ww_pc (b := 21) rfl ?_
  refine ww_aload_n hX 0 rfl dX12_plays_21 rfl ?_
  refine ww_getR hX f_X12_36 (Or.inr ⟨_, rfl⟩) dX12_plays_22 ?_
  refine ww_bdR (fun o7 => ?_)
  refine ww_iload_n hX 1 rfl dX12_plays_25 rfl ?_
  refine ww_bipush (v := 60) hX rfl dX12_plays_26 ?_
  refine ww_imul hX dX12_plays_28 ?_
  refine ww_iload_n hX 2 rfl dX12_plays_29 rfl ?_
  refine ww_iadd hX dX12_plays_30 ?_
  refine ww_ialdc hX k_iald dX12_plays_31 ?_
  refine ww_pc (b := 32) rfl ?_
  refine ww_bdi (fun v8 => ?_)
  refine ww_istore (lv' := [(4, .int v8), (0, .ref (x_b X + th)), (1, .int p1), (2, .int p2), (3, .int p3)]) hX hL dX12_plays_32 (by decide) rfl ?_
  refine ww_iload hX 0 rfl dX12_plays_34 ?_
  refine ww_iload_n hX 4 rfl dX12_plays_36 rfl ?_
  refine ww_icmp_ge (tgt := 44) hX dX12_plays_37 (by decide) ?_ ?_
  · refine ww_iload hX 0 rfl dX12_plays_44 ?_
    exact ww_sub [1, 2] rfl (t_X12_plays_46 B fu r_X12_plays r_X12_begins h_X12_plays h_X12_begins th p1 v8 s6)
  · refine ww_iload_n hX 4 rfl dX12_plays_40 rfl ?_
    refine ww_goto (tgt := 46) hX dX12_plays_41 (by decide) ?_
    exact ww_sub [1, 2] rfl (t_X12_plays_46 B fu r_X12_plays r_X12_begins h_X12_plays h_X12_begins th p1 p3 s6)
/-! StageHouseModel.begins(I)V -/
def b_X12_begins_381 (fu : Nat) (r_X12_plays : Nat → Int32 → Int32 → Int32 → St → Option (St)) (r_X12_begins : Nat → Int32 → St → Option (St)) (k_202 : Nat → Int32 → Int32 → Int32 → St → Option (St)) (x0 : Nat) (x1 : Int32) (x2 : Int32) (x4 : Int32)  (st : St) : Option (St) :=
  bd (x4 + 1) fun v18 =>
  k_202 x0 x1 x2 v18  st
set_option maxHeartbeats 4000000 in
set_option maxRecDepth 100000 in
theorem t_X12_begins_381 {X : CX} {d : Nat} {res : St} (B : BV X cX12_begins RX12 8 (52 + (d + 1)) NN none res) (fu : Nat) (r_X12_plays : Nat → Int32 → Int32 → Int32 → St → Option (St)) (r_X12_begins : Nat → Int32 → St → Option (St)) (h_X12_plays : ∀ (th : Nat) (p1 : Int32) (p2 : Int32) (p3 : Int32) (st : St), MV (x_G X) NN (x_l X) yX12_plays cX12_plays 5 none (52 + d) [.ref (x_b X + th), .int p1, .int p2, .int p3] st (r_X12_plays th p1 p2 p3 st)) (h_X12_begins : ∀ (th : Nat) (p1 : Int32) (st : St), MV (x_G X) NN (x_l X) yX12_begins cX12_begins 8 none (52 + d) [.ref (x_b X + th), .int p1] st (r_X12_begins th p1 st)) (k_202 : Nat → Int32 → Int32 → Int32 → St → Option (St)) (h_202 : ∀ (x0 : Nat) (x1 : Int32) (x2 : Int32) (x4 : Int32)  (st : St), WW X res NN 202 [(0, .ref (x_b X + x0)), (1, .int x1), (2, .int x2), (4, .int x4)] [] st (k_202 x0 x1 x2 x4 st)) (x0 : Nat) (x1 : Int32) (x2 : Int32) (x4 : Int32)  (st : St) : WW X res NN 381 [(0, .ref (x_b X + x0)), (1, .int x1), (2, .int x2), (4, .int x4)] [] st (b_X12_begins_381 fu r_X12_plays r_X12_begins k_202 x0 x1 x2 x4 st) := by
  have hX := B.1
  have hL := B.2.1
  unfold b_X12_begins_381
  refine ww_iincb (lv' := fun v18 => [(4, .int v18), (0, .ref (x_b X + x0)), (1, .int x1), (2, .int x2)]) (c := 1) hX hL 3 rfl dX12_begins_381 rfl (by decide) (fun _ => rfl) (fun v18 => ?_)
  refine ww_goto (tgt := 202) hX dX12_begins_384 (by decide) ?_
  exact ww_sub [1, 2, 3, 0] rfl (h_202 x0 x1 x2 v18  st)
def b_X12_begins_353 (fu : Nat) (r_X12_plays : Nat → Int32 → Int32 → Int32 → St → Option (St)) (r_X12_begins : Nat → Int32 → St → Option (St)) (k_202 : Nat → Int32 → Int32 → Int32 → St → Option (St)) (x0 : Nat) (x1 : Int32) (x2 : Int32) (x4 : Int32)  (st : St) : Option (St) :=
  b_X12_begins_381 fu r_X12_plays r_X12_begins k_202 x0 x1 x2 x4  st
set_option maxHeartbeats 4000000 in
set_option maxRecDepth 100000 in
theorem t_X12_begins_353 {X : CX} {d : Nat} {res : St} (B : BV X cX12_begins RX12 8 (52 + (d + 1)) NN none res) (fu : Nat) (r_X12_plays : Nat → Int32 → Int32 → Int32 → St → Option (St)) (r_X12_begins : Nat → Int32 → St → Option (St)) (h_X12_plays : ∀ (th : Nat) (p1 : Int32) (p2 : Int32) (p3 : Int32) (st : St), MV (x_G X) NN (x_l X) yX12_plays cX12_plays 5 none (52 + d) [.ref (x_b X + th), .int p1, .int p2, .int p3] st (r_X12_plays th p1 p2 p3 st)) (h_X12_begins : ∀ (th : Nat) (p1 : Int32) (st : St), MV (x_G X) NN (x_l X) yX12_begins cX12_begins 8 none (52 + d) [.ref (x_b X + th), .int p1] st (r_X12_begins th p1 st)) (k_202 : Nat → Int32 → Int32 → Int32 → St → Option (St)) (h_202 : ∀ (x0 : Nat) (x1 : Int32) (x2 : Int32) (x4 : Int32)  (st : St), WW X res NN 202 [(0, .ref (x_b X + x0)), (1, .int x1), (2, .int x2), (4, .int x4)] [] st (k_202 x0 x1 x2 x4 st)) (x0 : Nat) (x1 : Int32) (x2 : Int32) (x4 : Int32)  (st : St) : WW X res NN 353 [(0, .ref (x_b X + x0)), (1, .int x1), (2, .int x2), (4, .int x4)] [] st (b_X12_begins_353 fu r_X12_plays r_X12_begins k_202 x0 x1 x2 x4 st) := by
  have hX := B.1
  have hL := B.2.1
  unfold b_X12_begins_353
  refine ww_goto (tgt := 381) hX dX12_begins_353 (by decide) ?_
  exact t_X12_begins_381 B fu r_X12_plays r_X12_begins h_X12_plays h_X12_begins k_202 h_202 x0 x1 x2 x4  st
def b_X12_begins_202_b (fu : Nat) (r_X12_plays : Nat → Int32 → Int32 → Int32 → St → Option (St)) (r_X12_begins : Nat → Int32 → St → Option (St)) (k_202 : Nat → Int32 → Int32 → Int32 → St → Option (St)) (x0 : Nat) (x1 : Int32) (x2 : Int32) (x4 : Int32)  (st : St) : Option (St) :=
  ck (¬ gR st x0 16 = 0) <|
  ck ((kd x0).1 = 12) <|
  bd (gR st x0 16) fun o8 =>
  ck ((kd o8).1 = 100 ∧ inb x2 (kd o8).2) <|
  if (gI st o8 (ix x2)) ≤ x4 then (
  some st)
  else (
  ck (¬ gR st x0 17 = 0) <|
  ck ((kd x0).1 = 12) <|
  bd (gR st x0 17) fun o9 =>
  ck ((kd o9).1 = 100 ∧ inb x2 (kd o9).2) <|
  bd (((x1 * 300) + (gI st o9 (ix x2))) + x4) fun v10 =>
  ck (¬ gR st x0 20 = 0) <|
  ck ((kd x0).1 = 12) <|
  bd (gR st x0 20) fun o11 =>
  ck ((kd o11).1 = 100 ∧ inb v10 (kd o11).2) <|
  bd (gI st o11 (ix v10)) fun v12 =>
  ck (¬ gR st x0 19 = 0) <|
  ck ((kd x0).1 = 12) <|
  bd (gR st x0 19) fun o13 =>
  ck ((kd o13).1 = 100 ∧ inb v10 (kd o13).2) <|
  if (gI st o13 (ix v10)) = 1 then (
  ck (¬ gR st x0 21 = 0) <|
  ck ((kd x0).1 = 12) <|
  bd (gR st x0 21) fun o30 =>
  ck ((kd o30).1 = 100 ∧ inb v10 (kd o30).2) <|
  ck ((kd x0).1 = 12) <|
  ca (f_X12_goesTo fu x0 v12 (gI st o30 (ix v10)) st) fun r31 s32 =>
  b_X12_begins_381 fu r_X12_plays r_X12_begins k_202 x0 x1 x2 x4  s32)
  else (
  ck (¬ gR st x0 19 = 0) <|
  ck ((kd x0).1 = 12) <|
  bd (gR st x0 19) fun o14 =>
  ck ((kd o14).1 = 100 ∧ inb v10 (kd o14).2) <|
  if (gI st o14 (ix v10)) = 2 then (
  ck (¬ gR st x0 61 = 0) <|
  ck ((kd x0).1 = 12) <|
  bd (gR st x0 61) fun o28 =>
  ck ((kd o28).1 = 100 ∧ inb v12 (kd o28).2) <|
  bd (sI st o28 (ix v12) ((-1))) fun s29 =>
  b_X12_begins_381 fu r_X12_plays r_X12_begins k_202 x0 x1 x2 x4  s29)
  else (
  ck (¬ gR st x0 19 = 0) <|
  ck ((kd x0).1 = 12) <|
  bd (gR st x0 19) fun o15 =>
  ck ((kd o15).1 = 100 ∧ inb v10 (kd o15).2) <|
  if (gI st o15 (ix v10)) = 3 then (
  ck (¬ gR st x0 66 = 0) <|
  ck ((kd x0).1 = 12) <|
  bd (gR st x0 66) fun o26 =>
  ck (isb 1) <|
  ck ((kd o26).1 = 102 ∧ inb v12 (kd o26).2) <|
  bd (sI st o26 (ix v12) 1) fun s27 =>
  b_X12_begins_381 fu r_X12_plays r_X12_begins k_202 x0 x1 x2 x4  s27)
  else (
  ck (¬ gR st x0 19 = 0) <|
  ck ((kd x0).1 = 12) <|
  bd (gR st x0 19) fun o16 =>
  ck ((kd o16).1 = 100 ∧ inb v10 (kd o16).2) <|
  if (gI st o16 (ix v10)) = 4 then (
  ck (¬ gR st x0 21 = 0) <|
  ck ((kd x0).1 = 12) <|
  bd (gR st x0 21) fun o22 =>
  ck ((kd o22).1 = 100 ∧ inb v10 (kd o22).2) <|
  ck ((kd x0).1 = 12) <|
  ca (f_X12_cueOf fu x0 v12 (gI st o22 (ix v10)) st) fun r23 s24 =>
  if r23 = ((-1)) then (
  b_X12_begins_353 fu r_X12_plays r_X12_begins k_202 x0 x1 x2 x4  s24)
  else (
  ck ((kd x0).1 = 12) <|
  cv (r_X12_plays x0 v12 r23 1 s24) fun s25 =>
  b_X12_begins_353 fu r_X12_plays r_X12_begins k_202 x0 x1 x2 x4  s25))
  else (
  ck (¬ gR st x0 19 = 0) <|
  ck ((kd x0).1 = 12) <|
  bd (gR st x0 19) fun o17 =>
  ck ((kd o17).1 = 100 ∧ inb v10 (kd o17).2) <|
  if (gI st o17 (ix v10)) = 5 then (
  ck (¬ gR st x0 44 = 0) <|
  ck ((kd x0).1 = 12) <|
  bd (gR st x0 44) fun o19 =>
  ck (¬ gR st x0 21 = 0) <|
  ck ((kd x0).1 = 12) <|
  bd (gR st x0 21) fun o20 =>
  ck ((kd o20).1 = 100 ∧ inb v10 (kd o20).2) <|
  ck ((kd o19).1 = 100 ∧ inb v12 (kd o19).2) <|
  bd (sI st o19 (ix v12) (gI st o20 (ix v10))) fun s21 =>
  b_X12_begins_381 fu r_X12_plays r_X12_begins k_202 x0 x1 x2 x4  s21)
  else (
  b_X12_begins_381 fu r_X12_plays r_X12_begins k_202 x0 x1 x2 x4  st))))))
set_option maxHeartbeats 4000000 in
set_option maxRecDepth 100000 in
theorem t_X12_begins_202_b {X : CX} {d : Nat} {res : St} (B : BV X cX12_begins RX12 8 (52 + (d + 1)) NN none res) (fu : Nat) (r_X12_plays : Nat → Int32 → Int32 → Int32 → St → Option (St)) (r_X12_begins : Nat → Int32 → St → Option (St)) (h_X12_plays : ∀ (th : Nat) (p1 : Int32) (p2 : Int32) (p3 : Int32) (st : St), MV (x_G X) NN (x_l X) yX12_plays cX12_plays 5 none (52 + d) [.ref (x_b X + th), .int p1, .int p2, .int p3] st (r_X12_plays th p1 p2 p3 st)) (h_X12_begins : ∀ (th : Nat) (p1 : Int32) (st : St), MV (x_G X) NN (x_l X) yX12_begins cX12_begins 8 none (52 + d) [.ref (x_b X + th), .int p1] st (r_X12_begins th p1 st)) (k_202 : Nat → Int32 → Int32 → Int32 → St → Option (St)) (h_202 : ∀ (x0 : Nat) (x1 : Int32) (x2 : Int32) (x4 : Int32)  (st : St), WW X res NN 202 [(0, .ref (x_b X + x0)), (1, .int x1), (2, .int x2), (4, .int x4)] [] st (k_202 x0 x1 x2 x4 st)) (x0 : Nat) (x1 : Int32) (x2 : Int32) (x4 : Int32)  (st : St) : WW X res NN 202 [(0, .ref (x_b X + x0)), (1, .int x1), (2, .int x2), (4, .int x4)] [] st (b_X12_begins_202_b fu r_X12_plays r_X12_begins k_202 x0 x1 x2 x4 st) := by
  have hX := B.1
  have hL := B.2.1
  unfold b_X12_begins_202_b
  refine ww_iload hX 3 rfl dX12_begins_202 ?_
  refine ww_aload_n hX 0 rfl dX12_begins_204 rfl ?_
  refine ww_getR hX f_X12_45 (Or.inr ⟨_, rfl⟩) dX12_begins_205 ?_
  refine ww_bdR (fun o8 => ?_)
  refine ww_iload_n hX 2 rfl dX12_begins_208 rfl ?_
  refine ww_ialdc hX k_iald dX12_begins_209 ?_
  refine ww_icmp_ge (tgt := 387) hX dX12_begins_210 (by decide) ?_ ?_
  · exact ww_vret B dX12_begins_387
  · refine ww_iload_n hX 1 rfl dX12_begins_213 rfl ?_
    refine ww_sipush (v := 300) hX rfl dX12_begins_214 ?_
    refine ww_imul hX dX12_begins_217 ?_
    refine ww_aload_n hX 0 rfl dX12_begins_218 rfl ?_
    refine ww_getR hX f_X12_48 (Or.inr ⟨_, rfl⟩) dX12_begins_219 ?_
    refine ww_bdR (fun o9 => ?_)
    refine ww_iload_n hX 2 rfl dX12_begins_222 rfl ?_
    refine ww_ialdc hX k_iald dX12_begins_223 ?_
    refine ww_pc (b := 224) rfl ?_
    refine ww_iadd hX dX12_begins_224 ?_
    refine ww_iload hX 3 rfl dX12_begins_225 ?_
    refine ww_iadd hX dX12_begins_227 ?_
    refine ww_bdi (fun v10 => ?_)
    refine ww_istore (lv' := [(5, .int v10), (0, .ref (x_b X + x0)), (1, .int x1), (2, .int x2), (4, .int x4)]) hX hL dX12_begins_228 (by decide) rfl ?_
    refine ww_aload_n hX 1 rfl dX12_begins_230 rfl ?_
    refine ww_getR hX f_X12_57 (Or.inr ⟨_, rfl⟩) dX12_begins_231 ?_
    refine ww_bdR (fun o11 => ?_)
    refine ww_iload hX 0 rfl dX12_begins_234 ?_
    refine ww_ialdc hX k_iald dX12_begins_236 ?_
    refine ww_pc (b := 237) rfl ?_
    refine ww_bdi (fun v12 => ?_)
    refine ww_istore (lv' := [(6, .int v12), (5, .int v10), (0, .ref (x_b X + x0)), (1, .int x1), (2, .int x2), (4, .int x4)]) hX hL dX12_begins_237 (by decide) rfl ?_
    refine ww_aload_n hX 2 rfl dX12_begins_239 rfl ?_
    refine ww_getR hX f_X12_54 (Or.inr ⟨_, rfl⟩) dX12_begins_240 ?_
    refine ww_bdR (fun o13 => ?_)
    refine ww_iload hX 1 rfl dX12_begins_243 ?_
    refine ww_ialdc hX k_iald dX12_begins_245 ?_
    refine ww_iconst (v := 1) hX rfl dX12_begins_246 ?_
    refine ww_icmp_ne (tgt := 268) hX dX12_begins_247 (by decide) ?_ ?_
    · refine ww_aload_n hX 2 rfl dX12_begins_268 rfl ?_
      refine ww_getR hX f_X12_54 (Or.inr ⟨_, rfl⟩) dX12_begins_269 ?_
      refine ww_bdR (fun o14 => ?_)
      refine ww_iload hX 1 rfl dX12_begins_272 ?_
      refine ww_ialdc hX k_iald dX12_begins_274 ?_
      refine ww_iconst (v := 2) hX rfl dX12_begins_275 ?_
      refine ww_icmp_ne (tgt := 290) hX dX12_begins_276 (by decide) ?_ ?_
      · refine ww_aload_n hX 2 rfl dX12_begins_290 rfl ?_
        refine ww_getR hX f_X12_54 (Or.inr ⟨_, rfl⟩) dX12_begins_291 ?_
        refine ww_bdR (fun o15 => ?_)
        refine ww_iload hX 1 rfl dX12_begins_294 ?_
        refine ww_ialdc hX k_iald dX12_begins_296 ?_
        refine ww_iconst (v := 3) hX rfl dX12_begins_297 ?_
        refine ww_icmp_ne (tgt := 312) hX dX12_begins_298 (by decide) ?_ ?_
        · refine ww_aload_n hX 2 rfl dX12_begins_312 rfl ?_
          refine ww_getR hX f_X12_54 (Or.inr ⟨_, rfl⟩) dX12_begins_313 ?_
          refine ww_bdR (fun o16 => ?_)
          refine ww_iload hX 1 rfl dX12_begins_316 ?_
          refine ww_ialdc hX k_iald dX12_begins_318 ?_
          refine ww_iconst (v := 4) hX rfl dX12_begins_319 ?_
          refine ww_icmp_ne (tgt := 356) hX dX12_begins_320 (by decide) ?_ ?_
          · refine ww_aload_n hX 2 rfl dX12_begins_356 rfl ?_
            refine ww_getR hX f_X12_54 (Or.inr ⟨_, rfl⟩) dX12_begins_357 ?_
            refine ww_bdR (fun o17 => ?_)
            refine ww_iload hX 1 rfl dX12_begins_360 ?_
            refine ww_ialdc hX k_iald dX12_begins_362 ?_
            refine ww_iconst (v := 5) hX rfl dX12_begins_363 ?_
            refine ww_icmp_ne (tgt := 381) hX dX12_begins_364 (by decide) ?_ ?_
            · exact ww_sub [2, 3, 4, 5] rfl (t_X12_begins_381 B fu r_X12_plays r_X12_begins h_X12_plays h_X12_begins k_202 h_202 x0 x1 x2 x4  st)
            · refine ww_aload_n hX 2 rfl dX12_begins_367 rfl ?_
              refine ww_getR hX f_X12_118 (Or.inr ⟨_, rfl⟩) dX12_begins_368 ?_
              refine ww_bdR (fun o19 => ?_)
              refine ww_iload hX 0 rfl dX12_begins_371 ?_
              refine ww_aload_n hX 2 rfl dX12_begins_373 rfl ?_
              refine ww_getR hX f_X12_60 (Or.inr ⟨_, rfl⟩) dX12_begins_374 ?_
              refine ww_bdR (fun o20 => ?_)
              refine ww_iload hX 1 rfl dX12_begins_377 ?_
              refine ww_ialdc hX k_iald dX12_begins_379 ?_
              refine ww_pc (b := 380) rfl ?_
              refine ww_iastc hX k_iast dX12_begins_380 ?_
              refine ww_bds (fun s21 => ?_)
              exact ww_sub [2, 3, 4, 5] rfl (t_X12_begins_381 B fu r_X12_plays r_X12_begins h_X12_plays h_X12_begins k_202 h_202 x0 x1 x2 x4  s21)
          · refine ww_aload_n hX 2 rfl dX12_begins_323 rfl ?_
            refine ww_iload hX 0 rfl dX12_begins_324 ?_
            refine ww_aload_n hX 2 rfl dX12_begins_326 rfl ?_
            refine ww_getR hX f_X12_60 (Or.inr ⟨_, rfl⟩) dX12_begins_327 ?_
            refine ww_bdR (fun o22 => ?_)
            refine ww_iload hX 1 rfl dX12_begins_330 ?_
            refine ww_ialdc hX k_iald dX12_begins_332 ?_
            refine ww_callVI (As := [.int v12, .int (gI st o22 (ix v10))]) (rest := []) (o := x0) hX (Rk.of B.2.2.1 B.2.2.2.1 (by omega) (by decide)) g_X12_497 g_X12_497.in (fun _ => c_X12_cueOf (x_G X) (x_l X) fu x0 v12 (gI st o22 (ix v10)) st) rfl rfl (Nat.le_of_ble_eq_true rfl) dX12_begins_333 (fun r23 s24 => ?_)
            refine ww_pc (b := 336) rfl ?_
            refine ww_istore (lv' := [(7, .int r23), (6, .int v12), (5, .int v10), (0, .ref (x_b X + x0)), (1, .int x1), (2, .int x2), (4, .int x4)]) hX hL dX12_begins_336 (by decide) rfl ?_
            refine ww_iload hX 0 rfl dX12_begins_338 ?_
            refine ww_iconst (v := (-1)) hX rfl dX12_begins_340 ?_
            refine ww_icmp_eq (tgt := 353) hX dX12_begins_341 (by decide) ?_ ?_
            · exact ww_sub [3, 4, 5, 6] rfl (t_X12_begins_353 B fu r_X12_plays r_X12_begins h_X12_plays h_X12_begins k_202 h_202 x0 x1 x2 x4  s24)
            · refine ww_aload_n hX 3 rfl dX12_begins_344 rfl ?_
              refine ww_iload hX 1 rfl dX12_begins_345 ?_
              refine ww_iload hX 0 rfl dX12_begins_347 ?_
              refine ww_iconst (v := 1) hX rfl dX12_begins_349 ?_
              refine ww_callVV (As := [.int v12, .int r23, .int 1]) (rest := []) (o := x0) hX (Rk.of B.2.2.1 B.2.2.2.1 (by omega) (by decide)) g_X12_500 g_X12_500.in (fun _ => h_X12_plays x0 v12 r23 1 s24) rfl rfl (Nat.le_of_ble_eq_true rfl) dX12_begins_350 (fun s25 => ?_)
              exact ww_sub [3, 4, 5, 6] rfl (t_X12_begins_353 B fu r_X12_plays r_X12_begins h_X12_plays h_X12_begins k_202 h_202 x0 x1 x2 x4  s25)
        · refine ww_aload_n hX 2 rfl dX12_begins_301 rfl ?_
          refine ww_getR hX f_X12_181 (Or.inr ⟨_, rfl⟩) dX12_begins_302 ?_
          refine ww_bdR (fun o26 => ?_)
          refine ww_iload hX 0 rfl dX12_begins_305 ?_
          refine ww_iconst (v := 1) hX rfl dX12_begins_307 ?_
          refine ww_zastc hX k_zast dX12_begins_308 ?_
          refine ww_bds (fun s27 => ?_)
          refine ww_goto (tgt := 381) hX dX12_begins_309 (by decide) ?_
          exact ww_sub [2, 3, 4, 5] rfl (t_X12_begins_381 B fu r_X12_plays r_X12_begins h_X12_plays h_X12_begins k_202 h_202 x0 x1 x2 x4  s27)
      · refine ww_aload_n hX 2 rfl dX12_begins_279 rfl ?_
        refine ww_getR hX f_X12_166 (Or.inr ⟨_, rfl⟩) dX12_begins_280 ?_
        refine ww_bdR (fun o28 => ?_)
        refine ww_iload hX 0 rfl dX12_begins_283 ?_
        refine ww_iconst (v := (-1)) hX rfl dX12_begins_285 ?_
        refine ww_iastc hX k_iast dX12_begins_286 ?_
        refine ww_bds (fun s29 => ?_)
        refine ww_goto (tgt := 381) hX dX12_begins_287 (by decide) ?_
        exact ww_sub [2, 3, 4, 5] rfl (t_X12_begins_381 B fu r_X12_plays r_X12_begins h_X12_plays h_X12_begins k_202 h_202 x0 x1 x2 x4  s29)
    · refine ww_aload_n hX 2 rfl dX12_begins_250 rfl ?_
      refine ww_iload hX 0 rfl dX12_begins_251 ?_
      refine ww_aload_n hX 2 rfl dX12_begins_253 rfl ?_
      refine ww_getR hX f_X12_60 (Or.inr ⟨_, rfl⟩) dX12_begins_254 ?_
      refine ww_bdR (fun o30 => ?_)
      refine ww_iload hX 1 rfl dX12_begins_257 ?_
      refine ww_ialdc hX k_iald dX12_begins_259 ?_
      refine ww_callVI (As := [.int v12, .int (gI st o30 (ix v10))]) (rest := []) (o := x0) hX (Rk.of B.2.2.1 B.2.2.2.1 (by omega) (by decide)) g_X12_493 g_X12_493.in (fun _ => c_X12_goesTo (x_G X) (x_l X) fu x0 v12 (gI st o30 (ix v10)) st) rfl rfl (Nat.le_of_ble_eq_true rfl) dX12_begins_260 (fun r31 s32 => ?_)
      refine ww_pc (b := 263) rfl ?_
      refine ww_istore (lv' := [(7, .int r31), (6, .int v12), (5, .int v10), (0, .ref (x_b X + x0)), (1, .int x1), (2, .int x2), (4, .int x4)]) hX hL dX12_begins_263 (by decide) rfl ?_
      refine ww_goto (tgt := 381) hX dX12_begins_265 (by decide) ?_
      exact ww_sub [3, 4, 5, 6] rfl (t_X12_begins_381 B fu r_X12_plays r_X12_begins h_X12_plays h_X12_begins k_202 h_202 x0 x1 x2 x4  s32)
def b_X12_begins_202 (fu : Nat) (r_X12_plays : Nat → Int32 → Int32 → Int32 → St → Option (St)) (r_X12_begins : Nat → Int32 → St → Option (St)) : Nat → Nat → Int32 → Int32 → Int32 → St → Option (St)
  | 0, _, _, _, _, _ => none
  | i + 1, x0, x1, x2, x4, st => b_X12_begins_202_b fu r_X12_plays r_X12_begins (b_X12_begins_202 fu r_X12_plays r_X12_begins i) x0 x1 x2 x4 st
theorem t_X12_begins_202 {X : CX} {d : Nat} {res : St} (B : BV X cX12_begins RX12 8 (52 + (d + 1)) NN none res) (fu : Nat) (r_X12_plays : Nat → Int32 → Int32 → Int32 → St → Option (St)) (r_X12_begins : Nat → Int32 → St → Option (St)) (h_X12_plays : ∀ (th : Nat) (p1 : Int32) (p2 : Int32) (p3 : Int32) (st : St), MV (x_G X) NN (x_l X) yX12_plays cX12_plays 5 none (52 + d) [.ref (x_b X + th), .int p1, .int p2, .int p3] st (r_X12_plays th p1 p2 p3 st)) (h_X12_begins : ∀ (th : Nat) (p1 : Int32) (st : St), MV (x_G X) NN (x_l X) yX12_begins cX12_begins 8 none (52 + d) [.ref (x_b X + th), .int p1] st (r_X12_begins th p1 st)) : ∀ (i : Nat) (x0 : Nat) (x1 : Int32) (x2 : Int32) (x4 : Int32)  (st : St), WW X res NN 202 [(0, .ref (x_b X + x0)), (1, .int x1), (2, .int x2), (4, .int x4)] [] st (b_X12_begins_202 fu r_X12_plays r_X12_begins i x0 x1 x2 x4 st) := by
  intro i
  induction i with
  | zero => intro x0 x1 x2 x4 st; exact ww_none
  | succ i ih => intro x0 x1 x2 x4 st; exact t_X12_begins_202_b B fu r_X12_plays r_X12_begins h_X12_plays h_X12_begins (b_X12_begins_202 fu r_X12_plays r_X12_begins i) ih x0 x1 x2 x4 st
def b_X12_begins_192 (fu : Nat) (r_X12_plays : Nat → Int32 → Int32 → Int32 → St → Option (St)) (r_X12_begins : Nat → Int32 → St → Option (St)) (x0 : Nat) (x1 : Int32) (x2 : Int32)  (st : St) : Option (St) :=
  ck (¬ gR st x0 41 = 0) <|
  ck ((kd x0).1 = 12) <|
  bd (gR st x0 41) fun o6 =>
  ck ((kd o6).1 = 100 ∧ inb x1 (kd o6).2) <|
  bd (gI st o6 (ix x1)) fun v7 =>
  b_X12_begins_202 fu r_X12_plays r_X12_begins fu x0 x1 x2 0  st
set_option maxHeartbeats 4000000 in
set_option maxRecDepth 100000 in
theorem t_X12_begins_192 {X : CX} {d : Nat} {res : St} (B : BV X cX12_begins RX12 8 (52 + (d + 1)) NN none res) (fu : Nat) (r_X12_plays : Nat → Int32 → Int32 → Int32 → St → Option (St)) (r_X12_begins : Nat → Int32 → St → Option (St)) (h_X12_plays : ∀ (th : Nat) (p1 : Int32) (p2 : Int32) (p3 : Int32) (st : St), MV (x_G X) NN (x_l X) yX12_plays cX12_plays 5 none (52 + d) [.ref (x_b X + th), .int p1, .int p2, .int p3] st (r_X12_plays th p1 p2 p3 st)) (h_X12_begins : ∀ (th : Nat) (p1 : Int32) (st : St), MV (x_G X) NN (x_l X) yX12_begins cX12_begins 8 none (52 + d) [.ref (x_b X + th), .int p1] st (r_X12_begins th p1 st)) (x0 : Nat) (x1 : Int32) (x2 : Int32)  (st : St) : WW X res NN 192 [(0, .ref (x_b X + x0)), (1, .int x1), (2, .int x2)] [] st (b_X12_begins_192 fu r_X12_plays r_X12_begins x0 x1 x2 st) := by
  have hX := B.1
  have hL := B.2.1
  unfold b_X12_begins_192
  refine ww_aload_n hX 0 rfl dX12_begins_192 rfl ?_
  refine ww_getR hX f_X12_109 (Or.inr ⟨_, rfl⟩) dX12_begins_193 ?_
  refine ww_bdR (fun o6 => ?_)
  refine ww_iload_n hX 1 rfl dX12_begins_196 rfl ?_
  refine ww_ialdc hX k_iald dX12_begins_197 ?_
  refine ww_bdi (fun v7 => ?_)
  refine ww_istore_n (lv' := [(3, .int v7), (0, .ref (x_b X + x0)), (1, .int x1), (2, .int x2)]) hX hL dX12_begins_198 rfl (by decide) rfl ?_
  refine ww_iconst (v := 0) hX rfl dX12_begins_199 ?_
  refine ww_istore (lv' := [(4, .int 0), (3, .int v7), (0, .ref (x_b X + x0)), (1, .int x1), (2, .int x2)]) hX hL dX12_begins_200 (by decide) rfl ?_
  exact ww_sub [2, 3, 4, 0] rfl (t_X12_begins_202 B fu r_X12_plays r_X12_begins h_X12_plays h_X12_begins fu x0 x1 x2 0  st)
def b_X12_begins_160 (fu : Nat) (r_X12_plays : Nat → Int32 → Int32 → Int32 → St → Option (St)) (r_X12_begins : Nat → Int32 → St → Option (St)) (k_21 : Nat → Int32 → Int32 → Int32 → St → Option (St)) (x0 : Nat) (x1 : Int32) (x2 : Int32) (x3 : Int32)  (st : St) : Option (St) :=
  bd (x3 + 1) fun v40 =>
  k_21 x0 x1 x2 v40  st
set_option maxHeartbeats 4000000 in
set_option maxRecDepth 100000 in
theorem t_X12_begins_160 {X : CX} {d : Nat} {res : St} (B : BV X cX12_begins RX12 8 (52 + (d + 1)) NN none res) (fu : Nat) (r_X12_plays : Nat → Int32 → Int32 → Int32 → St → Option (St)) (r_X12_begins : Nat → Int32 → St → Option (St)) (h_X12_plays : ∀ (th : Nat) (p1 : Int32) (p2 : Int32) (p3 : Int32) (st : St), MV (x_G X) NN (x_l X) yX12_plays cX12_plays 5 none (52 + d) [.ref (x_b X + th), .int p1, .int p2, .int p3] st (r_X12_plays th p1 p2 p3 st)) (h_X12_begins : ∀ (th : Nat) (p1 : Int32) (st : St), MV (x_G X) NN (x_l X) yX12_begins cX12_begins 8 none (52 + d) [.ref (x_b X + th), .int p1] st (r_X12_begins th p1 st)) (k_21 : Nat → Int32 → Int32 → Int32 → St → Option (St)) (h_21 : ∀ (x0 : Nat) (x1 : Int32) (x2 : Int32) (x3 : Int32)  (st : St), WW X res NN 21 [(0, .ref (x_b X + x0)), (1, .int x1), (2, .int x2), (3, .int x3)] [] st (k_21 x0 x1 x2 x3 st)) (x0 : Nat) (x1 : Int32) (x2 : Int32) (x3 : Int32)  (st : St) : WW X res NN 160 [(0, .ref (x_b X + x0)), (1, .int x1), (2, .int x2), (3, .int x3)] [] st (b_X12_begins_160 fu r_X12_plays r_X12_begins k_21 x0 x1 x2 x3 st) := by
  have hX := B.1
  have hL := B.2.1
  unfold b_X12_begins_160
  refine ww_iincb (lv' := fun v40 => [(3, .int v40), (0, .ref (x_b X + x0)), (1, .int x1), (2, .int x2)]) (c := 1) hX hL 3 rfl dX12_begins_160 rfl (by decide) (fun _ => rfl) (fun v40 => ?_)
  refine ww_goto (tgt := 21) hX dX12_begins_163 (by decide) ?_
  exact ww_sub [1, 2, 3, 0] rfl (h_21 x0 x1 x2 v40  st)
def b_X12_begins_147 (fu : Nat) (r_X12_plays : Nat → Int32 → Int32 → Int32 → St → Option (St)) (r_X12_begins : Nat → Int32 → St → Option (St)) (k_21 : Nat → Int32 → Int32 → Int32 → St → Option (St)) (x0 : Nat) (x1 : Int32) (x2 : Int32) (x3 : Int32)  (st : St) : Option (St) :=
  if x3 < 49 then (
  b_X12_begins_160 fu r_X12_plays r_X12_begins k_21 x0 x1 x2 x3  st)
  else (
  ck (¬ gR st x0 50 = 0) <|
  ck ((kd x0).1 = 12) <|
  bd (gR st x0 50) fun o53 =>
  ck ((kd o53).1 = 100 ∧ inb x3 (kd o53).2) <|
  bd (sI st o53 (ix x3) x1) fun s54 =>
  b_X12_begins_160 fu r_X12_plays r_X12_begins k_21 x0 x1 x2 x3  s54)
set_option maxHeartbeats 4000000 in
set_option maxRecDepth 100000 in
theorem t_X12_begins_147 {X : CX} {d : Nat} {res : St} (B : BV X cX12_begins RX12 8 (52 + (d + 1)) NN none res) (fu : Nat) (r_X12_plays : Nat → Int32 → Int32 → Int32 → St → Option (St)) (r_X12_begins : Nat → Int32 → St → Option (St)) (h_X12_plays : ∀ (th : Nat) (p1 : Int32) (p2 : Int32) (p3 : Int32) (st : St), MV (x_G X) NN (x_l X) yX12_plays cX12_plays 5 none (52 + d) [.ref (x_b X + th), .int p1, .int p2, .int p3] st (r_X12_plays th p1 p2 p3 st)) (h_X12_begins : ∀ (th : Nat) (p1 : Int32) (st : St), MV (x_G X) NN (x_l X) yX12_begins cX12_begins 8 none (52 + d) [.ref (x_b X + th), .int p1] st (r_X12_begins th p1 st)) (k_21 : Nat → Int32 → Int32 → Int32 → St → Option (St)) (h_21 : ∀ (x0 : Nat) (x1 : Int32) (x2 : Int32) (x3 : Int32)  (st : St), WW X res NN 21 [(0, .ref (x_b X + x0)), (1, .int x1), (2, .int x2), (3, .int x3)] [] st (k_21 x0 x1 x2 x3 st)) (x0 : Nat) (x1 : Int32) (x2 : Int32) (x3 : Int32)  (st : St) : WW X res NN 147 [(0, .ref (x_b X + x0)), (1, .int x1), (2, .int x2), (3, .int x3)] [] st (b_X12_begins_147 fu r_X12_plays r_X12_begins k_21 x0 x1 x2 x3 st) := by
  have hX := B.1
  have hL := B.2.1
  unfold b_X12_begins_147
  refine ww_iload_n hX 3 rfl dX12_begins_147 rfl ?_
  refine ww_bipush (v := 49) hX rfl dX12_begins_148 ?_
  refine ww_icmp_lt (tgt := 160) hX dX12_begins_150 (by decide) ?_ ?_
  · exact t_X12_begins_160 B fu r_X12_plays r_X12_begins h_X12_plays h_X12_begins k_21 h_21 x0 x1 x2 x3  st
  · refine ww_aload_n hX 0 rfl dX12_begins_153 rfl ?_
    refine ww_getR hX f_X12_136 (Or.inr ⟨_, rfl⟩) dX12_begins_154 ?_
    refine ww_bdR (fun o53 => ?_)
    refine ww_iload_n hX 3 rfl dX12_begins_157 rfl ?_
    refine ww_iload_n hX 1 rfl dX12_begins_158 rfl ?_
    refine ww_iastc hX k_iast dX12_begins_159 ?_
    refine ww_bds (fun s54 => ?_)
    exact t_X12_begins_160 B fu r_X12_plays r_X12_begins h_X12_plays h_X12_begins k_21 h_21 x0 x1 x2 x3  s54
def b_X12_begins_127 (fu : Nat) (r_X12_plays : Nat → Int32 → Int32 → Int32 → St → Option (St)) (r_X12_begins : Nat → Int32 → St → Option (St)) (k_21 : Nat → Int32 → Int32 → Int32 → St → Option (St)) (x0 : Nat) (x1 : Int32) (x2 : Int32) (x3 : Int32) (x4 : Int32) (x5 : Int32) (y0 : Nat) (y1 : Int32) (y2 : Int32) (st : St) : Option (St) :=
  ck ((kd y0).1 = 100 ∧ inb y1 (kd y0).2) <|
  bd (sI st y0 (ix y1) y2) fun s51 =>
  ck (¬ gR s51 x0 49 = 0) <|
  ck ((kd x0).1 = 12) <|
  bd (gR s51 x0 49) fun o52 =>
  ck ((kd o52).1 = 100 ∧ inb x4 (kd o52).2) <|
  if (gI s51 o52 (ix x4)) = 0 then (
  ck (¬ gR s51 x0 45 = 0) <|
  ck ((kd x0).1 = 12) <|
  bd (gR s51 x0 45) fun o55 =>
  ck ((kd o55).1 = 100 ∧ inb x4 (kd o55).2) <|
  bd (sI s51 o55 (ix x4) x5) fun s56 =>
  b_X12_begins_147 fu r_X12_plays r_X12_begins k_21 x0 x1 x2 x3  s56)
  else (
  b_X12_begins_147 fu r_X12_plays r_X12_begins k_21 x0 x1 x2 x3  s51)
set_option maxHeartbeats 4000000 in
set_option maxRecDepth 100000 in
theorem t_X12_begins_127 {X : CX} {d : Nat} {res : St} (B : BV X cX12_begins RX12 8 (52 + (d + 1)) NN none res) (fu : Nat) (r_X12_plays : Nat → Int32 → Int32 → Int32 → St → Option (St)) (r_X12_begins : Nat → Int32 → St → Option (St)) (h_X12_plays : ∀ (th : Nat) (p1 : Int32) (p2 : Int32) (p3 : Int32) (st : St), MV (x_G X) NN (x_l X) yX12_plays cX12_plays 5 none (52 + d) [.ref (x_b X + th), .int p1, .int p2, .int p3] st (r_X12_plays th p1 p2 p3 st)) (h_X12_begins : ∀ (th : Nat) (p1 : Int32) (st : St), MV (x_G X) NN (x_l X) yX12_begins cX12_begins 8 none (52 + d) [.ref (x_b X + th), .int p1] st (r_X12_begins th p1 st)) (k_21 : Nat → Int32 → Int32 → Int32 → St → Option (St)) (h_21 : ∀ (x0 : Nat) (x1 : Int32) (x2 : Int32) (x3 : Int32)  (st : St), WW X res NN 21 [(0, .ref (x_b X + x0)), (1, .int x1), (2, .int x2), (3, .int x3)] [] st (k_21 x0 x1 x2 x3 st)) (x0 : Nat) (x1 : Int32) (x2 : Int32) (x3 : Int32) (x4 : Int32) (x5 : Int32) (y0 : Nat) (y1 : Int32) (y2 : Int32) (st : St) : WW X res NN 127 [(0, .ref (x_b X + x0)), (1, .int x1), (2, .int x2), (3, .int x3), (4, .int x4), (5, .int x5)] [.int y2, .int y1, .ref (x_b X + y0)] st (b_X12_begins_127 fu r_X12_plays r_X12_begins k_21 x0 x1 x2 x3 x4 x5 y0 y1 y2 st) := by
  have hX := B.1
  have hL := B.2.1
  unfold b_X12_begins_127
  refine ww_iastc hX k_iast dX12_begins_127 ?_
  refine ww_bds (fun s51 => ?_)
  refine ww_aload_n hX 0 rfl dX12_begins_128 rfl ?_
  refine ww_getR hX f_X12_133 (Or.inr ⟨_, rfl⟩) dX12_begins_129 ?_
  refine ww_bdR (fun o52 => ?_)
  refine ww_iload hX 4 rfl dX12_begins_132 ?_
  refine ww_ialdc hX k_iald dX12_begins_134 ?_
  refine ww_if_ne (tgt := 147) hX dX12_begins_135 (by decide) ?_ ?_
  · exact ww_sub [0, 1, 2, 3] rfl (t_X12_begins_147 B fu r_X12_plays r_X12_begins h_X12_plays h_X12_begins k_21 h_21 x0 x1 x2 x3  s51)
  · refine ww_aload_n hX 0 rfl dX12_begins_138 rfl ?_
    refine ww_getR hX f_X12_121 (Or.inr ⟨_, rfl⟩) dX12_begins_139 ?_
    refine ww_bdR (fun o55 => ?_)
    refine ww_iload hX 4 rfl dX12_begins_142 ?_
    refine ww_iload hX 5 rfl dX12_begins_144 ?_
    refine ww_iastc hX k_iast dX12_begins_146 ?_
    refine ww_bds (fun s56 => ?_)
    exact ww_sub [0, 1, 2, 3] rfl (t_X12_begins_147 B fu r_X12_plays r_X12_begins h_X12_plays h_X12_begins k_21 h_21 x0 x1 x2 x3  s56)
def b_X12_begins_21_b (fu : Nat) (r_X12_plays : Nat → Int32 → Int32 → Int32 → St → Option (St)) (r_X12_begins : Nat → Int32 → St → Option (St)) (k_21 : Nat → Int32 → Int32 → Int32 → St → Option (St)) (x0 : Nat) (x1 : Int32) (x2 : Int32) (x3 : Int32)  (st : St) : Option (St) :=
  if 64 < x3 then (
  ck (¬ gR st x0 14 = 0) <|
  ck ((kd x0).1 = 12) <|
  bd (gR st x0 14) fun o5 =>
  ck ((kd o5).1 = 100 ∧ inb x2 (kd o5).2) <|
  if (gI st o5 (ix x2)) ≤ 0 then (
  b_X12_begins_192 fu r_X12_plays r_X12_begins x0 x1 x2  st)
  else (
  ck (¬ gR st x0 43 = 0) <|
  ck ((kd x0).1 = 12) <|
  bd (gR st x0 43) fun o33 =>
  ck ((kd x0).1 = 12) <|
  ck (¬ gR st x0 14 = 0) <|
  ck ((kd x0).1 = 12) <|
  bd (gR st x0 14) fun o34 =>
  ck ((kd o34).1 = 100 ∧ inb x2 (kd o34).2) <|
  ck ((kd o33).1 = 100 ∧ inb x1 (kd o33).2) <|
  bd (sI st o33 (ix x1) ((gI st x0 40) + (gI st o34 (ix x2)))) fun s35 =>
  b_X12_begins_192 fu r_X12_plays r_X12_begins x0 x1 x2  s35))
  else (
  bd ((65 * x1) + x3) fun v36 =>
  ck (¬ gR st x0 18 = 0) <|
  ck ((kd x0).1 = 12) <|
  bd (gR st x0 18) fun o37 =>
  ck ((kd o37).1 = 100 ∧ inb ((65 * x2) + x3) (kd o37).2) <|
  bd (gI st o37 (ix ((65 * x2) + x3))) fun v38 =>
  ck (¬ gR st x0 46 = 0) <|
  ck ((kd x0).1 = 12) <|
  bd (gR st x0 46) fun o39 =>
  ck ((kd o39).1 = 100 ∧ inb v36 (kd o39).2) <|
  if (gI st o39 (ix v36)) = v38 then (
  b_X12_begins_160 fu r_X12_plays r_X12_begins k_21 x0 x1 x2 x3  st)
  else (
  ck (¬ gR st x0 46 = 0) <|
  ck ((kd x0).1 = 12) <|
  bd (gR st x0 46) fun o41 =>
  ck ((kd o41).1 = 100 ∧ inb v36 (kd o41).2) <|
  bd (sI st o41 (ix v36) v38) fun s42 =>
  ck (¬ gR s42 x0 47 = 0) <|
  ck ((kd x0).1 = 12) <|
  bd (gR s42 x0 47) fun o43 =>
  ck (¬ gR s42 x0 45 = 0) <|
  ck ((kd x0).1 = 12) <|
  bd (gR s42 x0 45) fun o44 =>
  ck ((kd o44).1 = 100 ∧ inb v36 (kd o44).2) <|
  ck ((kd o43).1 = 100 ∧ inb v36 (kd o43).2) <|
  bd (sI s42 o43 (ix v36) (gI s42 o44 (ix v36))) fun s45 =>
  ck (¬ gR s45 x0 48 = 0) <|
  ck ((kd x0).1 = 12) <|
  bd (gR s45 x0 48) fun o46 =>
  ck ((kd x0).1 = 12) <|
  ck ((kd o46).1 = 100 ∧ inb v36 (kd o46).2) <|
  bd (sI s45 o46 (ix v36) (gI s45 x0 40)) fun s47 =>
  ck (¬ gR s47 x0 49 = 0) <|
  ck ((kd x0).1 = 12) <|
  bd (gR s47 x0 49) fun o48 =>
  ck (¬ gR s47 x0 45 = 0) <|
  ck ((kd x0).1 = 12) <|
  bd (gR s47 x0 45) fun o49 =>
  ck ((kd o49).1 = 100 ∧ inb v36 (kd o49).2) <|
  if v38 ≤ (gI s47 o49 (ix v36)) then (
  ck (¬ gR s47 x0 12 = 0) <|
  ck ((kd x0).1 = 12) <|
  bd (gR s47 x0 12) fun o50 =>
  ck ((kd o50).1 = 100 ∧ inb x2 (kd o50).2) <|
  b_X12_begins_127 fu r_X12_plays r_X12_begins k_21 x0 x1 x2 x3 v36 v38 o48 v36 (gI s47 o50 (ix x2)) s47)
  else (
  ck (¬ gR s47 x0 11 = 0) <|
  ck ((kd x0).1 = 12) <|
  bd (gR s47 x0 11) fun o57 =>
  ck ((kd o57).1 = 100 ∧ inb x2 (kd o57).2) <|
  b_X12_begins_127 fu r_X12_plays r_X12_begins k_21 x0 x1 x2 x3 v36 v38 o48 v36 (gI s47 o57 (ix x2)) s47)))
set_option maxHeartbeats 4000000 in
set_option maxRecDepth 100000 in
theorem t_X12_begins_21_b {X : CX} {d : Nat} {res : St} (B : BV X cX12_begins RX12 8 (52 + (d + 1)) NN none res) (fu : Nat) (r_X12_plays : Nat → Int32 → Int32 → Int32 → St → Option (St)) (r_X12_begins : Nat → Int32 → St → Option (St)) (h_X12_plays : ∀ (th : Nat) (p1 : Int32) (p2 : Int32) (p3 : Int32) (st : St), MV (x_G X) NN (x_l X) yX12_plays cX12_plays 5 none (52 + d) [.ref (x_b X + th), .int p1, .int p2, .int p3] st (r_X12_plays th p1 p2 p3 st)) (h_X12_begins : ∀ (th : Nat) (p1 : Int32) (st : St), MV (x_G X) NN (x_l X) yX12_begins cX12_begins 8 none (52 + d) [.ref (x_b X + th), .int p1] st (r_X12_begins th p1 st)) (k_21 : Nat → Int32 → Int32 → Int32 → St → Option (St)) (h_21 : ∀ (x0 : Nat) (x1 : Int32) (x2 : Int32) (x3 : Int32)  (st : St), WW X res NN 21 [(0, .ref (x_b X + x0)), (1, .int x1), (2, .int x2), (3, .int x3)] [] st (k_21 x0 x1 x2 x3 st)) (x0 : Nat) (x1 : Int32) (x2 : Int32) (x3 : Int32)  (st : St) : WW X res NN 21 [(0, .ref (x_b X + x0)), (1, .int x1), (2, .int x2), (3, .int x3)] [] st (b_X12_begins_21_b fu r_X12_plays r_X12_begins k_21 x0 x1 x2 x3 st) := by
  have hX := B.1
  have hL := B.2.1
  unfold b_X12_begins_21_b
  refine ww_iload_n hX 3 rfl dX12_begins_21 rfl ?_
  refine ww_bipush (v := 64) hX rfl dX12_begins_22 ?_
  refine ww_icmp_gt (tgt := 166) hX dX12_begins_24 (by decide) ?_ ?_
  · refine ww_aload_n hX 0 rfl dX12_begins_166 rfl ?_
    refine ww_getR hX f_X12_39 (Or.inr ⟨_, rfl⟩) dX12_begins_167 ?_
    refine ww_bdR (fun o5 => ?_)
    refine ww_iload_n hX 2 rfl dX12_begins_170 rfl ?_
    refine ww_ialdc hX k_iald dX12_begins_171 ?_
    refine ww_if_le (tgt := 192) hX dX12_begins_172 (by decide) ?_ ?_
    · exact ww_sub [0, 1, 2] rfl (t_X12_begins_192 B fu r_X12_plays r_X12_begins h_X12_plays h_X12_begins x0 x1 x2  st)
    · refine ww_aload_n hX 0 rfl dX12_begins_175 rfl ?_
      refine ww_getR hX f_X12_115 (Or.inr ⟨_, rfl⟩) dX12_begins_176 ?_
      refine ww_bdR (fun o33 => ?_)
      refine ww_iload_n hX 1 rfl dX12_begins_179 rfl ?_
      refine ww_aload_n hX 0 rfl dX12_begins_180 rfl ?_
      refine ww_getI hX f_X12_490 (Or.inl rfl) dX12_begins_181 ?_
      refine ww_aload_n hX 0 rfl dX12_begins_184 rfl ?_
      refine ww_getR hX f_X12_39 (Or.inr ⟨_, rfl⟩) dX12_begins_185 ?_
      refine ww_bdR (fun o34 => ?_)
      refine ww_pc (b := 188) rfl ?_
      refine ww_iload_n hX 2 rfl dX12_begins_188 rfl ?_
      refine ww_ialdc hX k_iald dX12_begins_189 ?_
      refine ww_iadd hX dX12_begins_190 ?_
      refine ww_iastc hX k_iast dX12_begins_191 ?_
      refine ww_bds (fun s35 => ?_)
      exact ww_sub [0, 1, 2] rfl (t_X12_begins_192 B fu r_X12_plays r_X12_begins h_X12_plays h_X12_begins x0 x1 x2  s35)
  · refine ww_bipush (v := 65) hX rfl dX12_begins_27 ?_
    refine ww_iload_n hX 1 rfl dX12_begins_29 rfl ?_
    refine ww_imul hX dX12_begins_30 ?_
    refine ww_iload_n hX 3 rfl dX12_begins_31 rfl ?_
    refine ww_iadd hX dX12_begins_32 ?_
    refine ww_bdi (fun v36 => ?_)
    refine ww_istore (lv' := [(4, .int v36), (0, .ref (x_b X + x0)), (1, .int x1), (2, .int x2), (3, .int x3)]) hX hL dX12_begins_33 (by decide) rfl ?_
    refine ww_aload_n hX 1 rfl dX12_begins_35 rfl ?_
    refine ww_pc (b := 36) rfl ?_
    refine ww_getR hX f_X12_51 (Or.inr ⟨_, rfl⟩) dX12_begins_36 ?_
    refine ww_bdR (fun o37 => ?_)
    refine ww_bipush (v := 65) hX rfl dX12_begins_39 ?_
    refine ww_iload_n hX 3 rfl dX12_begins_41 rfl ?_
    refine ww_imul hX dX12_begins_42 ?_
    refine ww_iload_n hX 4 rfl dX12_begins_43 rfl ?_
    refine ww_iadd hX dX12_begins_44 ?_
    refine ww_ialdc hX k_iald dX12_begins_45 ?_
    refine ww_bdi (fun v38 => ?_)
    refine ww_istore (lv' := [(5, .int v38), (4, .int v36), (0, .ref (x_b X + x0)), (1, .int x1), (2, .int x2), (3, .int x3)]) hX hL dX12_begins_46 (by decide) rfl ?_
    refine ww_pc (b := 48) rfl ?_
    refine ww_aload_n hX 2 rfl dX12_begins_48 rfl ?_
    refine ww_getR hX f_X12_124 (Or.inr ⟨_, rfl⟩) dX12_begins_49 ?_
    refine ww_bdR (fun o39 => ?_)
    refine ww_iload hX 1 rfl dX12_begins_52 ?_
    refine ww_ialdc hX k_iald dX12_begins_54 ?_
    refine ww_iload hX 0 rfl dX12_begins_55 ?_
    refine ww_icmp_eq (tgt := 160) hX dX12_begins_57 (by decide) ?_ ?_
    · exact ww_sub [2, 3, 4, 5] rfl (t_X12_begins_160 B fu r_X12_plays r_X12_begins h_X12_plays h_X12_begins k_21 h_21 x0 x1 x2 x3  st)
    · refine ww_aload_n hX 2 rfl dX12_begins_60 rfl ?_
      refine ww_getR hX f_X12_124 (Or.inr ⟨_, rfl⟩) dX12_begins_61 ?_
      refine ww_bdR (fun o41 => ?_)
      refine ww_iload hX 1 rfl dX12_begins_64 ?_
      refine ww_iload hX 0 rfl dX12_begins_66 ?_
      refine ww_iastc hX k_iast dX12_begins_68 ?_
      refine ww_bds (fun s42 => ?_)
      refine ww_aload_n hX 2 rfl dX12_begins_69 rfl ?_
      refine ww_getR hX f_X12_127 (Or.inr ⟨_, rfl⟩) dX12_begins_70 ?_
      refine ww_bdR (fun o43 => ?_)
      refine ww_pc (b := 73) rfl ?_
      refine ww_iload hX 1 rfl dX12_begins_73 ?_
      refine ww_aload_n hX 2 rfl dX12_begins_75 rfl ?_
      refine ww_getR hX f_X12_121 (Or.inr ⟨_, rfl⟩) dX12_begins_76 ?_
      refine ww_bdR (fun o44 => ?_)
      refine ww_iload hX 1 rfl dX12_begins_79 ?_
      refine ww_ialdc hX k_iald dX12_begins_81 ?_
      refine ww_iastc hX k_iast dX12_begins_82 ?_
      refine ww_bds (fun s45 => ?_)
      refine ww_aload_n hX 2 rfl dX12_begins_83 rfl ?_
      refine ww_getR hX f_X12_130 (Or.inr ⟨_, rfl⟩) dX12_begins_84 ?_
      refine ww_bdR (fun o46 => ?_)
      refine ww_pc (b := 87) rfl ?_
      refine ww_iload hX 1 rfl dX12_begins_87 ?_
      refine ww_aload_n hX 2 rfl dX12_begins_89 rfl ?_
      refine ww_getI hX f_X12_490 (Or.inl rfl) dX12_begins_90 ?_
      refine ww_iastc hX k_iast dX12_begins_93 ?_
      refine ww_bds (fun s47 => ?_)
      refine ww_aload_n hX 2 rfl dX12_begins_94 rfl ?_
      refine ww_getR hX f_X12_133 (Or.inr ⟨_, rfl⟩) dX12_begins_95 ?_
      refine ww_bdR (fun o48 => ?_)
      refine ww_iload hX 1 rfl dX12_begins_98 ?_
      refine ww_iload hX 0 rfl dX12_begins_100 ?_
      refine ww_pc (b := 102) rfl ?_
      refine ww_aload_n hX 2 rfl dX12_begins_102 rfl ?_
      refine ww_getR hX f_X12_121 (Or.inr ⟨_, rfl⟩) dX12_begins_103 ?_
      refine ww_bdR (fun o49 => ?_)
      refine ww_iload hX 1 rfl dX12_begins_106 ?_
      refine ww_ialdc hX k_iald dX12_begins_108 ?_
      refine ww_icmp_le (tgt := 121) hX dX12_begins_109 (by decide) ?_ ?_
      · refine ww_aload_n hX 2 rfl dX12_begins_121 rfl ?_
        refine ww_getR hX f_X12_33 (Or.inr ⟨_, rfl⟩) dX12_begins_122 ?_
        refine ww_bdR (fun o50 => ?_)
        refine ww_iload_n hX 4 rfl dX12_begins_125 rfl ?_
        refine ww_ialdc hX k_iald dX12_begins_126 ?_
        exact ww_sub [2, 3, 4, 5, 1, 0] rfl (t_X12_begins_127 B fu r_X12_plays r_X12_begins h_X12_plays h_X12_begins k_21 h_21 x0 x1 x2 x3 v36 v38 o48 v36 (gI s47 o50 (ix x2)) s47)
      · refine ww_aload_n hX 2 rfl dX12_begins_112 rfl ?_
        refine ww_getR hX f_X12_30 (Or.inr ⟨_, rfl⟩) dX12_begins_113 ?_
        refine ww_bdR (fun o57 => ?_)
        refine ww_iload_n hX 4 rfl dX12_begins_116 rfl ?_
        refine ww_ialdc hX k_iald dX12_begins_117 ?_
        refine ww_goto (tgt := 127) hX dX12_begins_118 (by decide) ?_
        exact ww_sub [2, 3, 4, 5, 1, 0] rfl (t_X12_begins_127 B fu r_X12_plays r_X12_begins h_X12_plays h_X12_begins k_21 h_21 x0 x1 x2 x3 v36 v38 o48 v36 (gI s47 o57 (ix x2)) s47)
def b_X12_begins_21 (fu : Nat) (r_X12_plays : Nat → Int32 → Int32 → Int32 → St → Option (St)) (r_X12_begins : Nat → Int32 → St → Option (St)) : Nat → Nat → Int32 → Int32 → Int32 → St → Option (St)
  | 0, _, _, _, _, _ => none
  | i + 1, x0, x1, x2, x3, st => b_X12_begins_21_b fu r_X12_plays r_X12_begins (b_X12_begins_21 fu r_X12_plays r_X12_begins i) x0 x1 x2 x3 st
theorem t_X12_begins_21 {X : CX} {d : Nat} {res : St} (B : BV X cX12_begins RX12 8 (52 + (d + 1)) NN none res) (fu : Nat) (r_X12_plays : Nat → Int32 → Int32 → Int32 → St → Option (St)) (r_X12_begins : Nat → Int32 → St → Option (St)) (h_X12_plays : ∀ (th : Nat) (p1 : Int32) (p2 : Int32) (p3 : Int32) (st : St), MV (x_G X) NN (x_l X) yX12_plays cX12_plays 5 none (52 + d) [.ref (x_b X + th), .int p1, .int p2, .int p3] st (r_X12_plays th p1 p2 p3 st)) (h_X12_begins : ∀ (th : Nat) (p1 : Int32) (st : St), MV (x_G X) NN (x_l X) yX12_begins cX12_begins 8 none (52 + d) [.ref (x_b X + th), .int p1] st (r_X12_begins th p1 st)) : ∀ (i : Nat) (x0 : Nat) (x1 : Int32) (x2 : Int32) (x3 : Int32)  (st : St), WW X res NN 21 [(0, .ref (x_b X + x0)), (1, .int x1), (2, .int x2), (3, .int x3)] [] st (b_X12_begins_21 fu r_X12_plays r_X12_begins i x0 x1 x2 x3 st) := by
  intro i
  induction i with
  | zero => intro x0 x1 x2 x3 st; exact ww_none
  | succ i ih => intro x0 x1 x2 x3 st; exact t_X12_begins_21_b B fu r_X12_plays r_X12_begins h_X12_plays h_X12_begins (b_X12_begins_21 fu r_X12_plays r_X12_begins i) ih x0 x1 x2 x3 st
def fb_X12_begins (fu : Nat) (r_X12_plays : Nat → Int32 → Int32 → Int32 → St → Option (St)) (r_X12_begins : Nat → Int32 → St → Option (St)) (th : Nat) (p1 : Int32) (st : St) : Option (St) :=
  ck (¬ gR st th 41 = 0) <|
  ck ((kd th).1 = 12) <|
  bd (gR st th 41) fun o1 =>
  ck ((kd o1).1 = 100 ∧ inb p1 (kd o1).2) <|
  bd ((p1 * 60) + (gI st o1 (ix p1))) fun v2 =>
  ck (¬ gR st th 42 = 0) <|
  ck ((kd th).1 = 12) <|
  bd (gR st th 42) fun o3 =>
  ck ((kd o3).1 = 100 ∧ inb p1 (kd o3).2) <|
  bd (sI st o3 (ix p1) ((-1))) fun s4 =>
  b_X12_begins_21 fu r_X12_plays r_X12_begins fu th p1 v2 1  s4
set_option maxHeartbeats 4000000 in
set_option maxRecDepth 100000 in
theorem t_X12_begins {X : CX} {d : Nat} {res : St} (B : BV X cX12_begins RX12 8 (52 + (d + 1)) NN none res) (fu : Nat) (r_X12_plays : Nat → Int32 → Int32 → Int32 → St → Option (St)) (r_X12_begins : Nat → Int32 → St → Option (St)) (h_X12_plays : ∀ (th : Nat) (p1 : Int32) (p2 : Int32) (p3 : Int32) (st : St), MV (x_G X) NN (x_l X) yX12_plays cX12_plays 5 none (52 + d) [.ref (x_b X + th), .int p1, .int p2, .int p3] st (r_X12_plays th p1 p2 p3 st)) (h_X12_begins : ∀ (th : Nat) (p1 : Int32) (st : St), MV (x_G X) NN (x_l X) yX12_begins cX12_begins 8 none (52 + d) [.ref (x_b X + th), .int p1] st (r_X12_begins th p1 st)) (th : Nat) (p1 : Int32) (st : St) : WW X res NN 0 [(0, .ref (x_b X + th)), (1, .int p1)] [] st (fb_X12_begins fu r_X12_plays r_X12_begins th p1 st) := by
  have hX := B.1
  have hL := B.2.1
  unfold fb_X12_begins
  refine ww_iload_n hX 1 rfl dX12_begins_0 rfl ?_
  refine ww_bipush (v := 60) hX rfl dX12_begins_1 ?_
  refine ww_imul hX dX12_begins_3 ?_
  refine ww_aload_n hX 0 rfl dX12_begins_4 rfl ?_
  refine ww_getR hX f_X12_109 (Or.inr ⟨_, rfl⟩) dX12_begins_5 ?_
  refine ww_bdR (fun o1 => ?_)
  refine ww_iload_n hX 1 rfl dX12_begins_8 rfl ?_
  refine ww_ialdc hX k_iald dX12_begins_9 ?_
  refine ww_pc (b := 10) rfl ?_
  refine ww_iadd hX dX12_begins_10 ?_
  refine ww_bdi (fun v2 => ?_)
  refine ww_istore_n (lv' := [(2, .int v2), (0, .ref (x_b X + th)), (1, .int p1)]) hX hL dX12_begins_11 rfl (by decide) rfl ?_
  refine ww_aload_n hX 1 rfl dX12_begins_12 rfl ?_
  refine ww_getR hX f_X12_112 (Or.inr ⟨_, rfl⟩) dX12_begins_13 ?_
  refine ww_bdR (fun o3 => ?_)
  refine ww_iload_n hX 2 rfl dX12_begins_16 rfl ?_
  refine ww_iconst (v := (-1)) hX rfl dX12_begins_17 ?_
  refine ww_iastc hX k_iast dX12_begins_18 ?_
  refine ww_bds (fun s4 => ?_)
  refine ww_iconst (v := 1) hX rfl dX12_begins_19 ?_
  refine ww_pc (b := 20) rfl ?_
  refine ww_istore_n (lv' := [(3, .int 1), (2, .int v2), (0, .ref (x_b X + th)), (1, .int p1)]) hX hL dX12_begins_20 rfl (by decide) rfl ?_
  exact ww_sub [2, 3, 1, 0] rfl (t_X12_begins_21 B fu r_X12_plays r_X12_begins h_X12_plays h_X12_begins fu th p1 v2 1  s4)
def F_X12_plays (fu : Nat) : Nat → (Nat → Int32 → Int32 → Int32 → St → Option (St)) × (Nat → Int32 → St → Option (St))
  | 0 => (fun _ _ _ _ _ => none, fun _ _ _ => none)
  | d + 1 => (fb_X12_plays fu (F_X12_plays fu d).1 (F_X12_plays fu d).2, fb_X12_begins fu (F_X12_plays fu d).1 (F_X12_plays fu d).2)
theorem CF_X12_plays (G : GX) (l : Launch) (fu : Nat) : ∀ d : Nat, (∀ (th : Nat) (p1 : Int32) (p2 : Int32) (p3 : Int32) (st : St), MV G NN l yX12_plays cX12_plays 5 none (52 + d) [.ref (G.2.2.1 + th), .int p1, .int p2, .int p3] st ((F_X12_plays fu d).1 th p1 p2 p3 st)) ∧ (∀ (th : Nat) (p1 : Int32) (st : St), MV G NN l yX12_begins cX12_begins 8 none (52 + d) [.ref (G.2.2.1 + th), .int p1] st ((F_X12_plays fu d).2 th p1 st)) := by
  intro d
  induction d with
  | zero => exact ⟨fun th p1 p2 p3 st => (fun u h => by cases h), fun th p1 st => (fun u h => by cases h)⟩
  | succ d ih => exact ⟨fun th p1 p2 p3 st => mkV (by decide) (Nat.le_of_ble_eq_true rfl) (fun X res hl hG B => by subst hl; subst hG; exact t_X12_plays B fu (F_X12_plays fu d).1 (F_X12_plays fu d).2 ih.1 ih.2 th p1 p2 p3 st), fun th p1 st => mkV (by decide) (Nat.le_of_ble_eq_true rfl) (fun X res hl hG B => by subst hl; subst hG; exact t_X12_begins B fu (F_X12_plays fu d).1 (F_X12_plays fu d).2 ih.1 ih.2 th p1 st)⟩
def f_X12_plays (fu : Nat) (th : Nat) (p1 : Int32) (p2 : Int32) (p3 : Int32) (st : St) : Option (St) := (F_X12_plays fu 6).1 th p1 p2 p3 st
theorem c_X12_plays (G : GX) (l : Launch) (fu : Nat) (th : Nat) (p1 : Int32) (p2 : Int32) (p3 : Int32) (st : St) : MV G NN l yX12_plays cX12_plays 5 none 58 [.ref (G.2.2.1 + th), .int p1, .int p2, .int p3] st (f_X12_plays fu th p1 p2 p3 st) := (CF_X12_plays G l fu 6).1 th p1 p2 p3 st
def f_X12_begins (fu : Nat) (th : Nat) (p1 : Int32) (st : St) : Option (St) := (F_X12_plays fu 6).2 th p1 st
theorem c_X12_begins (G : GX) (l : Launch) (fu : Nat) (th : Nat) (p1 : Int32) (st : St) : MV G NN l yX12_begins cX12_begins 8 none 58 [.ref (G.2.2.1 + th), .int p1] st (f_X12_begins fu th p1 st) := (CF_X12_plays G l fu 6).2 th p1 st
/-! StageHouseModel.begins(I)V -/

/-! StageHouseModel.goes(I)Z -/
def b_X12_goes_108 (fu : Nat)  (y0 : Nat) (y1 : Int32) (y2 : Int32) (st : St) : Option (Int32 × St) :=
  ck ((kd y0).1 = 100 ∧ inb y1 (kd y0).2) <|
  bd (sI st y0 (ix y1) y2) fun s8 =>
  ck (isb 0) (some (0, s8))
set_option maxHeartbeats 4000000 in
set_option maxRecDepth 100000 in
theorem t_X12_goes_108 {X : CX} {res : Int32 × St} (B : BI X cX12_goes RX12 5 59 NN (some .boolean) res) (fu : Nat)  (y0 : Nat) (y1 : Int32) (y2 : Int32) (st : St) : WW X res NN 108 [] [.int y2, .int y1, .ref (x_b X + y0)] st (b_X12_goes_108 fu y0 y1 y2 st) := by
  have hX := B.1
  have hL := B.2.1
  unfold b_X12_goes_108
  refine ww_iastc hX k_iast dX12_goes_108 ?_
  refine ww_bds (fun s8 => ?_)
  refine ww_iconst (v := 0) hX rfl dX12_goes_109 ?_
  exact ww_zret B dX12_goes_110
def b_X12_goes_70 (fu : Nat) (x0 : Nat) (x1 : Int32) (x3 : Int32)  (st : St) : Option (Int32 × St) :=
  ck (¬ gR st x0 9 = 0) <|
  ck ((kd x0).1 = 12) <|
  bd (gR st x0 9) fun o3 =>
  ck ((kd o3).1 = 100 ∧ inb x1 (kd o3).2) <|
  if x3 < (gI st o3 (ix x1)) then (
  ck ((kd x0).1 = 12) <|
  cv (f_X12_plays fu x0 x1 x3 0 st) fun s4 =>
  ck (isb 1) (some (1, s4)))
  else (
  ck (¬ gR st x0 43 = 0) <|
  ck ((kd x0).1 = 12) <|
  bd (gR st x0 43) fun o5 =>
  ck (¬ gR st x0 43 = 0) <|
  ck ((kd x0).1 = 12) <|
  bd (gR st x0 43) fun o6 =>
  ck ((kd o6).1 = 100 ∧ inb x1 (kd o6).2) <|
  ck ((kd x0).1 = 12) <|
  if (gI st o6 (ix x1)) = (gI st x0 40) then (
  b_X12_goes_108 fu  o5 x1 ((-1)) st)
  else (
  ck (¬ gR st x0 43 = 0) <|
  ck ((kd x0).1 = 12) <|
  bd (gR st x0 43) fun o7 =>
  ck ((kd o7).1 = 100 ∧ inb x1 (kd o7).2) <|
  b_X12_goes_108 fu  o5 x1 (gI st o7 (ix x1)) st))
set_option maxHeartbeats 4000000 in
set_option maxRecDepth 100000 in
theorem t_X12_goes_70 {X : CX} {res : Int32 × St} (B : BI X cX12_goes RX12 5 59 NN (some .boolean) res) (fu : Nat) (x0 : Nat) (x1 : Int32) (x3 : Int32)  (st : St) : WW X res NN 70 [(0, .ref (x_b X + x0)), (1, .int x1), (3, .int x3)] [] st (b_X12_goes_70 fu x0 x1 x3 st) := by
  have hX := B.1
  have hL := B.2.1
  unfold b_X12_goes_70
  refine ww_iload_n hX 2 rfl dX12_goes_70 rfl ?_
  refine ww_aload_n hX 0 rfl dX12_goes_71 rfl ?_
  refine ww_getR hX f_X12_24 (Or.inr ⟨_, rfl⟩) dX12_goes_72 ?_
  refine ww_bdR (fun o3 => ?_)
  refine ww_iload_n hX 1 rfl dX12_goes_75 rfl ?_
  refine ww_ialdc hX k_iald dX12_goes_76 ?_
  refine ww_icmp_lt (tgt := 111) hX dX12_goes_77 (by decide) ?_ ?_
  · refine ww_aload_n hX 0 rfl dX12_goes_111 rfl ?_
    refine ww_iload_n hX 1 rfl dX12_goes_112 rfl ?_
    refine ww_iload_n hX 2 rfl dX12_goes_113 rfl ?_
    refine ww_iconst (v := 0) hX rfl dX12_goes_114 ?_
    refine ww_callVV (As := [.int x1, .int x3, .int 0]) (rest := []) (o := x0) hX (Rk.of B.2.2.1 B.2.2.2.1 (by decide) (by decide)) g_X12_500 g_X12_500.in (fun _ => c_X12_plays (x_G X) (x_l X) fu x0 x1 x3 0 st) rfl rfl (Nat.le_of_ble_eq_true rfl) dX12_goes_115 (fun s4 => ?_)
    refine ww_iconst (v := 1) hX rfl dX12_goes_118 ?_
    exact ww_zret B dX12_goes_119
  · refine ww_aload_n hX 0 rfl dX12_goes_80 rfl ?_
    refine ww_getR hX f_X12_115 (Or.inr ⟨_, rfl⟩) dX12_goes_81 ?_
    refine ww_bdR (fun o5 => ?_)
    refine ww_iload_n hX 1 rfl dX12_goes_84 rfl ?_
    refine ww_aload_n hX 0 rfl dX12_goes_85 rfl ?_
    refine ww_getR hX f_X12_115 (Or.inr ⟨_, rfl⟩) dX12_goes_86 ?_
    refine ww_bdR (fun o6 => ?_)
    refine ww_iload_n hX 1 rfl dX12_goes_89 rfl ?_
    refine ww_ialdc hX k_iald dX12_goes_90 ?_
    refine ww_pc (b := 91) rfl ?_
    refine ww_aload_n hX 0 rfl dX12_goes_91 rfl ?_
    refine ww_getI hX f_X12_490 (Or.inl rfl) dX12_goes_92 ?_
    refine ww_icmp_ne (tgt := 102) hX dX12_goes_95 (by decide) ?_ ?_
    · refine ww_aload_n hX 0 rfl dX12_goes_102 rfl ?_
      refine ww_getR hX f_X12_115 (Or.inr ⟨_, rfl⟩) dX12_goes_103 ?_
      refine ww_bdR (fun o7 => ?_)
      refine ww_iload_n hX 1 rfl dX12_goes_106 rfl ?_
      refine ww_ialdc hX k_iald dX12_goes_107 ?_
      exact ww_sub [] rfl (t_X12_goes_108 B fu  o5 x1 (gI st o7 (ix x1)) st)
    · refine ww_iconst (v := (-1)) hX rfl dX12_goes_98 ?_
      refine ww_goto (tgt := 108) hX dX12_goes_99 (by decide) ?_
      exact ww_sub [] rfl (t_X12_goes_108 B fu  o5 x1 ((-1)) st)
def b_X12_goes_69 (fu : Nat) (x0 : Nat) (x1 : Int32) (y0 : Int32) (st : St) : Option (Int32 × St) :=
  b_X12_goes_70 fu x0 x1 y0  st
set_option maxHeartbeats 4000000 in
set_option maxRecDepth 100000 in
theorem t_X12_goes_69 {X : CX} {res : Int32 × St} (B : BI X cX12_goes RX12 5 59 NN (some .boolean) res) (fu : Nat) (x0 : Nat) (x1 : Int32) (y0 : Int32) (st : St) : WW X res NN 69 [(0, .ref (x_b X + x0)), (1, .int x1)] [.int y0] st (b_X12_goes_69 fu x0 x1 y0 st) := by
  have hX := B.1
  have hL := B.2.1
  unfold b_X12_goes_69
  refine ww_istore_n (lv' := [(3, .int y0), (0, .ref (x_b X + x0)), (1, .int x1)]) hX hL dX12_goes_69 rfl (by decide) rfl ?_
  exact ww_sub [1, 2, 0] rfl (t_X12_goes_70 B fu x0 x1 y0  st)
def b_X12_goes_19 (fu : Nat) (x0 : Nat) (x1 : Int32) (x2 : Int32) (y0 : Int32) (st : St) : Option (Int32 × St) :=
  if x2 = ((-1)) then (
  b_X12_goes_70 fu x0 x1 y0  st)
  else (
  ck (¬ gR st x0 15 = 0) <|
  ck ((kd x0).1 = 12) <|
  bd (gR st x0 15) fun o9 =>
  ck ((kd o9).1 = 100 ∧ inb ((x1 * 60) + x2) (kd o9).2) <|
  if (gI st o9 (ix ((x1 * 60) + x2))) = 0 then (
  b_X12_goes_70 fu x0 x1 y0  st)
  else (
  ck (¬ gR st x0 15 = 0) <|
  ck ((kd x0).1 = 12) <|
  bd (gR st x0 15) fun o10 =>
  ck ((kd o10).1 = 100 ∧ inb ((x1 * 60) + x2) (kd o10).2) <|
  ck ((kd x0).1 = 12) <|
  ca (f_X12_cueOf fu x0 x1 (gI st o10 (ix ((x1 * 60) + x2))) st) fun r11 s12 =>
  if r11 = ((-1)) then (
  b_X12_goes_69 fu x0 x1 y0 s12)
  else (
  b_X12_goes_69 fu x0 x1 r11 s12)))
set_option maxHeartbeats 4000000 in
set_option maxRecDepth 100000 in
theorem t_X12_goes_19 {X : CX} {res : Int32 × St} (B : BI X cX12_goes RX12 5 59 NN (some .boolean) res) (fu : Nat) (x0 : Nat) (x1 : Int32) (x2 : Int32) (y0 : Int32) (st : St) : WW X res NN 19 [(0, .ref (x_b X + x0)), (1, .int x1), (2, .int x2)] [.int y0] st (b_X12_goes_19 fu x0 x1 x2 y0 st) := by
  have hX := B.1
  have hL := B.2.1
  unfold b_X12_goes_19
  refine ww_istore_n (lv' := [(3, .int y0), (0, .ref (x_b X + x0)), (1, .int x1), (2, .int x2)]) hX hL dX12_goes_19 rfl (by decide) rfl ?_
  refine ww_iload_n hX 3 rfl dX12_goes_20 rfl ?_
  refine ww_iconst (v := (-1)) hX rfl dX12_goes_21 ?_
  refine ww_icmp_eq (tgt := 70) hX dX12_goes_22 (by decide) ?_ ?_
  · exact ww_sub [1, 2, 0] rfl (t_X12_goes_70 B fu x0 x1 y0  st)
  · refine ww_aload_n hX 1 rfl dX12_goes_25 rfl ?_
    refine ww_getR hX f_X12_42 (Or.inr ⟨_, rfl⟩) dX12_goes_26 ?_
    refine ww_bdR (fun o9 => ?_)
    refine ww_iload_n hX 2 rfl dX12_goes_29 rfl ?_
    refine ww_bipush (v := 60) hX rfl dX12_goes_30 ?_
    refine ww_imul hX dX12_goes_32 ?_
    refine ww_iload_n hX 3 rfl dX12_goes_33 rfl ?_
    refine ww_iadd hX dX12_goes_34 ?_
    refine ww_pc (b := 35) rfl ?_
    refine ww_ialdc hX k_iald dX12_goes_35 ?_
    refine ww_if_eq (tgt := 70) hX dX12_goes_36 (by decide) ?_ ?_
    · exact ww_sub [1, 2, 0] rfl (t_X12_goes_70 B fu x0 x1 y0  st)
    · refine ww_aload_n hX 1 rfl dX12_goes_39 rfl ?_
      refine ww_iload_n hX 2 rfl dX12_goes_40 rfl ?_
      refine ww_aload_n hX 1 rfl dX12_goes_41 rfl ?_
      refine ww_getR hX f_X12_42 (Or.inr ⟨_, rfl⟩) dX12_goes_42 ?_
      refine ww_bdR (fun o10 => ?_)
      refine ww_iload_n hX 2 rfl dX12_goes_45 rfl ?_
      refine ww_bipush (v := 60) hX rfl dX12_goes_46 ?_
      refine ww_imul hX dX12_goes_48 ?_
      refine ww_pc (b := 49) rfl ?_
      refine ww_iload_n hX 3 rfl dX12_goes_49 rfl ?_
      refine ww_iadd hX dX12_goes_50 ?_
      refine ww_ialdc hX k_iald dX12_goes_51 ?_
      refine ww_callVI (As := [.int x1, .int (gI st o10 (ix ((x1 * 60) + x2)))]) (rest := []) (o := x0) hX (Rk.of B.2.2.1 B.2.2.2.1 (by decide) (by decide)) g_X12_497 g_X12_497.in (fun _ => c_X12_cueOf (x_G X) (x_l X) fu x0 x1 (gI st o10 (ix ((x1 * 60) + x2))) st) rfl rfl (Nat.le_of_ble_eq_true rfl) dX12_goes_52 (fun r11 s12 => ?_)
      refine ww_istore (lv' := [(4, .int r11), (3, .int y0), (0, .ref (x_b X + x0)), (1, .int x1), (2, .int x2)]) hX hL dX12_goes_55 (by decide) rfl ?_
      refine ww_iload hX 0 rfl dX12_goes_57 ?_
      refine ww_iconst (v := (-1)) hX rfl dX12_goes_59 ?_
      refine ww_icmp_ne (tgt := 67) hX dX12_goes_60 (by decide) ?_ ?_
      · refine ww_iload hX 0 rfl dX12_goes_67 ?_
        exact ww_sub [2, 3] rfl (t_X12_goes_69 B fu x0 x1 r11 s12)
      · refine ww_iload_n hX 1 rfl dX12_goes_63 rfl ?_
        refine ww_goto (tgt := 69) hX dX12_goes_64 (by decide) ?_
        exact ww_sub [2, 3] rfl (t_X12_goes_69 B fu x0 x1 y0 s12)
def f_X12_goes (fu : Nat) (th : Nat) (p1 : Int32) (st : St) : Option (Int32 × St) :=
  ck (¬ gR st th 41 = 0) <|
  ck ((kd th).1 = 12) <|
  bd (gR st th 41) fun o1 =>
  ck ((kd o1).1 = 100 ∧ inb p1 (kd o1).2) <|
  bd (gI st o1 (ix p1)) fun v2 =>
  if v2 = ((-1)) then (
  b_X12_goes_19 fu th p1 v2 0 st)
  else (
  b_X12_goes_19 fu th p1 v2 (v2 + 1) st)
set_option maxHeartbeats 4000000 in
set_option maxRecDepth 100000 in
theorem t_X12_goes {X : CX} {res : Int32 × St} (B : BI X cX12_goes RX12 5 59 NN (some .boolean) res) (fu : Nat) (th : Nat) (p1 : Int32) (st : St) : WW X res NN 0 [(0, .ref (x_b X + th)), (1, .int p1)] [] st (f_X12_goes fu th p1 st) := by
  have hX := B.1
  have hL := B.2.1
  unfold f_X12_goes
  refine ww_aload_n hX 0 rfl dX12_goes_0 rfl ?_
  refine ww_getR hX f_X12_109 (Or.inr ⟨_, rfl⟩) dX12_goes_1 ?_
  refine ww_bdR (fun o1 => ?_)
  refine ww_iload_n hX 1 rfl dX12_goes_4 rfl ?_
  refine ww_ialdc hX k_iald dX12_goes_5 ?_
  refine ww_bdi (fun v2 => ?_)
  refine ww_istore_n (lv' := [(2, .int v2), (0, .ref (x_b X + th)), (1, .int p1)]) hX hL dX12_goes_6 rfl (by decide) rfl ?_
  refine ww_iload_n hX 0 rfl dX12_goes_7 rfl ?_
  refine ww_iconst (v := (-1)) hX rfl dX12_goes_8 ?_
  refine ww_pc (b := 9) rfl ?_
  refine ww_icmp_ne (tgt := 16) hX dX12_goes_9 (by decide) ?_ ?_
  · refine ww_iload_n hX 0 rfl dX12_goes_16 rfl ?_
    refine ww_iconst (v := 1) hX rfl dX12_goes_17 ?_
    refine ww_iadd hX dX12_goes_18 ?_
    exact ww_sub [1, 2, 0] rfl (t_X12_goes_19 B fu th p1 v2 (v2 + 1) st)
  · refine ww_iconst (v := 0) hX rfl dX12_goes_12 ?_
    refine ww_goto (tgt := 19) hX dX12_goes_13 (by decide) ?_
    exact ww_sub [1, 2, 0] rfl (t_X12_goes_19 B fu th p1 v2 0 st)
theorem c_X12_goes (G : GX) (l : Launch) (fu : Nat) (th : Nat) (p1 : Int32) (st : St) : MI G NN l yX12_goes cX12_goes 5 (some .boolean) 59 [.ref (G.2.2.1 + th), .int p1] st (f_X12_goes fu th p1 st) := mkI (by decide) (Nat.le_of_ble_eq_true rfl) (fun X res hl hG B => by subst hl; subst hG; exact t_X12_goes B fu th p1 st)
/-! StageHouseModel.isList(I)Z -/
def b_X12_isList_14 (fu : Nat)  (y0 : Int32) (st : St) : Option (Int32 × St) :=
  ck (isb y0) (some (y0, st))
set_option maxHeartbeats 4000000 in
set_option maxRecDepth 100000 in
theorem t_X12_isList_14 {X : CX} {res : Int32 × St} (B : BI X cX12_isList RX12 1 1 NN (some .boolean) res) (fu : Nat)  (y0 : Int32) (st : St) : WW X res NN 14 [] [.int y0] st (b_X12_isList_14 fu y0 st) := by
  have hX := B.1
  have hL := B.2.1
  unfold b_X12_isList_14
  exact ww_zret B dX12_isList_14
def b_X12_isList_13 (fu : Nat)   (st : St) : Option (Int32 × St) :=
  b_X12_isList_14 fu  0 st
set_option maxHeartbeats 4000000 in
set_option maxRecDepth 100000 in
theorem t_X12_isList_13 {X : CX} {res : Int32 × St} (B : BI X cX12_isList RX12 1 1 NN (some .boolean) res) (fu : Nat)   (st : St) : WW X res NN 13 [] [] st (b_X12_isList_13 fu  st) := by
  have hX := B.1
  have hL := B.2.1
  unfold b_X12_isList_13
  refine ww_iconst (v := 0) hX rfl dX12_isList_13 ?_
  exact t_X12_isList_14 B fu  0 st
def f_X12_isList (fu : Nat) (p0 : Int32) (st : St) : Option (Int32 × St) :=
  if p0 < 0 then (
  b_X12_isList_13 fu   st)
  else (
  if 4 ≤ p0 then (
  b_X12_isList_13 fu   st)
  else (
  b_X12_isList_14 fu  1 st))
set_option maxHeartbeats 4000000 in
set_option maxRecDepth 100000 in
theorem t_X12_isList {X : CX} {res : Int32 × St} (B : BI X cX12_isList RX12 1 1 NN (some .boolean) res) (fu : Nat) (p0 : Int32) (st : St) : WW X res NN 0 [(0, .int p0)] [] st (f_X12_isList fu p0 st) := by
  have hX := B.1
  have hL := B.2.1
  unfold f_X12_isList
  refine ww_iload_n hX 0 rfl dX12_isList_0 rfl ?_
  refine ww_if_lt (tgt := 13) hX dX12_isList_1 (by decide) ?_ ?_
  · exact ww_sub [] rfl (t_X12_isList_13 B fu   st)
  · refine ww_iload_n hX 0 rfl dX12_isList_4 rfl ?_
    refine ww_iconst (v := 4) hX rfl dX12_isList_5 ?_
    refine ww_icmp_ge (tgt := 13) hX dX12_isList_6 (by decide) ?_ ?_
    · exact ww_sub [] rfl (t_X12_isList_13 B fu   st)
    · refine ww_iconst (v := 1) hX rfl dX12_isList_9 ?_
      refine ww_goto (tgt := 14) hX dX12_isList_10 (by decide) ?_
      exact ww_sub [] rfl (t_X12_isList_14 B fu  1 st)
theorem c_X12_isList (G : GX) (l : Launch) (fu : Nat) (p0 : Int32) (st : St) : MI G NN l yX12_isList cX12_isList 1 (some .boolean) 1 [.int p0] st (f_X12_isList fu p0 st) := mkI (by decide) (Nat.le_of_ble_eq_true rfl) (fun X res hl hG B => by subst hl; subst hG; exact t_X12_isList B fu p0 st)
/-! StageHouseModel.isChannel(I)Z -/
def b_X12_isChannel_16 (fu : Nat)  (y0 : Int32) (st : St) : Option (Int32 × St) :=
  ck (isb y0) (some (y0, st))
set_option maxHeartbeats 4000000 in
set_option maxRecDepth 100000 in
theorem t_X12_isChannel_16 {X : CX} {res : Int32 × St} (B : BI X cX12_isChannel RX12 1 1 NN (some .boolean) res) (fu : Nat)  (y0 : Int32) (st : St) : WW X res NN 16 [] [.int y0] st (b_X12_isChannel_16 fu y0 st) := by
  have hX := B.1
  have hL := B.2.1
  unfold b_X12_isChannel_16
  exact ww_zret B dX12_isChannel_16
def b_X12_isChannel_15 (fu : Nat)   (st : St) : Option (Int32 × St) :=
  b_X12_isChannel_16 fu  0 st
set_option maxHeartbeats 4000000 in
set_option maxRecDepth 100000 in
theorem t_X12_isChannel_15 {X : CX} {res : Int32 × St} (B : BI X cX12_isChannel RX12 1 1 NN (some .boolean) res) (fu : Nat)   (st : St) : WW X res NN 15 [] [] st (b_X12_isChannel_15 fu  st) := by
  have hX := B.1
  have hL := B.2.1
  unfold b_X12_isChannel_15
  refine ww_iconst (v := 0) hX rfl dX12_isChannel_15 ?_
  exact t_X12_isChannel_16 B fu  0 st
def f_X12_isChannel (fu : Nat) (p0 : Int32) (st : St) : Option (Int32 × St) :=
  if p0 < 1 then (
  b_X12_isChannel_15 fu   st)
  else (
  if 64 < p0 then (
  b_X12_isChannel_15 fu   st)
  else (
  b_X12_isChannel_16 fu  1 st))
set_option maxHeartbeats 4000000 in
set_option maxRecDepth 100000 in
theorem t_X12_isChannel {X : CX} {res : Int32 × St} (B : BI X cX12_isChannel RX12 1 1 NN (some .boolean) res) (fu : Nat) (p0 : Int32) (st : St) : WW X res NN 0 [(0, .int p0)] [] st (f_X12_isChannel fu p0 st) := by
  have hX := B.1
  have hL := B.2.1
  unfold f_X12_isChannel
  refine ww_iload_n hX 0 rfl dX12_isChannel_0 rfl ?_
  refine ww_iconst (v := 1) hX rfl dX12_isChannel_1 ?_
  refine ww_icmp_lt (tgt := 15) hX dX12_isChannel_2 (by decide) ?_ ?_
  · exact ww_sub [] rfl (t_X12_isChannel_15 B fu   st)
  · refine ww_iload_n hX 0 rfl dX12_isChannel_5 rfl ?_
    refine ww_bipush (v := 64) hX rfl dX12_isChannel_6 ?_
    refine ww_icmp_gt (tgt := 15) hX dX12_isChannel_8 (by decide) ?_ ?_
    · exact ww_sub [] rfl (t_X12_isChannel_15 B fu   st)
    · refine ww_iconst (v := 1) hX rfl dX12_isChannel_11 ?_
      refine ww_goto (tgt := 16) hX dX12_isChannel_12 (by decide) ?_
      exact ww_sub [] rfl (t_X12_isChannel_16 B fu  1 st)
theorem c_X12_isChannel (G : GX) (l : Launch) (fu : Nat) (p0 : Int32) (st : St) : MI G NN l yX12_isChannel cX12_isChannel 1 (some .boolean) 1 [.int p0] st (f_X12_isChannel fu p0 st) := mkI (by decide) (Nat.le_of_ble_eq_true rfl) (fun X res hl hG B => by subst hl; subst hG; exact t_X12_isChannel B fu p0 st)
/-! StageHouseModel.named(III)I -/
def b_X12_named_29 (fu : Nat)   (st : St) : Option (Int32 × St) :=
  some ((-1), st)
set_option maxHeartbeats 4000000 in
set_option maxRecDepth 100000 in
theorem t_X12_named_29 {X : CX} {res : Int32 × St} (B : BI X cX12_named RX12 4 2 NN (some .int) res) (fu : Nat)   (st : St) : WW X res NN 29 [] [] st (b_X12_named_29 fu  st) := by
  have hX := B.1
  have hL := B.2.1
  unfold b_X12_named_29
  refine ww_iconst (v := (-1)) hX rfl dX12_named_29 ?_
  exact ww_iret B dX12_named_30
def f_X12_named (fu : Nat) (th : Nat) (p1 : Int32) (p2 : Int32) (p3 : Int32) (st : St) : Option (Int32 × St) :=
  ca (f_X12_isList fu p1 st) fun r1 s2 =>
  if r1 = 0 then (
  b_X12_named_29 fu   s2)
  else (
  if p2 < 1 then (
  b_X12_named_29 fu   s2)
  else (
  if 999 < p2 then (
  b_X12_named_29 fu   s2)
  else (
  if p3 < 0 then (
  b_X12_named_29 fu   s2)
  else (
  if p3 ≤ 99 then (
  ck ((kd th).1 = 12) <|
  ca (f_X12_cueOf fu th p1 ((100 * p2) + p3) s2) fun r3 s4 =>
  some (r3, s4))
  else (
  b_X12_named_29 fu   s2)))))
set_option maxHeartbeats 4000000 in
set_option maxRecDepth 100000 in
theorem t_X12_named {X : CX} {res : Int32 × St} (B : BI X cX12_named RX12 4 2 NN (some .int) res) (fu : Nat) (th : Nat) (p1 : Int32) (p2 : Int32) (p3 : Int32) (st : St) : WW X res NN 0 [(0, .ref (x_b X + th)), (1, .int p1), (2, .int p2), (3, .int p3)] [] st (f_X12_named fu th p1 p2 p3 st) := by
  have hX := B.1
  have hL := B.2.1
  unfold f_X12_named
  refine ww_iload_n hX 1 rfl dX12_named_0 rfl ?_
  refine ww_callSI (As := [.int p1]) (rest := []) hX (Rk.of B.2.2.1 B.2.2.2.1 (by decide) (by decide)) g_X12_504 (c_X12_isList (x_G X) (x_l X) fu p1 st) rfl rfl (Nat.le_of_ble_eq_true rfl) dX12_named_1 (fun r1 s2 => ?_)
  refine ww_if_eq (tgt := 29) hX dX12_named_4 (by decide) ?_ ?_
  · exact ww_sub [] rfl (t_X12_named_29 B fu   s2)
  · refine ww_iload_n hX 2 rfl dX12_named_7 rfl ?_
    refine ww_iconst (v := 1) hX rfl dX12_named_8 ?_
    refine ww_icmp_lt (tgt := 29) hX dX12_named_9 (by decide) ?_ ?_
    · exact ww_sub [] rfl (t_X12_named_29 B fu   s2)
    · refine ww_iload_n hX 2 rfl dX12_named_12 rfl ?_
      refine ww_sipush (v := 999) hX rfl dX12_named_13 ?_
      refine ww_icmp_gt (tgt := 29) hX dX12_named_16 (by decide) ?_ ?_
      · exact ww_sub [] rfl (t_X12_named_29 B fu   s2)
      · refine ww_iload_n hX 3 rfl dX12_named_19 rfl ?_
        refine ww_if_lt (tgt := 29) hX dX12_named_20 (by decide) ?_ ?_
        · exact ww_sub [] rfl (t_X12_named_29 B fu   s2)
        · refine ww_iload_n hX 3 rfl dX12_named_23 rfl ?_
          refine ww_bipush (v := 99) hX rfl dX12_named_24 ?_
          refine ww_icmp_le (tgt := 31) hX dX12_named_26 (by decide) ?_ ?_
          · refine ww_aload_n hX 0 rfl dX12_named_31 rfl ?_
            refine ww_iload_n hX 1 rfl dX12_named_32 rfl ?_
            refine ww_bipush (v := 100) hX rfl dX12_named_33 ?_
            refine ww_iload_n hX 2 rfl dX12_named_35 rfl ?_
            refine ww_imul hX dX12_named_36 ?_
            refine ww_iload_n hX 3 rfl dX12_named_37 rfl ?_
            refine ww_iadd hX dX12_named_38 ?_
            refine ww_pc (b := 39) rfl ?_
            refine ww_callVI (As := [.int p1, .int ((100 * p2) + p3)]) (rest := []) (o := th) hX (Rk.of B.2.2.1 B.2.2.2.1 (by decide) (by decide)) g_X12_497 g_X12_497.in (fun _ => c_X12_cueOf (x_G X) (x_l X) fu th p1 ((100 * p2) + p3) s2) rfl rfl (Nat.le_of_ble_eq_true rfl) dX12_named_39 (fun r3 s4 => ?_)
            exact ww_iret B dX12_named_42
          · exact ww_sub [] rfl (t_X12_named_29 B fu   s2)
theorem c_X12_named (G : GX) (l : Launch) (fu : Nat) (th : Nat) (p1 : Int32) (p2 : Int32) (p3 : Int32) (st : St) : MI G NN l yX12_named cX12_named 4 (some .int) 2 [.ref (G.2.2.1 + th), .int p1, .int p2, .int p3] st (f_X12_named fu th p1 p2 p3 st) := mkI (by decide) (Nat.le_of_ble_eq_true rfl) (fun X res hl hG B => by subst hl; subst hG; exact t_X12_named B fu th p1 p2 p3 st)
/-! StageHouseModel.tracks(IIII)I -/
def b_X12_tracks_45 (fu : Nat)  (y0 : Int32) (st : St) : Option (Int32 × St) :=
  some (y0, st)
set_option maxHeartbeats 4000000 in
set_option maxRecDepth 100000 in
theorem t_X12_tracks_45 {X : CX} {res : Int32 × St} (B : BI X cX12_tracks RX12 6 3 NN (some .int) res) (fu : Nat)  (y0 : Int32) (st : St) : WW X res NN 45 [] [.int y0] st (b_X12_tracks_45 fu y0 st) := by
  have hX := B.1
  have hL := B.2.1
  unfold b_X12_tracks_45
  exact ww_iret B dX12_tracks_45
def b_X12_tracks_23 (fu : Nat)   (st : St) : Option (Int32 × St) :=
  b_X12_tracks_45 fu  ((-1)) st
set_option maxHeartbeats 4000000 in
set_option maxRecDepth 100000 in
theorem t_X12_tracks_23 {X : CX} {res : Int32 × St} (B : BI X cX12_tracks RX12 6 3 NN (some .int) res) (fu : Nat)   (st : St) : WW X res NN 23 [] [] st (b_X12_tracks_23 fu  st) := by
  have hX := B.1
  have hL := B.2.1
  unfold b_X12_tracks_23
  refine ww_iconst (v := (-1)) hX rfl dX12_tracks_23 ?_
  refine ww_goto (tgt := 45) hX dX12_tracks_24 (by decide) ?_
  exact t_X12_tracks_45 B fu  ((-1)) st
def f_X12_tracks (fu : Nat) (th : Nat) (p1 : Int32) (p2 : Int32) (p3 : Int32) (p4 : Int32) (st : St) : Option (Int32 × St) :=
  ck ((kd th).1 = 12) <|
  ca (f_X12_named fu th p1 p2 p3 st) fun r1 s2 =>
  if r1 = ((-1)) then (
  b_X12_tracks_23 fu   s2)
  else (
  ca (f_X12_isChannel fu p4 s2) fun r3 s4 =>
  if r3 = 0 then (
  b_X12_tracks_23 fu   s4)
  else (
  ck (¬ gR s4 th 18 = 0) <|
  ck ((kd th).1 = 12) <|
  bd (gR s4 th 18) fun o5 =>
  ck ((kd o5).1 = 100 ∧ inb ((65 * ((p1 * 60) + r1)) + p4) (kd o5).2) <|
  b_X12_tracks_45 fu  (gI s4 o5 (ix ((65 * ((p1 * 60) + r1)) + p4))) s4))
set_option maxHeartbeats 4000000 in
set_option maxRecDepth 100000 in
theorem t_X12_tracks {X : CX} {res : Int32 × St} (B : BI X cX12_tracks RX12 6 3 NN (some .int) res) (fu : Nat) (th : Nat) (p1 : Int32) (p2 : Int32) (p3 : Int32) (p4 : Int32) (st : St) : WW X res NN 0 [(0, .ref (x_b X + th)), (1, .int p1), (2, .int p2), (3, .int p3), (4, .int p4)] [] st (f_X12_tracks fu th p1 p2 p3 p4 st) := by
  have hX := B.1
  have hL := B.2.1
  unfold f_X12_tracks
  refine ww_aload_n hX 0 rfl dX12_tracks_0 rfl ?_
  refine ww_iload_n hX 1 rfl dX12_tracks_1 rfl ?_
  refine ww_iload_n hX 2 rfl dX12_tracks_2 rfl ?_
  refine ww_iload_n hX 3 rfl dX12_tracks_3 rfl ?_
  refine ww_callVI (As := [.int p1, .int p2, .int p3]) (rest := []) (o := th) hX (Rk.of B.2.2.1 B.2.2.2.1 (by decide) (by decide)) g_X12_507 g_X12_507.in (fun _ => c_X12_named (x_G X) (x_l X) fu th p1 p2 p3 st) rfl rfl (Nat.le_of_ble_eq_true rfl) dX12_tracks_4 (fun r1 s2 => ?_)
  refine ww_istore (lv' := [(5, .int r1), (0, .ref (x_b X + th)), (1, .int p1), (2, .int p2), (3, .int p3), (4, .int p4)]) hX hL dX12_tracks_7 (by decide) rfl ?_
  refine ww_iload hX 0 rfl dX12_tracks_9 ?_
  refine ww_pc (b := 11) rfl ?_
  refine ww_iconst (v := (-1)) hX rfl dX12_tracks_11 ?_
  refine ww_icmp_eq (tgt := 23) hX dX12_tracks_12 (by decide) ?_ ?_
  · exact ww_sub [] rfl (t_X12_tracks_23 B fu   s2)
  · refine ww_iload hX 5 rfl dX12_tracks_15 ?_
    refine ww_callSI (As := [.int p4]) (rest := []) hX (Rk.of B.2.2.1 B.2.2.2.1 (by decide) (by decide)) g_X12_510 (c_X12_isChannel (x_G X) (x_l X) fu p4 s2) rfl rfl (Nat.le_of_ble_eq_true rfl) dX12_tracks_17 (fun r3 s4 => ?_)
    refine ww_if_ne (tgt := 27) hX dX12_tracks_20 (by decide) ?_ ?_
    · refine ww_aload_n hX 1 rfl dX12_tracks_27 rfl ?_
      refine ww_getR hX f_X12_51 (Or.inr ⟨_, rfl⟩) dX12_tracks_28 ?_
      refine ww_bdR (fun o5 => ?_)
      refine ww_bipush (v := 65) hX rfl dX12_tracks_31 ?_
      refine ww_iload_n hX 2 rfl dX12_tracks_33 rfl ?_
      refine ww_bipush (v := 60) hX rfl dX12_tracks_34 ?_
      refine ww_imul hX dX12_tracks_36 ?_
      refine ww_iload hX 0 rfl dX12_tracks_37 ?_
      refine ww_pc (b := 39) rfl ?_
      refine ww_iadd hX dX12_tracks_39 ?_
      refine ww_imul hX dX12_tracks_40 ?_
      refine ww_iload hX 5 rfl dX12_tracks_41 ?_
      refine ww_iadd hX dX12_tracks_43 ?_
      refine ww_ialdc hX k_iald dX12_tracks_44 ?_
      exact ww_sub [] rfl (t_X12_tracks_45 B fu  (gI s4 o5 (ix ((65 * ((p1 * 60) + r1)) + p4))) s4)
    · exact ww_sub [] rfl (t_X12_tracks_23 B fu   s4)
theorem c_X12_tracks (G : GX) (l : Launch) (fu : Nat) (th : Nat) (p1 : Int32) (p2 : Int32) (p3 : Int32) (p4 : Int32) (st : St) : MI G NN l yX12_tracks cX12_tracks 6 (some .int) 3 [.ref (G.2.2.1 + th), .int p1, .int p2, .int p3, .int p4] st (f_X12_tracks fu th p1 p2 p3 p4 st) := mkI (by decide) (Nat.le_of_ble_eq_true rfl) (fun X res hl hG B => by subst hl; subst hG; exact t_X12_tracks B fu th p1 p2 p3 p4 st)
/-! StageHouseModel.go(I)Z -/
def b_X12_go_20 (fu : Nat)  (y0 : Int32) (st : St) : Option (Int32 × St) :=
  ck (isb y0) (some (y0, st))
set_option maxHeartbeats 4000000 in
set_option maxRecDepth 100000 in
theorem t_X12_go_20 {X : CX} {res : Int32 × St} (B : BI X cX12_go RX12 2 60 NN (some .boolean) res) (fu : Nat)  (y0 : Int32) (st : St) : WW X res NN 20 [] [.int y0] st (b_X12_go_20 fu y0 st) := by
  have hX := B.1
  have hL := B.2.1
  unfold b_X12_go_20
  exact ww_zret B dX12_go_20
def b_X12_go_19 (fu : Nat)   (st : St) : Option (Int32 × St) :=
  b_X12_go_20 fu  0 st
set_option maxHeartbeats 4000000 in
set_option maxRecDepth 100000 in
theorem t_X12_go_19 {X : CX} {res : Int32 × St} (B : BI X cX12_go RX12 2 60 NN (some .boolean) res) (fu : Nat)   (st : St) : WW X res NN 19 [] [] st (b_X12_go_19 fu  st) := by
  have hX := B.1
  have hL := B.2.1
  unfold b_X12_go_19
  refine ww_iconst (v := 0) hX rfl dX12_go_19 ?_
  exact t_X12_go_20 B fu  0 st
def f_X12_go (fu : Nat) (th : Nat) (p1 : Int32) (st : St) : Option (Int32 × St) :=
  ca (f_X12_isList fu p1 st) fun r1 s2 =>
  if r1 = 0 then (
  b_X12_go_19 fu   s2)
  else (
  ck ((kd th).1 = 12) <|
  ca (f_X12_goes fu th p1 s2) fun r3 s4 =>
  if r3 = 0 then (
  b_X12_go_19 fu   s4)
  else (
  b_X12_go_20 fu  1 s4))
set_option maxHeartbeats 4000000 in
set_option maxRecDepth 100000 in
theorem t_X12_go {X : CX} {res : Int32 × St} (B : BI X cX12_go RX12 2 60 NN (some .boolean) res) (fu : Nat) (th : Nat) (p1 : Int32) (st : St) : WW X res NN 0 [(0, .ref (x_b X + th)), (1, .int p1)] [] st (f_X12_go fu th p1 st) := by
  have hX := B.1
  have hL := B.2.1
  unfold f_X12_go
  refine ww_iload_n hX 1 rfl dX12_go_0 rfl ?_
  refine ww_callSI (As := [.int p1]) (rest := []) hX (Rk.of B.2.2.1 B.2.2.2.1 (by decide) (by decide)) g_X12_504 (c_X12_isList (x_G X) (x_l X) fu p1 st) rfl rfl (Nat.le_of_ble_eq_true rfl) dX12_go_1 (fun r1 s2 => ?_)
  refine ww_if_eq (tgt := 19) hX dX12_go_4 (by decide) ?_ ?_
  · exact ww_sub [] rfl (t_X12_go_19 B fu   s2)
  · refine ww_aload_n hX 0 rfl dX12_go_7 rfl ?_
    refine ww_iload_n hX 1 rfl dX12_go_8 rfl ?_
    refine ww_callVI (As := [.int p1]) (rest := []) (o := th) hX (Rk.of B.2.2.1 B.2.2.2.1 (by decide) (by decide)) g_X12_513 g_X12_513.in (fun _ => c_X12_goes (x_G X) (x_l X) fu th p1 s2) rfl rfl (Nat.le_of_ble_eq_true rfl) dX12_go_9 (fun r3 s4 => ?_)
    refine ww_if_eq (tgt := 19) hX dX12_go_12 (by decide) ?_ ?_
    · exact ww_sub [] rfl (t_X12_go_19 B fu   s4)
    · refine ww_iconst (v := 1) hX rfl dX12_go_15 ?_
      refine ww_goto (tgt := 20) hX dX12_go_16 (by decide) ?_
      exact ww_sub [] rfl (t_X12_go_20 B fu  1 s4)
theorem c_X12_go (G : GX) (l : Launch) (fu : Nat) (th : Nat) (p1 : Int32) (st : St) : MI G NN l yX12_go cX12_go 2 (some .boolean) 60 [.ref (G.2.2.1 + th), .int p1] st (f_X12_go fu th p1 st) := mkI (by decide) (Nat.le_of_ble_eq_true rfl) (fun X res hl hG B => by subst hl; subst hG; exact t_X12_go B fu th p1 st)
/-! StageHouseModel.play(III)Z -/
def f_X12_play (fu : Nat) (th : Nat) (p1 : Int32) (p2 : Int32) (p3 : Int32) (st : St) : Option (Int32 × St) :=
  ck ((kd th).1 = 12) <|
  ca (f_X12_named fu th p1 p2 p3 st) fun r1 s2 =>
  if r1 = ((-1)) then (
  ck (isb 0) (some (0, s2)))
  else (
  ck ((kd th).1 = 12) <|
  cv (f_X12_plays fu th p1 r1 0 s2) fun s3 =>
  ck (isb 1) (some (1, s3)))
set_option maxHeartbeats 4000000 in
set_option maxRecDepth 100000 in
theorem t_X12_play {X : CX} {res : Int32 × St} (B : BI X cX12_play RX12 5 59 NN (some .boolean) res) (fu : Nat) (th : Nat) (p1 : Int32) (p2 : Int32) (p3 : Int32) (st : St) : WW X res NN 0 [(0, .ref (x_b X + th)), (1, .int p1), (2, .int p2), (3, .int p3)] [] st (f_X12_play fu th p1 p2 p3 st) := by
  have hX := B.1
  have hL := B.2.1
  unfold f_X12_play
  refine ww_aload_n hX 0 rfl dX12_play_0 rfl ?_
  refine ww_iload_n hX 1 rfl dX12_play_1 rfl ?_
  refine ww_iload_n hX 2 rfl dX12_play_2 rfl ?_
  refine ww_iload_n hX 3 rfl dX12_play_3 rfl ?_
  refine ww_callVI (As := [.int p1, .int p2, .int p3]) (rest := []) (o := th) hX (Rk.of B.2.2.1 B.2.2.2.1 (by decide) (by decide)) g_X12_507 g_X12_507.in (fun _ => c_X12_named (x_G X) (x_l X) fu th p1 p2 p3 st) rfl rfl (Nat.le_of_ble_eq_true rfl) dX12_play_4 (fun r1 s2 => ?_)
  refine ww_istore (lv' := [(4, .int r1), (0, .ref (x_b X + th)), (1, .int p1), (2, .int p2), (3, .int p3)]) hX hL dX12_play_7 (by decide) rfl ?_
  refine ww_iload hX 0 rfl dX12_play_9 ?_
  refine ww_pc (b := 11) rfl ?_
  refine ww_iconst (v := (-1)) hX rfl dX12_play_11 ?_
  refine ww_icmp_ne (tgt := 17) hX dX12_play_12 (by decide) ?_ ?_
  · refine ww_aload_n hX 1 rfl dX12_play_17 rfl ?_
    refine ww_iload_n hX 2 rfl dX12_play_18 rfl ?_
    refine ww_iload hX 0 rfl dX12_play_19 ?_
    refine ww_iconst (v := 0) hX rfl dX12_play_21 ?_
    refine ww_callVV (As := [.int p1, .int r1, .int 0]) (rest := []) (o := th) hX (Rk.of B.2.2.1 B.2.2.2.1 (by decide) (by decide)) g_X12_500 g_X12_500.in (fun _ => c_X12_plays (x_G X) (x_l X) fu th p1 r1 0 s2) rfl rfl (Nat.le_of_ble_eq_true rfl) dX12_play_22 (fun s3 => ?_)
    refine ww_iconst (v := 1) hX rfl dX12_play_25 ?_
    exact ww_zret B dX12_play_26
  · refine ww_iconst (v := 0) hX rfl dX12_play_15 ?_
    exact ww_zret B dX12_play_16
theorem c_X12_play (G : GX) (l : Launch) (fu : Nat) (th : Nat) (p1 : Int32) (p2 : Int32) (p3 : Int32) (st : St) : MI G NN l yX12_play cX12_play 5 (some .boolean) 59 [.ref (G.2.2.1 + th), .int p1, .int p2, .int p3] st (f_X12_play fu th p1 p2 p3 st) := mkI (by decide) (Nat.le_of_ble_eq_true rfl) (fun X res hl hG B => by subst hl; subst hG; exact t_X12_play B fu th p1 p2 p3 st)
/-! StageHouseModel.moves(I)Z -/
def b_X12_moves_20 (fu : Nat)  (y0 : Int32) (st : St) : Option (Int32 × St) :=
  ck (isb y0) (some (y0, st))
set_option maxHeartbeats 4000000 in
set_option maxRecDepth 100000 in
theorem t_X12_moves_20 {X : CX} {res : Int32 × St} (B : BI X cX12_moves RX12 2 1 NN (some .boolean) res) (fu : Nat)  (y0 : Int32) (st : St) : WW X res NN 20 [] [.int y0] st (b_X12_moves_20 fu y0 st) := by
  have hX := B.1
  have hL := B.2.1
  unfold b_X12_moves_20
  exact ww_zret B dX12_moves_20
def f_X12_moves (fu : Nat) (th : Nat) (p1 : Int32) (st : St) : Option (Int32 × St) :=
  ck (¬ gR st th 45 = 0) <|
  ck ((kd th).1 = 12) <|
  bd (gR st th 45) fun o1 =>
  ck ((kd o1).1 = 100 ∧ inb p1 (kd o1).2) <|
  ck (¬ gR st th 46 = 0) <|
  ck ((kd th).1 = 12) <|
  bd (gR st th 46) fun o2 =>
  ck ((kd o2).1 = 100 ∧ inb p1 (kd o2).2) <|
  if (gI st o1 (ix p1)) = (gI st o2 (ix p1)) then (
  b_X12_moves_20 fu  0 st)
  else (
  b_X12_moves_20 fu  1 st)
set_option maxHeartbeats 4000000 in
set_option maxRecDepth 100000 in
theorem t_X12_moves {X : CX} {res : Int32 × St} (B : BI X cX12_moves RX12 2 1 NN (some .boolean) res) (fu : Nat) (th : Nat) (p1 : Int32) (st : St) : WW X res NN 0 [(0, .ref (x_b X + th)), (1, .int p1)] [] st (f_X12_moves fu th p1 st) := by
  have hX := B.1
  have hL := B.2.1
  unfold f_X12_moves
  refine ww_aload_n hX 0 rfl dX12_moves_0 rfl ?_
  refine ww_getR hX f_X12_121 (Or.inr ⟨_, rfl⟩) dX12_moves_1 ?_
  refine ww_bdR (fun o1 => ?_)
  refine ww_iload_n hX 1 rfl dX12_moves_4 rfl ?_
  refine ww_ialdc hX k_iald dX12_moves_5 ?_
  refine ww_aload_n hX 0 rfl dX12_moves_6 rfl ?_
  refine ww_getR hX f_X12_124 (Or.inr ⟨_, rfl⟩) dX12_moves_7 ?_
  refine ww_bdR (fun o2 => ?_)
  refine ww_iload_n hX 1 rfl dX12_moves_10 rfl ?_
  refine ww_pc (b := 11) rfl ?_
  refine ww_ialdc hX k_iald dX12_moves_11 ?_
  refine ww_icmp_eq (tgt := 19) hX dX12_moves_12 (by decide) ?_ ?_
  · refine ww_iconst (v := 0) hX rfl dX12_moves_19 ?_
    exact ww_sub [] rfl (t_X12_moves_20 B fu  0 st)
  · refine ww_iconst (v := 1) hX rfl dX12_moves_15 ?_
    refine ww_goto (tgt := 20) hX dX12_moves_16 (by decide) ?_
    exact ww_sub [] rfl (t_X12_moves_20 B fu  1 st)
theorem c_X12_moves (G : GX) (l : Launch) (fu : Nat) (th : Nat) (p1 : Int32) (st : St) : MI G NN l yX12_moves cX12_moves 2 (some .boolean) 1 [.ref (G.2.2.1 + th), .int p1] st (f_X12_moves fu th p1 st) := mkI (by decide) (Nat.le_of_ble_eq_true rfl) (fun X res hl hG B => by subst hl; subst hG; exact t_X12_moves B fu th p1 st)
/-! StageHouseModel.of(II)I -/
def b_X12_of_180 (fu : Nat)  (y0 : Int32) (st : St) : Option (Int32 × St) :=
  some (y0, st)
set_option maxHeartbeats 4000000 in
set_option maxRecDepth 100000 in
theorem t_X12_of_180 {X : CX} {res : Int32 × St} (B : BI X cX12_of RX12 5 2 NN (some .int) res) (fu : Nat)  (y0 : Int32) (st : St) : WW X res NN 180 [] [.int y0] st (b_X12_of_180 fu y0 st) := by
  have hX := B.1
  have hL := B.2.1
  unfold b_X12_of_180
  exact ww_iret B dX12_of_180
def b_X12_of_155 (fu : Nat) (k_128 : Nat → Int32 → Int32 → Int32 → St → Option (Int32 × St)) (x0 : Nat) (x1 : Int32) (x4 : Int32) (y0 : Int32) (y1 : Int32) (st : St) : Option (Int32 × St) :=
  bd (y0 + y1) fun v6 =>
  bd (x4 + 1) fun v7 =>
  k_128 x0 x1 v6 v7  st
set_option maxHeartbeats 4000000 in
set_option maxRecDepth 100000 in
theorem t_X12_of_155 {X : CX} {res : Int32 × St} (B : BI X cX12_of RX12 5 2 NN (some .int) res) (fu : Nat) (k_128 : Nat → Int32 → Int32 → Int32 → St → Option (Int32 × St)) (h_128 : ∀ (x0 : Nat) (x1 : Int32) (x3 : Int32) (x4 : Int32)  (st : St), WW X res NN 128 [(0, .ref (x_b X + x0)), (1, .int x1), (3, .int x3), (4, .int x4)] [] st (k_128 x0 x1 x3 x4 st)) (x0 : Nat) (x1 : Int32) (x4 : Int32) (y0 : Int32) (y1 : Int32) (st : St) : WW X res NN 155 [(0, .ref (x_b X + x0)), (1, .int x1), (4, .int x4)] [.int y1, .int y0] st (b_X12_of_155 fu k_128 x0 x1 x4 y0 y1 st) := by
  have hX := B.1
  have hL := B.2.1
  unfold b_X12_of_155
  refine ww_iadd hX dX12_of_155 ?_
  refine ww_bdi (fun v6 => ?_)
  refine ww_istore_n (lv' := [(3, .int v6), (0, .ref (x_b X + x0)), (1, .int x1), (4, .int x4)]) hX hL dX12_of_156 rfl (by decide) rfl ?_
  refine ww_iincb (lv' := fun v7 => [(4, .int v7), (3, .int v6), (0, .ref (x_b X + x0)), (1, .int x1)]) (c := 1) hX hL 3 rfl dX12_of_157 rfl (by decide) (fun _ => rfl) (fun v7 => ?_)
  refine ww_goto (tgt := 128) hX dX12_of_160 (by decide) ?_
  exact ww_sub [2, 3, 1, 0] rfl (h_128 x0 x1 v6 v7  st)
def b_X12_of_128_b (fu : Nat) (k_128 : Nat → Int32 → Int32 → Int32 → St → Option (Int32 × St)) (x0 : Nat) (x1 : Int32) (x3 : Int32) (x4 : Int32)  (st : St) : Option (Int32 × St) :=
  if 64 < x4 then (
  some (x3, st))
  else (
  ck ((kd x0).1 = 12) <|
  ca (f_X12_moves fu x0 ((65 * x1) + x4) st) fun r4 s5 =>
  if r4 = 0 then (
  b_X12_of_155 fu k_128 x0 x1 x4 x3 0 s5)
  else (
  b_X12_of_155 fu k_128 x0 x1 x4 x3 1 s5))
set_option maxHeartbeats 4000000 in
set_option maxRecDepth 100000 in
theorem t_X12_of_128_b {X : CX} {res : Int32 × St} (B : BI X cX12_of RX12 5 2 NN (some .int) res) (fu : Nat) (k_128 : Nat → Int32 → Int32 → Int32 → St → Option (Int32 × St)) (h_128 : ∀ (x0 : Nat) (x1 : Int32) (x3 : Int32) (x4 : Int32)  (st : St), WW X res NN 128 [(0, .ref (x_b X + x0)), (1, .int x1), (3, .int x3), (4, .int x4)] [] st (k_128 x0 x1 x3 x4 st)) (x0 : Nat) (x1 : Int32) (x3 : Int32) (x4 : Int32)  (st : St) : WW X res NN 128 [(0, .ref (x_b X + x0)), (1, .int x1), (3, .int x3), (4, .int x4)] [] st (b_X12_of_128_b fu k_128 x0 x1 x3 x4 st) := by
  have hX := B.1
  have hL := B.2.1
  unfold b_X12_of_128_b
  refine ww_iload hX 3 rfl dX12_of_128 ?_
  refine ww_bipush (v := 64) hX rfl dX12_of_130 ?_
  refine ww_icmp_gt (tgt := 163) hX dX12_of_132 (by decide) ?_ ?_
  · refine ww_iload_n hX 2 rfl dX12_of_163 rfl ?_
    exact ww_iret B dX12_of_164
  · refine ww_iload_n hX 2 rfl dX12_of_135 rfl ?_
    refine ww_aload_n hX 0 rfl dX12_of_136 rfl ?_
    refine ww_bipush (v := 65) hX rfl dX12_of_137 ?_
    refine ww_iload_n hX 1 rfl dX12_of_139 rfl ?_
    refine ww_imul hX dX12_of_140 ?_
    refine ww_iload hX 3 rfl dX12_of_141 ?_
    refine ww_iadd hX dX12_of_143 ?_
    refine ww_pc (b := 144) rfl ?_
    refine ww_callVI (As := [.int ((65 * x1) + x4)]) (rest := [.int x3]) (o := x0) hX (Rk.of B.2.2.1 B.2.2.2.1 (by decide) (by decide)) g_X12_516 g_X12_516.in (fun _ => c_X12_moves (x_G X) (x_l X) fu x0 ((65 * x1) + x4) st) rfl rfl (Nat.le_of_ble_eq_true rfl) dX12_of_144 (fun r4 s5 => ?_)
    refine ww_if_eq (tgt := 154) hX dX12_of_147 (by decide) ?_ ?_
    · refine ww_iconst (v := 0) hX rfl dX12_of_154 ?_
      exact ww_sub [0, 1, 3] rfl (t_X12_of_155 B fu k_128 h_128 x0 x1 x4 x3 0 s5)
    · refine ww_iconst (v := 1) hX rfl dX12_of_150 ?_
      refine ww_goto (tgt := 155) hX dX12_of_151 (by decide) ?_
      exact ww_sub [0, 1, 3] rfl (t_X12_of_155 B fu k_128 h_128 x0 x1 x4 x3 1 s5)
def b_X12_of_128 (fu : Nat) : Nat → Nat → Int32 → Int32 → Int32 → St → Option (Int32 × St)
  | 0, _, _, _, _, _ => none
  | i + 1, x0, x1, x3, x4, st => b_X12_of_128_b fu (b_X12_of_128 fu i) x0 x1 x3 x4 st
theorem t_X12_of_128 {X : CX} {res : Int32 × St} (B : BI X cX12_of RX12 5 2 NN (some .int) res) (fu : Nat) : ∀ (i : Nat) (x0 : Nat) (x1 : Int32) (x3 : Int32) (x4 : Int32)  (st : St), WW X res NN 128 [(0, .ref (x_b X + x0)), (1, .int x1), (3, .int x3), (4, .int x4)] [] st (b_X12_of_128 fu i x0 x1 x3 x4 st) := by
  intro i
  induction i with
  | zero => intro x0 x1 x3 x4 st; exact ww_none
  | succ i ih => intro x0 x1 x3 x4 st; exact t_X12_of_128_b B fu (b_X12_of_128 fu i) ih x0 x1 x3 x4 st
def b_X12_of_105 (fu : Nat)  (y0 : Int32) (st : St) : Option (Int32 × St) :=
  some (y0, st)
set_option maxHeartbeats 4000000 in
set_option maxRecDepth 100000 in
theorem t_X12_of_105 {X : CX} {res : Int32 × St} (B : BI X cX12_of RX12 5 2 NN (some .int) res) (fu : Nat)  (y0 : Int32) (st : St) : WW X res NN 105 [] [.int y0] st (b_X12_of_105 fu y0 st) := by
  have hX := B.1
  have hL := B.2.1
  unfold b_X12_of_105
  exact ww_iret B dX12_of_105
def b_X12_of_74 (fu : Nat)  (y0 : Int32) (st : St) : Option (Int32 × St) :=
  some (y0, st)
set_option maxHeartbeats 4000000 in
set_option maxRecDepth 100000 in
theorem t_X12_of_74 {X : CX} {res : Int32 × St} (B : BI X cX12_of RX12 5 2 NN (some .int) res) (fu : Nat)  (y0 : Int32) (st : St) : WW X res NN 74 [] [.int y0] st (b_X12_of_74 fu y0 st) := by
  have hX := B.1
  have hL := B.2.1
  unfold b_X12_of_74
  exact ww_iret B dX12_of_74
def b_X12_of_43 (fu : Nat)  (y0 : Int32) (st : St) : Option (Int32 × St) :=
  some (y0, st)
set_option maxHeartbeats 4000000 in
set_option maxRecDepth 100000 in
theorem t_X12_of_43 {X : CX} {res : Int32 × St} (B : BI X cX12_of RX12 5 2 NN (some .int) res) (fu : Nat)  (y0 : Int32) (st : St) : WW X res NN 43 [] [.int y0] st (b_X12_of_43 fu y0 st) := by
  have hX := B.1
  have hL := B.2.1
  unfold b_X12_of_43
  exact ww_iret B dX12_of_43
def f_X12_of (fu : Nat) (th : Nat) (p1 : Int32) (p2 : Int32) (st : St) : Option (Int32 × St) :=
  ca (f_X12_isList fu p1 st) fun r1 s2 =>
  if r1 = 0 then (
  some ((-1), s2))
  else (
  if p2 = 0 then (
  ck (¬ gR s2 th 41 = 0) <|
  ck ((kd th).1 = 12) <|
  bd (gR s2 th 41) fun o13 =>
  ck ((kd o13).1 = 100 ∧ inb p1 (kd o13).2) <|
  if (gI s2 o13 (ix p1)) = ((-1)) then (
  b_X12_of_43 fu  0 s2)
  else (
  ck (¬ gR s2 th 10 = 0) <|
  ck ((kd th).1 = 12) <|
  bd (gR s2 th 10) fun o14 =>
  ck (¬ gR s2 th 41 = 0) <|
  ck ((kd th).1 = 12) <|
  bd (gR s2 th 41) fun o15 =>
  ck ((kd o15).1 = 100 ∧ inb p1 (kd o15).2) <|
  ck ((kd o14).1 = 100 ∧ inb ((p1 * 60) + (gI s2 o15 (ix p1))) (kd o14).2) <|
  b_X12_of_43 fu  (gI s2 o14 (ix ((p1 * 60) + (gI s2 o15 (ix p1))))) s2))
  else (
  if p2 = 1 then (
  ck (¬ gR s2 th 42 = 0) <|
  ck ((kd th).1 = 12) <|
  bd (gR s2 th 42) fun o11 =>
  ck ((kd o11).1 = 100 ∧ inb p1 (kd o11).2) <|
  if (gI s2 o11 (ix p1)) = ((-1)) then (
  b_X12_of_74 fu  0 s2)
  else (
  ck (¬ gR s2 th 42 = 0) <|
  ck ((kd th).1 = 12) <|
  bd (gR s2 th 42) fun o12 =>
  ck ((kd o12).1 = 100 ∧ inb p1 (kd o12).2) <|
  ck ((kd th).1 = 12) <|
  b_X12_of_74 fu  ((gI s2 o12 (ix p1)) - (gI s2 th 40)) s2))
  else (
  if p2 = 2 then (
  ck (¬ gR s2 th 43 = 0) <|
  ck ((kd th).1 = 12) <|
  bd (gR s2 th 43) fun o9 =>
  ck ((kd o9).1 = 100 ∧ inb p1 (kd o9).2) <|
  if (gI s2 o9 (ix p1)) = ((-1)) then (
  b_X12_of_105 fu  ((-1)) s2)
  else (
  ck (¬ gR s2 th 43 = 0) <|
  ck ((kd th).1 = 12) <|
  bd (gR s2 th 43) fun o10 =>
  ck ((kd o10).1 = 100 ∧ inb p1 (kd o10).2) <|
  ck ((kd th).1 = 12) <|
  b_X12_of_105 fu  ((gI s2 o10 (ix p1)) - (gI s2 th 40)) s2))
  else (
  if p2 = 3 then (
  ck (¬ gR s2 th 44 = 0) <|
  ck ((kd th).1 = 12) <|
  bd (gR s2 th 44) fun o8 =>
  ck ((kd o8).1 = 100 ∧ inb p1 (kd o8).2) <|
  some (gI s2 o8 (ix p1), s2))
  else (
  if p2 = 4 then (
  b_X12_of_128 fu fu th p1 0 1  s2)
  else (
  if p2 = 5 then (
  ck (¬ gR s2 th 9 = 0) <|
  ck ((kd th).1 = 12) <|
  bd (gR s2 th 9) fun o3 =>
  ck ((kd o3).1 = 100 ∧ inb p1 (kd o3).2) <|
  b_X12_of_180 fu  (gI s2 o3 (ix p1)) s2)
  else (
  b_X12_of_180 fu  ((-1)) s2)))))))
set_option maxHeartbeats 4000000 in
set_option maxRecDepth 100000 in
theorem t_X12_of {X : CX} {res : Int32 × St} (B : BI X cX12_of RX12 5 2 NN (some .int) res) (fu : Nat) (th : Nat) (p1 : Int32) (p2 : Int32) (st : St) : WW X res NN 0 [(0, .ref (x_b X + th)), (1, .int p1), (2, .int p2)] [] st (f_X12_of fu th p1 p2 st) := by
  have hX := B.1
  have hL := B.2.1
  unfold f_X12_of
  refine ww_iload_n hX 1 rfl dX12_of_0 rfl ?_
  refine ww_callSI (As := [.int p1]) (rest := []) hX (Rk.of B.2.2.1 B.2.2.2.1 (by decide) (by decide)) g_X12_504 (c_X12_isList (x_G X) (x_l X) fu p1 st) rfl rfl (Nat.le_of_ble_eq_true rfl) dX12_of_1 (fun r1 s2 => ?_)
  refine ww_if_ne (tgt := 9) hX dX12_of_4 (by decide) ?_ ?_
  · refine ww_iload_n hX 2 rfl dX12_of_9 rfl ?_
    refine ww_if_ne (tgt := 44) hX dX12_of_10 (by decide) ?_ ?_
    · refine ww_iload_n hX 2 rfl dX12_of_44 rfl ?_
      refine ww_iconst (v := 1) hX rfl dX12_of_45 ?_
      refine ww_icmp_ne (tgt := 75) hX dX12_of_46 (by decide) ?_ ?_
      · refine ww_iload_n hX 2 rfl dX12_of_75 rfl ?_
        refine ww_iconst (v := 2) hX rfl dX12_of_76 ?_
        refine ww_icmp_ne (tgt := 106) hX dX12_of_77 (by decide) ?_ ?_
        · refine ww_iload_n hX 2 rfl dX12_of_106 rfl ?_
          refine ww_iconst (v := 3) hX rfl dX12_of_107 ?_
          refine ww_icmp_ne (tgt := 118) hX dX12_of_108 (by decide) ?_ ?_
          · refine ww_iload_n hX 2 rfl dX12_of_118 rfl ?_
            refine ww_iconst (v := 4) hX rfl dX12_of_119 ?_
            refine ww_icmp_ne (tgt := 165) hX dX12_of_120 (by decide) ?_ ?_
            · refine ww_iload_n hX 2 rfl dX12_of_165 rfl ?_
              refine ww_iconst (v := 5) hX rfl dX12_of_166 ?_
              refine ww_icmp_ne (tgt := 179) hX dX12_of_167 (by decide) ?_ ?_
              · refine ww_iconst (v := (-1)) hX rfl dX12_of_179 ?_
                exact ww_sub [] rfl (t_X12_of_180 B fu  ((-1)) s2)
              · refine ww_aload_n hX 0 rfl dX12_of_170 rfl ?_
                refine ww_getR hX f_X12_24 (Or.inr ⟨_, rfl⟩) dX12_of_171 ?_
                refine ww_bdR (fun o3 => ?_)
                refine ww_iload_n hX 1 rfl dX12_of_174 rfl ?_
                refine ww_ialdc hX k_iald dX12_of_175 ?_
                refine ww_goto (tgt := 180) hX dX12_of_176 (by decide) ?_
                exact ww_sub [] rfl (t_X12_of_180 B fu  (gI s2 o3 (ix p1)) s2)
            · refine ww_iconst (v := 0) hX rfl dX12_of_123 ?_
              refine ww_istore_n (lv' := [(3, .int 0), (0, .ref (x_b X + th)), (1, .int p1), (2, .int p2)]) hX hL dX12_of_124 rfl (by decide) rfl ?_
              refine ww_iconst (v := 1) hX rfl dX12_of_125 ?_
              refine ww_istore (lv' := [(4, .int 1), (3, .int 0), (0, .ref (x_b X + th)), (1, .int p1), (2, .int p2)]) hX hL dX12_of_126 (by decide) rfl ?_
              exact ww_sub [2, 3, 1, 0] rfl (t_X12_of_128 B fu fu th p1 0 1  s2)
          · refine ww_aload_n hX 0 rfl dX12_of_111 rfl ?_
            refine ww_getR hX f_X12_118 (Or.inr ⟨_, rfl⟩) dX12_of_112 ?_
            refine ww_bdR (fun o8 => ?_)
            refine ww_iload_n hX 1 rfl dX12_of_115 rfl ?_
            refine ww_ialdc hX k_iald dX12_of_116 ?_
            exact ww_iret B dX12_of_117
        · refine ww_aload_n hX 0 rfl dX12_of_80 rfl ?_
          refine ww_getR hX f_X12_115 (Or.inr ⟨_, rfl⟩) dX12_of_81 ?_
          refine ww_bdR (fun o9 => ?_)
          refine ww_iload_n hX 1 rfl dX12_of_84 rfl ?_
          refine ww_ialdc hX k_iald dX12_of_85 ?_
          refine ww_iconst (v := (-1)) hX rfl dX12_of_86 ?_
          refine ww_icmp_ne (tgt := 94) hX dX12_of_87 (by decide) ?_ ?_
          · refine ww_aload_n hX 0 rfl dX12_of_94 rfl ?_
            refine ww_getR hX f_X12_115 (Or.inr ⟨_, rfl⟩) dX12_of_95 ?_
            refine ww_bdR (fun o10 => ?_)
            refine ww_iload_n hX 1 rfl dX12_of_98 rfl ?_
            refine ww_ialdc hX k_iald dX12_of_99 ?_
            refine ww_aload_n hX 0 rfl dX12_of_100 rfl ?_
            refine ww_getI hX f_X12_490 (Or.inl rfl) dX12_of_101 ?_
            refine ww_isub hX dX12_of_104 ?_
            exact ww_sub [] rfl (t_X12_of_105 B fu  ((gI s2 o10 (ix p1)) - (gI s2 th 40)) s2)
          · refine ww_iconst (v := (-1)) hX rfl dX12_of_90 ?_
            refine ww_goto (tgt := 105) hX dX12_of_91 (by decide) ?_
            exact ww_sub [] rfl (t_X12_of_105 B fu  ((-1)) s2)
      · refine ww_aload_n hX 0 rfl dX12_of_49 rfl ?_
        refine ww_getR hX f_X12_112 (Or.inr ⟨_, rfl⟩) dX12_of_50 ?_
        refine ww_bdR (fun o11 => ?_)
        refine ww_iload_n hX 1 rfl dX12_of_53 rfl ?_
        refine ww_ialdc hX k_iald dX12_of_54 ?_
        refine ww_iconst (v := (-1)) hX rfl dX12_of_55 ?_
        refine ww_icmp_ne (tgt := 63) hX dX12_of_56 (by decide) ?_ ?_
        · refine ww_aload_n hX 0 rfl dX12_of_63 rfl ?_
          refine ww_getR hX f_X12_112 (Or.inr ⟨_, rfl⟩) dX12_of_64 ?_
          refine ww_bdR (fun o12 => ?_)
          refine ww_iload_n hX 1 rfl dX12_of_67 rfl ?_
          refine ww_ialdc hX k_iald dX12_of_68 ?_
          refine ww_aload_n hX 0 rfl dX12_of_69 rfl ?_
          refine ww_getI hX f_X12_490 (Or.inl rfl) dX12_of_70 ?_
          refine ww_isub hX dX12_of_73 ?_
          exact ww_sub [] rfl (t_X12_of_74 B fu  ((gI s2 o12 (ix p1)) - (gI s2 th 40)) s2)
        · refine ww_iconst (v := 0) hX rfl dX12_of_59 ?_
          refine ww_goto (tgt := 74) hX dX12_of_60 (by decide) ?_
          exact ww_sub [] rfl (t_X12_of_74 B fu  0 s2)
    · refine ww_aload_n hX 0 rfl dX12_of_13 rfl ?_
      refine ww_getR hX f_X12_109 (Or.inr ⟨_, rfl⟩) dX12_of_14 ?_
      refine ww_bdR (fun o13 => ?_)
      refine ww_iload_n hX 1 rfl dX12_of_17 rfl ?_
      refine ww_ialdc hX k_iald dX12_of_18 ?_
      refine ww_iconst (v := (-1)) hX rfl dX12_of_19 ?_
      refine ww_icmp_ne (tgt := 27) hX dX12_of_20 (by decide) ?_ ?_
      · refine ww_aload_n hX 0 rfl dX12_of_27 rfl ?_
        refine ww_getR hX f_X12_27 (Or.inr ⟨_, rfl⟩) dX12_of_28 ?_
        refine ww_bdR (fun o14 => ?_)
        refine ww_iload_n hX 1 rfl dX12_of_31 rfl ?_
        refine ww_bipush (v := 60) hX rfl dX12_of_32 ?_
        refine ww_imul hX dX12_of_34 ?_
        refine ww_aload_n hX 0 rfl dX12_of_35 rfl ?_
        refine ww_getR hX f_X12_109 (Or.inr ⟨_, rfl⟩) dX12_of_36 ?_
        refine ww_bdR (fun o15 => ?_)
        refine ww_pc (b := 39) rfl ?_
        refine ww_iload_n hX 1 rfl dX12_of_39 rfl ?_
        refine ww_ialdc hX k_iald dX12_of_40 ?_
        refine ww_iadd hX dX12_of_41 ?_
        refine ww_ialdc hX k_iald dX12_of_42 ?_
        exact ww_sub [] rfl (t_X12_of_43 B fu  (gI s2 o14 (ix ((p1 * 60) + (gI s2 o15 (ix p1))))) s2)
      · refine ww_iconst (v := 0) hX rfl dX12_of_23 ?_
        refine ww_goto (tgt := 43) hX dX12_of_24 (by decide) ?_
        exact ww_sub [] rfl (t_X12_of_43 B fu  0 s2)
  · refine ww_iconst (v := (-1)) hX rfl dX12_of_7 ?_
    exact ww_iret B dX12_of_8
theorem c_X12_of (G : GX) (l : Launch) (fu : Nat) (th : Nat) (p1 : Int32) (p2 : Int32) (st : St) : MI G NN l yX12_of cX12_of 5 (some .int) 2 [.ref (G.2.2.1 + th), .int p1, .int p2] st (f_X12_of fu th p1 p2 st) := mkI (by decide) (Nat.le_of_ble_eq_true rfl) (fun X res hl hG B => by subst hl; subst hG; exact t_X12_of B fu th p1 p2 st)
