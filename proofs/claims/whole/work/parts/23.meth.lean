/-! java/lang/Math.floorDiv(JJ)J -/
def b_J9_floorDiv_f86c9_27 (fu : Nat) (x4 : Int64)  (st : St) : Option (Int64 × St) :=
  some (x4, st)
set_option maxHeartbeats 4000000 in
set_option maxRecDepth 100000 in
theorem t_J9_floorDiv_f86c9_27 {X : CX} {res : Int64 × St} (B : BL X cJ9_floorDiv_f86c9 RJ9 6 1 NN (some .long) res) (fu : Nat) (x4 : Int64)  (st : St) : WW X res NN 27 [(4, .long x4)] [] st (b_J9_floorDiv_f86c9_27 fu x4 st) := by
  have hX := B.1
  have hL := B.2.1
  unfold b_J9_floorDiv_f86c9_27
  refine ww_lload hX 0 rfl dJ9_floorDiv_f86c9_27 ?_
  exact ww_lret B dJ9_floorDiv_f86c9_29
def f_J9_floorDiv_f86c9 (fu : Nat) (p0 : Int64) (p2 : Int64) (st : St) : Option (Int64 × St) :=
  ck (¬ p2 = 0) <|
  bd (p0 / p2) fun v1 =>
  if 0 ≤ (lg_cmp (p0 ^^^ p2) 0) then (
  b_J9_floorDiv_f86c9_27 fu v1  st)
  else (
  if (lg_cmp (v1 * p2) p0) = 0 then (
  b_J9_floorDiv_f86c9_27 fu v1  st)
  else (
  some (v1 - 1, st)))
set_option maxHeartbeats 4000000 in
set_option maxRecDepth 100000 in
theorem t_J9_floorDiv_f86c9 {X : CX} {res : Int64 × St} (B : BL X cJ9_floorDiv_f86c9 RJ9 6 1 NN (some .long) res) (fu : Nat) (p0 : Int64) (p2 : Int64) (st : St) : WW X res NN 0 [(0, .long p0), (2, .long p2)] [] st (f_J9_floorDiv_f86c9 fu p0 p2 st) := by
  have hX := B.1
  have hL := B.2.1
  unfold f_J9_floorDiv_f86c9
  refine ww_lload_n hX 0 rfl dJ9_floorDiv_f86c9_0 rfl ?_
  refine ww_lload_n hX 1 rfl dJ9_floorDiv_f86c9_1 rfl ?_
  refine ww_ldiv hX dJ9_floorDiv_f86c9_2 ?_
  refine ww_bdl (fun v1 => ?_)
  refine ww_lstore (lv' := [(4, .long v1), (0, .long p0), (2, .long p2)]) hX hL dJ9_floorDiv_f86c9_3 (by decide) rfl ?_
  refine ww_lload_n hX 1 rfl dJ9_floorDiv_f86c9_5 rfl ?_
  refine ww_lload_n hX 2 rfl dJ9_floorDiv_f86c9_6 rfl ?_
  refine ww_lxor hX dJ9_floorDiv_f86c9_7 ?_
  refine ww_pc (b := 8) rfl ?_
  refine ww_lconst (v := 0) hX rfl dJ9_floorDiv_f86c9_8 ?_
  refine ww_lcmp hX dJ9_floorDiv_f86c9_9 ?_
  refine ww_if_ge (tgt := 27) hX dJ9_floorDiv_f86c9_10 (by decide) ?_ ?_
  · exact ww_sub [0] rfl (t_J9_floorDiv_f86c9_27 B fu v1  st)
  · refine ww_lload hX 0 rfl dJ9_floorDiv_f86c9_13 ?_
    refine ww_lload_n hX 2 rfl dJ9_floorDiv_f86c9_15 rfl ?_
    refine ww_lmul hX dJ9_floorDiv_f86c9_16 ?_
    refine ww_lload_n hX 1 rfl dJ9_floorDiv_f86c9_17 rfl ?_
    refine ww_lcmp hX dJ9_floorDiv_f86c9_18 ?_
    refine ww_if_eq (tgt := 27) hX dJ9_floorDiv_f86c9_19 (by decide) ?_ ?_
    · exact ww_sub [0] rfl (t_J9_floorDiv_f86c9_27 B fu v1  st)
    · refine ww_lload hX 0 rfl dJ9_floorDiv_f86c9_22 ?_
      refine ww_lconst (v := 1) hX rfl dJ9_floorDiv_f86c9_24 ?_
      refine ww_lsub hX dJ9_floorDiv_f86c9_25 ?_
      exact ww_lret B dJ9_floorDiv_f86c9_26
theorem c_J9_floorDiv_f86c9 (G : GX) (l : Launch) (fu : Nat) (p0 : Int64) (p2 : Int64) (st : St) : ML G NN l yJ9_floorDiv_f86c9 cJ9_floorDiv_f86c9 6 (some .long) 1 [.long p0, .long p2] st (f_J9_floorDiv_f86c9 fu p0 p2 st) := mkLF (by decide +kernel) (Nat.le_of_ble_eq_true rfl) (fun X res hl hG B => by subst hl; subst hG; exact t_J9_floorDiv_f86c9 B fu p0 p2 st)
/-! java/lang/Math.floorMod(JJ)J -/
def b_J9_floorMod_f86c9_25 (fu : Nat) (x4 : Int64)  (st : St) : Option (Int64 × St) :=
  some (x4, st)
set_option maxHeartbeats 4000000 in
set_option maxRecDepth 100000 in
theorem t_J9_floorMod_f86c9_25 {X : CX} {res : Int64 × St} (B : BL X cJ9_floorMod_f86c9 RJ9 6 1 NN (some .long) res) (fu : Nat) (x4 : Int64)  (st : St) : WW X res NN 25 [(4, .long x4)] [] st (b_J9_floorMod_f86c9_25 fu x4 st) := by
  have hX := B.1
  have hL := B.2.1
  unfold b_J9_floorMod_f86c9_25
  refine ww_lload hX 0 rfl dJ9_floorMod_f86c9_25 ?_
  exact ww_lret B dJ9_floorMod_f86c9_27
def f_J9_floorMod_f86c9 (fu : Nat) (p0 : Int64) (p2 : Int64) (st : St) : Option (Int64 × St) :=
  ck (¬ p2 = 0) <|
  bd (p0 - p0 / p2 * p2) fun v1 =>
  if 0 ≤ (lg_cmp (p0 ^^^ p2) 0) then (
  b_J9_floorMod_f86c9_25 fu v1  st)
  else (
  if (lg_cmp v1 0) = 0 then (
  b_J9_floorMod_f86c9_25 fu v1  st)
  else (
  some (v1 + p2, st)))
set_option maxHeartbeats 4000000 in
set_option maxRecDepth 100000 in
theorem t_J9_floorMod_f86c9 {X : CX} {res : Int64 × St} (B : BL X cJ9_floorMod_f86c9 RJ9 6 1 NN (some .long) res) (fu : Nat) (p0 : Int64) (p2 : Int64) (st : St) : WW X res NN 0 [(0, .long p0), (2, .long p2)] [] st (f_J9_floorMod_f86c9 fu p0 p2 st) := by
  have hX := B.1
  have hL := B.2.1
  unfold f_J9_floorMod_f86c9
  refine ww_lload_n hX 0 rfl dJ9_floorMod_f86c9_0 rfl ?_
  refine ww_lload_n hX 1 rfl dJ9_floorMod_f86c9_1 rfl ?_
  refine ww_lrem hX dJ9_floorMod_f86c9_2 ?_
  refine ww_bdl (fun v1 => ?_)
  refine ww_lstore (lv' := [(4, .long v1), (0, .long p0), (2, .long p2)]) hX hL dJ9_floorMod_f86c9_3 (by decide) rfl ?_
  refine ww_lload_n hX 1 rfl dJ9_floorMod_f86c9_5 rfl ?_
  refine ww_lload_n hX 2 rfl dJ9_floorMod_f86c9_6 rfl ?_
  refine ww_lxor hX dJ9_floorMod_f86c9_7 ?_
  refine ww_pc (b := 8) rfl ?_
  refine ww_lconst (v := 0) hX rfl dJ9_floorMod_f86c9_8 ?_
  refine ww_lcmp hX dJ9_floorMod_f86c9_9 ?_
  refine ww_if_ge (tgt := 25) hX dJ9_floorMod_f86c9_10 (by decide) ?_ ?_
  · exact ww_sub [0] rfl (t_J9_floorMod_f86c9_25 B fu v1  st)
  · refine ww_lload hX 0 rfl dJ9_floorMod_f86c9_13 ?_
    refine ww_lconst (v := 0) hX rfl dJ9_floorMod_f86c9_15 ?_
    refine ww_lcmp hX dJ9_floorMod_f86c9_16 ?_
    refine ww_if_eq (tgt := 25) hX dJ9_floorMod_f86c9_17 (by decide) ?_ ?_
    · exact ww_sub [0] rfl (t_J9_floorMod_f86c9_25 B fu v1  st)
    · refine ww_lload hX 0 rfl dJ9_floorMod_f86c9_20 ?_
      refine ww_lload_n hX 2 rfl dJ9_floorMod_f86c9_22 rfl ?_
      refine ww_ladd hX dJ9_floorMod_f86c9_23 ?_
      exact ww_lret B dJ9_floorMod_f86c9_24
theorem c_J9_floorMod_f86c9 (G : GX) (l : Launch) (fu : Nat) (p0 : Int64) (p2 : Int64) (st : St) : ML G NN l yJ9_floorMod_f86c9 cJ9_floorMod_f86c9 6 (some .long) 1 [.long p0, .long p2] st (f_J9_floorMod_f86c9 fu p0 p2 st) := mkLF (by decide +kernel) (Nat.le_of_ble_eq_true rfl) (fun X res hl hG B => by subst hl; subst hG; exact t_J9_floorMod_f86c9 B fu p0 p2 st)
/-! StageHouse$Parties.commonOf(JJ)J -/
def b_X5_commonOf_57 (fu : Nat)  (y0 : Int64) (st : St) : Option (Int64 × St) :=
  some (y0, st)
set_option maxHeartbeats 4000000 in
set_option maxRecDepth 100000 in
theorem t_X5_commonOf_57 {X : CX} {res : Int64 × St} (B : BL X cX5_commonOf RX5 11 1 NN (some .long) res) (fu : Nat)  (y0 : Int64) (st : St) : WW X res NN 57 [] [.long y0] st (b_X5_commonOf_57 fu y0 st) := by
  have hX := B.1
  have hL := B.2.1
  unfold b_X5_commonOf_57
  exact ww_lret B dX5_commonOf_57
def b_X5_commonOf_44 (fu : Nat) (x6 : Int64)  (st : St) : Option (Int64 × St) :=
  if (lg_cmp x6 0) ≤ 0 then (
  b_X5_commonOf_57 fu  1 st)
  else (
  b_X5_commonOf_57 fu  x6 st)
set_option maxHeartbeats 4000000 in
set_option maxRecDepth 100000 in
theorem t_X5_commonOf_44 {X : CX} {res : Int64 × St} (B : BL X cX5_commonOf RX5 11 1 NN (some .long) res) (fu : Nat) (x6 : Int64)  (st : St) : WW X res NN 44 [(6, .long x6)] [] st (b_X5_commonOf_44 fu x6 st) := by
  have hX := B.1
  have hL := B.2.1
  unfold b_X5_commonOf_44
  refine ww_lload hX 0 rfl dX5_commonOf_44 ?_
  refine ww_lconst (v := 0) hX rfl dX5_commonOf_46 ?_
  refine ww_lcmp hX dX5_commonOf_47 ?_
  refine ww_if_le (tgt := 56) hX dX5_commonOf_48 (by decide) ?_ ?_
  · refine ww_lconst (v := 1) hX rfl dX5_commonOf_56 ?_
    exact ww_sub [] rfl (t_X5_commonOf_57 B fu  1 st)
  · refine ww_lload hX 0 rfl dX5_commonOf_51 ?_
    refine ww_goto (tgt := 57) hX dX5_commonOf_53 (by decide) ?_
    exact ww_sub [] rfl (t_X5_commonOf_57 B fu  x6 st)
def b_X5_commonOf_9_b (fu : Nat) (k_9 : Int64 → Int64 → Int32 → St → Option (Int64 × St)) (x4 : Int64) (x6 : Int64) (x8 : Int32)  (st : St) : Option (Int64 × St) :=
  if 100 ≤ x8 then (
  b_X5_commonOf_44 fu x6  st)
  else (
  if (lg_cmp x4 0) ≤ 0 then (
  b_X5_commonOf_44 fu x6  st)
  else (
  ck (¬ x4 = 0) <|
  bd (x6 - x6 / x4 * x4) fun v1 =>
  bd (x8 + 1) fun v2 =>
  k_9 v1 x4 v2  st))
set_option maxHeartbeats 4000000 in
set_option maxRecDepth 100000 in
theorem t_X5_commonOf_9_b {X : CX} {res : Int64 × St} (B : BL X cX5_commonOf RX5 11 1 NN (some .long) res) (fu : Nat) (k_9 : Int64 → Int64 → Int32 → St → Option (Int64 × St)) (h_9 : ∀ (x4 : Int64) (x6 : Int64) (x8 : Int32)  (st : St), WW X res NN 9 [(4, .long x4), (6, .long x6), (8, .int x8)] [] st (k_9 x4 x6 x8 st)) (x4 : Int64) (x6 : Int64) (x8 : Int32)  (st : St) : WW X res NN 9 [(4, .long x4), (6, .long x6), (8, .int x8)] [] st (b_X5_commonOf_9_b fu k_9 x4 x6 x8 st) := by
  have hX := B.1
  have hL := B.2.1
  unfold b_X5_commonOf_9_b
  refine ww_iload hX 2 rfl dX5_commonOf_9 ?_
  refine ww_bipush (v := 100) hX rfl dX5_commonOf_11 ?_
  refine ww_icmp_ge (tgt := 44) hX dX5_commonOf_13 (by decide) ?_ ?_
  · exact ww_sub [1] rfl (t_X5_commonOf_44 B fu x6  st)
  · refine ww_lload hX 0 rfl dX5_commonOf_16 ?_
    refine ww_lconst (v := 0) hX rfl dX5_commonOf_18 ?_
    refine ww_lcmp hX dX5_commonOf_19 ?_
    refine ww_if_le (tgt := 44) hX dX5_commonOf_20 (by decide) ?_ ?_
    · exact ww_sub [1] rfl (t_X5_commonOf_44 B fu x6  st)
    · refine ww_lload hX 1 rfl dX5_commonOf_23 ?_
      refine ww_lload hX 0 rfl dX5_commonOf_25 ?_
      refine ww_lrem hX dX5_commonOf_27 ?_
      refine ww_bdl (fun v1 => ?_)
      refine ww_lstore (lv' := [(9, .long v1), (4, .long x4), (6, .long x6), (8, .int x8)]) hX hL dX5_commonOf_28 (by decide) rfl ?_
      refine ww_lload hX 1 rfl dX5_commonOf_30 ?_
      refine ww_lstore (lv' := [(6, .long x4), (9, .long v1), (4, .long x4), (8, .int x8)]) hX hL dX5_commonOf_32 (by decide) rfl ?_
      refine ww_lload hX 1 rfl dX5_commonOf_34 ?_
      refine ww_pc (b := 36) rfl ?_
      refine ww_lstore (lv' := [(4, .long v1), (6, .long x4), (9, .long v1), (8, .int x8)]) hX hL dX5_commonOf_36 (by decide) rfl ?_
      refine ww_iincb (lv' := fun v2 => [(8, .int v2), (4, .long v1), (6, .long x4), (9, .long v1)]) (c := 1) hX hL 3 rfl dX5_commonOf_38 rfl (by decide) (fun _ => rfl) (fun v2 => ?_)
      refine ww_goto (tgt := 9) hX dX5_commonOf_41 (by decide) ?_
      exact ww_sub [1, 2, 0] rfl (h_9 v1 x4 v2  st)
def b_X5_commonOf_9 (fu : Nat) : Nat → Int64 → Int64 → Int32 → St → Option (Int64 × St)
  | 0, _, _, _, _ => none
  | i + 1, x4, x6, x8, st => b_X5_commonOf_9_b fu (b_X5_commonOf_9 fu i) x4 x6 x8 st
theorem t_X5_commonOf_9 {X : CX} {res : Int64 × St} (B : BL X cX5_commonOf RX5 11 1 NN (some .long) res) (fu : Nat) : ∀ (i : Nat) (x4 : Int64) (x6 : Int64) (x8 : Int32)  (st : St), WW X res NN 9 [(4, .long x4), (6, .long x6), (8, .int x8)] [] st (b_X5_commonOf_9 fu i x4 x6 x8 st) := by
  intro i
  induction i with
  | zero => intro x4 x6 x8 st; exact ww_none
  | succ i ih => intro x4 x6 x8 st; exact t_X5_commonOf_9_b B fu (b_X5_commonOf_9 fu i) ih x4 x6 x8 st
def f_X5_commonOf (fu : Nat) (p0 : Int64) (p2 : Int64) (st : St) : Option (Int64 × St) :=
  b_X5_commonOf_9 fu fu p0 p2 0  st
set_option maxHeartbeats 4000000 in
set_option maxRecDepth 100000 in
theorem t_X5_commonOf {X : CX} {res : Int64 × St} (B : BL X cX5_commonOf RX5 11 1 NN (some .long) res) (fu : Nat) (p0 : Int64) (p2 : Int64) (st : St) : WW X res NN 0 [(0, .long p0), (2, .long p2)] [] st (f_X5_commonOf fu p0 p2 st) := by
  have hX := B.1
  have hL := B.2.1
  unfold f_X5_commonOf
  refine ww_lload_n hX 0 rfl dX5_commonOf_0 rfl ?_
  refine ww_lstore (lv' := [(4, .long p0), (0, .long p0), (2, .long p2)]) hX hL dX5_commonOf_1 (by decide) rfl ?_
  refine ww_lload_n hX 2 rfl dX5_commonOf_3 rfl ?_
  refine ww_lstore (lv' := [(6, .long p2), (4, .long p0), (0, .long p0), (2, .long p2)]) hX hL dX5_commonOf_4 (by decide) rfl ?_
  refine ww_iconst (v := 0) hX rfl dX5_commonOf_6 ?_
  refine ww_istore (lv' := [(8, .int 0), (6, .long p2), (4, .long p0), (0, .long p0), (2, .long p2)]) hX hL dX5_commonOf_7 (by decide) rfl ?_
  exact ww_sub [2, 1, 0] rfl (t_X5_commonOf_9 B fu fu p0 p2 0  st)
theorem c_X5_commonOf (G : GX) (l : Launch) (fu : Nat) (p0 : Int64) (p2 : Int64) (st : St) : ML G NN l yX5_commonOf cX5_commonOf 11 (some .long) 1 [.long p0, .long p2] st (f_X5_commonOf fu p0 p2 st) := mkL (by decide) (Nat.le_of_ble_eq_true rfl) (fun X res hl hG B => by subst hl; subst hG; exact t_X5_commonOf B fu p0 p2 st)
/-! StageHouse$Parties.determinant()J -/
def f_X5_determinant (fu : Nat) (th : Nat) (st : St) : Option (Int64 × St) :=
  ck (¬ gR st th 3 = 0) <|
  ck ((kd th).1 = 5) <|
  bd (gR st th 3) fun o1 =>
  ck ((kd o1).1 = 103 ∧ inb 0 (kd o1).2) <|
  ck (¬ gR st th 3 = 0) <|
  ck ((kd th).1 = 5) <|
  bd (gR st th 3) fun o2 =>
  ck ((kd o2).1 = 103 ∧ inb 4 (kd o2).2) <|
  ck (¬ gR st th 3 = 0) <|
  ck ((kd th).1 = 5) <|
  bd (gR st th 3) fun o3 =>
  ck ((kd o3).1 = 103 ∧ inb 8 (kd o3).2) <|
  ck (¬ gR st th 3 = 0) <|
  ck ((kd th).1 = 5) <|
  bd (gR st th 3) fun o4 =>
  ck ((kd o4).1 = 103 ∧ inb 5 (kd o4).2) <|
  ck (¬ gR st th 3 = 0) <|
  ck ((kd th).1 = 5) <|
  bd (gR st th 3) fun o5 =>
  ck ((kd o5).1 = 103 ∧ inb 7 (kd o5).2) <|
  ck (¬ gR st th 3 = 0) <|
  ck ((kd th).1 = 5) <|
  bd (gR st th 3) fun o6 =>
  ck ((kd o6).1 = 103 ∧ inb 1 (kd o6).2) <|
  ck (¬ gR st th 3 = 0) <|
  ck ((kd th).1 = 5) <|
  bd (gR st th 3) fun o7 =>
  ck ((kd o7).1 = 103 ∧ inb 3 (kd o7).2) <|
  ck (¬ gR st th 3 = 0) <|
  ck ((kd th).1 = 5) <|
  bd (gR st th 3) fun o8 =>
  ck ((kd o8).1 = 103 ∧ inb 8 (kd o8).2) <|
  ck (¬ gR st th 3 = 0) <|
  ck ((kd th).1 = 5) <|
  bd (gR st th 3) fun o9 =>
  ck ((kd o9).1 = 103 ∧ inb 5 (kd o9).2) <|
  ck (¬ gR st th 3 = 0) <|
  ck ((kd th).1 = 5) <|
  bd (gR st th 3) fun o10 =>
  ck ((kd o10).1 = 103 ∧ inb 6 (kd o10).2) <|
  ck (¬ gR st th 3 = 0) <|
  ck ((kd th).1 = 5) <|
  bd (gR st th 3) fun o11 =>
  ck ((kd o11).1 = 103 ∧ inb 2 (kd o11).2) <|
  ck (¬ gR st th 3 = 0) <|
  ck ((kd th).1 = 5) <|
  bd (gR st th 3) fun o12 =>
  ck ((kd o12).1 = 103 ∧ inb 3 (kd o12).2) <|
  ck (¬ gR st th 3 = 0) <|
  ck ((kd th).1 = 5) <|
  bd (gR st th 3) fun o13 =>
  ck ((kd o13).1 = 103 ∧ inb 7 (kd o13).2) <|
  ck (¬ gR st th 3 = 0) <|
  ck ((kd th).1 = 5) <|
  bd (gR st th 3) fun o14 =>
  ck ((kd o14).1 = 103 ∧ inb 4 (kd o14).2) <|
  ck (¬ gR st th 3 = 0) <|
  ck ((kd th).1 = 5) <|
  bd (gR st th 3) fun o15 =>
  ck ((kd o15).1 = 103 ∧ inb 6 (kd o15).2) <|
  some ((((gL st o1 (ix 0)) * (((gL st o2 (ix 4)) * (gL st o3 (ix 8))) - ((gL st o4 (ix 5)) * (gL st o5 (ix 7))))) - ((gL st o6 (ix 1)) * (((gL st o7 (ix 3)) * (gL st o8 (ix 8))) - ((gL st o9 (ix 5)) * (gL st o10 (ix 6)))))) + ((gL st o11 (ix 2)) * (((gL st o12 (ix 3)) * (gL st o13 (ix 7))) - ((gL st o14 (ix 4)) * (gL st o15 (ix 6))))), st)
set_option maxHeartbeats 4000000 in
set_option maxRecDepth 100000 in
theorem t_X5_determinant {X : CX} {res : Int64 × St} (B : BL X cX5_determinant RX5 1 1 NN (some .long) res) (fu : Nat) (th : Nat) (st : St) : WW X res NN 0 [(0, .ref (x_b X + th))] [] st (f_X5_determinant fu th st) := by
  have hX := B.1
  have hL := B.2.1
  unfold f_X5_determinant
  refine ww_aload_n hX 0 rfl dX5_determinant_0 rfl ?_
  refine ww_getR hX f_X5_16 (Or.inr ⟨_, rfl⟩) dX5_determinant_1 ?_
  refine ww_bdR (fun o1 => ?_)
  refine ww_iconst (v := 0) hX rfl dX5_determinant_4 ?_
  refine ww_laldc hX k_lald dX5_determinant_5 ?_
  refine ww_aload_n hX 0 rfl dX5_determinant_6 rfl ?_
  refine ww_getR hX f_X5_16 (Or.inr ⟨_, rfl⟩) dX5_determinant_7 ?_
  refine ww_bdR (fun o2 => ?_)
  refine ww_iconst (v := 4) hX rfl dX5_determinant_10 ?_
  refine ww_pc (b := 11) rfl ?_
  refine ww_laldc hX k_lald dX5_determinant_11 ?_
  refine ww_aload_n hX 0 rfl dX5_determinant_12 rfl ?_
  refine ww_getR hX f_X5_16 (Or.inr ⟨_, rfl⟩) dX5_determinant_13 ?_
  refine ww_bdR (fun o3 => ?_)
  refine ww_bipush (v := 8) hX rfl dX5_determinant_16 ?_
  refine ww_laldc hX k_lald dX5_determinant_18 ?_
  refine ww_lmul hX dX5_determinant_19 ?_
  refine ww_aload_n hX 0 rfl dX5_determinant_20 rfl ?_
  refine ww_getR hX f_X5_16 (Or.inr ⟨_, rfl⟩) dX5_determinant_21 ?_
  refine ww_bdR (fun o4 => ?_)
  refine ww_pc (b := 24) rfl ?_
  refine ww_iconst (v := 5) hX rfl dX5_determinant_24 ?_
  refine ww_laldc hX k_lald dX5_determinant_25 ?_
  refine ww_aload_n hX 0 rfl dX5_determinant_26 rfl ?_
  refine ww_getR hX f_X5_16 (Or.inr ⟨_, rfl⟩) dX5_determinant_27 ?_
  refine ww_bdR (fun o5 => ?_)
  refine ww_bipush (v := 7) hX rfl dX5_determinant_30 ?_
  refine ww_laldc hX k_lald dX5_determinant_32 ?_
  refine ww_lmul hX dX5_determinant_33 ?_
  refine ww_lsub hX dX5_determinant_34 ?_
  refine ww_pc (b := 35) rfl ?_
  refine ww_lmul hX dX5_determinant_35 ?_
  refine ww_aload_n hX 0 rfl dX5_determinant_36 rfl ?_
  refine ww_getR hX f_X5_16 (Or.inr ⟨_, rfl⟩) dX5_determinant_37 ?_
  refine ww_bdR (fun o6 => ?_)
  refine ww_iconst (v := 1) hX rfl dX5_determinant_40 ?_
  refine ww_laldc hX k_lald dX5_determinant_41 ?_
  refine ww_aload_n hX 0 rfl dX5_determinant_42 rfl ?_
  refine ww_getR hX f_X5_16 (Or.inr ⟨_, rfl⟩) dX5_determinant_43 ?_
  refine ww_bdR (fun o7 => ?_)
  refine ww_iconst (v := 3) hX rfl dX5_determinant_46 ?_
  refine ww_pc (b := 47) rfl ?_
  refine ww_laldc hX k_lald dX5_determinant_47 ?_
  refine ww_aload_n hX 0 rfl dX5_determinant_48 rfl ?_
  refine ww_getR hX f_X5_16 (Or.inr ⟨_, rfl⟩) dX5_determinant_49 ?_
  refine ww_bdR (fun o8 => ?_)
  refine ww_bipush (v := 8) hX rfl dX5_determinant_52 ?_
  refine ww_laldc hX k_lald dX5_determinant_54 ?_
  refine ww_lmul hX dX5_determinant_55 ?_
  refine ww_aload_n hX 0 rfl dX5_determinant_56 rfl ?_
  refine ww_getR hX f_X5_16 (Or.inr ⟨_, rfl⟩) dX5_determinant_57 ?_
  refine ww_bdR (fun o9 => ?_)
  refine ww_pc (b := 60) rfl ?_
  refine ww_iconst (v := 5) hX rfl dX5_determinant_60 ?_
  refine ww_laldc hX k_lald dX5_determinant_61 ?_
  refine ww_aload_n hX 0 rfl dX5_determinant_62 rfl ?_
  refine ww_getR hX f_X5_16 (Or.inr ⟨_, rfl⟩) dX5_determinant_63 ?_
  refine ww_bdR (fun o10 => ?_)
  refine ww_bipush (v := 6) hX rfl dX5_determinant_66 ?_
  refine ww_laldc hX k_lald dX5_determinant_68 ?_
  refine ww_lmul hX dX5_determinant_69 ?_
  refine ww_lsub hX dX5_determinant_70 ?_
  refine ww_pc (b := 71) rfl ?_
  refine ww_lmul hX dX5_determinant_71 ?_
  refine ww_lsub hX dX5_determinant_72 ?_
  refine ww_aload_n hX 0 rfl dX5_determinant_73 rfl ?_
  refine ww_getR hX f_X5_16 (Or.inr ⟨_, rfl⟩) dX5_determinant_74 ?_
  refine ww_bdR (fun o11 => ?_)
  refine ww_iconst (v := 2) hX rfl dX5_determinant_77 ?_
  refine ww_laldc hX k_lald dX5_determinant_78 ?_
  refine ww_aload_n hX 0 rfl dX5_determinant_79 rfl ?_
  refine ww_getR hX f_X5_16 (Or.inr ⟨_, rfl⟩) dX5_determinant_80 ?_
  refine ww_bdR (fun o12 => ?_)
  refine ww_pc (b := 83) rfl ?_
  refine ww_iconst (v := 3) hX rfl dX5_determinant_83 ?_
  refine ww_laldc hX k_lald dX5_determinant_84 ?_
  refine ww_aload_n hX 0 rfl dX5_determinant_85 rfl ?_
  refine ww_getR hX f_X5_16 (Or.inr ⟨_, rfl⟩) dX5_determinant_86 ?_
  refine ww_bdR (fun o13 => ?_)
  refine ww_bipush (v := 7) hX rfl dX5_determinant_89 ?_
  refine ww_laldc hX k_lald dX5_determinant_91 ?_
  refine ww_lmul hX dX5_determinant_92 ?_
  refine ww_aload_n hX 0 rfl dX5_determinant_93 rfl ?_
  refine ww_pc (b := 94) rfl ?_
  refine ww_getR hX f_X5_16 (Or.inr ⟨_, rfl⟩) dX5_determinant_94 ?_
  refine ww_bdR (fun o14 => ?_)
  refine ww_iconst (v := 4) hX rfl dX5_determinant_97 ?_
  refine ww_laldc hX k_lald dX5_determinant_98 ?_
  refine ww_aload_n hX 0 rfl dX5_determinant_99 rfl ?_
  refine ww_getR hX f_X5_16 (Or.inr ⟨_, rfl⟩) dX5_determinant_100 ?_
  refine ww_bdR (fun o15 => ?_)
  refine ww_bipush (v := 6) hX rfl dX5_determinant_103 ?_
  refine ww_laldc hX k_lald dX5_determinant_105 ?_
  refine ww_lmul hX dX5_determinant_106 ?_
  refine ww_pc (b := 107) rfl ?_
  refine ww_lsub hX dX5_determinant_107 ?_
  refine ww_lmul hX dX5_determinant_108 ?_
  refine ww_ladd hX dX5_determinant_109 ?_
  exact ww_lret B dX5_determinant_110
theorem c_X5_determinant (G : GX) (l : Launch) (fu : Nat) (th : Nat) (st : St) : ML G NN l yX5_determinant cX5_determinant 1 (some .long) 1 [.ref (G.2.2.1 + th)] st (f_X5_determinant fu th st) := mkL (by decide) (Nat.le_of_ble_eq_true rfl) (fun X res hl hG B => by subst hl; subst hG; exact t_X5_determinant B fu th st)
/-! StageHouse$Parties.fillRows(I)V -/
def b_X5_fillRows_43 (fu : Nat) (k_2 : Nat → Int32 → Int32 → St → Option (St)) (k_14 : Nat → Int32 → Int32 → Int32 → Int32 → St → Option (St)) (x0 : Nat) (x1 : Int32) (x2 : Int32) (x3 : Int32) (x4 : Int32) (y0 : Nat) (y1 : Int32) (y2 : Int64) (st : St) : Option (St) :=
  ck (¬ gR st x0 0 = 0) <|
  ck ((kd x0).1 = 5) <|
  bd (gR st x0 0) fun o8 =>
  ck ((kd o8).1 = 100 ∧ inb (x3 + x4) (kd o8).2) <|
  ck ((kd y0).1 = 103 ∧ inb y1 (kd y0).2) <|
  bd (sL st y0 (ix y1) (y2 - ((gI st o8 (ix (x3 + x4))).toInt64))) fun s9 =>
  bd (x4 + 1) fun v10 =>
  k_14 x0 x1 x2 x3 v10  s9
set_option maxHeartbeats 4000000 in
set_option maxRecDepth 100000 in
theorem t_X5_fillRows_43 {X : CX} {res : St} (B : BV X cX5_fillRows RX5 5 1 NN none res) (fu : Nat) (k_2 : Nat → Int32 → Int32 → St → Option (St)) (k_14 : Nat → Int32 → Int32 → Int32 → Int32 → St → Option (St)) (h_2 : ∀ (x0 : Nat) (x1 : Int32) (x2 : Int32)  (st : St), WW X res NN 2 [(0, .ref (x_b X + x0)), (1, .int x1), (2, .int x2)] [] st (k_2 x0 x1 x2 st)) (h_14 : ∀ (x0 : Nat) (x1 : Int32) (x2 : Int32) (x3 : Int32) (x4 : Int32)  (st : St), WW X res NN 14 [(0, .ref (x_b X + x0)), (1, .int x1), (2, .int x2), (3, .int x3), (4, .int x4)] [] st (k_14 x0 x1 x2 x3 x4 st)) (x0 : Nat) (x1 : Int32) (x2 : Int32) (x3 : Int32) (x4 : Int32) (y0 : Nat) (y1 : Int32) (y2 : Int64) (st : St) : WW X res NN 43 [(0, .ref (x_b X + x0)), (1, .int x1), (2, .int x2), (3, .int x3), (4, .int x4)] [.long y2, .int y1, .ref (x_b X + y0)] st (b_X5_fillRows_43 fu k_2 k_14 x0 x1 x2 x3 x4 y0 y1 y2 st) := by
  have hX := B.1
  have hL := B.2.1
  unfold b_X5_fillRows_43
  refine ww_aload_n hX 0 rfl dX5_fillRows_43 rfl ?_
  refine ww_getR hX f_X5_9 (Or.inr ⟨_, rfl⟩) dX5_fillRows_44 ?_
  refine ww_bdR (fun o8 => ?_)
  refine ww_iload_n hX 3 rfl dX5_fillRows_47 rfl ?_
  refine ww_iload hX 4 rfl dX5_fillRows_48 ?_
  refine ww_iadd hX dX5_fillRows_50 ?_
  refine ww_ialdc hX k_iald dX5_fillRows_51 ?_
  refine ww_i2l hX dX5_fillRows_52 ?_
  refine ww_pc (b := 53) rfl ?_
  refine ww_lsub hX dX5_fillRows_53 ?_
  refine ww_lastc hX k_last dX5_fillRows_54 ?_
  refine ww_bds (fun s9 => ?_)
  refine ww_iincb (lv' := fun v10 => [(4, .int v10), (0, .ref (x_b X + x0)), (1, .int x1), (2, .int x2), (3, .int x3)]) (c := 1) hX hL 4 rfl dX5_fillRows_55 rfl (by decide) (fun _ => rfl) (fun v10 => ?_)
  refine ww_goto (tgt := 14) hX dX5_fillRows_58 (by decide) ?_
  exact ww_sub [1, 2, 3, 4, 0] rfl (h_14 x0 x1 x2 x3 v10  s9)
def b_X5_fillRows_14_b (fu : Nat) (k_2 : Nat → Int32 → Int32 → St → Option (St)) (k_14 : Nat → Int32 → Int32 → Int32 → Int32 → St → Option (St)) (x0 : Nat) (x1 : Int32) (x2 : Int32) (x3 : Int32) (x4 : Int32)  (st : St) : Option (St) :=
  if 3 ≤ x4 then (
  ck (¬ gR st x0 4 = 0) <|
  ck ((kd x0).1 = 5) <|
  bd (gR st x0 4) fun o2 =>
  ck (¬ gR st x0 0 = 0) <|
  ck ((kd x0).1 = 5) <|
  bd (gR st x0 0) fun o3 =>
  ck ((kd o3).1 = 100 ∧ inb (x3 + 3) (kd o3).2) <|
  ck (¬ gR st x0 0 = 0) <|
  ck ((kd x0).1 = 5) <|
  bd (gR st x0 0) fun o4 =>
  ck ((kd o4).1 = 100 ∧ inb (x3 + 4) (kd o4).2) <|
  ck ((kd o2).1 = 103 ∧ inb x2 (kd o2).2) <|
  bd (sL st o2 (ix x2) ((((gI st o3 (ix (x3 + 3))).toInt64) * x1.toInt64) + (100 * ((gI st o4 (ix (x3 + 4))).toInt64)))) fun s5 =>
  bd (x2 + 1) fun v6 =>
  k_2 x0 x1 v6  s5)
  else (
  ck (¬ gR st x0 3 = 0) <|
  ck ((kd x0).1 = 5) <|
  bd (gR st x0 3) fun o7 =>
  if x2 = x4 then (
  b_X5_fillRows_43 fu k_2 k_14 x0 x1 x2 x3 x4 o7 ((3 * x2) + x4) 100 st)
  else (
  b_X5_fillRows_43 fu k_2 k_14 x0 x1 x2 x3 x4 o7 ((3 * x2) + x4) 0 st))
set_option maxHeartbeats 4000000 in
set_option maxRecDepth 100000 in
theorem t_X5_fillRows_14_b {X : CX} {res : St} (B : BV X cX5_fillRows RX5 5 1 NN none res) (fu : Nat) (k_2 : Nat → Int32 → Int32 → St → Option (St)) (k_14 : Nat → Int32 → Int32 → Int32 → Int32 → St → Option (St)) (h_2 : ∀ (x0 : Nat) (x1 : Int32) (x2 : Int32)  (st : St), WW X res NN 2 [(0, .ref (x_b X + x0)), (1, .int x1), (2, .int x2)] [] st (k_2 x0 x1 x2 st)) (h_14 : ∀ (x0 : Nat) (x1 : Int32) (x2 : Int32) (x3 : Int32) (x4 : Int32)  (st : St), WW X res NN 14 [(0, .ref (x_b X + x0)), (1, .int x1), (2, .int x2), (3, .int x3), (4, .int x4)] [] st (k_14 x0 x1 x2 x3 x4 st)) (x0 : Nat) (x1 : Int32) (x2 : Int32) (x3 : Int32) (x4 : Int32)  (st : St) : WW X res NN 14 [(0, .ref (x_b X + x0)), (1, .int x1), (2, .int x2), (3, .int x3), (4, .int x4)] [] st (b_X5_fillRows_14_b fu k_2 k_14 x0 x1 x2 x3 x4 st) := by
  have hX := B.1
  have hL := B.2.1
  unfold b_X5_fillRows_14_b
  refine ww_iload hX 4 rfl dX5_fillRows_14 ?_
  refine ww_iconst (v := 3) hX rfl dX5_fillRows_16 ?_
  refine ww_icmp_ge (tgt := 61) hX dX5_fillRows_17 (by decide) ?_ ?_
  · refine ww_aload_n hX 0 rfl dX5_fillRows_61 rfl ?_
    refine ww_getR hX f_X5_20 (Or.inr ⟨_, rfl⟩) dX5_fillRows_62 ?_
    refine ww_bdR (fun o2 => ?_)
    refine ww_iload_n hX 2 rfl dX5_fillRows_65 rfl ?_
    refine ww_aload_n hX 0 rfl dX5_fillRows_66 rfl ?_
    refine ww_getR hX f_X5_9 (Or.inr ⟨_, rfl⟩) dX5_fillRows_67 ?_
    refine ww_bdR (fun o3 => ?_)
    refine ww_iload_n hX 3 rfl dX5_fillRows_70 rfl ?_
    refine ww_iconst (v := 3) hX rfl dX5_fillRows_71 ?_
    refine ww_pc (b := 72) rfl ?_
    refine ww_iadd hX dX5_fillRows_72 ?_
    refine ww_ialdc hX k_iald dX5_fillRows_73 ?_
    refine ww_i2l hX dX5_fillRows_74 ?_
    refine ww_iload_n hX 1 rfl dX5_fillRows_75 rfl ?_
    refine ww_i2l hX dX5_fillRows_76 ?_
    refine ww_lmul hX dX5_fillRows_77 ?_
    refine ww_ldc2 (v := 100) hX k_X5_115 dX5_fillRows_78 ?_
    refine ww_aload_n hX 0 rfl dX5_fillRows_81 rfl ?_
    refine ww_pc (b := 82) rfl ?_
    refine ww_getR hX f_X5_9 (Or.inr ⟨_, rfl⟩) dX5_fillRows_82 ?_
    refine ww_bdR (fun o4 => ?_)
    refine ww_iload_n hX 3 rfl dX5_fillRows_85 rfl ?_
    refine ww_iconst (v := 4) hX rfl dX5_fillRows_86 ?_
    refine ww_iadd hX dX5_fillRows_87 ?_
    refine ww_ialdc hX k_iald dX5_fillRows_88 ?_
    refine ww_i2l hX dX5_fillRows_89 ?_
    refine ww_lmul hX dX5_fillRows_90 ?_
    refine ww_ladd hX dX5_fillRows_91 ?_
    refine ww_pc (b := 92) rfl ?_
    refine ww_lastc hX k_last dX5_fillRows_92 ?_
    refine ww_bds (fun s5 => ?_)
    refine ww_iincb (lv' := fun v6 => [(2, .int v6), (0, .ref (x_b X + x0)), (1, .int x1), (3, .int x3), (4, .int x4)]) (c := 1) hX hL 2 rfl dX5_fillRows_93 rfl (by decide) (fun _ => rfl) (fun v6 => ?_)
    refine ww_goto (tgt := 2) hX dX5_fillRows_96 (by decide) ?_
    exact ww_sub [1, 2, 0] rfl (h_2 x0 x1 v6  s5)
  · refine ww_aload_n hX 0 rfl dX5_fillRows_20 rfl ?_
    refine ww_getR hX f_X5_16 (Or.inr ⟨_, rfl⟩) dX5_fillRows_21 ?_
    refine ww_bdR (fun o7 => ?_)
    refine ww_iconst (v := 3) hX rfl dX5_fillRows_24 ?_
    refine ww_iload_n hX 2 rfl dX5_fillRows_25 rfl ?_
    refine ww_imul hX dX5_fillRows_26 ?_
    refine ww_iload hX 4 rfl dX5_fillRows_27 ?_
    refine ww_iadd hX dX5_fillRows_29 ?_
    refine ww_pc (b := 30) rfl ?_
    refine ww_iload_n hX 2 rfl dX5_fillRows_30 rfl ?_
    refine ww_iload hX 4 rfl dX5_fillRows_31 ?_
    refine ww_icmp_ne (tgt := 42) hX dX5_fillRows_33 (by decide) ?_ ?_
    · refine ww_lconst (v := 0) hX rfl dX5_fillRows_42 ?_
      exact t_X5_fillRows_43 B fu k_2 k_14 h_2 h_14 x0 x1 x2 x3 x4 o7 ((3 * x2) + x4) 0 st
    · refine ww_ldc2 (v := 100) hX k_X5_115 dX5_fillRows_36 ?_
      refine ww_goto (tgt := 43) hX dX5_fillRows_39 (by decide) ?_
      exact t_X5_fillRows_43 B fu k_2 k_14 h_2 h_14 x0 x1 x2 x3 x4 o7 ((3 * x2) + x4) 100 st
def b_X5_fillRows_14 (fu : Nat) (k_2 : Nat → Int32 → Int32 → St → Option (St)) : Nat → Nat → Int32 → Int32 → Int32 → Int32 → St → Option (St)
  | 0, _, _, _, _, _, _ => none
  | i + 1, x0, x1, x2, x3, x4, st => b_X5_fillRows_14_b fu k_2 (b_X5_fillRows_14 fu k_2 i) x0 x1 x2 x3 x4 st
theorem t_X5_fillRows_14 {X : CX} {res : St} (B : BV X cX5_fillRows RX5 5 1 NN none res) (fu : Nat) (k_2 : Nat → Int32 → Int32 → St → Option (St)) (h_2 : ∀ (x0 : Nat) (x1 : Int32) (x2 : Int32)  (st : St), WW X res NN 2 [(0, .ref (x_b X + x0)), (1, .int x1), (2, .int x2)] [] st (k_2 x0 x1 x2 st)) : ∀ (i : Nat) (x0 : Nat) (x1 : Int32) (x2 : Int32) (x3 : Int32) (x4 : Int32)  (st : St), WW X res NN 14 [(0, .ref (x_b X + x0)), (1, .int x1), (2, .int x2), (3, .int x3), (4, .int x4)] [] st (b_X5_fillRows_14 fu k_2 i x0 x1 x2 x3 x4 st) := by
  intro i
  induction i with
  | zero => intro x0 x1 x2 x3 x4 st; exact ww_none
  | succ i ih => intro x0 x1 x2 x3 x4 st; exact t_X5_fillRows_14_b B fu k_2 (b_X5_fillRows_14 fu k_2 i) h_2 ih x0 x1 x2 x3 x4 st
def b_X5_fillRows_2_b (fu : Nat) (k_2 : Nat → Int32 → Int32 → St → Option (St)) (x0 : Nat) (x1 : Int32) (x2 : Int32)  (st : St) : Option (St) :=
  if 3 ≤ x2 then (
  some st)
  else (
  bd (x2 * 5) fun v1 =>
  b_X5_fillRows_14 fu k_2 fu x0 x1 x2 v1 0  st)
set_option maxHeartbeats 4000000 in
set_option maxRecDepth 100000 in
theorem t_X5_fillRows_2_b {X : CX} {res : St} (B : BV X cX5_fillRows RX5 5 1 NN none res) (fu : Nat) (k_2 : Nat → Int32 → Int32 → St → Option (St)) (h_2 : ∀ (x0 : Nat) (x1 : Int32) (x2 : Int32)  (st : St), WW X res NN 2 [(0, .ref (x_b X + x0)), (1, .int x1), (2, .int x2)] [] st (k_2 x0 x1 x2 st)) (x0 : Nat) (x1 : Int32) (x2 : Int32)  (st : St) : WW X res NN 2 [(0, .ref (x_b X + x0)), (1, .int x1), (2, .int x2)] [] st (b_X5_fillRows_2_b fu k_2 x0 x1 x2 st) := by
  have hX := B.1
  have hL := B.2.1
  unfold b_X5_fillRows_2_b
  refine ww_iload_n hX 2 rfl dX5_fillRows_2 rfl ?_
  refine ww_iconst (v := 3) hX rfl dX5_fillRows_3 ?_
  refine ww_icmp_ge (tgt := 99) hX dX5_fillRows_4 (by decide) ?_ ?_
  · exact ww_vret B dX5_fillRows_99
  · refine ww_iload_n hX 2 rfl dX5_fillRows_7 rfl ?_
    refine ww_iconst (v := 5) hX rfl dX5_fillRows_8 ?_
    refine ww_imul hX dX5_fillRows_9 ?_
    refine ww_bdi (fun v1 => ?_)
    refine ww_istore_n (lv' := [(3, .int v1), (0, .ref (x_b X + x0)), (1, .int x1), (2, .int x2)]) hX hL dX5_fillRows_10 rfl (by decide) rfl ?_
    refine ww_iconst (v := 0) hX rfl dX5_fillRows_11 ?_
    refine ww_istore (lv' := [(4, .int 0), (3, .int v1), (0, .ref (x_b X + x0)), (1, .int x1), (2, .int x2)]) hX hL dX5_fillRows_12 (by decide) rfl ?_
    exact ww_sub [2, 3, 4, 1, 0] rfl (t_X5_fillRows_14 B fu k_2 h_2 fu x0 x1 x2 v1 0  st)
def b_X5_fillRows_2 (fu : Nat) : Nat → Nat → Int32 → Int32 → St → Option (St)
  | 0, _, _, _, _ => none
  | i + 1, x0, x1, x2, st => b_X5_fillRows_2_b fu (b_X5_fillRows_2 fu i) x0 x1 x2 st
theorem t_X5_fillRows_2 {X : CX} {res : St} (B : BV X cX5_fillRows RX5 5 1 NN none res) (fu : Nat) : ∀ (i : Nat) (x0 : Nat) (x1 : Int32) (x2 : Int32)  (st : St), WW X res NN 2 [(0, .ref (x_b X + x0)), (1, .int x1), (2, .int x2)] [] st (b_X5_fillRows_2 fu i x0 x1 x2 st) := by
  intro i
  induction i with
  | zero => intro x0 x1 x2 st; exact ww_none
  | succ i ih => intro x0 x1 x2 st; exact t_X5_fillRows_2_b B fu (b_X5_fillRows_2 fu i) ih x0 x1 x2 st
def f_X5_fillRows (fu : Nat) (th : Nat) (p1 : Int32) (st : St) : Option (St) :=
  b_X5_fillRows_2 fu fu th p1 0  st
set_option maxHeartbeats 4000000 in
set_option maxRecDepth 100000 in
theorem t_X5_fillRows {X : CX} {res : St} (B : BV X cX5_fillRows RX5 5 1 NN none res) (fu : Nat) (th : Nat) (p1 : Int32) (st : St) : WW X res NN 0 [(0, .ref (x_b X + th)), (1, .int p1)] [] st (f_X5_fillRows fu th p1 st) := by
  have hX := B.1
  have hL := B.2.1
  unfold f_X5_fillRows
  refine ww_iconst (v := 0) hX rfl dX5_fillRows_0 ?_
  refine ww_istore_n (lv' := [(2, .int 0), (0, .ref (x_b X + th)), (1, .int p1)]) hX hL dX5_fillRows_1 rfl (by decide) rfl ?_
  exact ww_sub [1, 2, 0] rfl (t_X5_fillRows_2 B fu fu th p1 0  st)
theorem c_X5_fillRows (G : GX) (l : Launch) (fu : Nat) (th : Nat) (p1 : Int32) (st : St) : MV G NN l yX5_fillRows cX5_fillRows 5 none 1 [.ref (G.2.2.1 + th), .int p1] st (f_X5_fillRows fu th p1 st) := mkV (by decide) (Nat.le_of_ble_eq_true rfl) (fun X res hl hG B => by subst hl; subst hG; exact t_X5_fillRows B fu th p1 st)
/-! StageHouse$Parties.tell(III)J -/
def b_X5_tell_35 (fu : Nat)  (y0 : Int64) (st : St) : Option (Int64 × St) :=
  some (y0, st)
set_option maxHeartbeats 4000000 in
set_option maxRecDepth 100000 in
theorem t_X5_tell_35 {X : CX} {res : Int64 × St} (B : BL X cX5_tell RX5 12 2 NN (some .long) res) (fu : Nat)  (y0 : Int64) (st : St) : WW X res NN 35 [] [.long y0] st (b_X5_tell_35 fu y0 st) := by
  have hX := B.1
  have hL := B.2.1
  unfold b_X5_tell_35
  exact ww_lret B dX5_tell_35
def b_X5_tell_23 (fu : Nat) (x4 : Int64)  (st : St) : Option (Int64 × St) :=
  if (lg_cmp x4 0) = 0 then (
  b_X5_tell_35 fu  0 st)
  else (
  b_X5_tell_35 fu  1 st)
set_option maxHeartbeats 4000000 in
set_option maxRecDepth 100000 in
theorem t_X5_tell_23 {X : CX} {res : Int64 × St} (B : BL X cX5_tell RX5 12 2 NN (some .long) res) (fu : Nat) (x4 : Int64)  (st : St) : WW X res NN 23 [(4, .long x4)] [] st (b_X5_tell_23 fu x4 st) := by
  have hX := B.1
  have hL := B.2.1
  unfold b_X5_tell_23
  refine ww_lload hX 0 rfl dX5_tell_23 ?_
  refine ww_lconst (v := 0) hX rfl dX5_tell_25 ?_
  refine ww_lcmp hX dX5_tell_26 ?_
  refine ww_if_ne (tgt := 34) hX dX5_tell_27 (by decide) ?_ ?_
  · refine ww_lconst (v := 1) hX rfl dX5_tell_34 ?_
    exact ww_sub [] rfl (t_X5_tell_35 B fu  1 st)
  · refine ww_lconst (v := 0) hX rfl dX5_tell_30 ?_
    refine ww_goto (tgt := 35) hX dX5_tell_31 (by decide) ?_
    exact ww_sub [] rfl (t_X5_tell_35 B fu  0 st)
def b_X5_tell_134 (fu : Nat) (x10 : Int64) (y0 : Int64) (st : St) : Option (Int64 × St) :=
  ck (¬ x10 = 0) <|
  some (y0 / x10, st)
set_option maxHeartbeats 4000000 in
set_option maxRecDepth 100000 in
theorem t_X5_tell_134 {X : CX} {res : Int64 × St} (B : BL X cX5_tell RX5 12 2 NN (some .long) res) (fu : Nat) (x10 : Int64) (y0 : Int64) (st : St) : WW X res NN 134 [(10, .long x10)] [.long y0] st (b_X5_tell_134 fu x10 y0 st) := by
  have hX := B.1
  have hL := B.2.1
  unfold b_X5_tell_134
  refine ww_lload hX 0 rfl dX5_tell_134 ?_
  refine ww_ldiv hX dX5_tell_136 ?_
  exact ww_lret B dX5_tell_137
def b_X5_tell_92 (fu : Nat) (x2 : Int32) (x4 : Int64) (x6 : Int64)  (st : St) : Option (Int64 × St) :=
  ca (f_J9_floorMod_f86c9 fu x6 x4 st) fun r6 s7 =>
  if x2 = 0 then (
  ca (f_J9_floorDiv_f86c9 fu x6 x4 s7) fun r10 s11 =>
  some (r10, s11))
  else (
  ca (f_X5_commonOf fu r6 x4 s7) fun r8 s9 =>
  if x2 = 1 then (
  b_X5_tell_134 fu r8 r6 s9)
  else (
  b_X5_tell_134 fu r8 x4 s9))
set_option maxHeartbeats 4000000 in
set_option maxRecDepth 100000 in
theorem t_X5_tell_92 {X : CX} {res : Int64 × St} (B : BL X cX5_tell RX5 12 2 NN (some .long) res) (fu : Nat) (x2 : Int32) (x4 : Int64) (x6 : Int64)  (st : St) : WW X res NN 92 [(2, .int x2), (4, .long x4), (6, .long x6)] [] st (b_X5_tell_92 fu x2 x4 x6 st) := by
  have hX := B.1
  have hL := B.2.1
  unfold b_X5_tell_92
  refine ww_lload hX 2 rfl dX5_tell_92 ?_
  refine ww_lload hX 1 rfl dX5_tell_94 ?_
  refine ww_callSL (As := [.long x6, .long x4]) (rest := []) hX (Rk.of B.2.2.1 B.2.2.2.1 (by decide) (by decide)) g_X5_103 (c_J9_floorMod_f86c9 (x_G X) (x_l X) fu x6 x4 st) rfl rfl (Nat.le_of_ble_eq_true rfl) dX5_tell_96 (fun r6 s7 => ?_)
  refine ww_lstore (lv' := [(8, .long r6), (2, .int x2), (4, .long x4), (6, .long x6)]) hX hL dX5_tell_99 (by decide) rfl ?_
  refine ww_iload_n hX 1 rfl dX5_tell_101 rfl ?_
  refine ww_if_ne (tgt := 113) hX dX5_tell_102 (by decide) ?_ ?_
  · refine ww_lload hX 0 rfl dX5_tell_113 ?_
    refine ww_lload hX 2 rfl dX5_tell_115 ?_
    refine ww_callSL (As := [.long r6, .long x4]) (rest := []) hX (Rk.of B.2.2.1 B.2.2.2.1 (by decide) (by decide)) g_X5_112 (c_X5_commonOf (x_G X) (x_l X) fu r6 x4 s7) rfl rfl (Nat.le_of_ble_eq_true rfl) dX5_tell_117 (fun r8 s9 => ?_)
    refine ww_lstore (lv' := [(10, .long r8), (8, .long r6), (2, .int x2), (4, .long x4), (6, .long x6)]) hX hL dX5_tell_120 (by decide) rfl ?_
    refine ww_iload_n hX 2 rfl dX5_tell_122 rfl ?_
    refine ww_iconst (v := 1) hX rfl dX5_tell_123 ?_
    refine ww_icmp_ne (tgt := 132) hX dX5_tell_124 (by decide) ?_ ?_
    · refine ww_lload hX 3 rfl dX5_tell_132 ?_
      exact ww_sub [0] rfl (t_X5_tell_134 B fu r8 x4 s9)
    · refine ww_lload hX 1 rfl dX5_tell_127 ?_
      refine ww_goto (tgt := 134) hX dX5_tell_129 (by decide) ?_
      exact ww_sub [0] rfl (t_X5_tell_134 B fu r8 r6 s9)
  · refine ww_lload hX 3 rfl dX5_tell_105 ?_
    refine ww_lload hX 2 rfl dX5_tell_107 ?_
    refine ww_callSL (As := [.long x6, .long x4]) (rest := []) hX (Rk.of B.2.2.1 B.2.2.2.1 (by decide) (by decide)) g_X5_109 (c_J9_floorDiv_f86c9 (x_G X) (x_l X) fu x6 x4 s7) rfl rfl (Nat.le_of_ble_eq_true rfl) dX5_tell_109 (fun r10 s11 => ?_)
    exact ww_lret B dX5_tell_112
def b_X5_tell_39_b (fu : Nat) (k_39 : Nat → Int32 → Int32 → Int64 → Int32 → St → Option (Int64 × St)) (x0 : Nat) (x1 : Int32) (x2 : Int32) (x4 : Int64) (x6 : Int32)  (st : St) : Option (Int64 × St) :=
  if 3 ≤ x6 then (
  ck ((kd x0).1 = 5) <|
  ca (f_X5_determinant fu x0 st) fun r4 s5 =>
  if 0 ≤ (lg_cmp x4 0) then (
  b_X5_tell_92 fu x2 x4 r4  s5)
  else (
  bd (-x4) fun v12 =>
  bd (-r4) fun v13 =>
  b_X5_tell_92 fu x2 v12 v13  s5))
  else (
  ck (¬ gR st x0 3 = 0) <|
  ck ((kd x0).1 = 5) <|
  bd (gR st x0 3) fun o14 =>
  ck (¬ gR st x0 4 = 0) <|
  ck ((kd x0).1 = 5) <|
  bd (gR st x0 4) fun o15 =>
  ck ((kd o15).1 = 103 ∧ inb x6 (kd o15).2) <|
  ck ((kd o14).1 = 103 ∧ inb ((3 * x6) + x1) (kd o14).2) <|
  bd (sL st o14 (ix ((3 * x6) + x1)) (gL st o15 (ix x6))) fun s16 =>
  bd (x6 + 1) fun v17 =>
  k_39 x0 x1 x2 x4 v17  s16)
set_option maxHeartbeats 4000000 in
set_option maxRecDepth 100000 in
theorem t_X5_tell_39_b {X : CX} {res : Int64 × St} (B : BL X cX5_tell RX5 12 2 NN (some .long) res) (fu : Nat) (k_39 : Nat → Int32 → Int32 → Int64 → Int32 → St → Option (Int64 × St)) (h_39 : ∀ (x0 : Nat) (x1 : Int32) (x2 : Int32) (x4 : Int64) (x6 : Int32)  (st : St), WW X res NN 39 [(0, .ref (x_b X + x0)), (1, .int x1), (2, .int x2), (4, .long x4), (6, .int x6)] [] st (k_39 x0 x1 x2 x4 x6 st)) (x0 : Nat) (x1 : Int32) (x2 : Int32) (x4 : Int64) (x6 : Int32)  (st : St) : WW X res NN 39 [(0, .ref (x_b X + x0)), (1, .int x1), (2, .int x2), (4, .long x4), (6, .int x6)] [] st (b_X5_tell_39_b fu k_39 x0 x1 x2 x4 x6 st) := by
  have hX := B.1
  have hL := B.2.1
  unfold b_X5_tell_39_b
  refine ww_iload hX 4 rfl dX5_tell_39 ?_
  refine ww_iconst (v := 3) hX rfl dX5_tell_41 ?_
  refine ww_icmp_ge (tgt := 69) hX dX5_tell_42 (by decide) ?_ ?_
  · refine ww_aload_n hX 0 rfl dX5_tell_69 rfl ?_
    refine ww_callVL (As := []) (rest := []) (o := x0) hX (Rk.of B.2.2.1 B.2.2.2.1 (by decide) (by decide)) g_X5_99 g_X5_99.in (fun _ => c_X5_determinant (x_G X) (x_l X) fu x0 st) rfl rfl (Nat.le_of_ble_eq_true rfl) dX5_tell_70 (fun r4 s5 => ?_)
    refine ww_lstore (lv' := [(6, .long r4), (0, .ref (x_b X + x0)), (1, .int x1), (2, .int x2), (4, .long x4)]) hX hL dX5_tell_73 (by decide) rfl ?_
    refine ww_lload hX 4 rfl dX5_tell_75 ?_
    refine ww_lconst (v := 0) hX rfl dX5_tell_77 ?_
    refine ww_lcmp hX dX5_tell_78 ?_
    refine ww_if_ge (tgt := 92) hX dX5_tell_79 (by decide) ?_ ?_
    · exact ww_sub [3, 4, 0] rfl (t_X5_tell_92 B fu x2 x4 r4  s5)
    · refine ww_lload hX 4 rfl dX5_tell_82 ?_
      refine ww_lneg hX dX5_tell_84 ?_
      refine ww_bdl (fun v12 => ?_)
      refine ww_lstore (lv' := [(4, .long v12), (6, .long r4), (0, .ref (x_b X + x0)), (1, .int x1), (2, .int x2)]) hX hL dX5_tell_85 (by decide) rfl ?_
      refine ww_lload hX 1 rfl dX5_tell_87 ?_
      refine ww_lneg hX dX5_tell_89 ?_
      refine ww_bdl (fun v13 => ?_)
      refine ww_lstore (lv' := [(6, .long v13), (4, .long v12), (0, .ref (x_b X + x0)), (1, .int x1), (2, .int x2)]) hX hL dX5_tell_90 (by decide) rfl ?_
      exact ww_sub [4, 1, 0] rfl (t_X5_tell_92 B fu x2 v12 v13  s5)
  · refine ww_aload_n hX 0 rfl dX5_tell_45 rfl ?_
    refine ww_getR hX f_X5_16 (Or.inr ⟨_, rfl⟩) dX5_tell_46 ?_
    refine ww_bdR (fun o14 => ?_)
    refine ww_iconst (v := 3) hX rfl dX5_tell_49 ?_
    refine ww_iload hX 4 rfl dX5_tell_50 ?_
    refine ww_imul hX dX5_tell_52 ?_
    refine ww_iload_n hX 1 rfl dX5_tell_53 rfl ?_
    refine ww_iadd hX dX5_tell_54 ?_
    refine ww_pc (b := 55) rfl ?_
    refine ww_aload_n hX 0 rfl dX5_tell_55 rfl ?_
    refine ww_getR hX f_X5_20 (Or.inr ⟨_, rfl⟩) dX5_tell_56 ?_
    refine ww_bdR (fun o15 => ?_)
    refine ww_iload hX 4 rfl dX5_tell_59 ?_
    refine ww_laldc hX k_lald dX5_tell_61 ?_
    refine ww_lastc hX k_last dX5_tell_62 ?_
    refine ww_bds (fun s16 => ?_)
    refine ww_iincb (lv' := fun v17 => [(6, .int v17), (0, .ref (x_b X + x0)), (1, .int x1), (2, .int x2), (4, .long x4)]) (c := 1) hX hL 4 rfl dX5_tell_63 rfl (by decide) (fun _ => rfl) (fun v17 => ?_)
    refine ww_goto (tgt := 39) hX dX5_tell_66 (by decide) ?_
    exact ww_sub [1, 2, 3, 4, 0] rfl (h_39 x0 x1 x2 x4 v17  s16)
def b_X5_tell_39 (fu : Nat) : Nat → Nat → Int32 → Int32 → Int64 → Int32 → St → Option (Int64 × St)
  | 0, _, _, _, _, _, _ => none
  | i + 1, x0, x1, x2, x4, x6, st => b_X5_tell_39_b fu (b_X5_tell_39 fu i) x0 x1 x2 x4 x6 st
theorem t_X5_tell_39 {X : CX} {res : Int64 × St} (B : BL X cX5_tell RX5 12 2 NN (some .long) res) (fu : Nat) : ∀ (i : Nat) (x0 : Nat) (x1 : Int32) (x2 : Int32) (x4 : Int64) (x6 : Int32)  (st : St), WW X res NN 39 [(0, .ref (x_b X + x0)), (1, .int x1), (2, .int x2), (4, .long x4), (6, .int x6)] [] st (b_X5_tell_39 fu i x0 x1 x2 x4 x6 st) := by
  intro i
  induction i with
  | zero => intro x0 x1 x2 x4 x6 st; exact ww_none
  | succ i ih => intro x0 x1 x2 x4 x6 st; exact t_X5_tell_39_b B fu (b_X5_tell_39 fu i) ih x0 x1 x2 x4 x6 st
def f_X5_tell (fu : Nat) (th : Nat) (p1 : Int32) (p2 : Int32) (p3 : Int32) (st : St) : Option (Int64 × St) :=
  ck ((kd th).1 = 5) <|
  cv (f_X5_fillRows fu th p3 st) fun s1 =>
  ck ((kd th).1 = 5) <|
  ca (f_X5_determinant fu th s1) fun r2 s3 =>
  if (lg_cmp r2 0) = 0 then (
  b_X5_tell_23 fu r2  s3)
  else (
  if p2 = 3 then (
  b_X5_tell_23 fu r2  s3)
  else (
  b_X5_tell_39 fu fu th p1 p2 r2 0  s3))
set_option maxHeartbeats 4000000 in
set_option maxRecDepth 100000 in
theorem t_X5_tell {X : CX} {res : Int64 × St} (B : BL X cX5_tell RX5 12 2 NN (some .long) res) (fu : Nat) (th : Nat) (p1 : Int32) (p2 : Int32) (p3 : Int32) (st : St) : WW X res NN 0 [(0, .ref (x_b X + th)), (1, .int p1), (2, .int p2), (3, .int p3)] [] st (f_X5_tell fu th p1 p2 p3 st) := by
  have hX := B.1
  have hL := B.2.1
  unfold f_X5_tell
  refine ww_aload_n hX 0 rfl dX5_tell_0 rfl ?_
  refine ww_iload_n hX 3 rfl dX5_tell_1 rfl ?_
  refine ww_callVV (As := [.int p3]) (rest := []) (o := th) hX (Rk.of B.2.2.1 B.2.2.2.1 (by decide) (by decide)) g_X5_96 g_X5_96.in (fun _ => c_X5_fillRows (x_G X) (x_l X) fu th p3 st) rfl rfl (Nat.le_of_ble_eq_true rfl) dX5_tell_2 (fun s1 => ?_)
  refine ww_aload_n hX 0 rfl dX5_tell_5 rfl ?_
  refine ww_callVL (As := []) (rest := []) (o := th) hX (Rk.of B.2.2.1 B.2.2.2.1 (by decide) (by decide)) g_X5_99 g_X5_99.in (fun _ => c_X5_determinant (x_G X) (x_l X) fu th s1) rfl rfl (Nat.le_of_ble_eq_true rfl) dX5_tell_6 (fun r2 s3 => ?_)
  refine ww_lstore (lv' := [(4, .long r2), (0, .ref (x_b X + th)), (1, .int p1), (2, .int p2), (3, .int p3)]) hX hL dX5_tell_9 (by decide) rfl ?_
  refine ww_lload hX 0 rfl dX5_tell_11 ?_
  refine ww_pc (b := 13) rfl ?_
  refine ww_lconst (v := 0) hX rfl dX5_tell_13 ?_
  refine ww_lcmp hX dX5_tell_14 ?_
  refine ww_if_eq (tgt := 23) hX dX5_tell_15 (by decide) ?_ ?_
  · exact ww_sub [0] rfl (t_X5_tell_23 B fu r2  s3)
  · refine ww_iload_n hX 3 rfl dX5_tell_18 rfl ?_
    refine ww_iconst (v := 3) hX rfl dX5_tell_19 ?_
    refine ww_icmp_ne (tgt := 36) hX dX5_tell_20 (by decide) ?_ ?_
    · refine ww_iconst (v := 0) hX rfl dX5_tell_36 ?_
      refine ww_istore (lv' := [(6, .int 0), (4, .long r2), (0, .ref (x_b X + th)), (1, .int p1), (2, .int p2), (3, .int p3)]) hX hL dX5_tell_37 (by decide) rfl ?_
      exact ww_sub [2, 3, 4, 1, 0] rfl (t_X5_tell_39 B fu fu th p1 p2 r2 0  s3)
    · exact ww_sub [0] rfl (t_X5_tell_23 B fu r2  s3)
theorem c_X5_tell (G : GX) (l : Launch) (fu : Nat) (th : Nat) (p1 : Int32) (p2 : Int32) (p3 : Int32) (st : St) : ML G NN l yX5_tell cX5_tell 12 (some .long) 2 [.ref (G.2.2.1 + th), .int p1, .int p2, .int p3] st (f_X5_tell fu th p1 p2 p3 st) := mkL (by decide) (Nat.le_of_ble_eq_true rfl) (fun X res hl hG B => by subst hl; subst hG; exact t_X5_tell B fu th p1 p2 p3 st)
/-! StageHouse$Prices.conditionAt(LStageHouse$Tape;)I -/
def b_X6_conditionAt_47 (fu : Nat)  (y0 : Int32) (st : St) : Option (Int32 × St) :=
  some (y0, st)
set_option maxHeartbeats 4000000 in
set_option maxRecDepth 100000 in
theorem t_X6_conditionAt_47 {X : CX} {res : Int32 × St} (B : BI X cX6_conditionAt RX6 1 6 NN (some .int) res) (fu : Nat)  (y0 : Int32) (st : St) : WW X res NN 47 [] [.int y0] st (b_X6_conditionAt_47 fu y0 st) := by
  have hX := B.1
  have hL := B.2.1
  unfold b_X6_conditionAt_47
  exact ww_iret B dX6_conditionAt_47
def f_X6_conditionAt (fu : Nat) (p0 : Nat) (st : St) : Option (Int32 × St) :=
  ck ((kd p0).1 = 9) <|
  ca (f_X9_isWord fu p0 18 st) fun r1 s2 =>
  if r1 = 0 then (
  ck ((kd p0).1 = 9) <|
  ca (f_X9_isWord fu p0 19 s2) fun r3 s4 =>
  if r3 = 0 then (
  ck ((kd p0).1 = 9) <|
  ca (f_X9_isWord fu p0 20 s4) fun r5 s6 =>
  if r5 = 0 then (
  ck ((kd p0).1 = 9) <|
  ca (f_X9_isWord fu p0 21 s6) fun r7 s8 =>
  if r7 = 0 then (
  b_X6_conditionAt_47 fu  ((-1)) s8)
  else (
  b_X6_conditionAt_47 fu  3 s8))
  else (
  some (2, s6)))
  else (
  some (1, s4)))
  else (
  some (0, s2))
set_option maxHeartbeats 4000000 in
set_option maxRecDepth 100000 in
theorem t_X6_conditionAt {X : CX} {res : Int32 × St} (B : BI X cX6_conditionAt RX6 1 6 NN (some .int) res) (fu : Nat) (p0 : Nat) (st : St) : WW X res NN 0 [(0, .ref (x_b X + p0))] [] st (f_X6_conditionAt fu p0 st) := by
  have hX := B.1
  have hL := B.2.1
  unfold f_X6_conditionAt
  refine ww_aload_n hX 0 rfl dX6_conditionAt_0 rfl ?_
  refine ww_ldcS (q := 19) hX rfl dX6_conditionAt_1 ?_
  refine ww_callVI (As := [.ref ((x_K X).1 18)]) (rest := []) (o := p0) hX (Rk.of B.2.2.1 B.2.2.2.1 (by decide) (by decide)) g_X6_51 g_X6_51.in (fun _ => c_X9_isWord (x_G X) (x_l X) fu p0 18 st) rfl rfl (Nat.le_of_ble_eq_true rfl) dX6_conditionAt_3 (fun r1 s2 => ?_)
  refine ww_if_eq (tgt := 11) hX dX6_conditionAt_6 (by decide) ?_ ?_
  · refine ww_aload_n hX 0 rfl dX6_conditionAt_11 rfl ?_
    refine ww_ldcS (q := 20) hX rfl dX6_conditionAt_12 ?_
    refine ww_callVI (As := [.ref ((x_K X).1 19)]) (rest := []) (o := p0) hX (Rk.of B.2.2.1 B.2.2.2.1 (by decide) (by decide)) g_X6_51 g_X6_51.in (fun _ => c_X9_isWord (x_G X) (x_l X) fu p0 19 s2) rfl rfl (Nat.le_of_ble_eq_true rfl) dX6_conditionAt_14 (fun r3 s4 => ?_)
    refine ww_if_eq (tgt := 22) hX dX6_conditionAt_17 (by decide) ?_ ?_
    · refine ww_aload_n hX 0 rfl dX6_conditionAt_22 rfl ?_
      refine ww_ldcS (q := 21) hX rfl dX6_conditionAt_23 ?_
      refine ww_callVI (As := [.ref ((x_K X).1 20)]) (rest := []) (o := p0) hX (Rk.of B.2.2.1 B.2.2.2.1 (by decide) (by decide)) g_X6_51 g_X6_51.in (fun _ => c_X9_isWord (x_G X) (x_l X) fu p0 20 s4) rfl rfl (Nat.le_of_ble_eq_true rfl) dX6_conditionAt_25 (fun r5 s6 => ?_)
      refine ww_if_eq (tgt := 33) hX dX6_conditionAt_28 (by decide) ?_ ?_
      · refine ww_aload_n hX 0 rfl dX6_conditionAt_33 rfl ?_
        refine ww_ldcS (q := 22) hX rfl dX6_conditionAt_34 ?_
        refine ww_callVI (As := [.ref ((x_K X).1 21)]) (rest := []) (o := p0) hX (Rk.of B.2.2.1 B.2.2.2.1 (by decide) (by decide)) g_X6_51 g_X6_51.in (fun _ => c_X9_isWord (x_G X) (x_l X) fu p0 21 s6) rfl rfl (Nat.le_of_ble_eq_true rfl) dX6_conditionAt_36 (fun r7 s8 => ?_)
        refine ww_if_eq (tgt := 46) hX dX6_conditionAt_39 (by decide) ?_ ?_
        · refine ww_iconst (v := (-1)) hX rfl dX6_conditionAt_46 ?_
          exact ww_sub [] rfl (t_X6_conditionAt_47 B fu  ((-1)) s8)
        · refine ww_iconst (v := 3) hX rfl dX6_conditionAt_42 ?_
          refine ww_goto (tgt := 47) hX dX6_conditionAt_43 (by decide) ?_
          exact ww_sub [] rfl (t_X6_conditionAt_47 B fu  3 s8)
      · refine ww_iconst (v := 2) hX rfl dX6_conditionAt_31 ?_
        exact ww_iret B dX6_conditionAt_32
    · refine ww_iconst (v := 1) hX rfl dX6_conditionAt_20 ?_
      exact ww_iret B dX6_conditionAt_21
  · refine ww_iconst (v := 0) hX rfl dX6_conditionAt_9 ?_
    exact ww_iret B dX6_conditionAt_10
theorem c_X6_conditionAt (G : GX) (l : Launch) (fu : Nat) (p0 : Nat) (st : St) : MI G NN l yX6_conditionAt cX6_conditionAt 1 (some .int) 6 [.ref (G.2.2.1 + p0)] st (f_X6_conditionAt fu p0 st) := mkI (by decide) (Nat.le_of_ble_eq_true rfl) (fun X res hl hG B => by subst hl; subst hG; exact t_X6_conditionAt B fu p0 st)
/-! StageHouse$Prices.readChange(LStageHouse$Tape;I)V -/
def b_X6_readChange_100 (fu : Nat)  (y0 : Nat) (y1 : Int32) (y2 : Nat) (y3 : Int32) (y4 : Int32) (st : St) : Option (St) :=
  ck ((kd y2).1 = 9) <|
  ca (f_X9_number fu y2 y3 y4 st) fun r8 s9 =>
  ck ((kd y0).1 = 100 ∧ inb y1 (kd y0).2) <|
  bd (sI s9 y0 (ix y1) r8) fun s10 =>
  some s10
set_option maxHeartbeats 4000000 in
set_option maxRecDepth 100000 in
theorem t_X6_readChange_100 {X : CX} {res : St} (B : BV X cX6_readChange RX6 5 7 NN none res) (fu : Nat)  (y0 : Nat) (y1 : Int32) (y2 : Nat) (y3 : Int32) (y4 : Int32) (st : St) : WW X res NN 100 [] [.int y4, .int y3, .ref (x_b X + y2), .int y1, .ref (x_b X + y0)] st (b_X6_readChange_100 fu y0 y1 y2 y3 y4 st) := by
  have hX := B.1
  have hL := B.2.1
  unfold b_X6_readChange_100
  refine ww_callVI (As := [.int y3, .int y4]) (rest := [.int y1, .ref (x_b X + y0)]) (o := y2) hX (Rk.of B.2.2.1 B.2.2.2.1 (by decide) (by decide)) g_X6_77 g_X6_77.in (fun _ => c_X9_number (x_G X) (x_l X) fu y2 y3 y4 st) rfl rfl (Nat.le_of_ble_eq_true rfl) dX6_readChange_100 (fun r8 s9 => ?_)
  refine ww_iastc hX k_iast dX6_readChange_103 ?_
  refine ww_bds (fun s10 => ?_)
  exact ww_vret B dX6_readChange_104
def b_X6_readChange_41 (fu : Nat) (x0 : Nat) (x1 : Nat) (x2 : Int32) (y0 : Int32) (st : St) : Option (St) :=
  if y0 = 0 then (
  ck ((kd x1).1 = 9) <|
  ck ((kd x1).1 = 9) <|
  cv (f_X9_fail fu x1 1 (gI st x1 3) st) fun s11 =>
  some s11)
  else (
  ck ((kd x1).1 = 9) <|
  bd (gI st x1 5) fun v3 =>
  ck ((kd x1).1 = 9) <|
  cv (f_X9_next fu x1 st) fun s4 =>
  ck (¬ gR s4 x0 1 = 0) <|
  ck ((kd x0).1 = 6) <|
  bd (gR s4 x0 1) fun o5 =>
  ck ((kd o5).1 = 100 ∧ inb (x2 + 4) (kd o5).2) <|
  bd (sI s4 o5 (ix (x2 + 4)) v3) fun s6 =>
  ck (¬ gR s6 x0 1 = 0) <|
  ck ((kd x0).1 = 6) <|
  bd (gR s6 x0 1) fun o7 =>
  if v3 = 37 then (
  b_X6_readChange_100 fu  o7 (x2 + 5) x1 0 200 s6)
  else (
  b_X6_readChange_100 fu  o7 (x2 + 5) x1 0 99999 s6))
set_option maxHeartbeats 4000000 in
set_option maxRecDepth 100000 in
theorem t_X6_readChange_41 {X : CX} {res : St} (B : BV X cX6_readChange RX6 5 7 NN none res) (fu : Nat) (x0 : Nat) (x1 : Nat) (x2 : Int32) (y0 : Int32) (st : St) : WW X res NN 41 [(0, .ref (x_b X + x0)), (1, .ref (x_b X + x1)), (2, .int x2)] [.int y0] st (b_X6_readChange_41 fu x0 x1 x2 y0 st) := by
  have hX := B.1
  have hL := B.2.1
  unfold b_X6_readChange_41
  refine ww_istore_n (lv' := [(3, .int y0), (0, .ref (x_b X + x0)), (1, .ref (x_b X + x1)), (2, .int x2)]) hX hL dX6_readChange_41 rfl (by decide) rfl ?_
  refine ww_iload_n hX 0 rfl dX6_readChange_42 rfl ?_
  refine ww_if_ne (tgt := 56) hX dX6_readChange_43 (by decide) ?_ ?_
  · refine ww_aload_n hX 2 rfl dX6_readChange_56 rfl ?_
    refine ww_getI hX f_X6_89 (Or.inl rfl) dX6_readChange_57 ?_
    refine ww_bdi (fun v3 => ?_)
    refine ww_istore (lv' := [(4, .int v3), (3, .int y0), (0, .ref (x_b X + x0)), (1, .ref (x_b X + x1)), (2, .int x2)]) hX hL dX6_readChange_60 (by decide) rfl ?_
    refine ww_aload_n hX 3 rfl dX6_readChange_62 rfl ?_
    refine ww_callVV (As := []) (rest := []) (o := x1) hX (Rk.of B.2.2.1 B.2.2.2.1 (by decide) (by decide)) g_X6_74 g_X6_74.in (fun _ => c_X9_next (x_G X) (x_l X) fu x1 st) rfl rfl (Nat.le_of_ble_eq_true rfl) dX6_readChange_63 (fun s4 => ?_)
    refine ww_aload_n hX 2 rfl dX6_readChange_66 rfl ?_
    refine ww_getR hX f_X6_15 (Or.inr ⟨_, rfl⟩) dX6_readChange_67 ?_
    refine ww_bdR (fun o5 => ?_)
    refine ww_pc (b := 70) rfl ?_
    refine ww_iload_n hX 4 rfl dX6_readChange_70 rfl ?_
    refine ww_iconst (v := 4) hX rfl dX6_readChange_71 ?_
    refine ww_iadd hX dX6_readChange_72 ?_
    refine ww_iload hX 0 rfl dX6_readChange_73 ?_
    refine ww_iastc hX k_iast dX6_readChange_75 ?_
    refine ww_bds (fun s6 => ?_)
    refine ww_aload_n hX 2 rfl dX6_readChange_76 rfl ?_
    refine ww_getR hX f_X6_15 (Or.inr ⟨_, rfl⟩) dX6_readChange_77 ?_
    refine ww_bdR (fun o7 => ?_)
    refine ww_iload_n hX 4 rfl dX6_readChange_80 rfl ?_
    refine ww_pc (b := 81) rfl ?_
    refine ww_iconst (v := 5) hX rfl dX6_readChange_81 ?_
    refine ww_iadd hX dX6_readChange_82 ?_
    refine ww_aload_n hX 3 rfl dX6_readChange_83 rfl ?_
    refine ww_iconst (v := 0) hX rfl dX6_readChange_84 ?_
    refine ww_iload hX 0 rfl dX6_readChange_85 ?_
    refine ww_bipush (v := 37) hX rfl dX6_readChange_87 ?_
    refine ww_icmp_ne (tgt := 98) hX dX6_readChange_89 (by decide) ?_ ?_
    · refine ww_ldc (v := 99999) hX k_X6_92 dX6_readChange_98 ?_
      exact ww_sub [] rfl (t_X6_readChange_100 B fu  o7 (x2 + 5) x1 0 99999 s6)
    · refine ww_sipush (v := 200) hX rfl dX6_readChange_92 ?_
      refine ww_goto (tgt := 100) hX dX6_readChange_95 (by decide) ?_
      exact ww_sub [] rfl (t_X6_readChange_100 B fu  o7 (x2 + 5) x1 0 200 s6)
  · refine ww_aload_n hX 2 rfl dX6_readChange_46 rfl ?_
    refine ww_iconst (v := 1) hX rfl dX6_readChange_47 ?_
    refine ww_aload_n hX 2 rfl dX6_readChange_48 rfl ?_
    refine ww_getI hX f_X6_32 (Or.inl rfl) dX6_readChange_49 ?_
    refine ww_callVV (As := [.int 1, .int (gI st x1 3)]) (rest := []) (o := x1) hX (Rk.of B.2.2.1 B.2.2.2.1 (by decide) (by decide)) g_X6_35 g_X6_35.in (fun _ => c_X9_fail (x_G X) (x_l X) fu x1 1 (gI st x1 3) st) rfl rfl (Nat.le_of_ble_eq_true rfl) dX6_readChange_52 (fun s11 => ?_)
    exact ww_vret B dX6_readChange_55
def b_X6_readChange_36 (fu : Nat) (x0 : Nat) (x1 : Nat) (x2 : Int32)  (st : St) : Option (St) :=
  b_X6_readChange_41 fu x0 x1 x2 1 st
set_option maxHeartbeats 4000000 in
set_option maxRecDepth 100000 in
theorem t_X6_readChange_36 {X : CX} {res : St} (B : BV X cX6_readChange RX6 5 7 NN none res) (fu : Nat) (x0 : Nat) (x1 : Nat) (x2 : Int32)  (st : St) : WW X res NN 36 [(0, .ref (x_b X + x0)), (1, .ref (x_b X + x1)), (2, .int x2)] [] st (b_X6_readChange_36 fu x0 x1 x2 st) := by
  have hX := B.1
  have hL := B.2.1
  unfold b_X6_readChange_36
  refine ww_iconst (v := 1) hX rfl dX6_readChange_36 ?_
  refine ww_goto (tgt := 41) hX dX6_readChange_37 (by decide) ?_
  exact t_X6_readChange_41 B fu x0 x1 x2 1 st
def f_X6_readChange (fu : Nat) (th : Nat) (p1 : Nat) (p2 : Int32) (st : St) : Option (St) :=
  ck ((kd p1).1 = 9) <|
  ca (f_X9_isSign fu p1 37 st) fun r1 s2 =>
  if r1 = 0 then (
  ck ((kd p1).1 = 9) <|
  ca (f_X9_isSign fu p1 45 s2) fun r12 s13 =>
  if r12 = 0 then (
  ck ((kd p1).1 = 9) <|
  ca (f_X9_isSign fu p1 43 s13) fun r14 s15 =>
  if r14 = 0 then (
  ck ((kd p1).1 = 9) <|
  ca (f_X9_isSign fu p1 64 s15) fun r16 s17 =>
  if r16 = 0 then (
  b_X6_readChange_41 fu th p1 p2 0 s17)
  else (
  b_X6_readChange_36 fu th p1 p2  s17))
  else (
  b_X6_readChange_36 fu th p1 p2  s15))
  else (
  b_X6_readChange_36 fu th p1 p2  s13))
  else (
  b_X6_readChange_36 fu th p1 p2  s2)
set_option maxHeartbeats 4000000 in
set_option maxRecDepth 100000 in
theorem t_X6_readChange {X : CX} {res : St} (B : BV X cX6_readChange RX6 5 7 NN none res) (fu : Nat) (th : Nat) (p1 : Nat) (p2 : Int32) (st : St) : WW X res NN 0 [(0, .ref (x_b X + th)), (1, .ref (x_b X + p1)), (2, .int p2)] [] st (f_X6_readChange fu th p1 p2 st) := by
  have hX := B.1
  have hL := B.2.1
  unfold f_X6_readChange
  refine ww_aload_n hX 1 rfl dX6_readChange_0 rfl ?_
  refine ww_bipush (v := 37) hX rfl dX6_readChange_1 ?_
  refine ww_callVI (As := [.int 37]) (rest := []) (o := p1) hX (Rk.of B.2.2.1 B.2.2.2.1 (by decide) (by decide)) g_X6_86 g_X6_86.in (fun _ => c_X9_isSign (x_G X) (x_l X) fu p1 37 st) rfl rfl (Nat.le_of_ble_eq_true rfl) dX6_readChange_3 (fun r1 s2 => ?_)
  refine ww_if_ne (tgt := 36) hX dX6_readChange_6 (by decide) ?_ ?_
  · exact t_X6_readChange_36 B fu th p1 p2  s2
  · refine ww_aload_n hX 1 rfl dX6_readChange_9 rfl ?_
    refine ww_bipush (v := 45) hX rfl dX6_readChange_10 ?_
    refine ww_callVI (As := [.int 45]) (rest := []) (o := p1) hX (Rk.of B.2.2.1 B.2.2.2.1 (by decide) (by decide)) g_X6_86 g_X6_86.in (fun _ => c_X9_isSign (x_G X) (x_l X) fu p1 45 s2) rfl rfl (Nat.le_of_ble_eq_true rfl) dX6_readChange_12 (fun r12 s13 => ?_)
    refine ww_if_ne (tgt := 36) hX dX6_readChange_15 (by decide) ?_ ?_
    · exact t_X6_readChange_36 B fu th p1 p2  s13
    · refine ww_aload_n hX 1 rfl dX6_readChange_18 rfl ?_
      refine ww_bipush (v := 43) hX rfl dX6_readChange_19 ?_
      refine ww_callVI (As := [.int 43]) (rest := []) (o := p1) hX (Rk.of B.2.2.1 B.2.2.2.1 (by decide) (by decide)) g_X6_86 g_X6_86.in (fun _ => c_X9_isSign (x_G X) (x_l X) fu p1 43 s13) rfl rfl (Nat.le_of_ble_eq_true rfl) dX6_readChange_21 (fun r14 s15 => ?_)
      refine ww_if_ne (tgt := 36) hX dX6_readChange_24 (by decide) ?_ ?_
      · exact t_X6_readChange_36 B fu th p1 p2  s15
      · refine ww_aload_n hX 1 rfl dX6_readChange_27 rfl ?_
        refine ww_bipush (v := 64) hX rfl dX6_readChange_28 ?_
        refine ww_callVI (As := [.int 64]) (rest := []) (o := p1) hX (Rk.of B.2.2.1 B.2.2.2.1 (by decide) (by decide)) g_X6_86 g_X6_86.in (fun _ => c_X9_isSign (x_G X) (x_l X) fu p1 64 s15) rfl rfl (Nat.le_of_ble_eq_true rfl) dX6_readChange_30 (fun r16 s17 => ?_)
        refine ww_if_eq (tgt := 40) hX dX6_readChange_33 (by decide) ?_ ?_
        · refine ww_iconst (v := 0) hX rfl dX6_readChange_40 ?_
          exact t_X6_readChange_41 B fu th p1 p2 0 s17
        · exact t_X6_readChange_36 B fu th p1 p2  s17
theorem c_X6_readChange (G : GX) (l : Launch) (fu : Nat) (th : Nat) (p1 : Nat) (p2 : Int32) (st : St) : MV G NN l yX6_readChange cX6_readChange 5 none 7 [.ref (G.2.2.1 + th), .ref (G.2.2.1 + p1), .int p2] st (f_X6_readChange fu th p1 p2 st) := mkV (by decide) (Nat.le_of_ble_eq_true rfl) (fun X res hl hG B => by subst hl; subst hG; exact t_X6_readChange B fu th p1 p2 st)
/-! StageHouse$Prices.readCondition(LStageHouse$Tape;I)V -/
def b_X6_readCondition_95 (fu : Nat)   (st : St) : Option (St) :=
  some st
set_option maxHeartbeats 4000000 in
set_option maxRecDepth 100000 in
theorem t_X6_readCondition_95 {X : CX} {res : St} (B : BV X cX6_readCondition RX6 5 7 NN none res) (fu : Nat)   (st : St) : WW X res NN 95 [] [] st (b_X6_readCondition_95 fu  st) := by
  have hX := B.1
  have hL := B.2.1
  unfold b_X6_readCondition_95
  exact ww_vret B dX6_readCondition_95
def b_X6_readCondition_73 (fu : Nat) (x0 : Nat) (x1 : Nat) (x2 : Int32) (x3 : Int32) (y0 : Int32) (st : St) : Option (St) :=
  ck (¬ gR st x0 1 = 0) <|
  ck ((kd x0).1 = 6) <|
  bd (gR st x0 1) fun o4 =>
  bd (x2 + x3) fun v5 =>
  ck ((kd o4).1 = 100 ∧ inb v5 (kd o4).2) <|
  ck ((kd x1).1 = 9) <|
  ca (f_X9_number fu x1 0 y0 st) fun r6 s7 =>
  ck ((kd o4).1 = 100 ∧ inb v5 (kd o4).2) <|
  bd (sI s7 o4 (ix v5) ((gI st o4 (ix v5)) &&& (1 <<< (r6 &&& 31)))) fun s8 =>
  b_X6_readCondition_95 fu   s8
set_option maxHeartbeats 4000000 in
set_option maxRecDepth 100000 in
theorem t_X6_readCondition_73 {X : CX} {res : St} (B : BV X cX6_readCondition RX6 5 7 NN none res) (fu : Nat) (x0 : Nat) (x1 : Nat) (x2 : Int32) (x3 : Int32) (y0 : Int32) (st : St) : WW X res NN 73 [(0, .ref (x_b X + x0)), (1, .ref (x_b X + x1)), (2, .int x2), (3, .int x3)] [.int y0] st (b_X6_readCondition_73 fu x0 x1 x2 x3 y0 st) := by
  have hX := B.1
  have hL := B.2.1
  unfold b_X6_readCondition_73
  refine ww_istore (lv' := [(4, .int y0), (0, .ref (x_b X + x0)), (1, .ref (x_b X + x1)), (2, .int x2), (3, .int x3)]) hX hL dX6_readCondition_73 (by decide) rfl ?_
  refine ww_aload_n hX 1 rfl dX6_readCondition_75 rfl ?_
  refine ww_getR hX f_X6_15 (Or.inr ⟨_, rfl⟩) dX6_readCondition_76 ?_
  refine ww_bdR (fun o4 => ?_)
  refine ww_iload_n hX 3 rfl dX6_readCondition_79 rfl ?_
  refine ww_iload_n hX 4 rfl dX6_readCondition_80 rfl ?_
  refine ww_iadd hX dX6_readCondition_81 ?_
  refine ww_bdi (fun v5 => ?_)
  refine ww_dup2_11 hX rfl rfl dX6_readCondition_82 ?_
  refine ww_pc (b := 83) rfl ?_
  refine ww_ialdc hX k_iald dX6_readCondition_83 ?_
  refine ww_iconst (v := 1) hX rfl dX6_readCondition_84 ?_
  refine ww_aload_n hX 2 rfl dX6_readCondition_85 rfl ?_
  refine ww_iconst (v := 0) hX rfl dX6_readCondition_86 ?_
  refine ww_iload hX 0 rfl dX6_readCondition_87 ?_
  refine ww_callVI (As := [.int 0, .int y0]) (rest := [.int 1, .int (gI st o4 (ix v5)), .int v5, .ref (x_b X + o4)]) (o := x1) hX (Rk.of B.2.2.1 B.2.2.2.1 (by decide) (by decide)) g_X6_77 g_X6_77.in (fun _ => c_X9_number (x_G X) (x_l X) fu x1 0 y0 st) rfl rfl (Nat.le_of_ble_eq_true rfl) dX6_readCondition_89 (fun r6 s7 => ?_)
  refine ww_ishl hX dX6_readCondition_92 ?_
  refine ww_iand hX dX6_readCondition_93 ?_
  refine ww_pc (b := 94) rfl ?_
  refine ww_iastc hX k_iast dX6_readCondition_94 ?_
  refine ww_bds (fun s8 => ?_)
  exact ww_sub [] rfl (t_X6_readCondition_95 B fu   s8)
def f_X6_readCondition (fu : Nat) (th : Nat) (p1 : Nat) (p2 : Int32) (st : St) : Option (St) :=
  ca (f_X6_conditionAt fu p1 st) fun r1 s2 =>
  if 0 ≤ r1 then (
  ck ((kd p1).1 = 9) <|
  cv (f_X9_next fu p1 s2) fun s3 =>
  if r1 = 0 then (
  ck (¬ gR s3 th 1 = 0) <|
  ck ((kd th).1 = 6) <|
  bd (gR s3 th 1) fun o9 =>
  ck (¬ gR s3 th 1 = 0) <|
  ck ((kd th).1 = 6) <|
  bd (gR s3 th 1) fun o10 =>
  ck ((kd o10).1 = 100 ∧ inb p2 (kd o10).2) <|
  ck ((kd p1).1 = 9) <|
  ca (f_X9_number fu p1 1 10 s3) fun r11 s12 =>
  ca (f_J9_max_7cf53 fu (gI s3 o10 (ix p2)) r11 s12) fun r13 s14 =>
  ck ((kd o9).1 = 100 ∧ inb p2 (kd o9).2) <|
  bd (sI s14 o9 (ix p2) r13) fun s15 =>
  b_X6_readCondition_95 fu   s15)
  else (
  if r1 = 1 then (
  b_X6_readCondition_73 fu th p1 p2 r1 3 s3)
  else (
  if r1 = 2 then (
  b_X6_readCondition_73 fu th p1 p2 r1 6 s3)
  else (
  b_X6_readCondition_73 fu th p1 p2 r1 7 s3))))
  else (
  ck ((kd p1).1 = 9) <|
  ck ((kd p1).1 = 9) <|
  cv (f_X9_fail fu p1 1 (gI s2 p1 3) s2) fun s16 =>
  some s16)
set_option maxHeartbeats 4000000 in
set_option maxRecDepth 100000 in
theorem t_X6_readCondition {X : CX} {res : St} (B : BV X cX6_readCondition RX6 5 7 NN none res) (fu : Nat) (th : Nat) (p1 : Nat) (p2 : Int32) (st : St) : WW X res NN 0 [(0, .ref (x_b X + th)), (1, .ref (x_b X + p1)), (2, .int p2)] [] st (f_X6_readCondition fu th p1 p2 st) := by
  have hX := B.1
  have hL := B.2.1
  unfold f_X6_readCondition
  refine ww_aload_n hX 1 rfl dX6_readCondition_0 rfl ?_
  refine ww_callSI (As := [.ref (x_b X + p1)]) (rest := []) hX (Rk.of B.2.2.1 B.2.2.2.1 (by decide) (by decide)) g_X6_28 (c_X6_conditionAt (x_G X) (x_l X) fu p1 st) rfl rfl (Nat.le_of_ble_eq_true rfl) dX6_readCondition_1 (fun r1 s2 => ?_)
  refine ww_istore_n (lv' := [(3, .int r1), (0, .ref (x_b X + th)), (1, .ref (x_b X + p1)), (2, .int p2)]) hX hL dX6_readCondition_4 rfl (by decide) rfl ?_
  refine ww_iload_n hX 0 rfl dX6_readCondition_5 rfl ?_
  refine ww_if_ge (tgt := 19) hX dX6_readCondition_6 (by decide) ?_ ?_
  · refine ww_aload_n hX 2 rfl dX6_readCondition_19 rfl ?_
    refine ww_callVV (As := []) (rest := []) (o := p1) hX (Rk.of B.2.2.1 B.2.2.2.1 (by decide) (by decide)) g_X6_74 g_X6_74.in (fun _ => c_X9_next (x_G X) (x_l X) fu p1 s2) rfl rfl (Nat.le_of_ble_eq_true rfl) dX6_readCondition_20 (fun s3 => ?_)
    refine ww_iload_n hX 0 rfl dX6_readCondition_23 rfl ?_
    refine ww_if_ne (tgt := 52) hX dX6_readCondition_24 (by decide) ?_ ?_
    · refine ww_iload_n hX 0 rfl dX6_readCondition_52 rfl ?_
      refine ww_iconst (v := 1) hX rfl dX6_readCondition_53 ?_
      refine ww_icmp_ne (tgt := 61) hX dX6_readCondition_54 (by decide) ?_ ?_
      · refine ww_iload_n hX 0 rfl dX6_readCondition_61 rfl ?_
        refine ww_iconst (v := 2) hX rfl dX6_readCondition_62 ?_
        refine ww_icmp_ne (tgt := 71) hX dX6_readCondition_63 (by decide) ?_ ?_
        · refine ww_bipush (v := 7) hX rfl dX6_readCondition_71 ?_
          exact ww_sub [1, 2, 3, 0] rfl (t_X6_readCondition_73 B fu th p1 p2 r1 7 s3)
        · refine ww_bipush (v := 6) hX rfl dX6_readCondition_66 ?_
          refine ww_goto (tgt := 73) hX dX6_readCondition_68 (by decide) ?_
          exact ww_sub [1, 2, 3, 0] rfl (t_X6_readCondition_73 B fu th p1 p2 r1 6 s3)
      · refine ww_iconst (v := 3) hX rfl dX6_readCondition_57 ?_
        refine ww_goto (tgt := 73) hX dX6_readCondition_58 (by decide) ?_
        exact ww_sub [1, 2, 3, 0] rfl (t_X6_readCondition_73 B fu th p1 p2 r1 3 s3)
    · refine ww_aload_n hX 1 rfl dX6_readCondition_27 rfl ?_
      refine ww_getR hX f_X6_15 (Or.inr ⟨_, rfl⟩) dX6_readCondition_28 ?_
      refine ww_bdR (fun o9 => ?_)
      refine ww_iload_n hX 3 rfl dX6_readCondition_31 rfl ?_
      refine ww_aload_n hX 1 rfl dX6_readCondition_32 rfl ?_
      refine ww_getR hX f_X6_15 (Or.inr ⟨_, rfl⟩) dX6_readCondition_33 ?_
      refine ww_bdR (fun o10 => ?_)
      refine ww_iload_n hX 3 rfl dX6_readCondition_36 rfl ?_
      refine ww_ialdc hX k_iald dX6_readCondition_37 ?_
      refine ww_pc (b := 38) rfl ?_
      refine ww_aload_n hX 2 rfl dX6_readCondition_38 rfl ?_
      refine ww_iconst (v := 1) hX rfl dX6_readCondition_39 ?_
      refine ww_bipush (v := 10) hX rfl dX6_readCondition_40 ?_
      refine ww_callVI (As := [.int 1, .int 10]) (rest := [.int (gI s3 o10 (ix p2)), .int p2, .ref (x_b X + o9)]) (o := p1) hX (Rk.of B.2.2.1 B.2.2.2.1 (by decide) (by decide)) g_X6_77 g_X6_77.in (fun _ => c_X9_number (x_G X) (x_l X) fu p1 1 10 s3) rfl rfl (Nat.le_of_ble_eq_true rfl) dX6_readCondition_42 (fun r11 s12 => ?_)
      refine ww_callSI (As := [.int (gI s3 o10 (ix p2)), .int r11]) (rest := [.int p2, .ref (x_b X + o9)]) hX (Rk.of B.2.2.1 B.2.2.2.1 (by decide) (by decide)) g_X6_81 (c_J9_max_7cf53 (x_G X) (x_l X) fu (gI s3 o10 (ix p2)) r11 s12) rfl rfl (Nat.le_of_ble_eq_true rfl) dX6_readCondition_45 (fun r13 s14 => ?_)
      refine ww_iastc hX k_iast dX6_readCondition_48 ?_
      refine ww_bds (fun s15 => ?_)
      refine ww_goto (tgt := 95) hX dX6_readCondition_49 (by decide) ?_
      exact ww_sub [] rfl (t_X6_readCondition_95 B fu   s15)
  · refine ww_aload_n hX 2 rfl dX6_readCondition_9 rfl ?_
    refine ww_iconst (v := 1) hX rfl dX6_readCondition_10 ?_
    refine ww_aload_n hX 2 rfl dX6_readCondition_11 rfl ?_
    refine ww_getI hX f_X6_32 (Or.inl rfl) dX6_readCondition_12 ?_
    refine ww_callVV (As := [.int 1, .int (gI s2 p1 3)]) (rest := []) (o := p1) hX (Rk.of B.2.2.1 B.2.2.2.1 (by decide) (by decide)) g_X6_35 g_X6_35.in (fun _ => c_X9_fail (x_G X) (x_l X) fu p1 1 (gI s2 p1 3) s2) rfl rfl (Nat.le_of_ble_eq_true rfl) dX6_readCondition_15 (fun s16 => ?_)
    exact ww_vret B dX6_readCondition_18
theorem c_X6_readCondition (G : GX) (l : Launch) (fu : Nat) (th : Nat) (p1 : Nat) (p2 : Int32) (st : St) : MV G NN l yX6_readCondition cX6_readCondition 5 none 7 [.ref (G.2.2.1 + th), .ref (G.2.2.1 + p1), .int p2] st (f_X6_readCondition fu th p1 p2 st) := mkV (by decide) (Nat.le_of_ble_eq_true rfl) (fun X res hl hG B => by subst hl; subst hG; exact t_X6_readCondition B fu th p1 p2 st)
/-! StageHouse$Prices.readRule(LStageHouse$Tape;I)V -/
def b_X6_readRule_71 (fu : Nat) (x0 : Nat) (x1 : Nat) (x2 : Int32)  (st : St) : Option (St) :=
  ck ((kd x1).1 = 9) <|
  cv (f_X9_need fu x1 58 st) fun s9 =>
  ck ((kd x0).1 = 6) <|
  cv (f_X6_readChange fu x0 x1 x2 s9) fun s10 =>
  ck ((kd x1).1 = 9) <|
  cv (f_X9_need fu x1 59 s10) fun s11 =>
  some s11
set_option maxHeartbeats 4000000 in
set_option maxRecDepth 100000 in
theorem t_X6_readRule_71 {X : CX} {res : St} (B : BV X cX6_readRule RX6 4 8 NN none res) (fu : Nat) (x0 : Nat) (x1 : Nat) (x2 : Int32)  (st : St) : WW X res NN 71 [(0, .ref (x_b X + x0)), (1, .ref (x_b X + x1)), (2, .int x2)] [] st (b_X6_readRule_71 fu x0 x1 x2 st) := by
  have hX := B.1
  have hL := B.2.1
  unfold b_X6_readRule_71
  refine ww_aload_n hX 1 rfl dX6_readRule_71 rfl ?_
  refine ww_bipush (v := 58) hX rfl dX6_readRule_72 ?_
  refine ww_callVV (As := [.int 58]) (rest := []) (o := x1) hX (Rk.of B.2.2.1 B.2.2.2.1 (by decide) (by decide)) g_X6_67 g_X6_67.in (fun _ => c_X9_need (x_G X) (x_l X) fu x1 58 st) rfl rfl (Nat.le_of_ble_eq_true rfl) dX6_readRule_74 (fun s9 => ?_)
  refine ww_aload_n hX 0 rfl dX6_readRule_77 rfl ?_
  refine ww_aload_n hX 1 rfl dX6_readRule_78 rfl ?_
  refine ww_iload_n hX 2 rfl dX6_readRule_79 rfl ?_
  refine ww_callVV (As := [.ref (x_b X + x1), .int x2]) (rest := []) (o := x0) hX (Rk.of B.2.2.1 B.2.2.2.1 (by decide) (by decide)) g_X6_71 g_X6_71.in (fun _ => c_X6_readChange (x_G X) (x_l X) fu x0 x1 x2 s9) rfl rfl (Nat.le_of_ble_eq_true rfl) dX6_readRule_80 (fun s10 => ?_)
  refine ww_pc (b := 83) rfl ?_
  refine ww_aload_n hX 1 rfl dX6_readRule_83 rfl ?_
  refine ww_bipush (v := 59) hX rfl dX6_readRule_84 ?_
  refine ww_callVV (As := [.int 59]) (rest := []) (o := x1) hX (Rk.of B.2.2.1 B.2.2.2.1 (by decide) (by decide)) g_X6_67 g_X6_67.in (fun _ => c_X9_need (x_G X) (x_l X) fu x1 59 s10) rfl rfl (Nat.le_of_ble_eq_true rfl) dX6_readRule_86 (fun s11 => ?_)
  exact ww_vret B dX6_readRule_89
def b_X6_readRule_40_b (fu : Nat) (k_40 : Nat → Nat → Int32 → Int32 → St → Option (St)) (x0 : Nat) (x1 : Nat) (x2 : Int32) (x3 : Int32)  (st : St) : Option (St) :=
  if 4000 ≤ x3 then (
  b_X6_readRule_71 fu x0 x1 x2  st)
  else (
  ck ((kd x0).1 = 6) <|
  cv (f_X6_readCondition fu x0 x1 x2 st) fun s12 =>
  ck ((kd x1).1 = 9) <|
  ca (f_X9_takes fu x1 44 s12) fun r13 s14 =>
  if r13 = 0 then (
  b_X6_readRule_71 fu x0 x1 x2  s14)
  else (
  bd (x3 + 1) fun v15 =>
  k_40 x0 x1 x2 v15  s14))
set_option maxHeartbeats 4000000 in
set_option maxRecDepth 100000 in
theorem t_X6_readRule_40_b {X : CX} {res : St} (B : BV X cX6_readRule RX6 4 8 NN none res) (fu : Nat) (k_40 : Nat → Nat → Int32 → Int32 → St → Option (St)) (h_40 : ∀ (x0 : Nat) (x1 : Nat) (x2 : Int32) (x3 : Int32)  (st : St), WW X res NN 40 [(0, .ref (x_b X + x0)), (1, .ref (x_b X + x1)), (2, .int x2), (3, .int x3)] [] st (k_40 x0 x1 x2 x3 st)) (x0 : Nat) (x1 : Nat) (x2 : Int32) (x3 : Int32)  (st : St) : WW X res NN 40 [(0, .ref (x_b X + x0)), (1, .ref (x_b X + x1)), (2, .int x2), (3, .int x3)] [] st (b_X6_readRule_40_b fu k_40 x0 x1 x2 x3 st) := by
  have hX := B.1
  have hL := B.2.1
  unfold b_X6_readRule_40_b
  refine ww_iload_n hX 3 rfl dX6_readRule_40 rfl ?_
  refine ww_sipush (v := 4000) hX rfl dX6_readRule_41 ?_
  refine ww_icmp_ge (tgt := 71) hX dX6_readRule_44 (by decide) ?_ ?_
  · exact ww_sub [0, 1, 2] rfl (t_X6_readRule_71 B fu x0 x1 x2  st)
  · refine ww_aload_n hX 0 rfl dX6_readRule_47 rfl ?_
    refine ww_aload_n hX 1 rfl dX6_readRule_48 rfl ?_
    refine ww_iload_n hX 2 rfl dX6_readRule_49 rfl ?_
    refine ww_callVV (As := [.ref (x_b X + x1), .int x2]) (rest := []) (o := x0) hX (Rk.of B.2.2.1 B.2.2.2.1 (by decide) (by decide)) g_X6_60 g_X6_60.in (fun _ => c_X6_readCondition (x_G X) (x_l X) fu x0 x1 x2 st) rfl rfl (Nat.le_of_ble_eq_true rfl) dX6_readRule_50 (fun s12 => ?_)
    refine ww_aload_n hX 1 rfl dX6_readRule_53 rfl ?_
    refine ww_bipush (v := 44) hX rfl dX6_readRule_54 ?_
    refine ww_callVI (As := [.int 44]) (rest := []) (o := x1) hX (Rk.of B.2.2.1 B.2.2.2.1 (by decide) (by decide)) g_X6_63 g_X6_63.in (fun _ => c_X9_takes (x_G X) (x_l X) fu x1 44 s12) rfl rfl (Nat.le_of_ble_eq_true rfl) dX6_readRule_56 (fun r13 s14 => ?_)
    refine ww_pc (b := 59) rfl ?_
    refine ww_if_ne (tgt := 65) hX dX6_readRule_59 (by decide) ?_ ?_
    · refine ww_iincb (lv' := fun v15 => [(3, .int v15), (0, .ref (x_b X + x0)), (1, .ref (x_b X + x1)), (2, .int x2)]) (c := 1) hX hL 3 rfl dX6_readRule_65 rfl (by decide) (fun _ => rfl) (fun v15 => ?_)
      refine ww_goto (tgt := 40) hX dX6_readRule_68 (by decide) ?_
      exact ww_sub [1, 2, 3, 0] rfl (h_40 x0 x1 x2 v15  s14)
    · refine ww_goto (tgt := 71) hX dX6_readRule_62 (by decide) ?_
      exact ww_sub [0, 1, 2] rfl (t_X6_readRule_71 B fu x0 x1 x2  s14)
def b_X6_readRule_40 (fu : Nat) : Nat → Nat → Nat → Int32 → Int32 → St → Option (St)
  | 0, _, _, _, _, _ => none
  | i + 1, x0, x1, x2, x3, st => b_X6_readRule_40_b fu (b_X6_readRule_40 fu i) x0 x1 x2 x3 st
theorem t_X6_readRule_40 {X : CX} {res : St} (B : BV X cX6_readRule RX6 4 8 NN none res) (fu : Nat) : ∀ (i : Nat) (x0 : Nat) (x1 : Nat) (x2 : Int32) (x3 : Int32)  (st : St), WW X res NN 40 [(0, .ref (x_b X + x0)), (1, .ref (x_b X + x1)), (2, .int x2), (3, .int x3)] [] st (b_X6_readRule_40 fu i x0 x1 x2 x3 st) := by
  intro i
  induction i with
  | zero => intro x0 x1 x2 x3 st; exact ww_none
  | succ i ih => intro x0 x1 x2 x3 st; exact t_X6_readRule_40_b B fu (b_X6_readRule_40 fu i) ih x0 x1 x2 x3 st
def f_X6_readRule (fu : Nat) (th : Nat) (p1 : Nat) (p2 : Int32) (st : St) : Option (St) :=
  ck (¬ gR st th 1 = 0) <|
  ck ((kd th).1 = 6) <|
  bd (gR st th 1) fun o1 =>
  ck ((kd o1).1 = 100 ∧ inb p2 (kd o1).2) <|
  bd (sI st o1 (ix p2) 0) fun s2 =>
  ck (¬ gR s2 th 1 = 0) <|
  ck ((kd th).1 = 6) <|
  bd (gR s2 th 1) fun o3 =>
  ck ((kd o3).1 = 100 ∧ inb (p2 + 1) (kd o3).2) <|
  bd (sI s2 o3 (ix (p2 + 1)) 15) fun s4 =>
  ck (¬ gR s4 th 1 = 0) <|
  ck ((kd th).1 = 6) <|
  bd (gR s4 th 1) fun o5 =>
  ck ((kd o5).1 = 100 ∧ inb (p2 + 2) (kd o5).2) <|
  bd (sI s4 o5 (ix (p2 + 2)) 127) fun s6 =>
  ck (¬ gR s6 th 1 = 0) <|
  ck ((kd th).1 = 6) <|
  bd (gR s6 th 1) fun o7 =>
  ck ((kd o7).1 = 100 ∧ inb (p2 + 3) (kd o7).2) <|
  bd (sI s6 o7 (ix (p2 + 3)) 255) fun s8 =>
  b_X6_readRule_40 fu fu th p1 p2 0  s8
set_option maxHeartbeats 4000000 in
set_option maxRecDepth 100000 in
theorem t_X6_readRule {X : CX} {res : St} (B : BV X cX6_readRule RX6 4 8 NN none res) (fu : Nat) (th : Nat) (p1 : Nat) (p2 : Int32) (st : St) : WW X res NN 0 [(0, .ref (x_b X + th)), (1, .ref (x_b X + p1)), (2, .int p2)] [] st (f_X6_readRule fu th p1 p2 st) := by
  have hX := B.1
  have hL := B.2.1
  unfold f_X6_readRule
  refine ww_aload_n hX 0 rfl dX6_readRule_0 rfl ?_
  refine ww_getR hX f_X6_15 (Or.inr ⟨_, rfl⟩) dX6_readRule_1 ?_
  refine ww_bdR (fun o1 => ?_)
  refine ww_iload_n hX 2 rfl dX6_readRule_4 rfl ?_
  refine ww_iconst (v := 0) hX rfl dX6_readRule_5 ?_
  refine ww_iastc hX k_iast dX6_readRule_6 ?_
  refine ww_bds (fun s2 => ?_)
  refine ww_aload_n hX 0 rfl dX6_readRule_7 rfl ?_
  refine ww_getR hX f_X6_15 (Or.inr ⟨_, rfl⟩) dX6_readRule_8 ?_
  refine ww_bdR (fun o3 => ?_)
  refine ww_pc (b := 11) rfl ?_
  refine ww_iload_n hX 2 rfl dX6_readRule_11 rfl ?_
  refine ww_iconst (v := 1) hX rfl dX6_readRule_12 ?_
  refine ww_iadd hX dX6_readRule_13 ?_
  refine ww_bipush (v := 15) hX rfl dX6_readRule_14 ?_
  refine ww_iastc hX k_iast dX6_readRule_16 ?_
  refine ww_bds (fun s4 => ?_)
  refine ww_aload_n hX 0 rfl dX6_readRule_17 rfl ?_
  refine ww_getR hX f_X6_15 (Or.inr ⟨_, rfl⟩) dX6_readRule_18 ?_
  refine ww_bdR (fun o5 => ?_)
  refine ww_iload_n hX 2 rfl dX6_readRule_21 rfl ?_
  refine ww_pc (b := 22) rfl ?_
  refine ww_iconst (v := 2) hX rfl dX6_readRule_22 ?_
  refine ww_iadd hX dX6_readRule_23 ?_
  refine ww_bipush (v := 127) hX rfl dX6_readRule_24 ?_
  refine ww_iastc hX k_iast dX6_readRule_26 ?_
  refine ww_bds (fun s6 => ?_)
  refine ww_aload_n hX 0 rfl dX6_readRule_27 rfl ?_
  refine ww_getR hX f_X6_15 (Or.inr ⟨_, rfl⟩) dX6_readRule_28 ?_
  refine ww_bdR (fun o7 => ?_)
  refine ww_iload_n hX 2 rfl dX6_readRule_31 rfl ?_
  refine ww_iconst (v := 3) hX rfl dX6_readRule_32 ?_
  refine ww_pc (b := 33) rfl ?_
  refine ww_iadd hX dX6_readRule_33 ?_
  refine ww_sipush (v := 255) hX rfl dX6_readRule_34 ?_
  refine ww_iastc hX k_iast dX6_readRule_37 ?_
  refine ww_bds (fun s8 => ?_)
  refine ww_iconst (v := 0) hX rfl dX6_readRule_38 ?_
  refine ww_istore_n (lv' := [(3, .int 0), (0, .ref (x_b X + th)), (1, .ref (x_b X + p1)), (2, .int p2)]) hX hL dX6_readRule_39 rfl (by decide) rfl ?_
  exact ww_sub [1, 2, 3, 0] rfl (t_X6_readRule_40 B fu fu th p1 p2 0  s8)
theorem c_X6_readRule (G : GX) (l : Launch) (fu : Nat) (th : Nat) (p1 : Nat) (p2 : Int32) (st : St) : MV G NN l yX6_readRule cX6_readRule 4 none 8 [.ref (G.2.2.1 + th), .ref (G.2.2.1 + p1), .int p2] st (f_X6_readRule fu th p1 p2 st) := mkV (by decide) (Nat.le_of_ble_eq_true rfl) (fun X res hl hG B => by subst hl; subst hG; exact t_X6_readRule B fu th p1 p2 st)
/-! StageHouse$Prices.read(LStageHouse$Tape;)V -/
def b_X6_read_109 (fu : Nat)   (st : St) : Option (St) :=
  some st
set_option maxHeartbeats 4000000 in
set_option maxRecDepth 100000 in
theorem t_X6_read_109 {X : CX} {res : St} (B : BV X cX6_read RX6 4 9 NN none res) (fu : Nat)   (st : St) : WW X res NN 109 [] [] st (b_X6_read_109 fu  st) := by
  have hX := B.1
  have hL := B.2.1
  unfold b_X6_read_109
  exact ww_vret B dX6_read_109
def b_X6_read_79 (fu : Nat) (x0 : Nat) (x1 : Nat) (x2 : Int32)  (st : St) : Option (St) :=
  ck ((kd x1).1 = 9) <|
  if (gI st x1 8) = 0 then (
  ck (¬ gR st x0 0 = 0) <|
  ck ((kd x0).1 = 6) <|
  bd (gR st x0 0) fun o2 =>
  ck (¬ gR st x0 1 = 0) <|
  ck ((kd x0).1 = 6) <|
  bd (gR st x0 1) fun o3 =>
  ck (¬ o3 = 0) <|
  ck ((kd x0).1 = 6) <|
  bd (sR st x0 0 o3) fun s4 =>
  ck (¬ o2 = 0) <|
  ck ((kd x0).1 = 6) <|
  bd (sR s4 x0 1 o2) fun s5 =>
  ck ((kd x0).1 = 6) <|
  bd (sI s5 x0 2 x2) fun s6 =>
  b_X6_read_109 fu   s6)
  else (
  b_X6_read_109 fu   st)
set_option maxHeartbeats 4000000 in
set_option maxRecDepth 100000 in
theorem t_X6_read_79 {X : CX} {res : St} (B : BV X cX6_read RX6 4 9 NN none res) (fu : Nat) (x0 : Nat) (x1 : Nat) (x2 : Int32)  (st : St) : WW X res NN 79 [(0, .ref (x_b X + x0)), (1, .ref (x_b X + x1)), (2, .int x2)] [] st (b_X6_read_79 fu x0 x1 x2 st) := by
  have hX := B.1
  have hL := B.2.1
  unfold b_X6_read_79
  refine ww_aload_n hX 1 rfl dX6_read_79 rfl ?_
  refine ww_getI hX f_X6_43 (Or.inl rfl) dX6_read_80 ?_
  refine ww_if_ne (tgt := 109) hX dX6_read_83 (by decide) ?_ ?_
  · exact ww_sub [] rfl (t_X6_read_109 B fu   st)
  · refine ww_aload_n hX 0 rfl dX6_read_86 rfl ?_
    refine ww_getR hX f_X6_11 (Or.inr ⟨_, rfl⟩) dX6_read_87 ?_
    refine ww_bdR (fun o2 => ?_)
    refine ww_astore_n (lv' := [(3, .ref (x_b X + o2)), (0, .ref (x_b X + x0)), (1, .ref (x_b X + x1)), (2, .int x2)]) hX hL dX6_read_90 rfl (by decide) rfl ?_
    refine ww_aload_n hX 1 rfl dX6_read_91 rfl ?_
    refine ww_aload_n hX 1 rfl dX6_read_92 rfl ?_
    refine ww_getR hX f_X6_15 (Or.inr ⟨_, rfl⟩) dX6_read_93 ?_
    refine ww_bdR (fun o3 => ?_)
    refine ww_putR hX f_X6_11 (Or.inr ⟨_, rfl⟩) dX6_read_96 ?_
    refine ww_bds (fun s4 => ?_)
    refine ww_pc (b := 99) rfl ?_
    refine ww_aload_n hX 1 rfl dX6_read_99 rfl ?_
    refine ww_aload_n hX 0 rfl dX6_read_100 rfl ?_
    refine ww_putR hX f_X6_15 (Or.inr ⟨_, rfl⟩) dX6_read_101 ?_
    refine ww_bds (fun s5 => ?_)
    refine ww_aload_n hX 1 rfl dX6_read_104 rfl ?_
    refine ww_iload_n hX 3 rfl dX6_read_105 rfl ?_
    refine ww_putI hX f_X6_46 rfl dX6_read_106 ?_
    refine ww_bds (fun s6 => ?_)
    exact ww_sub [] rfl (t_X6_read_109 B fu   s6)
def b_X6_read_73 (fu : Nat) (k_11 : Nat → Nat → Int32 → Int32 → St → Option (St)) (x0 : Nat) (x1 : Nat) (x2 : Int32) (x3 : Int32)  (st : St) : Option (St) :=
  bd (x3 + 1) fun v11 =>
  k_11 x0 x1 x2 v11  st
set_option maxHeartbeats 4000000 in
set_option maxRecDepth 100000 in
theorem t_X6_read_73 {X : CX} {res : St} (B : BV X cX6_read RX6 4 9 NN none res) (fu : Nat) (k_11 : Nat → Nat → Int32 → Int32 → St → Option (St)) (h_11 : ∀ (x0 : Nat) (x1 : Nat) (x2 : Int32) (x3 : Int32)  (st : St), WW X res NN 11 [(0, .ref (x_b X + x0)), (1, .ref (x_b X + x1)), (2, .int x2), (3, .int x3)] [] st (k_11 x0 x1 x2 x3 st)) (x0 : Nat) (x1 : Nat) (x2 : Int32) (x3 : Int32)  (st : St) : WW X res NN 73 [(0, .ref (x_b X + x0)), (1, .ref (x_b X + x1)), (2, .int x2), (3, .int x3)] [] st (b_X6_read_73 fu k_11 x0 x1 x2 x3 st) := by
  have hX := B.1
  have hL := B.2.1
  unfold b_X6_read_73
  refine ww_iincb (lv' := fun v11 => [(3, .int v11), (0, .ref (x_b X + x0)), (1, .ref (x_b X + x1)), (2, .int x2)]) (c := 1) hX hL 3 rfl dX6_read_73 rfl (by decide) (fun _ => rfl) (fun v11 => ?_)
  refine ww_goto (tgt := 11) hX dX6_read_76 (by decide) ?_
  exact ww_sub [1, 2, 3, 0] rfl (h_11 x0 x1 x2 v11  st)
def b_X6_read_11_b (fu : Nat) (k_11 : Nat → Nat → Int32 → Int32 → St → Option (St)) (x0 : Nat) (x1 : Nat) (x2 : Int32) (x3 : Int32)  (st : St) : Option (St) :=
  if 20 < x3 then (
  b_X6_read_79 fu x0 x1 x2  st)
  else (
  ck ((kd x1).1 = 9) <|
  if (gI st x1 2) = 0 then (
  b_X6_read_79 fu x0 x1 x2  st)
  else (
  ca (f_X6_conditionAt fu x1 st) fun r7 s8 =>
  if 0 ≤ r7 then (
  if x2 < 20 then (
  ck ((kd x0).1 = 6) <|
  cv (f_X6_readRule fu x0 x1 (x2 * 6) s8) fun s9 =>
  bd (x2 + 1) fun v10 =>
  b_X6_read_73 fu k_11 x0 x1 v10 x3  s9)
  else (
  ck ((kd x1).1 = 9) <|
  ck ((kd x1).1 = 9) <|
  cv (f_X9_fail fu x1 2 (gI s8 x1 3) s8) fun s12 =>
  b_X6_read_73 fu k_11 x0 x1 x2 x3  s12))
  else (
  ck ((kd x1).1 = 9) <|
  ck ((kd x1).1 = 9) <|
  cv (f_X9_fail fu x1 1 (gI s8 x1 3) s8) fun s13 =>
  b_X6_read_73 fu k_11 x0 x1 x2 x3  s13)))
set_option maxHeartbeats 4000000 in
set_option maxRecDepth 100000 in
theorem t_X6_read_11_b {X : CX} {res : St} (B : BV X cX6_read RX6 4 9 NN none res) (fu : Nat) (k_11 : Nat → Nat → Int32 → Int32 → St → Option (St)) (h_11 : ∀ (x0 : Nat) (x1 : Nat) (x2 : Int32) (x3 : Int32)  (st : St), WW X res NN 11 [(0, .ref (x_b X + x0)), (1, .ref (x_b X + x1)), (2, .int x2), (3, .int x3)] [] st (k_11 x0 x1 x2 x3 st)) (x0 : Nat) (x1 : Nat) (x2 : Int32) (x3 : Int32)  (st : St) : WW X res NN 11 [(0, .ref (x_b X + x0)), (1, .ref (x_b X + x1)), (2, .int x2), (3, .int x3)] [] st (b_X6_read_11_b fu k_11 x0 x1 x2 x3 st) := by
  have hX := B.1
  have hL := B.2.1
  unfold b_X6_read_11_b
  refine ww_iload_n hX 3 rfl dX6_read_11 rfl ?_
  refine ww_bipush (v := 20) hX rfl dX6_read_12 ?_
  refine ww_icmp_gt (tgt := 79) hX dX6_read_14 (by decide) ?_ ?_
  · exact ww_sub [0, 1, 2] rfl (t_X6_read_79 B fu x0 x1 x2  st)
  · refine ww_aload_n hX 1 rfl dX6_read_17 rfl ?_
    refine ww_getI hX f_X6_24 (Or.inl rfl) dX6_read_18 ?_
    refine ww_if_eq (tgt := 79) hX dX6_read_21 (by decide) ?_ ?_
    · exact ww_sub [0, 1, 2] rfl (t_X6_read_79 B fu x0 x1 x2  st)
    · refine ww_aload_n hX 1 rfl dX6_read_24 rfl ?_
      refine ww_callSI (As := [.ref (x_b X + x1)]) (rest := []) hX (Rk.of B.2.2.1 B.2.2.2.1 (by decide) (by decide)) g_X6_28 (c_X6_conditionAt (x_G X) (x_l X) fu x1 st) rfl rfl (Nat.le_of_ble_eq_true rfl) dX6_read_25 (fun r7 s8 => ?_)
      refine ww_if_ge (tgt := 43) hX dX6_read_28 (by decide) ?_ ?_
      · refine ww_iload_n hX 2 rfl dX6_read_43 rfl ?_
        refine ww_bipush (v := 20) hX rfl dX6_read_44 ?_
        refine ww_icmp_lt (tgt := 61) hX dX6_read_46 (by decide) ?_ ?_
        · refine ww_aload_n hX 0 rfl dX6_read_61 rfl ?_
          refine ww_aload_n hX 1 rfl dX6_read_62 rfl ?_
          refine ww_iload_n hX 2 rfl dX6_read_63 rfl ?_
          refine ww_bipush (v := 6) hX rfl dX6_read_64 ?_
          refine ww_imul hX dX6_read_66 ?_
          refine ww_callVV (As := [.ref (x_b X + x1), .int (x2 * 6)]) (rest := []) (o := x0) hX (Rk.of B.2.2.1 B.2.2.2.1 (by decide) (by decide)) g_X6_39 g_X6_39.in (fun _ => c_X6_readRule (x_G X) (x_l X) fu x0 x1 (x2 * 6) s8) rfl rfl (Nat.le_of_ble_eq_true rfl) dX6_read_67 (fun s9 => ?_)
          refine ww_iincb (lv' := fun v10 => [(2, .int v10), (0, .ref (x_b X + x0)), (1, .ref (x_b X + x1)), (3, .int x3)]) (c := 1) hX hL 2 rfl dX6_read_70 rfl (by decide) (fun _ => rfl) (fun v10 => ?_)
          exact ww_sub [1, 2, 0, 3] rfl (t_X6_read_73 B fu k_11 h_11 x0 x1 v10 x3  s9)
        · refine ww_aload_n hX 1 rfl dX6_read_49 rfl ?_
          refine ww_iconst (v := 2) hX rfl dX6_read_50 ?_
          refine ww_aload_n hX 1 rfl dX6_read_51 rfl ?_
          refine ww_getI hX f_X6_32 (Or.inl rfl) dX6_read_52 ?_
          refine ww_callVV (As := [.int 2, .int (gI s8 x1 3)]) (rest := []) (o := x1) hX (Rk.of B.2.2.1 B.2.2.2.1 (by decide) (by decide)) g_X6_35 g_X6_35.in (fun _ => c_X9_fail (x_G X) (x_l X) fu x1 2 (gI s8 x1 3) s8) rfl rfl (Nat.le_of_ble_eq_true rfl) dX6_read_55 (fun s12 => ?_)
          refine ww_goto (tgt := 73) hX dX6_read_58 (by decide) ?_
          exact t_X6_read_73 B fu k_11 h_11 x0 x1 x2 x3  s12
      · refine ww_aload_n hX 1 rfl dX6_read_31 rfl ?_
        refine ww_iconst (v := 1) hX rfl dX6_read_32 ?_
        refine ww_aload_n hX 1 rfl dX6_read_33 rfl ?_
        refine ww_getI hX f_X6_32 (Or.inl rfl) dX6_read_34 ?_
        refine ww_callVV (As := [.int 1, .int (gI s8 x1 3)]) (rest := []) (o := x1) hX (Rk.of B.2.2.1 B.2.2.2.1 (by decide) (by decide)) g_X6_35 g_X6_35.in (fun _ => c_X9_fail (x_G X) (x_l X) fu x1 1 (gI s8 x1 3) s8) rfl rfl (Nat.le_of_ble_eq_true rfl) dX6_read_37 (fun s13 => ?_)
        refine ww_goto (tgt := 73) hX dX6_read_40 (by decide) ?_
        exact t_X6_read_73 B fu k_11 h_11 x0 x1 x2 x3  s13
def b_X6_read_11 (fu : Nat) : Nat → Nat → Nat → Int32 → Int32 → St → Option (St)
  | 0, _, _, _, _, _ => none
  | i + 1, x0, x1, x2, x3, st => b_X6_read_11_b fu (b_X6_read_11 fu i) x0 x1 x2 x3 st
theorem t_X6_read_11 {X : CX} {res : St} (B : BV X cX6_read RX6 4 9 NN none res) (fu : Nat) : ∀ (i : Nat) (x0 : Nat) (x1 : Nat) (x2 : Int32) (x3 : Int32)  (st : St), WW X res NN 11 [(0, .ref (x_b X + x0)), (1, .ref (x_b X + x1)), (2, .int x2), (3, .int x3)] [] st (b_X6_read_11 fu i x0 x1 x2 x3 st) := by
  intro i
  induction i with
  | zero => intro x0 x1 x2 x3 st; exact ww_none
  | succ i ih => intro x0 x1 x2 x3 st; exact t_X6_read_11_b B fu (b_X6_read_11 fu i) ih x0 x1 x2 x3 st
def f_X6_read (fu : Nat) (th : Nat) (p1 : Nat) (st : St) : Option (St) :=
  ck ((kd p1).1 = 9) <|
  cv (f_X9_open fu p1 4000 st) fun s1 =>
  b_X6_read_11 fu fu th p1 0 0  s1
set_option maxHeartbeats 4000000 in
set_option maxRecDepth 100000 in
theorem t_X6_read {X : CX} {res : St} (B : BV X cX6_read RX6 4 9 NN none res) (fu : Nat) (th : Nat) (p1 : Nat) (st : St) : WW X res NN 0 [(0, .ref (x_b X + th)), (1, .ref (x_b X + p1))] [] st (f_X6_read fu th p1 st) := by
  have hX := B.1
  have hL := B.2.1
  unfold f_X6_read
  refine ww_iconst (v := 0) hX rfl dX6_read_0 ?_
  refine ww_istore_n (lv' := [(2, .int 0), (0, .ref (x_b X + th)), (1, .ref (x_b X + p1))]) hX hL dX6_read_1 rfl (by decide) rfl ?_
  refine ww_aload_n hX 2 rfl dX6_read_2 rfl ?_
  refine ww_sipush (v := 4000) hX rfl dX6_read_3 ?_
  refine ww_callVV (As := [.int 4000]) (rest := []) (o := p1) hX (Rk.of B.2.2.1 B.2.2.2.1 (by decide) (by decide)) g_X6_20 g_X6_20.in (fun _ => c_X9_open (x_G X) (x_l X) fu p1 4000 st) rfl rfl (Nat.le_of_ble_eq_true rfl) dX6_read_6 (fun s1 => ?_)
  refine ww_iconst (v := 0) hX rfl dX6_read_9 ?_
  refine ww_istore_n (lv' := [(3, .int 0), (2, .int 0), (0, .ref (x_b X + th)), (1, .ref (x_b X + p1))]) hX hL dX6_read_10 rfl (by decide) rfl ?_
  exact ww_sub [2, 3, 1, 0] rfl (t_X6_read_11 B fu fu th p1 0 0  s1)
theorem c_X6_read (G : GX) (l : Launch) (fu : Nat) (th : Nat) (p1 : Nat) (st : St) : MV G NN l yX6_read cX6_read 4 none 9 [.ref (G.2.2.1 + th), .ref (G.2.2.1 + p1)] st (f_X6_read fu th p1 st) := mkV (by decide) (Nat.le_of_ble_eq_true rfl) (fun X res hl hG B => by subst hl; subst hG; exact t_X6_read B fu th p1 st)
/-! StageHouse$Rig.halt(Z)V -/
def b_X7_halt_33 (fu : Nat)   (st : St) : Option (St) :=
  some st
set_option maxHeartbeats 4000000 in
set_option maxRecDepth 100000 in
theorem t_X7_halt_33 {X : CX} {res : St} (B : BV X cX7_halt RX7 3 1 NN none res) (fu : Nat)   (st : St) : WW X res NN 33 [] [] st (b_X7_halt_33 fu  st) := by
  have hX := B.1
  have hL := B.2.1
  unfold b_X7_halt_33
  exact ww_vret B dX7_halt_33
def b_X7_halt_7_b (fu : Nat) (k_7 : Nat → Int32 → Int32 → St → Option (St)) (x0 : Nat) (x1 : Int32) (x2 : Int32)  (st : St) : Option (St) :=
  if 8 ≤ x2 then (
  b_X7_halt_33 fu   st)
  else (
  if x1 = 0 then (
  b_X7_halt_33 fu   st)
  else (
  ck (¬ gR st x0 0 = 0) <|
  ck ((kd x0).1 = 7) <|
  bd (gR st x0 0) fun o2 =>
  ck (¬ gR st o2 (ix x2) = 0) <|
  ck ((kd o2).1 = 105 ∧ inb x2 (kd o2).2) <|
  bd (gR st o2 (ix x2)) fun o3 =>
  ck ((kd o3).1 = 0) <|
  bd (sI st o3 7 ((-1))) fun s4 =>
  bd (x2 + 1) fun v5 =>
  k_7 x0 x1 v5  s4))
set_option maxHeartbeats 4000000 in
set_option maxRecDepth 100000 in
theorem t_X7_halt_7_b {X : CX} {res : St} (B : BV X cX7_halt RX7 3 1 NN none res) (fu : Nat) (k_7 : Nat → Int32 → Int32 → St → Option (St)) (h_7 : ∀ (x0 : Nat) (x1 : Int32) (x2 : Int32)  (st : St), WW X res NN 7 [(0, .ref (x_b X + x0)), (1, .int x1), (2, .int x2)] [] st (k_7 x0 x1 x2 st)) (x0 : Nat) (x1 : Int32) (x2 : Int32)  (st : St) : WW X res NN 7 [(0, .ref (x_b X + x0)), (1, .int x1), (2, .int x2)] [] st (b_X7_halt_7_b fu k_7 x0 x1 x2 st) := by
  have hX := B.1
  have hL := B.2.1
  unfold b_X7_halt_7_b
  refine ww_iload_n hX 2 rfl dX7_halt_7 rfl ?_
  refine ww_bipush (v := 8) hX rfl dX7_halt_8 ?_
  refine ww_icmp_ge (tgt := 33) hX dX7_halt_10 (by decide) ?_ ?_
  · exact ww_sub [] rfl (t_X7_halt_33 B fu   st)
  · refine ww_iload_n hX 1 rfl dX7_halt_13 rfl ?_
    refine ww_if_eq (tgt := 33) hX dX7_halt_14 (by decide) ?_ ?_
    · exact ww_sub [] rfl (t_X7_halt_33 B fu   st)
    · refine ww_aload_n hX 0 rfl dX7_halt_17 rfl ?_
      refine ww_getR hX f_X7_11 (Or.inr ⟨_, rfl⟩) dX7_halt_18 ?_
      refine ww_bdR (fun o2 => ?_)
      refine ww_iload_n hX 2 rfl dX7_halt_21 rfl ?_
      refine ww_aald105c hX k_aald105 dX7_halt_22 ?_
      refine ww_bdR (fun o3 => ?_)
      refine ww_iconst (v := (-1)) hX rfl dX7_halt_23 ?_
      refine ww_putI hX f_X7_30 rfl dX7_halt_24 ?_
      refine ww_bds (fun s4 => ?_)
      refine ww_iincb (lv' := fun v5 => [(2, .int v5), (0, .ref (x_b X + x0)), (1, .int x1)]) (c := 1) hX hL 2 rfl dX7_halt_27 rfl (by decide) (fun _ => rfl) (fun v5 => ?_)
      refine ww_pc (b := 30) rfl ?_
      refine ww_goto (tgt := 7) hX dX7_halt_30 (by decide) ?_
      exact ww_sub [1, 2, 0] rfl (h_7 x0 x1 v5  s4)
def b_X7_halt_7 (fu : Nat) : Nat → Nat → Int32 → Int32 → St → Option (St)
  | 0, _, _, _, _ => none
  | i + 1, x0, x1, x2, st => b_X7_halt_7_b fu (b_X7_halt_7 fu i) x0 x1 x2 st
theorem t_X7_halt_7 {X : CX} {res : St} (B : BV X cX7_halt RX7 3 1 NN none res) (fu : Nat) : ∀ (i : Nat) (x0 : Nat) (x1 : Int32) (x2 : Int32)  (st : St), WW X res NN 7 [(0, .ref (x_b X + x0)), (1, .int x1), (2, .int x2)] [] st (b_X7_halt_7 fu i x0 x1 x2 st) := by
  intro i
  induction i with
  | zero => intro x0 x1 x2 st; exact ww_none
  | succ i ih => intro x0 x1 x2 st; exact t_X7_halt_7_b B fu (b_X7_halt_7 fu i) ih x0 x1 x2 st
def f_X7_halt (fu : Nat) (th : Nat) (p1 : Int32) (st : St) : Option (St) :=
  ck (isb p1) <|
  ck ((kd th).1 = 7) <|
  bd (sI st th 2 p1) fun s1 =>
  b_X7_halt_7 fu fu th p1 0  s1
set_option maxHeartbeats 4000000 in
set_option maxRecDepth 100000 in
theorem t_X7_halt {X : CX} {res : St} (B : BV X cX7_halt RX7 3 1 NN none res) (fu : Nat) (th : Nat) (p1 : Int32) (st : St) : WW X res NN 0 [(0, .ref (x_b X + th)), (1, .int p1)] [] st (f_X7_halt fu th p1 st) := by
  have hX := B.1
  have hL := B.2.1
  unfold f_X7_halt
  refine ww_aload_n hX 0 rfl dX7_halt_0 rfl ?_
  refine ww_iload_n hX 1 rfl dX7_halt_1 rfl ?_
  refine ww_putZ hX f_X7_26 rfl dX7_halt_2 ?_
  refine ww_bds (fun s1 => ?_)
  refine ww_iconst (v := 0) hX rfl dX7_halt_5 ?_
  refine ww_istore_n (lv' := [(2, .int 0), (0, .ref (x_b X + th)), (1, .int p1)]) hX hL dX7_halt_6 rfl (by decide) rfl ?_
  exact ww_sub [1, 2, 0] rfl (t_X7_halt_7 B fu fu th p1 0  s1)
theorem c_X7_halt (G : GX) (l : Launch) (fu : Nat) (th : Nat) (p1 : Int32) (st : St) : MV G NN l yX7_halt cX7_halt 3 none 1 [.ref (G.2.2.1 + th), .int p1] st (f_X7_halt fu th p1 st) := mkV (by decide) (Nat.le_of_ble_eq_true rfl) (fun X res hl hG B => by subst hl; subst hG; exact t_X7_halt B fu th p1 st)
/-! StageHouse$Rig.refusals()I -/
def b_X7_refusals_4_b (fu : Nat) (k_4 : Nat → Int32 → Int32 → St → Option (Int32 × St)) (x0 : Nat) (x1 : Int32) (x2 : Int32)  (st : St) : Option (Int32 × St) :=
  if 8 ≤ x2 then (
  some (x1, st))
  else (
  ck (¬ gR st x0 0 = 0) <|
  ck ((kd x0).1 = 7) <|
  bd (gR st x0 0) fun o1 =>
  ck (¬ gR st o1 (ix x2) = 0) <|
  ck ((kd o1).1 = 105 ∧ inb x2 (kd o1).2) <|
  bd (gR st o1 (ix x2)) fun o2 =>
  ck ((kd o2).1 = 0) <|
  bd (x1 + (gI st o2 11)) fun v3 =>
  bd (x2 + 1) fun v4 =>
  k_4 x0 v3 v4  st)
set_option maxHeartbeats 4000000 in
set_option maxRecDepth 100000 in
theorem t_X7_refusals_4_b {X : CX} {res : Int32 × St} (B : BI X cX7_refusals RX7 3 1 NN (some .int) res) (fu : Nat) (k_4 : Nat → Int32 → Int32 → St → Option (Int32 × St)) (h_4 : ∀ (x0 : Nat) (x1 : Int32) (x2 : Int32)  (st : St), WW X res NN 4 [(0, .ref (x_b X + x0)), (1, .int x1), (2, .int x2)] [] st (k_4 x0 x1 x2 st)) (x0 : Nat) (x1 : Int32) (x2 : Int32)  (st : St) : WW X res NN 4 [(0, .ref (x_b X + x0)), (1, .int x1), (2, .int x2)] [] st (b_X7_refusals_4_b fu k_4 x0 x1 x2 st) := by
  have hX := B.1
  have hL := B.2.1
  unfold b_X7_refusals_4_b
  refine ww_iload_n hX 2 rfl dX7_refusals_4 rfl ?_
  refine ww_bipush (v := 8) hX rfl dX7_refusals_5 ?_
  refine ww_icmp_ge (tgt := 28) hX dX7_refusals_7 (by decide) ?_ ?_
  · refine ww_iload_n hX 1 rfl dX7_refusals_28 rfl ?_
    exact ww_iret B dX7_refusals_29
  · refine ww_iload_n hX 1 rfl dX7_refusals_10 rfl ?_
    refine ww_aload_n hX 0 rfl dX7_refusals_11 rfl ?_
    refine ww_getR hX f_X7_11 (Or.inr ⟨_, rfl⟩) dX7_refusals_12 ?_
    refine ww_bdR (fun o1 => ?_)
    refine ww_iload_n hX 2 rfl dX7_refusals_15 rfl ?_
    refine ww_aald105c hX k_aald105 dX7_refusals_16 ?_
    refine ww_bdR (fun o2 => ?_)
    refine ww_getI hX f_X7_50 (Or.inl rfl) dX7_refusals_17 ?_
    refine ww_iadd hX dX7_refusals_20 ?_
    refine ww_pc (b := 21) rfl ?_
    refine ww_bdi (fun v3 => ?_)
    refine ww_istore_n (lv' := [(1, .int v3), (0, .ref (x_b X + x0)), (2, .int x2)]) hX hL dX7_refusals_21 rfl (by decide) rfl ?_
    refine ww_iincb (lv' := fun v4 => [(2, .int v4), (1, .int v3), (0, .ref (x_b X + x0))]) (c := 1) hX hL 2 rfl dX7_refusals_22 rfl (by decide) (fun _ => rfl) (fun v4 => ?_)
    refine ww_goto (tgt := 4) hX dX7_refusals_25 (by decide) ?_
    exact ww_sub [2, 1, 0] rfl (h_4 x0 v3 v4  st)
def b_X7_refusals_4 (fu : Nat) : Nat → Nat → Int32 → Int32 → St → Option (Int32 × St)
  | 0, _, _, _, _ => none
  | i + 1, x0, x1, x2, st => b_X7_refusals_4_b fu (b_X7_refusals_4 fu i) x0 x1 x2 st
theorem t_X7_refusals_4 {X : CX} {res : Int32 × St} (B : BI X cX7_refusals RX7 3 1 NN (some .int) res) (fu : Nat) : ∀ (i : Nat) (x0 : Nat) (x1 : Int32) (x2 : Int32)  (st : St), WW X res NN 4 [(0, .ref (x_b X + x0)), (1, .int x1), (2, .int x2)] [] st (b_X7_refusals_4 fu i x0 x1 x2 st) := by
  intro i
  induction i with
  | zero => intro x0 x1 x2 st; exact ww_none
  | succ i ih => intro x0 x1 x2 st; exact t_X7_refusals_4_b B fu (b_X7_refusals_4 fu i) ih x0 x1 x2 st
def f_X7_refusals (fu : Nat) (th : Nat) (st : St) : Option (Int32 × St) :=
  b_X7_refusals_4 fu fu th 0 0  st
set_option maxHeartbeats 4000000 in
set_option maxRecDepth 100000 in
theorem t_X7_refusals {X : CX} {res : Int32 × St} (B : BI X cX7_refusals RX7 3 1 NN (some .int) res) (fu : Nat) (th : Nat) (st : St) : WW X res NN 0 [(0, .ref (x_b X + th))] [] st (f_X7_refusals fu th st) := by
  have hX := B.1
  have hL := B.2.1
  unfold f_X7_refusals
  refine ww_iconst (v := 0) hX rfl dX7_refusals_0 ?_
  refine ww_istore_n (lv' := [(1, .int 0), (0, .ref (x_b X + th))]) hX hL dX7_refusals_1 rfl (by decide) rfl ?_
  refine ww_iconst (v := 0) hX rfl dX7_refusals_2 ?_
  refine ww_istore_n (lv' := [(2, .int 0), (1, .int 0), (0, .ref (x_b X + th))]) hX hL dX7_refusals_3 rfl (by decide) rfl ?_
  exact ww_sub [2, 1, 0] rfl (t_X7_refusals_4 B fu fu th 0 0  st)
theorem c_X7_refusals (G : GX) (l : Launch) (fu : Nat) (th : Nat) (st : St) : MI G NN l yX7_refusals cX7_refusals 3 (some .int) 1 [.ref (G.2.2.1 + th)] st (f_X7_refusals fu th st) := mkI (by decide) (Nat.le_of_ble_eq_true rfl) (fun X res hl hG B => by subst hl; subst hG; exact t_X7_refusals B fu th st)
/-! StageHouse$Rig.step()V -/
def b_X7_step_83 (fu : Nat) (k_47 : Nat → Int32 → St → Option (St)) (x0 : Nat) (x1 : Int32)  (st : St) : Option (St) :=
  bd (x1 + 1) fun v3 =>
  k_47 x0 v3  st
set_option maxHeartbeats 4000000 in
set_option maxRecDepth 100000 in
theorem t_X7_step_83 {X : CX} {res : St} (B : BV X cX7_step RX7 2 4 NN none res) (fu : Nat) (k_47 : Nat → Int32 → St → Option (St)) (h_47 : ∀ (x0 : Nat) (x1 : Int32)  (st : St), WW X res NN 47 [(0, .ref (x_b X + x0)), (1, .int x1)] [] st (k_47 x0 x1 st)) (x0 : Nat) (x1 : Int32)  (st : St) : WW X res NN 83 [(0, .ref (x_b X + x0)), (1, .int x1)] [] st (b_X7_step_83 fu k_47 x0 x1 st) := by
  have hX := B.1
  have hL := B.2.1
  unfold b_X7_step_83
  refine ww_iincb (lv' := fun v3 => [(1, .int v3), (0, .ref (x_b X + x0))]) (c := 1) hX hL 1 rfl dX7_step_83 rfl (by decide) (fun _ => rfl) (fun v3 => ?_)
  refine ww_goto (tgt := 47) hX dX7_step_86 (by decide) ?_
  exact ww_sub [1, 0] rfl (h_47 x0 v3  st)
def b_X7_step_47_b (fu : Nat) (k_47 : Nat → Int32 → St → Option (St)) (x0 : Nat) (x1 : Int32)  (st : St) : Option (St) :=
  if 8 ≤ x1 then (
  some st)
  else (
  ck (¬ gR st x0 0 = 0) <|
  ck ((kd x0).1 = 7) <|
  bd (gR st x0 0) fun o1 =>
  ck (¬ gR st o1 (ix x1) = 0) <|
  ck ((kd o1).1 = 105 ∧ inb x1 (kd o1).2) <|
  bd (gR st o1 (ix x1)) fun o2 =>
  ck ((kd o2).1 = 0) <|
  if (gI st o2 0) = 0 then (
  b_X7_step_83 fu k_47 x0 x1  st)
  else (
  ck (¬ gR st x0 0 = 0) <|
  ck ((kd x0).1 = 7) <|
  bd (gR st x0 0) fun o4 =>
  ck (¬ gR st o4 (ix x1) = 0) <|
  ck ((kd o4).1 = 105 ∧ inb x1 (kd o4).2) <|
  bd (gR st o4 (ix x1)) fun o5 =>
  ck ((kd o5).1 = 0) <|
  cv (f_X0_move fu o5 st) fun s6 =>
  ck (¬ gR s6 x0 0 = 0) <|
  ck ((kd x0).1 = 7) <|
  bd (gR s6 x0 0) fun o7 =>
  ck (¬ gR s6 o7 (ix x1) = 0) <|
  ck ((kd o7).1 = 105 ∧ inb x1 (kd o7).2) <|
  bd (gR s6 o7 (ix x1)) fun o8 =>
  ck ((kd o8).1 = 0) <|
  cv (f_X0_look fu o8 s6) fun s9 =>
  b_X7_step_83 fu k_47 x0 x1  s9))
set_option maxHeartbeats 4000000 in
set_option maxRecDepth 100000 in
theorem t_X7_step_47_b {X : CX} {res : St} (B : BV X cX7_step RX7 2 4 NN none res) (fu : Nat) (k_47 : Nat → Int32 → St → Option (St)) (h_47 : ∀ (x0 : Nat) (x1 : Int32)  (st : St), WW X res NN 47 [(0, .ref (x_b X + x0)), (1, .int x1)] [] st (k_47 x0 x1 st)) (x0 : Nat) (x1 : Int32)  (st : St) : WW X res NN 47 [(0, .ref (x_b X + x0)), (1, .int x1)] [] st (b_X7_step_47_b fu k_47 x0 x1 st) := by
  have hX := B.1
  have hL := B.2.1
  unfold b_X7_step_47_b
  refine ww_iload_n hX 1 rfl dX7_step_47 rfl ?_
  refine ww_bipush (v := 8) hX rfl dX7_step_48 ?_
  refine ww_icmp_ge (tgt := 89) hX dX7_step_50 (by decide) ?_ ?_
  · exact ww_vret B dX7_step_89
  · refine ww_aload_n hX 0 rfl dX7_step_53 rfl ?_
    refine ww_getR hX f_X7_11 (Or.inr ⟨_, rfl⟩) dX7_step_54 ?_
    refine ww_bdR (fun o1 => ?_)
    refine ww_iload_n hX 1 rfl dX7_step_57 rfl ?_
    refine ww_aald105c hX k_aald105 dX7_step_58 ?_
    refine ww_bdR (fun o2 => ?_)
    refine ww_getI hX f_X7_34 (Or.inr rfl) dX7_step_59 ?_
    refine ww_if_eq (tgt := 83) hX dX7_step_62 (by decide) ?_ ?_
    · exact t_X7_step_83 B fu k_47 h_47 x0 x1  st
    · refine ww_aload_n hX 0 rfl dX7_step_65 rfl ?_
      refine ww_getR hX f_X7_11 (Or.inr ⟨_, rfl⟩) dX7_step_66 ?_
      refine ww_bdR (fun o4 => ?_)
      refine ww_iload_n hX 1 rfl dX7_step_69 rfl ?_
      refine ww_aald105c hX k_aald105 dX7_step_70 ?_
      refine ww_bdR (fun o5 => ?_)
      refine ww_callVV (As := []) (rest := []) (o := o5) hX (Rk.of B.2.2.1 B.2.2.2.1 (by decide) (by decide)) g_X7_53 g_X7_53.in (fun _ => c_X0_move (x_G X) (x_l X) fu o5 st) rfl rfl (Nat.le_of_ble_eq_true rfl) dX7_step_71 (fun s6 => ?_)
      refine ww_aload_n hX 0 rfl dX7_step_74 rfl ?_
      refine ww_getR hX f_X7_11 (Or.inr ⟨_, rfl⟩) dX7_step_75 ?_
      refine ww_bdR (fun o7 => ?_)
      refine ww_pc (b := 78) rfl ?_
      refine ww_iload_n hX 1 rfl dX7_step_78 rfl ?_
      refine ww_aald105c hX k_aald105 dX7_step_79 ?_
      refine ww_bdR (fun o8 => ?_)
      refine ww_callVV (As := []) (rest := []) (o := o8) hX (Rk.of B.2.2.1 B.2.2.2.1 (by decide) (by decide)) g_X7_56 g_X7_56.in (fun _ => c_X0_look (x_G X) (x_l X) fu o8 s6) rfl rfl (Nat.le_of_ble_eq_true rfl) dX7_step_80 (fun s9 => ?_)
      exact t_X7_step_83 B fu k_47 h_47 x0 x1  s9
def b_X7_step_47 (fu : Nat) : Nat → Nat → Int32 → St → Option (St)
  | 0, _, _, _ => none
  | i + 1, x0, x1, st => b_X7_step_47_b fu (b_X7_step_47 fu i) x0 x1 st
theorem t_X7_step_47 {X : CX} {res : St} (B : BV X cX7_step RX7 2 4 NN none res) (fu : Nat) : ∀ (i : Nat) (x0 : Nat) (x1 : Int32)  (st : St), WW X res NN 47 [(0, .ref (x_b X + x0)), (1, .int x1)] [] st (b_X7_step_47 fu i x0 x1 st) := by
  intro i
  induction i with
  | zero => intro x0 x1 st; exact ww_none
  | succ i ih => intro x0 x1 st; exact t_X7_step_47_b B fu (b_X7_step_47 fu i) ih x0 x1 st
def b_X7_step_39 (fu : Nat) (k_2 : Nat → Int32 → St → Option (St)) (x0 : Nat) (x1 : Int32)  (st : St) : Option (St) :=
  bd (x1 + 1) fun v12 =>
  k_2 x0 v12  st
set_option maxHeartbeats 4000000 in
set_option maxRecDepth 100000 in
theorem t_X7_step_39 {X : CX} {res : St} (B : BV X cX7_step RX7 2 4 NN none res) (fu : Nat) (k_2 : Nat → Int32 → St → Option (St)) (h_2 : ∀ (x0 : Nat) (x1 : Int32)  (st : St), WW X res NN 2 [(0, .ref (x_b X + x0)), (1, .int x1)] [] st (k_2 x0 x1 st)) (x0 : Nat) (x1 : Int32)  (st : St) : WW X res NN 39 [(0, .ref (x_b X + x0)), (1, .int x1)] [] st (b_X7_step_39 fu k_2 x0 x1 st) := by
  have hX := B.1
  have hL := B.2.1
  unfold b_X7_step_39
  refine ww_iincb (lv' := fun v12 => [(1, .int v12), (0, .ref (x_b X + x0))]) (c := 1) hX hL 1 rfl dX7_step_39 rfl (by decide) (fun _ => rfl) (fun v12 => ?_)
  refine ww_goto (tgt := 2) hX dX7_step_42 (by decide) ?_
  exact ww_sub [1, 0] rfl (h_2 x0 v12  st)
def b_X7_step_2_b (fu : Nat) (k_2 : Nat → Int32 → St → Option (St)) (x0 : Nat) (x1 : Int32)  (st : St) : Option (St) :=
  if 8 ≤ x1 then (
  b_X7_step_47 fu fu x0 0  st)
  else (
  ck (¬ gR st x0 0 = 0) <|
  ck ((kd x0).1 = 7) <|
  bd (gR st x0 0) fun o10 =>
  ck (¬ gR st o10 (ix x1) = 0) <|
  ck ((kd o10).1 = 105 ∧ inb x1 (kd o10).2) <|
  bd (gR st o10 (ix x1)) fun o11 =>
  ck ((kd o11).1 = 0) <|
  if (gI st o11 7) = ((-1)) then (
  b_X7_step_39 fu k_2 x0 x1  st)
  else (
  ck ((kd x0).1 = 7) <|
  ca (f_X7_lockTrue fu x0 x1 st) fun r13 s14 =>
  if r13 = 0 then (
  ck (¬ gR s14 x0 0 = 0) <|
  ck ((kd x0).1 = 7) <|
  bd (gR s14 x0 0) fun o15 =>
  ck (¬ gR s14 o15 (ix x1) = 0) <|
  ck ((kd o15).1 = 105 ∧ inb x1 (kd o15).2) <|
  bd (gR s14 o15 (ix x1)) fun o16 =>
  ck ((kd o16).1 = 0) <|
  bd (sI s14 o16 7 ((-1))) fun s17 =>
  b_X7_step_39 fu k_2 x0 x1  s17)
  else (
  b_X7_step_39 fu k_2 x0 x1  s14)))
set_option maxHeartbeats 4000000 in
set_option maxRecDepth 100000 in
theorem t_X7_step_2_b {X : CX} {res : St} (B : BV X cX7_step RX7 2 4 NN none res) (fu : Nat) (k_2 : Nat → Int32 → St → Option (St)) (h_2 : ∀ (x0 : Nat) (x1 : Int32)  (st : St), WW X res NN 2 [(0, .ref (x_b X + x0)), (1, .int x1)] [] st (k_2 x0 x1 st)) (x0 : Nat) (x1 : Int32)  (st : St) : WW X res NN 2 [(0, .ref (x_b X + x0)), (1, .int x1)] [] st (b_X7_step_2_b fu k_2 x0 x1 st) := by
  have hX := B.1
  have hL := B.2.1
  unfold b_X7_step_2_b
  refine ww_iload_n hX 1 rfl dX7_step_2 rfl ?_
  refine ww_bipush (v := 8) hX rfl dX7_step_3 ?_
  refine ww_icmp_ge (tgt := 45) hX dX7_step_5 (by decide) ?_ ?_
  · refine ww_iconst (v := 0) hX rfl dX7_step_45 ?_
    refine ww_istore_n (lv' := [(1, .int 0), (0, .ref (x_b X + x0))]) hX hL dX7_step_46 rfl (by decide) rfl ?_
    exact ww_sub [1, 0] rfl (t_X7_step_47 B fu fu x0 0  st)
  · refine ww_aload_n hX 0 rfl dX7_step_8 rfl ?_
    refine ww_getR hX f_X7_11 (Or.inr ⟨_, rfl⟩) dX7_step_9 ?_
    refine ww_bdR (fun o10 => ?_)
    refine ww_iload_n hX 1 rfl dX7_step_12 rfl ?_
    refine ww_aald105c hX k_aald105 dX7_step_13 ?_
    refine ww_bdR (fun o11 => ?_)
    refine ww_getI hX f_X7_30 (Or.inl rfl) dX7_step_14 ?_
    refine ww_iconst (v := (-1)) hX rfl dX7_step_17 ?_
    refine ww_icmp_eq (tgt := 39) hX dX7_step_18 (by decide) ?_ ?_
    · exact t_X7_step_39 B fu k_2 h_2 x0 x1  st
    · refine ww_aload_n hX 0 rfl dX7_step_21 rfl ?_
      refine ww_iload_n hX 1 rfl dX7_step_22 rfl ?_
      refine ww_callVI (As := [.int x1]) (rest := []) (o := x0) hX (Rk.of B.2.2.1 B.2.2.2.1 (by decide) (by decide)) g_X7_46 g_X7_46.in (fun _ => c_X7_lockTrue (x_G X) (x_l X) fu x0 x1 st) rfl rfl (Nat.le_of_ble_eq_true rfl) dX7_step_23 (fun r13 s14 => ?_)
      refine ww_if_ne (tgt := 39) hX dX7_step_26 (by decide) ?_ ?_
      · exact t_X7_step_39 B fu k_2 h_2 x0 x1  s14
      · refine ww_aload_n hX 0 rfl dX7_step_29 rfl ?_
        refine ww_getR hX f_X7_11 (Or.inr ⟨_, rfl⟩) dX7_step_30 ?_
        refine ww_bdR (fun o15 => ?_)
        refine ww_iload_n hX 1 rfl dX7_step_33 rfl ?_
        refine ww_aald105c hX k_aald105 dX7_step_34 ?_
        refine ww_bdR (fun o16 => ?_)
        refine ww_iconst (v := (-1)) hX rfl dX7_step_35 ?_
        refine ww_putI hX f_X7_30 rfl dX7_step_36 ?_
        refine ww_bds (fun s17 => ?_)
        exact t_X7_step_39 B fu k_2 h_2 x0 x1  s17
def b_X7_step_2 (fu : Nat) : Nat → Nat → Int32 → St → Option (St)
  | 0, _, _, _ => none
  | i + 1, x0, x1, st => b_X7_step_2_b fu (b_X7_step_2 fu i) x0 x1 st
theorem t_X7_step_2 {X : CX} {res : St} (B : BV X cX7_step RX7 2 4 NN none res) (fu : Nat) : ∀ (i : Nat) (x0 : Nat) (x1 : Int32)  (st : St), WW X res NN 2 [(0, .ref (x_b X + x0)), (1, .int x1)] [] st (b_X7_step_2 fu i x0 x1 st) := by
  intro i
  induction i with
  | zero => intro x0 x1 st; exact ww_none
  | succ i ih => intro x0 x1 st; exact t_X7_step_2_b B fu (b_X7_step_2 fu i) ih x0 x1 st
def f_X7_step (fu : Nat) (th : Nat) (st : St) : Option (St) :=
  b_X7_step_2 fu fu th 0  st
set_option maxHeartbeats 4000000 in
set_option maxRecDepth 100000 in
theorem t_X7_step {X : CX} {res : St} (B : BV X cX7_step RX7 2 4 NN none res) (fu : Nat) (th : Nat) (st : St) : WW X res NN 0 [(0, .ref (x_b X + th))] [] st (f_X7_step fu th st) := by
  have hX := B.1
  have hL := B.2.1
  unfold f_X7_step
  refine ww_iconst (v := 0) hX rfl dX7_step_0 ?_
  refine ww_istore_n (lv' := [(1, .int 0), (0, .ref (x_b X + th))]) hX hL dX7_step_1 rfl (by decide) rfl ?_
  exact ww_sub [1, 0] rfl (t_X7_step_2 B fu fu th 0  st)
theorem c_X7_step (G : GX) (l : Launch) (fu : Nat) (th : Nat) (st : St) : MV G NN l yX7_step cX7_step 2 none 4 [.ref (G.2.2.1 + th)] st (f_X7_step fu th st) := mkV (by decide) (Nat.le_of_ble_eq_true rfl) (fun X res hl hG B => by subst hl; subst hG; exact t_X7_step B fu th st)
/-! StageHouse$Rig.emit(III)V -/
def b_X7_emit_38 (fu : Nat)   (st : St) : Option (St) :=
  some st
set_option maxHeartbeats 4000000 in
set_option maxRecDepth 100000 in
theorem t_X7_emit_38 {X : CX} {res : St} (B : BV X cX7_emit RX7 4 1 NN none res) (fu : Nat)   (st : St) : WW X res NN 38 [] [] st (b_X7_emit_38 fu  st) := by
  have hX := B.1
  have hL := B.2.1
  unfold b_X7_emit_38
  exact ww_vret B dX7_emit_38
def f_X7_emit (fu : Nat) (th : Nat) (p1 : Int32) (p2 : Int32) (p3 : Int32) (st : St) : Option (St) :=
  ck ((kd th).1 = 7) <|
  if 60 ≤ (gI st th 4) then (
  b_X7_emit_38 fu   st)
  else (
  ck (¬ gR st th 3 = 0) <|
  ck ((kd th).1 = 7) <|
  bd (gR st th 3) fun o1 =>
  ck ((kd th).1 = 7) <|
  ck ((kd o1).1 = 100 ∧ inb (gI st th 4) (kd o1).2) <|
  bd (sI st o1 (ix (gI st th 4)) ((p1 ||| (p2 <<< (3 &&& 31))) ||| (p3 <<< (7 &&& 31)))) fun s2 =>
  ck ((kd th).1 = 7) <|
  ck ((kd th).1 = 7) <|
  bd (sI s2 th 4 ((gI s2 th 4) + 1)) fun s3 =>
  b_X7_emit_38 fu   s3)
set_option maxHeartbeats 4000000 in
set_option maxRecDepth 100000 in
theorem t_X7_emit {X : CX} {res : St} (B : BV X cX7_emit RX7 4 1 NN none res) (fu : Nat) (th : Nat) (p1 : Int32) (p2 : Int32) (p3 : Int32) (st : St) : WW X res NN 0 [(0, .ref (x_b X + th)), (1, .int p1), (2, .int p2), (3, .int p3)] [] st (f_X7_emit fu th p1 p2 p3 st) := by
  have hX := B.1
  have hL := B.2.1
  unfold f_X7_emit
  refine ww_aload_n hX 0 rfl dX7_emit_0 rfl ?_
  refine ww_getI hX f_X7_76 (Or.inl rfl) dX7_emit_1 ?_
  refine ww_bipush (v := 60) hX rfl dX7_emit_4 ?_
  refine ww_icmp_ge (tgt := 38) hX dX7_emit_6 (by decide) ?_ ?_
  · exact ww_sub [] rfl (t_X7_emit_38 B fu   st)
  · refine ww_aload_n hX 0 rfl dX7_emit_9 rfl ?_
    refine ww_getR hX f_X7_21 (Or.inr ⟨_, rfl⟩) dX7_emit_10 ?_
    refine ww_bdR (fun o1 => ?_)
    refine ww_aload_n hX 0 rfl dX7_emit_13 rfl ?_
    refine ww_getI hX f_X7_76 (Or.inl rfl) dX7_emit_14 ?_
    refine ww_iload_n hX 1 rfl dX7_emit_17 rfl ?_
    refine ww_iload_n hX 2 rfl dX7_emit_18 rfl ?_
    refine ww_iconst (v := 3) hX rfl dX7_emit_19 ?_
    refine ww_pc (b := 20) rfl ?_
    refine ww_ishl hX dX7_emit_20 ?_
    refine ww_ior hX dX7_emit_21 ?_
    refine ww_iload_n hX 3 rfl dX7_emit_22 rfl ?_
    refine ww_bipush (v := 7) hX rfl dX7_emit_23 ?_
    refine ww_ishl hX dX7_emit_25 ?_
    refine ww_ior hX dX7_emit_26 ?_
    refine ww_iastc hX k_iast dX7_emit_27 ?_
    refine ww_bds (fun s2 => ?_)
    refine ww_aload_n hX 0 rfl dX7_emit_28 rfl ?_
    refine ww_pc (b := 29) rfl ?_
    refine ww_dup hX rfl dX7_emit_29 ?_
    refine ww_getI hX f_X7_76 (Or.inl rfl) dX7_emit_30 ?_
    refine ww_iconst (v := 1) hX rfl dX7_emit_33 ?_
    refine ww_iadd hX dX7_emit_34 ?_
    refine ww_putI hX f_X7_76 rfl dX7_emit_35 ?_
    refine ww_bds (fun s3 => ?_)
    exact ww_sub [] rfl (t_X7_emit_38 B fu   s3)
theorem c_X7_emit (G : GX) (l : Launch) (fu : Nat) (th : Nat) (p1 : Int32) (p2 : Int32) (p3 : Int32) (st : St) : MV G NN l yX7_emit cX7_emit 4 none 1 [.ref (G.2.2.1 + th), .int p1, .int p2, .int p3] st (f_X7_emit fu th p1 p2 p3 st) := mkV (by decide) (Nat.le_of_ble_eq_true rfl) (fun X res hl hG B => by subst hl; subst hG; exact t_X7_emit B fu th p1 p2 p3 st)
/-! StageHouse$Rig.readTerm(LStageHouse$Tape;)V -/
def b_X7_readTerm_118 (fu : Nat)   (st : St) : Option (St) :=
  some st
set_option maxHeartbeats 4000000 in
set_option maxRecDepth 100000 in
theorem t_X7_readTerm_118 {X : CX} {res : St} (B : BV X cX7_readTerm RX7 4 7 NN none res) (fu : Nat)   (st : St) : WW X res NN 118 [] [] st (b_X7_readTerm_118 fu  st) := by
  have hX := B.1
  have hL := B.2.1
  unfold b_X7_readTerm_118
  exact ww_vret B dX7_readTerm_118
def b_X7_readTerm_44 (fu : Nat) (x1 : Nat) (x2 : Int32) (y0 : Nat) (y1 : Int32) (st : St) : Option (St) :=
  ck ((kd x1).1 = 9) <|
  ca (f_X9_number fu x1 0 99999 st) fun r18 s19 =>
  ck ((kd y0).1 = 7) <|
  cv (f_X7_emit fu y0 y1 x2 r18 s19) fun s20 =>
  b_X7_readTerm_118 fu   s20
set_option maxHeartbeats 4000000 in
set_option maxRecDepth 100000 in
theorem t_X7_readTerm_44 {X : CX} {res : St} (B : BV X cX7_readTerm RX7 4 7 NN none res) (fu : Nat) (x1 : Nat) (x2 : Int32) (y0 : Nat) (y1 : Int32) (st : St) : WW X res NN 44 [(1, .ref (x_b X + x1)), (2, .int x2)] [.int y1, .ref (x_b X + y0)] st (b_X7_readTerm_44 fu x1 x2 y0 y1 st) := by
  have hX := B.1
  have hL := B.2.1
  unfold b_X7_readTerm_44
  refine ww_iload_n hX 1 rfl dX7_readTerm_44 rfl ?_
  refine ww_aload_n hX 0 rfl dX7_readTerm_45 rfl ?_
  refine ww_iconst (v := 0) hX rfl dX7_readTerm_46 ?_
  refine ww_ldc (v := 99999) hX k_X7_137 dX7_readTerm_47 ?_
  refine ww_callVI (As := [.int 0, .int 99999]) (rest := [.int x2, .int y1, .ref (x_b X + y0)]) (o := x1) hX (Rk.of B.2.2.1 B.2.2.2.1 (by decide) (by decide)) g_X7_133 g_X7_133.in (fun _ => c_X9_number (x_G X) (x_l X) fu x1 0 99999 st) rfl rfl (Nat.le_of_ble_eq_true rfl) dX7_readTerm_49 (fun r18 s19 => ?_)
  refine ww_callVV (As := [.int y1, .int x2, .int r18]) (rest := []) (o := y0) hX (Rk.of B.2.2.1 B.2.2.2.1 (by decide) (by decide)) g_X7_109 g_X7_109.in (fun _ => c_X7_emit (x_G X) (x_l X) fu y0 y1 x2 r18 s19) rfl rfl (Nat.le_of_ble_eq_true rfl) dX7_readTerm_52 (fun s20 => ?_)
  refine ww_goto (tgt := 118) hX dX7_readTerm_55 (by decide) ?_
  exact ww_sub [] rfl (t_X7_readTerm_118 B fu   s20)
def b_X7_readTerm_34 (fu : Nat) (x0 : Nat) (x1 : Nat) (x2 : Int32) (x3 : Int32)  (st : St) : Option (St) :=
  if x3 = 0 then (
  b_X7_readTerm_44 fu x1 x2 x0 4 st)
  else (
  b_X7_readTerm_44 fu x1 x2 x0 3 st)
set_option maxHeartbeats 4000000 in
set_option maxRecDepth 100000 in
theorem t_X7_readTerm_34 {X : CX} {res : St} (B : BV X cX7_readTerm RX7 4 7 NN none res) (fu : Nat) (x0 : Nat) (x1 : Nat) (x2 : Int32) (x3 : Int32)  (st : St) : WW X res NN 34 [(0, .ref (x_b X + x0)), (1, .ref (x_b X + x1)), (2, .int x2), (3, .int x3)] [] st (b_X7_readTerm_34 fu x0 x1 x2 x3 st) := by
  have hX := B.1
  have hL := B.2.1
  unfold b_X7_readTerm_34
  refine ww_aload_n hX 0 rfl dX7_readTerm_34 rfl ?_
  refine ww_iload_n hX 3 rfl dX7_readTerm_35 rfl ?_
  refine ww_if_eq (tgt := 43) hX dX7_readTerm_36 (by decide) ?_ ?_
  · refine ww_iconst (v := 4) hX rfl dX7_readTerm_43 ?_
    exact ww_sub [1, 2] rfl (t_X7_readTerm_44 B fu x1 x2 x0 4 st)
  · refine ww_iconst (v := 3) hX rfl dX7_readTerm_39 ?_
    refine ww_goto (tgt := 44) hX dX7_readTerm_40 (by decide) ?_
    exact ww_sub [1, 2] rfl (t_X7_readTerm_44 B fu x1 x2 x0 3 st)
def f_X7_readTerm (fu : Nat) (th : Nat) (p1 : Nat) (st : St) : Option (St) :=
  ck ((kd p1).1 = 9) <|
  ca (f_X9_takesWord fu p1 9 st) fun r1 s2 =>
  if r1 = 0 then (
  ck ((kd p1).1 = 9) <|
  ca (f_X9_takesWord fu p1 16 s2) fun r3 s4 =>
  if r3 = 0 then (
  ck ((kd p1).1 = 9) <|
  ca (f_X9_takesWord fu p1 17 s4) fun r5 s6 =>
  if r5 = 0 then (
  ck ((kd p1).1 = 9) <|
  ck ((kd p1).1 = 9) <|
  cv (f_X9_fail fu p1 1 (gI s6 p1 3) s6) fun s7 =>
  b_X7_readTerm_118 fu   s7)
  else (
  ck ((kd p1).1 = 9) <|
  ca (f_X9_number fu p1 0 15 s6) fun r8 s9 =>
  ck ((kd th).1 = 7) <|
  cv (f_X7_emit fu th 6 r8 0 s9) fun s10 =>
  b_X7_readTerm_118 fu   s10))
  else (
  ck ((kd p1).1 = 9) <|
  ca (f_X9_number fu p1 0 7 s4) fun r11 s12 =>
  ck ((kd th).1 = 7) <|
  cv (f_X7_emit fu th 5 r11 0 s12) fun s13 =>
  b_X7_readTerm_118 fu   s13))
  else (
  ck ((kd p1).1 = 9) <|
  ca (f_X9_number fu p1 0 7 s2) fun r14 s15 =>
  ck ((kd p1).1 = 9) <|
  ca (f_X9_takes fu p1 60 s15) fun r16 s17 =>
  if r16 = 0 then (
  ck ((kd p1).1 = 9) <|
  cv (f_X9_need fu p1 62 s17) fun s21 =>
  b_X7_readTerm_34 fu th p1 r14 r16  s21)
  else (
  b_X7_readTerm_34 fu th p1 r14 r16  s17))
set_option maxHeartbeats 4000000 in
set_option maxRecDepth 100000 in
theorem t_X7_readTerm {X : CX} {res : St} (B : BV X cX7_readTerm RX7 4 7 NN none res) (fu : Nat) (th : Nat) (p1 : Nat) (st : St) : WW X res NN 0 [(0, .ref (x_b X + th)), (1, .ref (x_b X + p1))] [] st (f_X7_readTerm fu th p1 st) := by
  have hX := B.1
  have hL := B.2.1
  unfold f_X7_readTerm
  refine ww_aload_n hX 1 rfl dX7_readTerm_0 rfl ?_
  refine ww_ldcS (q := 16) hX rfl dX7_readTerm_1 ?_
  refine ww_callVI (As := [.ref ((x_K X).1 9)]) (rest := []) (o := p1) hX (Rk.of B.2.2.1 B.2.2.2.1 (by decide) (by decide)) g_X7_129 g_X7_129.in (fun _ => c_X9_takesWord (x_G X) (x_l X) fu p1 9 st) rfl rfl (Nat.le_of_ble_eq_true rfl) dX7_readTerm_3 (fun r1 s2 => ?_)
  refine ww_if_eq (tgt := 58) hX dX7_readTerm_6 (by decide) ?_ ?_
  · refine ww_aload_n hX 1 rfl dX7_readTerm_58 rfl ?_
    refine ww_ldcS (q := 17) hX rfl dX7_readTerm_59 ?_
    refine ww_callVI (As := [.ref ((x_K X).1 16)]) (rest := []) (o := p1) hX (Rk.of B.2.2.1 B.2.2.2.1 (by decide) (by decide)) g_X7_129 g_X7_129.in (fun _ => c_X9_takesWord (x_G X) (x_l X) fu p1 16 s2) rfl rfl (Nat.le_of_ble_eq_true rfl) dX7_readTerm_61 (fun r3 s4 => ?_)
    refine ww_if_eq (tgt := 83) hX dX7_readTerm_64 (by decide) ?_ ?_
    · refine ww_aload_n hX 1 rfl dX7_readTerm_83 rfl ?_
      refine ww_ldcS (q := 18) hX rfl dX7_readTerm_84 ?_
      refine ww_callVI (As := [.ref ((x_K X).1 17)]) (rest := []) (o := p1) hX (Rk.of B.2.2.1 B.2.2.2.1 (by decide) (by decide)) g_X7_129 g_X7_129.in (fun _ => c_X9_takesWord (x_G X) (x_l X) fu p1 17 s4) rfl rfl (Nat.le_of_ble_eq_true rfl) dX7_readTerm_86 (fun r5 s6 => ?_)
      refine ww_if_eq (tgt := 109) hX dX7_readTerm_89 (by decide) ?_ ?_
      · refine ww_aload_n hX 1 rfl dX7_readTerm_109 rfl ?_
        refine ww_iconst (v := 1) hX rfl dX7_readTerm_110 ?_
        refine ww_aload_n hX 1 rfl dX7_readTerm_111 rfl ?_
        refine ww_getI hX f_X7_92 (Or.inl rfl) dX7_readTerm_112 ?_
        refine ww_callVV (As := [.int 1, .int (gI s6 p1 3)]) (rest := []) (o := p1) hX (Rk.of B.2.2.1 B.2.2.2.1 (by decide) (by decide)) g_X7_95 g_X7_95.in (fun _ => c_X9_fail (x_G X) (x_l X) fu p1 1 (gI s6 p1 3) s6) rfl rfl (Nat.le_of_ble_eq_true rfl) dX7_readTerm_115 (fun s7 => ?_)
        exact ww_sub [] rfl (t_X7_readTerm_118 B fu   s7)
      · refine ww_aload_n hX 0 rfl dX7_readTerm_92 rfl ?_
        refine ww_bipush (v := 6) hX rfl dX7_readTerm_93 ?_
        refine ww_aload_n hX 1 rfl dX7_readTerm_95 rfl ?_
        refine ww_iconst (v := 0) hX rfl dX7_readTerm_96 ?_
        refine ww_bipush (v := 15) hX rfl dX7_readTerm_97 ?_
        refine ww_callVI (As := [.int 0, .int 15]) (rest := [.int 6, .ref (x_b X + th)]) (o := p1) hX (Rk.of B.2.2.1 B.2.2.2.1 (by decide) (by decide)) g_X7_133 g_X7_133.in (fun _ => c_X9_number (x_G X) (x_l X) fu p1 0 15 s6) rfl rfl (Nat.le_of_ble_eq_true rfl) dX7_readTerm_99 (fun r8 s9 => ?_)
        refine ww_iconst (v := 0) hX rfl dX7_readTerm_102 ?_
        refine ww_pc (b := 103) rfl ?_
        refine ww_callVV (As := [.int 6, .int r8, .int 0]) (rest := []) (o := th) hX (Rk.of B.2.2.1 B.2.2.2.1 (by decide) (by decide)) g_X7_109 g_X7_109.in (fun _ => c_X7_emit (x_G X) (x_l X) fu th 6 r8 0 s9) rfl rfl (Nat.le_of_ble_eq_true rfl) dX7_readTerm_103 (fun s10 => ?_)
        refine ww_goto (tgt := 118) hX dX7_readTerm_106 (by decide) ?_
        exact ww_sub [] rfl (t_X7_readTerm_118 B fu   s10)
    · refine ww_aload_n hX 0 rfl dX7_readTerm_67 rfl ?_
      refine ww_iconst (v := 5) hX rfl dX7_readTerm_68 ?_
      refine ww_aload_n hX 1 rfl dX7_readTerm_69 rfl ?_
      refine ww_iconst (v := 0) hX rfl dX7_readTerm_70 ?_
      refine ww_bipush (v := 7) hX rfl dX7_readTerm_71 ?_
      refine ww_callVI (As := [.int 0, .int 7]) (rest := [.int 5, .ref (x_b X + th)]) (o := p1) hX (Rk.of B.2.2.1 B.2.2.2.1 (by decide) (by decide)) g_X7_133 g_X7_133.in (fun _ => c_X9_number (x_G X) (x_l X) fu p1 0 7 s4) rfl rfl (Nat.le_of_ble_eq_true rfl) dX7_readTerm_73 (fun r11 s12 => ?_)
      refine ww_iconst (v := 0) hX rfl dX7_readTerm_76 ?_
      refine ww_pc (b := 77) rfl ?_
      refine ww_callVV (As := [.int 5, .int r11, .int 0]) (rest := []) (o := th) hX (Rk.of B.2.2.1 B.2.2.2.1 (by decide) (by decide)) g_X7_109 g_X7_109.in (fun _ => c_X7_emit (x_G X) (x_l X) fu th 5 r11 0 s12) rfl rfl (Nat.le_of_ble_eq_true rfl) dX7_readTerm_77 (fun s13 => ?_)
      refine ww_goto (tgt := 118) hX dX7_readTerm_80 (by decide) ?_
      exact ww_sub [] rfl (t_X7_readTerm_118 B fu   s13)
  · refine ww_aload_n hX 1 rfl dX7_readTerm_9 rfl ?_
    refine ww_iconst (v := 0) hX rfl dX7_readTerm_10 ?_
    refine ww_bipush (v := 7) hX rfl dX7_readTerm_11 ?_
    refine ww_callVI (As := [.int 0, .int 7]) (rest := []) (o := p1) hX (Rk.of B.2.2.1 B.2.2.2.1 (by decide) (by decide)) g_X7_133 g_X7_133.in (fun _ => c_X9_number (x_G X) (x_l X) fu p1 0 7 s2) rfl rfl (Nat.le_of_ble_eq_true rfl) dX7_readTerm_13 (fun r14 s15 => ?_)
    refine ww_istore_n (lv' := [(2, .int r14), (0, .ref (x_b X + th)), (1, .ref (x_b X + p1))]) hX hL dX7_readTerm_16 rfl (by decide) rfl ?_
    refine ww_aload_n hX 2 rfl dX7_readTerm_17 rfl ?_
    refine ww_bipush (v := 60) hX rfl dX7_readTerm_18 ?_
    refine ww_pc (b := 20) rfl ?_
    refine ww_callVI (As := [.int 60]) (rest := []) (o := p1) hX (Rk.of B.2.2.1 B.2.2.2.1 (by decide) (by decide)) g_X7_105 g_X7_105.in (fun _ => c_X9_takes (x_G X) (x_l X) fu p1 60 s15) rfl rfl (Nat.le_of_ble_eq_true rfl) dX7_readTerm_20 (fun r16 s17 => ?_)
    refine ww_istore_n (lv' := [(3, .int r16), (2, .int r14), (0, .ref (x_b X + th)), (1, .ref (x_b X + p1))]) hX hL dX7_readTerm_23 rfl (by decide) rfl ?_
    refine ww_iload_n hX 0 rfl dX7_readTerm_24 rfl ?_
    refine ww_if_ne (tgt := 34) hX dX7_readTerm_25 (by decide) ?_ ?_
    · exact ww_sub [2, 3, 1, 0] rfl (t_X7_readTerm_34 B fu th p1 r14 r16  s17)
    · refine ww_aload_n hX 3 rfl dX7_readTerm_28 rfl ?_
      refine ww_bipush (v := 62) hX rfl dX7_readTerm_29 ?_
      refine ww_callVV (As := [.int 62]) (rest := []) (o := p1) hX (Rk.of B.2.2.1 B.2.2.2.1 (by decide) (by decide)) g_X7_123 g_X7_123.in (fun _ => c_X9_need (x_G X) (x_l X) fu p1 62 s17) rfl rfl (Nat.le_of_ble_eq_true rfl) dX7_readTerm_31 (fun s21 => ?_)
      exact ww_sub [2, 3, 1, 0] rfl (t_X7_readTerm_34 B fu th p1 r14 r16  s21)
theorem c_X7_readTerm (G : GX) (l : Launch) (fu : Nat) (th : Nat) (p1 : Nat) (st : St) : MV G NN l yX7_readTerm cX7_readTerm 4 none 7 [.ref (G.2.2.1 + th), .ref (G.2.2.1 + p1)] st (f_X7_readTerm fu th p1 st) := mkV (by decide) (Nat.le_of_ble_eq_true rfl) (fun X res hl hG B => by subst hl; subst hG; exact t_X7_readTerm B fu th p1 st)
/-! StageHouse$Rig.readOr(LStageHouse$Tape;I)V -/
/-! StageHouse$Rig.readOr(LStageHouse$Tape;I)V -/
def b_X7_readOr_80 (fu : Nat) (r_X7_readOr : Nat → Nat → Int32 → St → Option (St)) (r_X7_readNot : Nat → Nat → Int32 → St → Option (St))   (st : St) : Option (St) :=
  some st
set_option maxHeartbeats 4000000 in
set_option maxRecDepth 100000 in
theorem t_X7_readOr_80 {X : CX} {d : Nat} {res : St} (B : BV X cX7_readOr RX7 5 (7 + (d + 1)) NN none res) (fu : Nat) (r_X7_readOr : Nat → Nat → Int32 → St → Option (St)) (r_X7_readNot : Nat → Nat → Int32 → St → Option (St)) (h_X7_readOr : ∀ (th : Nat) (p1 : Nat) (p2 : Int32) (st : St), MV (x_G X) NN (x_l X) yX7_readOr cX7_readOr 5 none (7 + d) [.ref (x_b X + th), .ref (x_b X + p1), .int p2] st (r_X7_readOr th p1 p2 st)) (h_X7_readNot : ∀ (th : Nat) (p1 : Nat) (p2 : Int32) (st : St), MV (x_G X) NN (x_l X) yX7_readNot cX7_readNot 3 none (7 + d) [.ref (x_b X + th), .ref (x_b X + p1), .int p2] st (r_X7_readNot th p1 p2 st))   (st : St) : WW X res NN 80 [] [] st (b_X7_readOr_80 fu r_X7_readOr r_X7_readNot  st) := by
  have hX := B.1
  have hL := B.2.1
  unfold b_X7_readOr_80
  exact ww_vret B dX7_readOr_80
def b_X7_readOr_74 (fu : Nat) (r_X7_readOr : Nat → Nat → Int32 → St → Option (St)) (r_X7_readNot : Nat → Nat → Int32 → St → Option (St)) (k_11 : Nat → Nat → Int32 → Int32 → Int32 → St → Option (St)) (x0 : Nat) (x1 : Nat) (x2 : Int32) (x3 : Int32) (x4 : Int32)  (st : St) : Option (St) :=
  bd (x4 + 1) fun v7 =>
  k_11 x0 x1 x2 x3 v7  st
set_option maxHeartbeats 4000000 in
set_option maxRecDepth 100000 in
theorem t_X7_readOr_74 {X : CX} {d : Nat} {res : St} (B : BV X cX7_readOr RX7 5 (7 + (d + 1)) NN none res) (fu : Nat) (r_X7_readOr : Nat → Nat → Int32 → St → Option (St)) (r_X7_readNot : Nat → Nat → Int32 → St → Option (St)) (h_X7_readOr : ∀ (th : Nat) (p1 : Nat) (p2 : Int32) (st : St), MV (x_G X) NN (x_l X) yX7_readOr cX7_readOr 5 none (7 + d) [.ref (x_b X + th), .ref (x_b X + p1), .int p2] st (r_X7_readOr th p1 p2 st)) (h_X7_readNot : ∀ (th : Nat) (p1 : Nat) (p2 : Int32) (st : St), MV (x_G X) NN (x_l X) yX7_readNot cX7_readNot 3 none (7 + d) [.ref (x_b X + th), .ref (x_b X + p1), .int p2] st (r_X7_readNot th p1 p2 st)) (k_11 : Nat → Nat → Int32 → Int32 → Int32 → St → Option (St)) (h_11 : ∀ (x0 : Nat) (x1 : Nat) (x2 : Int32) (x3 : Int32) (x4 : Int32)  (st : St), WW X res NN 11 [(0, .ref (x_b X + x0)), (1, .ref (x_b X + x1)), (2, .int x2), (3, .int x3), (4, .int x4)] [] st (k_11 x0 x1 x2 x3 x4 st)) (x0 : Nat) (x1 : Nat) (x2 : Int32) (x3 : Int32) (x4 : Int32)  (st : St) : WW X res NN 74 [(0, .ref (x_b X + x0)), (1, .ref (x_b X + x1)), (2, .int x2), (3, .int x3), (4, .int x4)] [] st (b_X7_readOr_74 fu r_X7_readOr r_X7_readNot k_11 x0 x1 x2 x3 x4 st) := by
  have hX := B.1
  have hL := B.2.1
  unfold b_X7_readOr_74
  refine ww_iincb (lv' := fun v7 => [(4, .int v7), (0, .ref (x_b X + x0)), (1, .ref (x_b X + x1)), (2, .int x2), (3, .int x3)]) (c := 1) hX hL 4 rfl dX7_readOr_74 rfl (by decide) (fun _ => rfl) (fun v7 => ?_)
  refine ww_goto (tgt := 11) hX dX7_readOr_77 (by decide) ?_
  exact ww_sub [1, 2, 3, 4, 0] rfl (h_11 x0 x1 x2 x3 v7  st)
def b_X7_readOr_54 (fu : Nat) (r_X7_readOr : Nat → Nat → Int32 → St → Option (St)) (r_X7_readNot : Nat → Nat → Int32 → St → Option (St)) (k_11 : Nat → Nat → Int32 → Int32 → Int32 → St → Option (St)) (x0 : Nat) (x1 : Nat) (x2 : Int32) (x4 : Int32)  (st : St) : Option (St) :=
  ck ((kd x1).1 = 9) <|
  ca (f_X9_takes fu x1 124 st) fun r4 s5 =>
  if r4 = 0 then (
  b_X7_readOr_80 fu r_X7_readOr r_X7_readNot   s5)
  else (
  ck ((kd x0).1 = 7) <|
  cv (r_X7_readNot x0 x1 x2 s5) fun s6 =>
  b_X7_readOr_74 fu r_X7_readOr r_X7_readNot k_11 x0 x1 x2 r4 x4  s6)
set_option maxHeartbeats 4000000 in
set_option maxRecDepth 100000 in
theorem t_X7_readOr_54 {X : CX} {d : Nat} {res : St} (B : BV X cX7_readOr RX7 5 (7 + (d + 1)) NN none res) (fu : Nat) (r_X7_readOr : Nat → Nat → Int32 → St → Option (St)) (r_X7_readNot : Nat → Nat → Int32 → St → Option (St)) (h_X7_readOr : ∀ (th : Nat) (p1 : Nat) (p2 : Int32) (st : St), MV (x_G X) NN (x_l X) yX7_readOr cX7_readOr 5 none (7 + d) [.ref (x_b X + th), .ref (x_b X + p1), .int p2] st (r_X7_readOr th p1 p2 st)) (h_X7_readNot : ∀ (th : Nat) (p1 : Nat) (p2 : Int32) (st : St), MV (x_G X) NN (x_l X) yX7_readNot cX7_readNot 3 none (7 + d) [.ref (x_b X + th), .ref (x_b X + p1), .int p2] st (r_X7_readNot th p1 p2 st)) (k_11 : Nat → Nat → Int32 → Int32 → Int32 → St → Option (St)) (h_11 : ∀ (x0 : Nat) (x1 : Nat) (x2 : Int32) (x3 : Int32) (x4 : Int32)  (st : St), WW X res NN 11 [(0, .ref (x_b X + x0)), (1, .ref (x_b X + x1)), (2, .int x2), (3, .int x3), (4, .int x4)] [] st (k_11 x0 x1 x2 x3 x4 st)) (x0 : Nat) (x1 : Nat) (x2 : Int32) (x4 : Int32)  (st : St) : WW X res NN 54 [(0, .ref (x_b X + x0)), (1, .ref (x_b X + x1)), (2, .int x2), (4, .int x4)] [] st (b_X7_readOr_54 fu r_X7_readOr r_X7_readNot k_11 x0 x1 x2 x4 st) := by
  have hX := B.1
  have hL := B.2.1
  unfold b_X7_readOr_54
  refine ww_aload_n hX 1 rfl dX7_readOr_54 rfl ?_
  refine ww_bipush (v := 124) hX rfl dX7_readOr_55 ?_
  refine ww_callVI (As := [.int 124]) (rest := []) (o := x1) hX (Rk.of B.2.2.1 B.2.2.2.1 (by omega) (by decide)) g_X7_105 g_X7_105.in (fun _ => c_X9_takes (x_G X) (x_l X) fu x1 124 st) rfl rfl (Nat.le_of_ble_eq_true rfl) dX7_readOr_57 (fun r4 s5 => ?_)
  refine ww_istore_n (lv' := [(3, .int r4), (0, .ref (x_b X + x0)), (1, .ref (x_b X + x1)), (2, .int x2), (4, .int x4)]) hX hL dX7_readOr_60 rfl (by decide) rfl ?_
  refine ww_iload_n hX 0 rfl dX7_readOr_61 rfl ?_
  refine ww_if_ne (tgt := 68) hX dX7_readOr_62 (by decide) ?_ ?_
  · refine ww_aload_n hX 1 rfl dX7_readOr_68 rfl ?_
    refine ww_aload_n hX 2 rfl dX7_readOr_69 rfl ?_
    refine ww_iload_n hX 3 rfl dX7_readOr_70 rfl ?_
    refine ww_callVV (As := [.ref (x_b X + x1), .int x2]) (rest := []) (o := x0) hX (Rk.of B.2.2.1 B.2.2.2.1 (by omega) (by decide)) g_X7_102 g_X7_102.in (fun _ => h_X7_readNot x0 x1 x2 s5) rfl rfl (Nat.le_of_ble_eq_true rfl) dX7_readOr_71 (fun s6 => ?_)
    exact ww_sub [1, 2, 3, 0, 4] rfl (t_X7_readOr_74 B fu r_X7_readOr r_X7_readNot h_X7_readOr h_X7_readNot k_11 h_11 x0 x1 x2 r4 x4  s6)
  · refine ww_goto (tgt := 80) hX dX7_readOr_65 (by decide) ?_
    exact ww_sub [] rfl (t_X7_readOr_80 B fu r_X7_readOr r_X7_readNot h_X7_readOr h_X7_readNot   s5)
def b_X7_readOr_11_b (fu : Nat) (r_X7_readOr : Nat → Nat → Int32 → St → Option (St)) (r_X7_readNot : Nat → Nat → Int32 → St → Option (St)) (k_11 : Nat → Nat → Int32 → Int32 → Int32 → St → Option (St)) (x0 : Nat) (x1 : Nat) (x2 : Int32) (x3 : Int32) (x4 : Int32)  (st : St) : Option (St) :=
  if 60 ≤ x4 then (
  b_X7_readOr_80 fu r_X7_readOr r_X7_readNot   st)
  else (
  ck ((kd x1).1 = 9) <|
  ca (f_X9_takes fu x1 38 st) fun r2 s3 =>
  if r2 = 0 then (
  if x3 = 0 then (
  b_X7_readOr_54 fu r_X7_readOr r_X7_readNot k_11 x0 x1 x2 x4  s3)
  else (
  ck ((kd x0).1 = 7) <|
  cv (f_X7_emit fu x0 2 0 0 s3) fun s8 =>
  b_X7_readOr_54 fu r_X7_readOr r_X7_readNot k_11 x0 x1 x2 x4  s8))
  else (
  ck ((kd x0).1 = 7) <|
  cv (r_X7_readNot x0 x1 x2 s3) fun s9 =>
  ck ((kd x0).1 = 7) <|
  cv (f_X7_emit fu x0 1 0 0 s9) fun s10 =>
  b_X7_readOr_74 fu r_X7_readOr r_X7_readNot k_11 x0 x1 x2 x3 x4  s10))
set_option maxHeartbeats 4000000 in
set_option maxRecDepth 100000 in
theorem t_X7_readOr_11_b {X : CX} {d : Nat} {res : St} (B : BV X cX7_readOr RX7 5 (7 + (d + 1)) NN none res) (fu : Nat) (r_X7_readOr : Nat → Nat → Int32 → St → Option (St)) (r_X7_readNot : Nat → Nat → Int32 → St → Option (St)) (h_X7_readOr : ∀ (th : Nat) (p1 : Nat) (p2 : Int32) (st : St), MV (x_G X) NN (x_l X) yX7_readOr cX7_readOr 5 none (7 + d) [.ref (x_b X + th), .ref (x_b X + p1), .int p2] st (r_X7_readOr th p1 p2 st)) (h_X7_readNot : ∀ (th : Nat) (p1 : Nat) (p2 : Int32) (st : St), MV (x_G X) NN (x_l X) yX7_readNot cX7_readNot 3 none (7 + d) [.ref (x_b X + th), .ref (x_b X + p1), .int p2] st (r_X7_readNot th p1 p2 st)) (k_11 : Nat → Nat → Int32 → Int32 → Int32 → St → Option (St)) (h_11 : ∀ (x0 : Nat) (x1 : Nat) (x2 : Int32) (x3 : Int32) (x4 : Int32)  (st : St), WW X res NN 11 [(0, .ref (x_b X + x0)), (1, .ref (x_b X + x1)), (2, .int x2), (3, .int x3), (4, .int x4)] [] st (k_11 x0 x1 x2 x3 x4 st)) (x0 : Nat) (x1 : Nat) (x2 : Int32) (x3 : Int32) (x4 : Int32)  (st : St) : WW X res NN 11 [(0, .ref (x_b X + x0)), (1, .ref (x_b X + x1)), (2, .int x2), (3, .int x3), (4, .int x4)] [] st (b_X7_readOr_11_b fu r_X7_readOr r_X7_readNot k_11 x0 x1 x2 x3 x4 st) := by
  have hX := B.1
  have hL := B.2.1
  unfold b_X7_readOr_11_b
  refine ww_iload hX 4 rfl dX7_readOr_11 ?_
  refine ww_bipush (v := 60) hX rfl dX7_readOr_13 ?_
  refine ww_icmp_ge (tgt := 80) hX dX7_readOr_15 (by decide) ?_ ?_
  · exact ww_sub [] rfl (t_X7_readOr_80 B fu r_X7_readOr r_X7_readNot h_X7_readOr h_X7_readNot   st)
  · refine ww_aload_n hX 1 rfl dX7_readOr_18 rfl ?_
    refine ww_bipush (v := 38) hX rfl dX7_readOr_19 ?_
    refine ww_callVI (As := [.int 38]) (rest := []) (o := x1) hX (Rk.of B.2.2.1 B.2.2.2.1 (by omega) (by decide)) g_X7_105 g_X7_105.in (fun _ => c_X9_takes (x_G X) (x_l X) fu x1 38 st) rfl rfl (Nat.le_of_ble_eq_true rfl) dX7_readOr_21 (fun r2 s3 => ?_)
    refine ww_if_eq (tgt := 43) hX dX7_readOr_24 (by decide) ?_ ?_
    · refine ww_iload_n hX 3 rfl dX7_readOr_43 rfl ?_
      refine ww_if_eq (tgt := 54) hX dX7_readOr_44 (by decide) ?_ ?_
      · exact ww_sub [0, 1, 2, 4] rfl (t_X7_readOr_54 B fu r_X7_readOr r_X7_readNot h_X7_readOr h_X7_readNot k_11 h_11 x0 x1 x2 x4  s3)
      · refine ww_aload_n hX 0 rfl dX7_readOr_47 rfl ?_
        refine ww_iconst (v := 2) hX rfl dX7_readOr_48 ?_
        refine ww_iconst (v := 0) hX rfl dX7_readOr_49 ?_
        refine ww_iconst (v := 0) hX rfl dX7_readOr_50 ?_
        refine ww_callVV (As := [.int 2, .int 0, .int 0]) (rest := []) (o := x0) hX (Rk.of B.2.2.1 B.2.2.2.1 (by omega) (by decide)) g_X7_109 g_X7_109.in (fun _ => c_X7_emit (x_G X) (x_l X) fu x0 2 0 0 s3) rfl rfl (Nat.le_of_ble_eq_true rfl) dX7_readOr_51 (fun s8 => ?_)
        exact ww_sub [0, 1, 2, 4] rfl (t_X7_readOr_54 B fu r_X7_readOr r_X7_readNot h_X7_readOr h_X7_readNot k_11 h_11 x0 x1 x2 x4  s8)
    · refine ww_aload_n hX 0 rfl dX7_readOr_27 rfl ?_
      refine ww_aload_n hX 1 rfl dX7_readOr_28 rfl ?_
      refine ww_iload_n hX 2 rfl dX7_readOr_29 rfl ?_
      refine ww_callVV (As := [.ref (x_b X + x1), .int x2]) (rest := []) (o := x0) hX (Rk.of B.2.2.1 B.2.2.2.1 (by omega) (by decide)) g_X7_102 g_X7_102.in (fun _ => h_X7_readNot x0 x1 x2 s3) rfl rfl (Nat.le_of_ble_eq_true rfl) dX7_readOr_30 (fun s9 => ?_)
      refine ww_aload_n hX 0 rfl dX7_readOr_33 rfl ?_
      refine ww_iconst (v := 1) hX rfl dX7_readOr_34 ?_
      refine ww_iconst (v := 0) hX rfl dX7_readOr_35 ?_
      refine ww_pc (b := 36) rfl ?_
      refine ww_iconst (v := 0) hX rfl dX7_readOr_36 ?_
      refine ww_callVV (As := [.int 1, .int 0, .int 0]) (rest := []) (o := x0) hX (Rk.of B.2.2.1 B.2.2.2.1 (by omega) (by decide)) g_X7_109 g_X7_109.in (fun _ => c_X7_emit (x_G X) (x_l X) fu x0 1 0 0 s9) rfl rfl (Nat.le_of_ble_eq_true rfl) dX7_readOr_37 (fun s10 => ?_)
      refine ww_goto (tgt := 74) hX dX7_readOr_40 (by decide) ?_
      exact t_X7_readOr_74 B fu r_X7_readOr r_X7_readNot h_X7_readOr h_X7_readNot k_11 h_11 x0 x1 x2 x3 x4  s10
def b_X7_readOr_11 (fu : Nat) (r_X7_readOr : Nat → Nat → Int32 → St → Option (St)) (r_X7_readNot : Nat → Nat → Int32 → St → Option (St)) : Nat → Nat → Nat → Int32 → Int32 → Int32 → St → Option (St)
  | 0, _, _, _, _, _, _ => none
  | i + 1, x0, x1, x2, x3, x4, st => b_X7_readOr_11_b fu r_X7_readOr r_X7_readNot (b_X7_readOr_11 fu r_X7_readOr r_X7_readNot i) x0 x1 x2 x3 x4 st
theorem t_X7_readOr_11 {X : CX} {d : Nat} {res : St} (B : BV X cX7_readOr RX7 5 (7 + (d + 1)) NN none res) (fu : Nat) (r_X7_readOr : Nat → Nat → Int32 → St → Option (St)) (r_X7_readNot : Nat → Nat → Int32 → St → Option (St)) (h_X7_readOr : ∀ (th : Nat) (p1 : Nat) (p2 : Int32) (st : St), MV (x_G X) NN (x_l X) yX7_readOr cX7_readOr 5 none (7 + d) [.ref (x_b X + th), .ref (x_b X + p1), .int p2] st (r_X7_readOr th p1 p2 st)) (h_X7_readNot : ∀ (th : Nat) (p1 : Nat) (p2 : Int32) (st : St), MV (x_G X) NN (x_l X) yX7_readNot cX7_readNot 3 none (7 + d) [.ref (x_b X + th), .ref (x_b X + p1), .int p2] st (r_X7_readNot th p1 p2 st)) : ∀ (i : Nat) (x0 : Nat) (x1 : Nat) (x2 : Int32) (x3 : Int32) (x4 : Int32)  (st : St), WW X res NN 11 [(0, .ref (x_b X + x0)), (1, .ref (x_b X + x1)), (2, .int x2), (3, .int x3), (4, .int x4)] [] st (b_X7_readOr_11 fu r_X7_readOr r_X7_readNot i x0 x1 x2 x3 x4 st) := by
  intro i
  induction i with
  | zero => intro x0 x1 x2 x3 x4 st; exact ww_none
  | succ i ih => intro x0 x1 x2 x3 x4 st; exact t_X7_readOr_11_b B fu r_X7_readOr r_X7_readNot h_X7_readOr h_X7_readNot (b_X7_readOr_11 fu r_X7_readOr r_X7_readNot i) ih x0 x1 x2 x3 x4 st
def fb_X7_readOr (fu : Nat) (r_X7_readOr : Nat → Nat → Int32 → St → Option (St)) (r_X7_readNot : Nat → Nat → Int32 → St → Option (St)) (th : Nat) (p1 : Nat) (p2 : Int32) (st : St) : Option (St) :=
  ck ((kd th).1 = 7) <|
  cv (r_X7_readNot th p1 p2 st) fun s1 =>
  b_X7_readOr_11 fu r_X7_readOr r_X7_readNot fu th p1 p2 0 0  s1
set_option maxHeartbeats 4000000 in
set_option maxRecDepth 100000 in
theorem t_X7_readOr {X : CX} {d : Nat} {res : St} (B : BV X cX7_readOr RX7 5 (7 + (d + 1)) NN none res) (fu : Nat) (r_X7_readOr : Nat → Nat → Int32 → St → Option (St)) (r_X7_readNot : Nat → Nat → Int32 → St → Option (St)) (h_X7_readOr : ∀ (th : Nat) (p1 : Nat) (p2 : Int32) (st : St), MV (x_G X) NN (x_l X) yX7_readOr cX7_readOr 5 none (7 + d) [.ref (x_b X + th), .ref (x_b X + p1), .int p2] st (r_X7_readOr th p1 p2 st)) (h_X7_readNot : ∀ (th : Nat) (p1 : Nat) (p2 : Int32) (st : St), MV (x_G X) NN (x_l X) yX7_readNot cX7_readNot 3 none (7 + d) [.ref (x_b X + th), .ref (x_b X + p1), .int p2] st (r_X7_readNot th p1 p2 st)) (th : Nat) (p1 : Nat) (p2 : Int32) (st : St) : WW X res NN 0 [(0, .ref (x_b X + th)), (1, .ref (x_b X + p1)), (2, .int p2)] [] st (fb_X7_readOr fu r_X7_readOr r_X7_readNot th p1 p2 st) := by
  have hX := B.1
  have hL := B.2.1
  unfold fb_X7_readOr
  refine ww_iconst (v := 0) hX rfl dX7_readOr_0 ?_
  refine ww_istore_n (lv' := [(3, .int 0), (0, .ref (x_b X + th)), (1, .ref (x_b X + p1)), (2, .int p2)]) hX hL dX7_readOr_1 rfl (by decide) rfl ?_
  refine ww_aload_n hX 1 rfl dX7_readOr_2 rfl ?_
  refine ww_aload_n hX 2 rfl dX7_readOr_3 rfl ?_
  refine ww_iload_n hX 3 rfl dX7_readOr_4 rfl ?_
  refine ww_callVV (As := [.ref (x_b X + p1), .int p2]) (rest := []) (o := th) hX (Rk.of B.2.2.1 B.2.2.2.1 (by omega) (by decide)) g_X7_102 g_X7_102.in (fun _ => h_X7_readNot th p1 p2 st) rfl rfl (Nat.le_of_ble_eq_true rfl) dX7_readOr_5 (fun s1 => ?_)
  refine ww_iconst (v := 0) hX rfl dX7_readOr_8 ?_
  refine ww_pc (b := 9) rfl ?_
  refine ww_istore (lv' := [(4, .int 0), (3, .int 0), (0, .ref (x_b X + th)), (1, .ref (x_b X + p1)), (2, .int p2)]) hX hL dX7_readOr_9 (by decide) rfl ?_
  exact ww_sub [2, 3, 4, 1, 0] rfl (t_X7_readOr_11 B fu r_X7_readOr r_X7_readNot h_X7_readOr h_X7_readNot fu th p1 p2 0 0  s1)
/-! StageHouse$Rig.readNot(LStageHouse$Tape;I)V -/
def b_X7_readNot_85 (fu : Nat) (r_X7_readOr : Nat → Nat → Int32 → St → Option (St)) (r_X7_readNot : Nat → Nat → Int32 → St → Option (St))   (st : St) : Option (St) :=
  some st
set_option maxHeartbeats 4000000 in
set_option maxRecDepth 100000 in
theorem t_X7_readNot_85 {X : CX} {d : Nat} {res : St} (B : BV X cX7_readNot RX7 3 (7 + (d + 1)) NN none res) (fu : Nat) (r_X7_readOr : Nat → Nat → Int32 → St → Option (St)) (r_X7_readNot : Nat → Nat → Int32 → St → Option (St)) (h_X7_readOr : ∀ (th : Nat) (p1 : Nat) (p2 : Int32) (st : St), MV (x_G X) NN (x_l X) yX7_readOr cX7_readOr 5 none (7 + d) [.ref (x_b X + th), .ref (x_b X + p1), .int p2] st (r_X7_readOr th p1 p2 st)) (h_X7_readNot : ∀ (th : Nat) (p1 : Nat) (p2 : Int32) (st : St), MV (x_G X) NN (x_l X) yX7_readNot cX7_readNot 3 none (7 + d) [.ref (x_b X + th), .ref (x_b X + p1), .int p2] st (r_X7_readNot th p1 p2 st))   (st : St) : WW X res NN 85 [] [] st (b_X7_readNot_85 fu r_X7_readOr r_X7_readNot  st) := by
  have hX := B.1
  have hL := B.2.1
  unfold b_X7_readNot_85
  exact ww_vret B dX7_readNot_85
def b_X7_readNot_24 (fu : Nat) (r_X7_readOr : Nat → Nat → Int32 → St → Option (St)) (r_X7_readNot : Nat → Nat → Int32 → St → Option (St)) (x0 : Nat) (x1 : Nat) (x2 : Int32)  (st : St) : Option (St) :=
  if x2 < 12 then (
  ck ((kd x1).1 = 9) <|
  ca (f_X9_takes fu x1 33 st) fun r3 s4 =>
  if r3 = 0 then (
  ck ((kd x1).1 = 9) <|
  cv (f_X9_next fu x1 s4) fun s5 =>
  ck ((kd x0).1 = 7) <|
  cv (r_X7_readOr x0 x1 (x2 + 1) s5) fun s6 =>
  ck ((kd x1).1 = 9) <|
  cv (f_X9_need fu x1 41 s6) fun s7 =>
  b_X7_readNot_85 fu r_X7_readOr r_X7_readNot   s7)
  else (
  ck ((kd x0).1 = 7) <|
  cv (r_X7_readNot x0 x1 (x2 + 1) s4) fun s8 =>
  ck ((kd x0).1 = 7) <|
  cv (f_X7_emit fu x0 0 0 0 s8) fun s9 =>
  b_X7_readNot_85 fu r_X7_readOr r_X7_readNot   s9))
  else (
  ck ((kd x1).1 = 9) <|
  ck ((kd x1).1 = 9) <|
  cv (f_X9_fail fu x1 2 (gI st x1 3) st) fun s10 =>
  some s10)
set_option maxHeartbeats 4000000 in
set_option maxRecDepth 100000 in
theorem t_X7_readNot_24 {X : CX} {d : Nat} {res : St} (B : BV X cX7_readNot RX7 3 (7 + (d + 1)) NN none res) (fu : Nat) (r_X7_readOr : Nat → Nat → Int32 → St → Option (St)) (r_X7_readNot : Nat → Nat → Int32 → St → Option (St)) (h_X7_readOr : ∀ (th : Nat) (p1 : Nat) (p2 : Int32) (st : St), MV (x_G X) NN (x_l X) yX7_readOr cX7_readOr 5 none (7 + d) [.ref (x_b X + th), .ref (x_b X + p1), .int p2] st (r_X7_readOr th p1 p2 st)) (h_X7_readNot : ∀ (th : Nat) (p1 : Nat) (p2 : Int32) (st : St), MV (x_G X) NN (x_l X) yX7_readNot cX7_readNot 3 none (7 + d) [.ref (x_b X + th), .ref (x_b X + p1), .int p2] st (r_X7_readNot th p1 p2 st)) (x0 : Nat) (x1 : Nat) (x2 : Int32)  (st : St) : WW X res NN 24 [(0, .ref (x_b X + x0)), (1, .ref (x_b X + x1)), (2, .int x2)] [] st (b_X7_readNot_24 fu r_X7_readOr r_X7_readNot x0 x1 x2 st) := by
  have hX := B.1
  have hL := B.2.1
  unfold b_X7_readNot_24
  refine ww_iload_n hX 2 rfl dX7_readNot_24 rfl ?_
  refine ww_bipush (v := 12) hX rfl dX7_readNot_25 ?_
  refine ww_icmp_lt (tgt := 40) hX dX7_readNot_27 (by decide) ?_ ?_
  · refine ww_aload_n hX 1 rfl dX7_readNot_40 rfl ?_
    refine ww_bipush (v := 33) hX rfl dX7_readNot_41 ?_
    refine ww_callVI (As := [.int 33]) (rest := []) (o := x1) hX (Rk.of B.2.2.1 B.2.2.2.1 (by omega) (by decide)) g_X7_105 g_X7_105.in (fun _ => c_X9_takes (x_G X) (x_l X) fu x1 33 st) rfl rfl (Nat.le_of_ble_eq_true rfl) dX7_readNot_43 (fun r3 s4 => ?_)
    refine ww_if_eq (tgt := 67) hX dX7_readNot_46 (by decide) ?_ ?_
    · refine ww_aload_n hX 1 rfl dX7_readNot_67 rfl ?_
      refine ww_callVV (As := []) (rest := []) (o := x1) hX (Rk.of B.2.2.1 B.2.2.2.1 (by omega) (by decide)) g_X7_120 g_X7_120.in (fun _ => c_X9_next (x_G X) (x_l X) fu x1 s4) rfl rfl (Nat.le_of_ble_eq_true rfl) dX7_readNot_68 (fun s5 => ?_)
      refine ww_aload_n hX 0 rfl dX7_readNot_71 rfl ?_
      refine ww_aload_n hX 1 rfl dX7_readNot_72 rfl ?_
      refine ww_iload_n hX 2 rfl dX7_readNot_73 rfl ?_
      refine ww_iconst (v := 1) hX rfl dX7_readNot_74 ?_
      refine ww_iadd hX dX7_readNot_75 ?_
      refine ww_pc (b := 76) rfl ?_
      refine ww_callVV (As := [.ref (x_b X + x1), .int (x2 + 1)]) (rest := []) (o := x0) hX (Rk.of B.2.2.1 B.2.2.2.1 (by omega) (by decide)) g_X7_85 g_X7_85.in (fun _ => h_X7_readOr x0 x1 (x2 + 1) s5) rfl rfl (Nat.le_of_ble_eq_true rfl) dX7_readNot_76 (fun s6 => ?_)
      refine ww_aload_n hX 1 rfl dX7_readNot_79 rfl ?_
      refine ww_bipush (v := 41) hX rfl dX7_readNot_80 ?_
      refine ww_callVV (As := [.int 41]) (rest := []) (o := x1) hX (Rk.of B.2.2.1 B.2.2.2.1 (by omega) (by decide)) g_X7_123 g_X7_123.in (fun _ => c_X9_need (x_G X) (x_l X) fu x1 41 s6) rfl rfl (Nat.le_of_ble_eq_true rfl) dX7_readNot_82 (fun s7 => ?_)
      exact ww_sub [] rfl (t_X7_readNot_85 B fu r_X7_readOr r_X7_readNot h_X7_readOr h_X7_readNot   s7)
    · refine ww_aload_n hX 0 rfl dX7_readNot_49 rfl ?_
      refine ww_aload_n hX 1 rfl dX7_readNot_50 rfl ?_
      refine ww_iload_n hX 2 rfl dX7_readNot_51 rfl ?_
      refine ww_iconst (v := 1) hX rfl dX7_readNot_52 ?_
      refine ww_iadd hX dX7_readNot_53 ?_
      refine ww_callVV (As := [.ref (x_b X + x1), .int (x2 + 1)]) (rest := []) (o := x0) hX (Rk.of B.2.2.1 B.2.2.2.1 (by omega) (by decide)) g_X7_102 g_X7_102.in (fun _ => h_X7_readNot x0 x1 (x2 + 1) s4) rfl rfl (Nat.le_of_ble_eq_true rfl) dX7_readNot_54 (fun s8 => ?_)
      refine ww_aload_n hX 0 rfl dX7_readNot_57 rfl ?_
      refine ww_pc (b := 58) rfl ?_
      refine ww_iconst (v := 0) hX rfl dX7_readNot_58 ?_
      refine ww_iconst (v := 0) hX rfl dX7_readNot_59 ?_
      refine ww_iconst (v := 0) hX rfl dX7_readNot_60 ?_
      refine ww_callVV (As := [.int 0, .int 0, .int 0]) (rest := []) (o := x0) hX (Rk.of B.2.2.1 B.2.2.2.1 (by omega) (by decide)) g_X7_109 g_X7_109.in (fun _ => c_X7_emit (x_G X) (x_l X) fu x0 0 0 0 s8) rfl rfl (Nat.le_of_ble_eq_true rfl) dX7_readNot_61 (fun s9 => ?_)
      refine ww_goto (tgt := 85) hX dX7_readNot_64 (by decide) ?_
      exact ww_sub [] rfl (t_X7_readNot_85 B fu r_X7_readOr r_X7_readNot h_X7_readOr h_X7_readNot   s9)
  · refine ww_aload_n hX 1 rfl dX7_readNot_30 rfl ?_
    refine ww_iconst (v := 2) hX rfl dX7_readNot_31 ?_
    refine ww_aload_n hX 1 rfl dX7_readNot_32 rfl ?_
    refine ww_getI hX f_X7_92 (Or.inl rfl) dX7_readNot_33 ?_
    refine ww_callVV (As := [.int 2, .int (gI st x1 3)]) (rest := []) (o := x1) hX (Rk.of B.2.2.1 B.2.2.2.1 (by omega) (by decide)) g_X7_95 g_X7_95.in (fun _ => c_X9_fail (x_G X) (x_l X) fu x1 2 (gI st x1 3) st) rfl rfl (Nat.le_of_ble_eq_true rfl) dX7_readNot_36 (fun s10 => ?_)
    exact ww_vret B dX7_readNot_39
def fb_X7_readNot (fu : Nat) (r_X7_readOr : Nat → Nat → Int32 → St → Option (St)) (r_X7_readNot : Nat → Nat → Int32 → St → Option (St)) (th : Nat) (p1 : Nat) (p2 : Int32) (st : St) : Option (St) :=
  ck ((kd p1).1 = 9) <|
  ca (f_X9_isSign fu p1 33 st) fun r1 s2 =>
  if r1 = 0 then (
  ck ((kd p1).1 = 9) <|
  ca (f_X9_isSign fu p1 40 s2) fun r11 s12 =>
  if r11 = 0 then (
  ck ((kd th).1 = 7) <|
  cv (f_X7_readTerm fu th p1 s12) fun s13 =>
  some s13)
  else (
  b_X7_readNot_24 fu r_X7_readOr r_X7_readNot th p1 p2  s12))
  else (
  b_X7_readNot_24 fu r_X7_readOr r_X7_readNot th p1 p2  s2)
set_option maxHeartbeats 4000000 in
set_option maxRecDepth 100000 in
theorem t_X7_readNot {X : CX} {d : Nat} {res : St} (B : BV X cX7_readNot RX7 3 (7 + (d + 1)) NN none res) (fu : Nat) (r_X7_readOr : Nat → Nat → Int32 → St → Option (St)) (r_X7_readNot : Nat → Nat → Int32 → St → Option (St)) (h_X7_readOr : ∀ (th : Nat) (p1 : Nat) (p2 : Int32) (st : St), MV (x_G X) NN (x_l X) yX7_readOr cX7_readOr 5 none (7 + d) [.ref (x_b X + th), .ref (x_b X + p1), .int p2] st (r_X7_readOr th p1 p2 st)) (h_X7_readNot : ∀ (th : Nat) (p1 : Nat) (p2 : Int32) (st : St), MV (x_G X) NN (x_l X) yX7_readNot cX7_readNot 3 none (7 + d) [.ref (x_b X + th), .ref (x_b X + p1), .int p2] st (r_X7_readNot th p1 p2 st)) (th : Nat) (p1 : Nat) (p2 : Int32) (st : St) : WW X res NN 0 [(0, .ref (x_b X + th)), (1, .ref (x_b X + p1)), (2, .int p2)] [] st (fb_X7_readNot fu r_X7_readOr r_X7_readNot th p1 p2 st) := by
  have hX := B.1
  have hL := B.2.1
  unfold fb_X7_readNot
  refine ww_aload_n hX 1 rfl dX7_readNot_0 rfl ?_
  refine ww_bipush (v := 33) hX rfl dX7_readNot_1 ?_
  refine ww_callVI (As := [.int 33]) (rest := []) (o := p1) hX (Rk.of B.2.2.1 B.2.2.2.1 (by omega) (by decide)) g_X7_113 g_X7_113.in (fun _ => c_X9_isSign (x_G X) (x_l X) fu p1 33 st) rfl rfl (Nat.le_of_ble_eq_true rfl) dX7_readNot_3 (fun r1 s2 => ?_)
  refine ww_if_ne (tgt := 24) hX dX7_readNot_6 (by decide) ?_ ?_
  · exact t_X7_readNot_24 B fu r_X7_readOr r_X7_readNot h_X7_readOr h_X7_readNot th p1 p2  s2
  · refine ww_aload_n hX 1 rfl dX7_readNot_9 rfl ?_
    refine ww_bipush (v := 40) hX rfl dX7_readNot_10 ?_
    refine ww_callVI (As := [.int 40]) (rest := []) (o := p1) hX (Rk.of B.2.2.1 B.2.2.2.1 (by omega) (by decide)) g_X7_113 g_X7_113.in (fun _ => c_X9_isSign (x_G X) (x_l X) fu p1 40 s2) rfl rfl (Nat.le_of_ble_eq_true rfl) dX7_readNot_12 (fun r11 s12 => ?_)
    refine ww_if_ne (tgt := 24) hX dX7_readNot_15 (by decide) ?_ ?_
    · exact t_X7_readNot_24 B fu r_X7_readOr r_X7_readNot h_X7_readOr h_X7_readNot th p1 p2  s12
    · refine ww_aload_n hX 0 rfl dX7_readNot_18 rfl ?_
      refine ww_aload_n hX 1 rfl dX7_readNot_19 rfl ?_
      refine ww_callVV (As := [.ref (x_b X + p1)]) (rest := []) (o := th) hX (Rk.of B.2.2.1 B.2.2.2.1 (by omega) (by decide)) g_X7_116 g_X7_116.in (fun _ => c_X7_readTerm (x_G X) (x_l X) fu th p1 s12) rfl rfl (Nat.le_of_ble_eq_true rfl) dX7_readNot_20 (fun s13 => ?_)
      exact ww_vret B dX7_readNot_23
def F_X7_readOr (fu : Nat) : Nat → (Nat → Nat → Int32 → St → Option (St)) × (Nat → Nat → Int32 → St → Option (St))
  | 0 => (fun _ _ _ _ => none, fun _ _ _ _ => none)
  | d + 1 => (fb_X7_readOr fu (F_X7_readOr fu d).1 (F_X7_readOr fu d).2, fb_X7_readNot fu (F_X7_readOr fu d).1 (F_X7_readOr fu d).2)
theorem CF_X7_readOr (G : GX) (l : Launch) (fu : Nat) : ∀ d : Nat, (∀ (th : Nat) (p1 : Nat) (p2 : Int32) (st : St), MV G NN l yX7_readOr cX7_readOr 5 none (7 + d) [.ref (G.2.2.1 + th), .ref (G.2.2.1 + p1), .int p2] st ((F_X7_readOr fu d).1 th p1 p2 st)) ∧ (∀ (th : Nat) (p1 : Nat) (p2 : Int32) (st : St), MV G NN l yX7_readNot cX7_readNot 3 none (7 + d) [.ref (G.2.2.1 + th), .ref (G.2.2.1 + p1), .int p2] st ((F_X7_readOr fu d).2 th p1 p2 st)) := by
  intro d
  induction d with
  | zero => exact ⟨fun th p1 p2 st => (fun u h => by cases h), fun th p1 p2 st => (fun u h => by cases h)⟩
  | succ d ih => exact ⟨fun th p1 p2 st => mkV (by decide) (Nat.le_of_ble_eq_true rfl) (fun X res hl hG B => by subst hl; subst hG; exact t_X7_readOr B fu (F_X7_readOr fu d).1 (F_X7_readOr fu d).2 ih.1 ih.2 th p1 p2 st), fun th p1 p2 st => mkV (by decide) (Nat.le_of_ble_eq_true rfl) (fun X res hl hG B => by subst hl; subst hG; exact t_X7_readNot B fu (F_X7_readOr fu d).1 (F_X7_readOr fu d).2 ih.1 ih.2 th p1 p2 st)⟩
def f_X7_readOr (fu : Nat) (th : Nat) (p1 : Nat) (p2 : Int32) (st : St) : Option (St) := (F_X7_readOr fu 30).1 th p1 p2 st
theorem c_X7_readOr (G : GX) (l : Launch) (fu : Nat) (th : Nat) (p1 : Nat) (p2 : Int32) (st : St) : MV G NN l yX7_readOr cX7_readOr 5 none 37 [.ref (G.2.2.1 + th), .ref (G.2.2.1 + p1), .int p2] st (f_X7_readOr fu th p1 p2 st) := (CF_X7_readOr G l fu 30).1 th p1 p2 st
def f_X7_readNot (fu : Nat) (th : Nat) (p1 : Nat) (p2 : Int32) (st : St) : Option (St) := (F_X7_readOr fu 30).2 th p1 p2 st
theorem c_X7_readNot (G : GX) (l : Launch) (fu : Nat) (th : Nat) (p1 : Nat) (p2 : Int32) (st : St) : MV G NN l yX7_readNot cX7_readNot 3 none 37 [.ref (G.2.2.1 + th), .ref (G.2.2.1 + p1), .int p2] st (f_X7_readNot fu th p1 p2 st) := (CF_X7_readOr G l fu 30).2 th p1 p2 st
/-! StageHouse$Rig.readNot(LStageHouse$Tape;I)V -/

/-! StageHouse$Rig.readLock(LStageHouse$Tape;I)V -/
def b_X7_readLock_75 (fu : Nat)   (st : St) : Option (St) :=
  some st
set_option maxHeartbeats 4000000 in
set_option maxRecDepth 100000 in
theorem t_X7_readLock_75 {X : CX} {res : St} (B : BV X cX7_readLock RX7 5 38 NN none res) (fu : Nat)   (st : St) : WW X res NN 75 [] [] st (b_X7_readLock_75 fu  st) := by
  have hX := B.1
  have hL := B.2.1
  unfold b_X7_readLock_75
  exact ww_vret B dX7_readLock_75
def b_X7_readLock_33 (fu : Nat) (x0 : Nat) (x1 : Nat) (x2 : Int32)  (st : St) : Option (St) :=
  ck ((kd x1).1 = 9) <|
  if (gI st x1 8) = 0 then (
  ck (¬ gR st x0 0 = 0) <|
  ck ((kd x0).1 = 7) <|
  bd (gR st x0 0) fun o4 =>
  ck (¬ gR st o4 (ix x2) = 0) <|
  ck ((kd o4).1 = 105 ∧ inb x2 (kd o4).2) <|
  bd (gR st o4 (ix x2)) fun o5 =>
  ck (¬ gR st o5 12 = 0) <|
  ck ((kd o5).1 = 0) <|
  bd (gR st o5 12) fun o6 =>
  ck (¬ gR st x0 3 = 0) <|
  ck ((kd x0).1 = 7) <|
  bd (gR st x0 3) fun o7 =>
  ck (¬ o7 = 0) <|
  ck ((kd o5).1 = 0) <|
  bd (sR st o5 12 o7) fun s8 =>
  ck ((kd x0).1 = 7) <|
  ck ((kd o5).1 = 0) <|
  bd (sI s8 o5 13 (gI s8 x0 4)) fun s9 =>
  ck (¬ o6 = 0) <|
  ck ((kd x0).1 = 7) <|
  bd (sR s9 x0 3 o6) fun s10 =>
  b_X7_readLock_75 fu   s10)
  else (
  b_X7_readLock_75 fu   st)
set_option maxHeartbeats 4000000 in
set_option maxRecDepth 100000 in
theorem t_X7_readLock_33 {X : CX} {res : St} (B : BV X cX7_readLock RX7 5 38 NN none res) (fu : Nat) (x0 : Nat) (x1 : Nat) (x2 : Int32)  (st : St) : WW X res NN 33 [(0, .ref (x_b X + x0)), (1, .ref (x_b X + x1)), (2, .int x2)] [] st (b_X7_readLock_33 fu x0 x1 x2 st) := by
  have hX := B.1
  have hL := B.2.1
  unfold b_X7_readLock_33
  refine ww_aload_n hX 1 rfl dX7_readLock_33 rfl ?_
  refine ww_getI hX f_X7_99 (Or.inl rfl) dX7_readLock_34 ?_
  refine ww_if_ne (tgt := 75) hX dX7_readLock_37 (by decide) ?_ ?_
  · exact ww_sub [] rfl (t_X7_readLock_75 B fu   st)
  · refine ww_aload_n hX 0 rfl dX7_readLock_40 rfl ?_
    refine ww_getR hX f_X7_11 (Or.inr ⟨_, rfl⟩) dX7_readLock_41 ?_
    refine ww_bdR (fun o4 => ?_)
    refine ww_iload_n hX 2 rfl dX7_readLock_44 rfl ?_
    refine ww_aald105c hX k_aald105 dX7_readLock_45 ?_
    refine ww_bdR (fun o5 => ?_)
    refine ww_astore_n (lv' := [(3, .ref (x_b X + o5)), (0, .ref (x_b X + x0)), (1, .ref (x_b X + x1)), (2, .int x2)]) hX hL dX7_readLock_46 rfl (by decide) rfl ?_
    refine ww_aload_n hX 0 rfl dX7_readLock_47 rfl ?_
    refine ww_getR hX f_X7_62 (Or.inr ⟨_, rfl⟩) dX7_readLock_48 ?_
    refine ww_bdR (fun o6 => ?_)
    refine ww_pc (b := 51) rfl ?_
    refine ww_astore (lv' := [(4, .ref (x_b X + o6)), (3, .ref (x_b X + o5)), (0, .ref (x_b X + x0)), (1, .ref (x_b X + x1)), (2, .int x2)]) hX hL dX7_readLock_51 (by decide) rfl ?_
    refine ww_aload_n hX 1 rfl dX7_readLock_53 rfl ?_
    refine ww_aload_n hX 2 rfl dX7_readLock_54 rfl ?_
    refine ww_getR hX f_X7_21 (Or.inr ⟨_, rfl⟩) dX7_readLock_55 ?_
    refine ww_bdR (fun o7 => ?_)
    refine ww_putR hX f_X7_62 (Or.inr ⟨_, rfl⟩) dX7_readLock_58 ?_
    refine ww_bds (fun s8 => ?_)
    refine ww_aload_n hX 1 rfl dX7_readLock_61 rfl ?_
    refine ww_aload_n hX 2 rfl dX7_readLock_62 rfl ?_
    refine ww_getI hX f_X7_76 (Or.inl rfl) dX7_readLock_63 ?_
    refine ww_pc (b := 66) rfl ?_
    refine ww_putI hX f_X7_59 rfl dX7_readLock_66 ?_
    refine ww_bds (fun s9 => ?_)
    refine ww_aload_n hX 2 rfl dX7_readLock_69 rfl ?_
    refine ww_aload hX 0 rfl dX7_readLock_70 ?_
    refine ww_putR hX f_X7_21 (Or.inr ⟨_, rfl⟩) dX7_readLock_72 ?_
    refine ww_bds (fun s10 => ?_)
    exact ww_sub [] rfl (t_X7_readLock_75 B fu   s10)
def f_X7_readLock (fu : Nat) (th : Nat) (p1 : Nat) (p2 : Int32) (st : St) : Option (St) :=
  ck ((kd th).1 = 7) <|
  bd (sI st th 4 0) fun s1 =>
  ck ((kd p1).1 = 9) <|
  cv (f_X9_open fu p1 60 s1) fun s2 =>
  ck ((kd th).1 = 7) <|
  cv (f_X7_readOr fu th p1 0 s2) fun s3 =>
  ck ((kd p1).1 = 9) <|
  if (gI s3 p1 2) = 0 then (
  b_X7_readLock_33 fu th p1 p2  s3)
  else (
  ck ((kd p1).1 = 9) <|
  ck ((kd p1).1 = 9) <|
  cv (f_X9_fail fu p1 1 (gI s3 p1 3) s3) fun s11 =>
  b_X7_readLock_33 fu th p1 p2  s11)
set_option maxHeartbeats 4000000 in
set_option maxRecDepth 100000 in
theorem t_X7_readLock {X : CX} {res : St} (B : BV X cX7_readLock RX7 5 38 NN none res) (fu : Nat) (th : Nat) (p1 : Nat) (p2 : Int32) (st : St) : WW X res NN 0 [(0, .ref (x_b X + th)), (1, .ref (x_b X + p1)), (2, .int p2)] [] st (f_X7_readLock fu th p1 p2 st) := by
  have hX := B.1
  have hL := B.2.1
  unfold f_X7_readLock
  refine ww_aload_n hX 0 rfl dX7_readLock_0 rfl ?_
  refine ww_iconst (v := 0) hX rfl dX7_readLock_1 ?_
  refine ww_putI hX f_X7_76 rfl dX7_readLock_2 ?_
  refine ww_bds (fun s1 => ?_)
  refine ww_aload_n hX 1 rfl dX7_readLock_5 rfl ?_
  refine ww_bipush (v := 60) hX rfl dX7_readLock_6 ?_
  refine ww_callVV (As := [.int 60]) (rest := []) (o := p1) hX (Rk.of B.2.2.1 B.2.2.2.1 (by decide) (by decide)) g_X7_79 g_X7_79.in (fun _ => c_X9_open (x_G X) (x_l X) fu p1 60 s1) rfl rfl (Nat.le_of_ble_eq_true rfl) dX7_readLock_8 (fun s2 => ?_)
  refine ww_aload_n hX 0 rfl dX7_readLock_11 rfl ?_
  refine ww_pc (b := 12) rfl ?_
  refine ww_aload_n hX 1 rfl dX7_readLock_12 rfl ?_
  refine ww_iconst (v := 0) hX rfl dX7_readLock_13 ?_
  refine ww_callVV (As := [.ref (x_b X + p1), .int 0]) (rest := []) (o := th) hX (Rk.of B.2.2.1 B.2.2.2.1 (by decide) (by decide)) g_X7_85 g_X7_85.in (fun _ => c_X7_readOr (x_G X) (x_l X) fu th p1 0 s2) rfl rfl (Nat.le_of_ble_eq_true rfl) dX7_readLock_14 (fun s3 => ?_)
  refine ww_aload_n hX 1 rfl dX7_readLock_17 rfl ?_
  refine ww_getI hX f_X7_89 (Or.inl rfl) dX7_readLock_18 ?_
  refine ww_if_eq (tgt := 33) hX dX7_readLock_21 (by decide) ?_ ?_
  · exact t_X7_readLock_33 B fu th p1 p2  s3
  · refine ww_aload_n hX 1 rfl dX7_readLock_24 rfl ?_
    refine ww_iconst (v := 1) hX rfl dX7_readLock_25 ?_
    refine ww_aload_n hX 1 rfl dX7_readLock_26 rfl ?_
    refine ww_getI hX f_X7_92 (Or.inl rfl) dX7_readLock_27 ?_
    refine ww_callVV (As := [.int 1, .int (gI s3 p1 3)]) (rest := []) (o := p1) hX (Rk.of B.2.2.1 B.2.2.2.1 (by decide) (by decide)) g_X7_95 g_X7_95.in (fun _ => c_X9_fail (x_G X) (x_l X) fu p1 1 (gI s3 p1 3) s3) rfl rfl (Nat.le_of_ble_eq_true rfl) dX7_readLock_30 (fun s11 => ?_)
    exact t_X7_readLock_33 B fu th p1 p2  s11
theorem c_X7_readLock (G : GX) (l : Launch) (fu : Nat) (th : Nat) (p1 : Nat) (p2 : Int32) (st : St) : MV G NN l yX7_readLock cX7_readLock 5 none 38 [.ref (G.2.2.1 + th), .ref (G.2.2.1 + p1), .int p2] st (f_X7_readLock fu th p1 p2 st) := mkV (by decide) (Nat.le_of_ble_eq_true rfl) (fun X res hl hG B => by subst hl; subst hG; exact t_X7_readLock B fu th p1 p2 st)
/-! StageHouse$Script.kindAt(LStageHouse$Tape;)I -/
def b_X8_kindAt_69 (fu : Nat)  (y0 : Int32) (st : St) : Option (Int32 × St) :=
  some (y0, st)
set_option maxHeartbeats 4000000 in
set_option maxRecDepth 100000 in
theorem t_X8_kindAt_69 {X : CX} {res : Int32 × St} (B : BI X cX8_kindAt RX8 1 6 NN (some .int) res) (fu : Nat)  (y0 : Int32) (st : St) : WW X res NN 69 [] [.int y0] st (b_X8_kindAt_69 fu y0 st) := by
  have hX := B.1
  have hL := B.2.1
  unfold b_X8_kindAt_69
  exact ww_iret B dX8_kindAt_69
def f_X8_kindAt (fu : Nat) (p0 : Nat) (st : St) : Option (Int32 × St) :=
  ck ((kd p0).1 = 9) <|
  ca (f_X9_isWord fu p0 8 st) fun r1 s2 =>
  if r1 = 0 then (
  ck ((kd p0).1 = 9) <|
  ca (f_X9_isWord fu p0 9 s2) fun r3 s4 =>
  if r3 = 0 then (
  ck ((kd p0).1 = 9) <|
  ca (f_X9_isWord fu p0 10 s4) fun r5 s6 =>
  if r5 = 0 then (
  ck ((kd p0).1 = 9) <|
  ca (f_X9_isWord fu p0 11 s6) fun r7 s8 =>
  if r7 = 0 then (
  ck ((kd p0).1 = 9) <|
  ca (f_X9_isWord fu p0 12 s8) fun r9 s10 =>
  if r9 = 0 then (
  ck ((kd p0).1 = 9) <|
  ca (f_X9_isWord fu p0 13 s10) fun r11 s12 =>
  if r11 = 0 then (
  b_X8_kindAt_69 fu  ((-1)) s12)
  else (
  b_X8_kindAt_69 fu  5 s12))
  else (
  some (4, s10)))
  else (
  some (3, s8)))
  else (
  some (2, s6)))
  else (
  some (1, s4)))
  else (
  some (0, s2))
set_option maxHeartbeats 4000000 in
set_option maxRecDepth 100000 in
theorem t_X8_kindAt {X : CX} {res : Int32 × St} (B : BI X cX8_kindAt RX8 1 6 NN (some .int) res) (fu : Nat) (p0 : Nat) (st : St) : WW X res NN 0 [(0, .ref (x_b X + p0))] [] st (f_X8_kindAt fu p0 st) := by
  have hX := B.1
  have hL := B.2.1
  unfold f_X8_kindAt
  refine ww_aload_n hX 0 rfl dX8_kindAt_0 rfl ?_
  refine ww_ldcS (q := 8) hX rfl dX8_kindAt_1 ?_
  refine ww_callVI (As := [.ref ((x_K X).1 8)]) (rest := []) (o := p0) hX (Rk.of B.2.2.1 B.2.2.2.1 (by decide) (by decide)) g_X8_77 g_X8_77.in (fun _ => c_X9_isWord (x_G X) (x_l X) fu p0 8 st) rfl rfl (Nat.le_of_ble_eq_true rfl) dX8_kindAt_3 (fun r1 s2 => ?_)
  refine ww_if_eq (tgt := 11) hX dX8_kindAt_6 (by decide) ?_ ?_
  · refine ww_aload_n hX 0 rfl dX8_kindAt_11 rfl ?_
    refine ww_ldcS (q := 9) hX rfl dX8_kindAt_12 ?_
    refine ww_callVI (As := [.ref ((x_K X).1 9)]) (rest := []) (o := p0) hX (Rk.of B.2.2.1 B.2.2.2.1 (by decide) (by decide)) g_X8_77 g_X8_77.in (fun _ => c_X9_isWord (x_G X) (x_l X) fu p0 9 s2) rfl rfl (Nat.le_of_ble_eq_true rfl) dX8_kindAt_14 (fun r3 s4 => ?_)
    refine ww_if_eq (tgt := 22) hX dX8_kindAt_17 (by decide) ?_ ?_
    · refine ww_aload_n hX 0 rfl dX8_kindAt_22 rfl ?_
      refine ww_ldcS (q := 10) hX rfl dX8_kindAt_23 ?_
      refine ww_callVI (As := [.ref ((x_K X).1 10)]) (rest := []) (o := p0) hX (Rk.of B.2.2.1 B.2.2.2.1 (by decide) (by decide)) g_X8_77 g_X8_77.in (fun _ => c_X9_isWord (x_G X) (x_l X) fu p0 10 s4) rfl rfl (Nat.le_of_ble_eq_true rfl) dX8_kindAt_25 (fun r5 s6 => ?_)
      refine ww_if_eq (tgt := 33) hX dX8_kindAt_28 (by decide) ?_ ?_
      · refine ww_aload_n hX 0 rfl dX8_kindAt_33 rfl ?_
        refine ww_ldcS (q := 11) hX rfl dX8_kindAt_34 ?_
        refine ww_callVI (As := [.ref ((x_K X).1 11)]) (rest := []) (o := p0) hX (Rk.of B.2.2.1 B.2.2.2.1 (by decide) (by decide)) g_X8_77 g_X8_77.in (fun _ => c_X9_isWord (x_G X) (x_l X) fu p0 11 s6) rfl rfl (Nat.le_of_ble_eq_true rfl) dX8_kindAt_36 (fun r7 s8 => ?_)
        refine ww_if_eq (tgt := 44) hX dX8_kindAt_39 (by decide) ?_ ?_
        · refine ww_aload_n hX 0 rfl dX8_kindAt_44 rfl ?_
          refine ww_ldcS (q := 12) hX rfl dX8_kindAt_45 ?_
          refine ww_callVI (As := [.ref ((x_K X).1 12)]) (rest := []) (o := p0) hX (Rk.of B.2.2.1 B.2.2.2.1 (by decide) (by decide)) g_X8_77 g_X8_77.in (fun _ => c_X9_isWord (x_G X) (x_l X) fu p0 12 s8) rfl rfl (Nat.le_of_ble_eq_true rfl) dX8_kindAt_47 (fun r9 s10 => ?_)
          refine ww_if_eq (tgt := 55) hX dX8_kindAt_50 (by decide) ?_ ?_
          · refine ww_aload_n hX 0 rfl dX8_kindAt_55 rfl ?_
            refine ww_ldcS (q := 13) hX rfl dX8_kindAt_56 ?_
            refine ww_callVI (As := [.ref ((x_K X).1 13)]) (rest := []) (o := p0) hX (Rk.of B.2.2.1 B.2.2.2.1 (by decide) (by decide)) g_X8_77 g_X8_77.in (fun _ => c_X9_isWord (x_G X) (x_l X) fu p0 13 s10) rfl rfl (Nat.le_of_ble_eq_true rfl) dX8_kindAt_58 (fun r11 s12 => ?_)
            refine ww_if_eq (tgt := 68) hX dX8_kindAt_61 (by decide) ?_ ?_
            · refine ww_iconst (v := (-1)) hX rfl dX8_kindAt_68 ?_
              exact ww_sub [] rfl (t_X8_kindAt_69 B fu  ((-1)) s12)
            · refine ww_iconst (v := 5) hX rfl dX8_kindAt_64 ?_
              refine ww_goto (tgt := 69) hX dX8_kindAt_65 (by decide) ?_
              exact ww_sub [] rfl (t_X8_kindAt_69 B fu  5 s12)
          · refine ww_iconst (v := 4) hX rfl dX8_kindAt_53 ?_
            exact ww_iret B dX8_kindAt_54
        · refine ww_iconst (v := 3) hX rfl dX8_kindAt_42 ?_
          exact ww_iret B dX8_kindAt_43
      · refine ww_iconst (v := 2) hX rfl dX8_kindAt_31 ?_
        exact ww_iret B dX8_kindAt_32
    · refine ww_iconst (v := 1) hX rfl dX8_kindAt_20 ?_
      exact ww_iret B dX8_kindAt_21
  · refine ww_iconst (v := 0) hX rfl dX8_kindAt_9 ?_
    exact ww_iret B dX8_kindAt_10
theorem c_X8_kindAt (G : GX) (l : Launch) (fu : Nat) (p0 : Nat) (st : St) : MI G NN l yX8_kindAt cX8_kindAt 1 (some .int) 6 [.ref (G.2.2.1 + p0)] st (f_X8_kindAt fu p0 st) := mkI (by decide) (Nat.le_of_ble_eq_true rfl) (fun X res hl hG B => by subst hl; subst hG; exact t_X8_kindAt B fu p0 st)
/-! StageHouse$Script.mostOf(I)I -/
def b_X8_mostOf_24 (fu : Nat)  (y0 : Int32) (st : St) : Option (Int32 × St) :=
  some (y0, st)
set_option maxHeartbeats 4000000 in
set_option maxRecDepth 100000 in
theorem t_X8_mostOf_24 {X : CX} {res : Int32 × St} (B : BI X cX8_mostOf RX8 1 1 NN (some .int) res) (fu : Nat)  (y0 : Int32) (st : St) : WW X res NN 24 [] [.int y0] st (b_X8_mostOf_24 fu y0 st) := by
  have hX := B.1
  have hL := B.2.1
  unfold b_X8_mostOf_24
  exact ww_iret B dX8_mostOf_24
def b_X8_mostOf_18 (fu : Nat)   (st : St) : Option (Int32 × St) :=
  b_X8_mostOf_24 fu  7 st
set_option maxHeartbeats 4000000 in
set_option maxRecDepth 100000 in
theorem t_X8_mostOf_18 {X : CX} {res : Int32 × St} (B : BI X cX8_mostOf RX8 1 1 NN (some .int) res) (fu : Nat)   (st : St) : WW X res NN 18 [] [] st (b_X8_mostOf_18 fu  st) := by
  have hX := B.1
  have hL := B.2.1
  unfold b_X8_mostOf_18
  refine ww_bipush (v := 7) hX rfl dX8_mostOf_18 ?_
  refine ww_goto (tgt := 24) hX dX8_mostOf_20 (by decide) ?_
  exact t_X8_mostOf_24 B fu  7 st
def f_X8_mostOf (fu : Nat) (p0 : Int32) (st : St) : Option (Int32 × St) :=
  if p0 = 3 then (
  some (15, st))
  else (
  if p0 = 1 then (
  b_X8_mostOf_18 fu   st)
  else (
  if p0 = 2 then (
  b_X8_mostOf_18 fu   st)
  else (
  b_X8_mostOf_24 fu  3 st)))
set_option maxHeartbeats 4000000 in
set_option maxRecDepth 100000 in
theorem t_X8_mostOf {X : CX} {res : Int32 × St} (B : BI X cX8_mostOf RX8 1 1 NN (some .int) res) (fu : Nat) (p0 : Int32) (st : St) : WW X res NN 0 [(0, .int p0)] [] st (f_X8_mostOf fu p0 st) := by
  have hX := B.1
  have hL := B.2.1
  unfold f_X8_mostOf
  refine ww_iload_n hX 0 rfl dX8_mostOf_0 rfl ?_
  refine ww_iconst (v := 3) hX rfl dX8_mostOf_1 ?_
  refine ww_icmp_ne (tgt := 8) hX dX8_mostOf_2 (by decide) ?_ ?_
  · refine ww_iload_n hX 0 rfl dX8_mostOf_8 rfl ?_
    refine ww_iconst (v := 1) hX rfl dX8_mostOf_9 ?_
    refine ww_icmp_eq (tgt := 18) hX dX8_mostOf_10 (by decide) ?_ ?_
    · exact ww_sub [] rfl (t_X8_mostOf_18 B fu   st)
    · refine ww_iload_n hX 0 rfl dX8_mostOf_13 rfl ?_
      refine ww_iconst (v := 2) hX rfl dX8_mostOf_14 ?_
      refine ww_icmp_ne (tgt := 23) hX dX8_mostOf_15 (by decide) ?_ ?_
      · refine ww_iconst (v := 3) hX rfl dX8_mostOf_23 ?_
        exact ww_sub [] rfl (t_X8_mostOf_24 B fu  3 st)
      · exact ww_sub [] rfl (t_X8_mostOf_18 B fu   st)
  · refine ww_bipush (v := 15) hX rfl dX8_mostOf_5 ?_
    exact ww_iret B dX8_mostOf_7
theorem c_X8_mostOf (G : GX) (l : Launch) (fu : Nat) (p0 : Int32) (st : St) : MI G NN l yX8_mostOf cX8_mostOf 1 (some .int) 1 [.int p0] st (f_X8_mostOf fu p0 st) := mkI (by decide) (Nat.le_of_ble_eq_true rfl) (fun X res hl hG B => by subst hl; subst hG; exact t_X8_mostOf B fu p0 st)
