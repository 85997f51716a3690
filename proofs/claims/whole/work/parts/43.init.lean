theorem gi_X7_25 : CIt RX7 25 yX0_init cX0_init 1 0 := ⟨(Or.inr ⟨RX11, by decide +kernel⟩), tb_t (List.mem_of_getElem? (i := 4) (by decide +kernel)) rfl, tb_t (List.mem_of_getElem? (i := 96) (by decide +kernel)) rfl, by decide +kernel, rfl, tb_t (List.mem_of_getElem? (i := 95) (by decide +kernel)) rfl⟩
theorem gi_X3_11 : CIt RX3 11 yX8_init cX8_init 1 0 := ⟨(Or.inr ⟨RX11, by decide +kernel⟩), tb_t (List.mem_of_getElem? (i := 6) (by decide +kernel)) rfl, tb_t (List.mem_of_getElem? (i := 187) (by decide +kernel)) rfl, by decide +kernel, rfl, tb_t (List.mem_of_getElem? (i := 186) (by decide +kernel)) rfl⟩
theorem gi_X1_32 : CIt RX1 32 yX8_init cX8_init 1 0 := ⟨(Or.inr ⟨RX11, by decide +kernel⟩), tb_t (List.mem_of_getElem? (i := 6) (by decide +kernel)) rfl, tb_t (List.mem_of_getElem? (i := 187) (by decide +kernel)) rfl, by decide +kernel, rfl, tb_t (List.mem_of_getElem? (i := 186) (by decide +kernel)) rfl⟩
theorem gi_X1_45 : CIt RX1 45 yX3_init cX3_init 1 0 := ⟨(Or.inr ⟨RX11, by decide +kernel⟩), tb_t (List.mem_of_getElem? (i := 7) (by decide +kernel)) rfl, tb_t (List.mem_of_getElem? (i := 249) (by decide +kernel)) rfl, by decide +kernel, rfl, tb_t (List.mem_of_getElem? (i := 248) (by decide +kernel)) rfl⟩
theorem gi_X11_9 : CIt RX11 9 yX9_init cX9_init 1 0 := ⟨(Or.inr ⟨RX11, by decide +kernel⟩), tb_t (List.mem_of_getElem? (i := 2) (by decide +kernel)) rfl, tb_t (List.mem_of_getElem? (i := 35) (by decide +kernel)) rfl, by decide +kernel, rfl, tb_t (List.mem_of_getElem? (i := 34) (by decide +kernel)) rfl⟩
theorem gi_X11_18 : CIt RX11 18 yX7_init cX7_init 2 0 := ⟨(Or.inl (tb_t (List.mem_of_getElem? (i := 87) (by decide +kernel)) rfl)), tb_t (List.mem_of_getElem? (i := 3) (by decide +kernel)) rfl, tb_t (List.mem_of_getElem? (i := 89) (by decide +kernel)) rfl, by decide +kernel, rfl, tb_t (List.mem_of_getElem? (i := 88) (by decide +kernel)) rfl⟩
theorem gi_X11_25 : CIt RX11 25 yX1_init cX1_init 3 1 := ⟨(Or.inl (tb_t (List.mem_of_getElem? (i := 177) (by decide +kernel)) rfl)), tb_t (List.mem_of_getElem? (i := 5) (by decide +kernel)) rfl, tb_t (List.mem_of_getElem? (i := 179) (by decide +kernel)) rfl, by decide +kernel, rfl, tb_t (List.mem_of_getElem? (i := 178) (by decide +kernel)) rfl⟩
theorem gi_X11_34 : CIt RX11 34 yX4_init cX4_init 1 0 := ⟨(Or.inr ⟨RX11, by decide +kernel⟩), tb_t (List.mem_of_getElem? (i := 9) (by decide +kernel)) rfl, tb_t (List.mem_of_getElem? (i := 333) (by decide +kernel)) rfl, by decide +kernel, rfl, tb_t (List.mem_of_getElem? (i := 332) (by decide +kernel)) rfl⟩
theorem gi_X11_41 : CIt RX11 41 yX6_init cX6_init 1 0 := ⟨(Or.inr ⟨RX11, by decide +kernel⟩), tb_t (List.mem_of_getElem? (i := 10) (by decide +kernel)) rfl, tb_t (List.mem_of_getElem? (i := 361) (by decide +kernel)) rfl, by decide +kernel, rfl, tb_t (List.mem_of_getElem? (i := 360) (by decide +kernel)) rfl⟩
theorem gi_X11_48 : CIt RX11 48 yX2_init cX2_init 3 2 := ⟨(Or.inl (tb_t (List.mem_of_getElem? (i := 376) (by decide +kernel)) rfl)), tb_t (List.mem_of_getElem? (i := 11) (by decide +kernel)) rfl, tb_t (List.mem_of_getElem? (i := 378) (by decide +kernel)) rfl, by decide +kernel, rfl, tb_t (List.mem_of_getElem? (i := 377) (by decide +kernel)) rfl⟩
theorem gi_X11_57 : CIt RX11 57 yX5_init cX5_init 1 0 := ⟨(Or.inr ⟨RX11, by decide +kernel⟩), tb_t (List.mem_of_getElem? (i := 12) (by decide +kernel)) rfl, tb_t (List.mem_of_getElem? (i := 442) (by decide +kernel)) rfl, by decide +kernel, rfl, tb_t (List.mem_of_getElem? (i := 441) (by decide +kernel)) rfl⟩
theorem gi_X11_64 : CIt RX11 64 yX10_init cX10_init 1 0 := ⟨(Or.inr ⟨RX11, by decide +kernel⟩), tb_t (List.mem_of_getElem? (i := 13) (by decide +kernel)) rfl, tb_t (List.mem_of_getElem? (i := 465) (by decide +kernel)) rfl, by decide +kernel, rfl, tb_t (List.mem_of_getElem? (i := 464) (by decide +kernel)) rfl⟩
def b_J7_fill_53178_n_5_b (fu n : Nat) (k_5 : Nat → Int32 → Int32 → Int32 → St → Option (St)) (x0 : Nat) (x1 : Int32) (x2 : Int32) (x3 : Int32)  (st : St) : Option St :=
  if x3 ≤ x2 then (
  some st)
  else (
  ck (1 ≤ x0 ∧ x0 ≤ n) <|
  ck ((kd x0).1 = 100 ∧ inb x2 (kd x0).2) <|
  bd (sI st x0 (ix x2) x1) fun s2 =>
  bd (x2 + 1) fun v3 =>
  k_5 x0 x1 v3 x3  s2)
set_option maxHeartbeats 4000000 in
set_option maxRecDepth 100000 in
theorem t_J7_fill_53178_n_5_b {X : CX} {res : St} (fu n : Nat) (B : BV X cJ7_fill_53178 RJ7 4 1 n none res) (k_5 : Nat → Int32 → Int32 → Int32 → St → Option (St)) (h_5 : ∀ (x0 : Nat) (x1 : Int32) (x2 : Int32) (x3 : Int32)  (st : St), WW X res n 5 [(0, .ref (x_b X + x0)), (1, .int x1), (2, .int x2), (3, .int x3)] [] st (k_5 x0 x1 x2 x3 st)) (x0 : Nat) (x1 : Int32) (x2 : Int32) (x3 : Int32)  (st : St) : WW X res n 5 [(0, .ref (x_b X + x0)), (1, .int x1), (2, .int x2), (3, .int x3)] [] st (b_J7_fill_53178_n_5_b fu n k_5 x0 x1 x2 x3 st) := by
  have hX := B.1
  have hL := B.2.1
  unfold b_J7_fill_53178_n_5_b
  refine ww_iload_n hX 2 rfl dJ7_fill_53178_5 rfl ?_
  refine ww_iload_n hX 3 rfl dJ7_fill_53178_6 rfl ?_
  refine ww_icmp_ge (tgt := 20) hX dJ7_fill_53178_7 (by decide) ?_ ?_
  · exact ww_vret B dJ7_fill_53178_20
  · refine ww_aload_n hX 0 rfl dJ7_fill_53178_10 rfl ?_
    refine ww_iload_n hX 2 rfl dJ7_fill_53178_11 rfl ?_
    refine ww_iload_n hX 1 rfl dJ7_fill_53178_12 rfl ?_
    refine ww_iastx hX dJ7_fill_53178_13 ?_
    refine ww_bds (fun s2 => ?_)
    refine ww_iincb (lv' := fun v3 => [(2, .int v3), (0, .ref (x_b X + x0)), (1, .int x1), (3, .int x3)]) (c := 1) hX hL 2 rfl dJ7_fill_53178_14 rfl (by decide) (fun _ => rfl) (fun v3 => ?_)
    refine ww_goto (tgt := 5) hX dJ7_fill_53178_17 (by decide) ?_
    exact ww_sub [1, 2, 0, 3] rfl (h_5 x0 x1 v3 x3  s2)
def b_J7_fill_53178_n_5 (fu n : Nat) : Nat → Nat → Int32 → Int32 → Int32 → St → Option St
  | 0, _, _, _, _, _ => none
  | i + 1, x0, x1, x2, x3, st => b_J7_fill_53178_n_5_b fu n (b_J7_fill_53178_n_5 fu n i) x0 x1 x2 x3 st
theorem t_J7_fill_53178_n_5 {X : CX} {res : St} (fu n : Nat) (B : BV X cJ7_fill_53178 RJ7 4 1 n none res) : ∀ (i : Nat) (x0 : Nat) (x1 : Int32) (x2 : Int32) (x3 : Int32)  (st : St), WW X res n 5 [(0, .ref (x_b X + x0)), (1, .int x1), (2, .int x2), (3, .int x3)] [] st (b_J7_fill_53178_n_5 fu n i x0 x1 x2 x3 st) := by
  intro i
  induction i with
  | zero => intro x0 x1 x2 x3 st; exact ww_none
  | succ i ih => intro x0 x1 x2 x3 st; exact t_J7_fill_53178_n_5_b fu n B (b_J7_fill_53178_n_5 fu n i) ih x0 x1 x2 x3 st
set_option maxRecDepth 100000 in
def f_J7_fill_53178_n (fu n : Nat) (p0 : Nat) (p1 : Int32) (st : St) : Option St :=
  ck (1 ≤ p0 ∧ p0 ≤ n) <|
  ck ((kd p0).1 = 100) <|
  bd (Int32.ofNat (kd p0).2) fun v1 =>
  b_J7_fill_53178_n_5 fu n fu p0 p1 0 v1  st
set_option maxHeartbeats 4000000 in
set_option maxRecDepth 100000 in
theorem t_J7_fill_53178_n {X : CX} {res : St} (fu n : Nat) (B : BV X cJ7_fill_53178 RJ7 4 1 n none res) (p0 : Nat) (p1 : Int32) (st : St) : WW X res n 0 [(0, .ref (x_b X + p0)), (1, .int p1)] [] st (f_J7_fill_53178_n fu n p0 p1 st) := by
  have hX := B.1
  have hL := B.2.1
  unfold f_J7_fill_53178_n
  refine ww_iconst (v := 0) hX rfl dJ7_fill_53178_0 ?_
  refine ww_istore_n (lv' := [(2, .int 0), (0, .ref (x_b X + p0)), (1, .int p1)]) hX hL dJ7_fill_53178_1 rfl (by decide) rfl ?_
  refine ww_aload_n hX 1 rfl dJ7_fill_53178_2 rfl ?_
  refine ww_alenx hX dJ7_fill_53178_3 ?_
  refine ww_bdi (fun v1 => ?_)
  refine ww_istore_n (lv' := [(3, .int v1), (2, .int 0), (0, .ref (x_b X + p0)), (1, .int p1)]) hX hL dJ7_fill_53178_4 rfl (by decide) rfl ?_
  exact ww_sub [2, 3, 1, 0] rfl (t_J7_fill_53178_n_5 fu n B fu p0 p1 0 v1  st)
theorem c_J7_fill_53178_n (G : GX) (l : Launch) (fu n : Nat) (p0 : Nat) (p1 : Int32) (st : St) : MV G n l yJ7_fill_53178 cJ7_fill_53178 4 none 1 [.ref (G.2.2.1 + p0), .int p1] st (f_J7_fill_53178_n fu n p0 p1 st) := mkV (by decide) (Nat.le_of_ble_eq_true rfl) (fun X res hl hG B => by subst hl; subst hG; exact t_J7_fill_53178_n fu n B p0 p1 st)
/-! StageHouse$Axis() -/
set_option maxRecDepth 100000 in
def f_X0_init (fu n : Nat) (th : Nat) (st : St) : Option St :=
  ck (1 ≤ th ∧ th ≤ n) <|
  ck ((kd th).1 = 0) <|
  bd (sI st th 7 ((-1))) fun s1 =>
  ck (n ≤ n ∧ n + 1 ≤ n + 1) <|
  ck (kd (n + 1) = (100, 60)) <|
  bd (zr s1 (n + 1)) fun s3 =>
  bd (n + 1) fun o4 =>
  ck (1 ≤ th ∧ th ≤ n + 1) <|
  ck (¬ o4 = 0) <|
  ck ((kd th).1 = 0) <|
  bd (sR s3 th 12 o4) fun s5 =>
  ck (n + 1 = n + 1) (some s5)
set_option maxHeartbeats 4000000 in
set_option maxRecDepth 100000 in
theorem t_X0_init {X : CX} {res : St} (fu n : Nat) (B : BC X cX0_init RX0 1 2 n 1 res) (th : Nat) (st : St) : WW X res n 0 [(0, .ref (x_b X + th))] [] st (f_X0_init fu n th st) := by
  have hX := B.1
  have hL := B.2.1
  unfold f_X0_init
  refine ww_aload_n hX 0 rfl dX0_init_0 rfl ?_
  refine ww_objinit hX (tb_t (List.mem_of_getElem? (i := 97) (by decide +kernel)) rfl) (tb_t (List.mem_of_getElem? (i := 29) (by decide +kernel)) rfl) (tb_t (List.mem_of_getElem? (i := 30) (by decide +kernel)) rfl) (B.ho (by decide) (Nat.le_of_ble_eq_true rfl)) dX0_init_1 ?_
  refine ww_aload_n hX 0 rfl dX0_init_4 rfl ?_
  refine ww_iconst (v := (-1)) hX rfl dX0_init_5 ?_
  refine ww_putIx hX f_X0_9 rfl dX0_init_6 ?_
  refine ww_bds (fun s1 => ?_)
  refine ww_aload_n hX 0 rfl dX0_init_9 rfl ?_
  refine ww_bipush (v := 60) hX rfl dX0_init_10 ?_
  refine ww_pc (b := 12) rfl ?_
  refine ww_ck (fun h2 => ?_)
  refine ww_newI hX (RA.of B h2) (by decide) (by decide) (by decide) ar_i dX0_init_12 ?_
  refine ww_bds (fun s3 => ?_)
  refine ww_bdR (fun o4 => ?_)
  refine ww_putRx hX f_X0_17 (Or.inr ⟨_, rfl⟩) dX0_init_14 ?_
  refine ww_bds (fun s5 => ?_)
  exact ww_cret0 B dX0_init_17
theorem c_X0_init (G : GX) (l : Launch) (fu n : Nat) (th : Nat) (st : St) : MC G n 1 l yX0_init cX0_init 1 2 [.ref (G.2.2.1 + th)] st (f_X0_init fu n th st) := mkC (by decide) rfl (Nat.le_of_ble_eq_true rfl) (fun X res hl hG B => by subst hl; subst hG; exact t_X0_init fu n B th st)
/-! StageHouse$Script() -/
set_option maxRecDepth 100000 in
def f_X8_init (fu n : Nat) (th : Nat) (st : St) : Option St :=
  ck (n ≤ n ∧ n + 1 ≤ n + 12) <|
  ck (kd (n + 1) = (100, 60)) <|
  bd (zr st (n + 1)) fun s2 =>
  bd (n + 1) fun o3 =>
  ck (1 ≤ th ∧ th ≤ n + 1) <|
  ck (¬ o3 = 0) <|
  ck ((kd th).1 = 8) <|
  bd (sR s2 th 0 o3) fun s4 =>
  ck (n ≤ n + 1 ∧ n + 2 ≤ n + 12) <|
  ck (kd (n + 2) = (100, 60)) <|
  bd (zr s4 (n + 2)) fun s6 =>
  bd (n + 2) fun o7 =>
  ck (1 ≤ th ∧ th ≤ n + 2) <|
  ck (¬ o7 = 0) <|
  ck ((kd th).1 = 8) <|
  bd (sR s6 th 1 o7) fun s8 =>
  ck (n ≤ n + 2 ∧ n + 3 ≤ n + 12) <|
  ck (kd (n + 3) = (100, 60)) <|
  bd (zr s8 (n + 3)) fun s10 =>
  bd (n + 3) fun o11 =>
  ck (1 ≤ th ∧ th ≤ n + 3) <|
  ck (¬ o11 = 0) <|
  ck ((kd th).1 = 8) <|
  bd (sR s10 th 2 o11) fun s12 =>
  ck (n ≤ n + 3 ∧ n + 4 ≤ n + 12) <|
  ck (kd (n + 4) = (100, 60)) <|
  bd (zr s12 (n + 4)) fun s14 =>
  bd (n + 4) fun o15 =>
  ck (1 ≤ th ∧ th ≤ n + 4) <|
  ck (¬ o15 = 0) <|
  ck ((kd th).1 = 8) <|
  bd (sR s14 th 3 o15) fun s16 =>
  ck (n ≤ n + 4 ∧ n + 5 ≤ n + 12) <|
  ck (kd (n + 5) = (100, 60)) <|
  bd (zr s16 (n + 5)) fun s18 =>
  bd (n + 5) fun o19 =>
  ck (1 ≤ th ∧ th ≤ n + 5) <|
  ck (¬ o19 = 0) <|
  ck ((kd th).1 = 8) <|
  bd (sR s18 th 4 o19) fun s20 =>
  ck (n ≤ n + 5 ∧ n + 6 ≤ n + 12) <|
  ck (kd (n + 6) = (100, 60)) <|
  bd (zr s20 (n + 6)) fun s22 =>
  bd (n + 6) fun o23 =>
  ck (1 ≤ th ∧ th ≤ n + 6) <|
  ck (¬ o23 = 0) <|
  ck ((kd th).1 = 8) <|
  bd (sR s22 th 5 o23) fun s24 =>
  ck (n ≤ n + 6 ∧ n + 7 ≤ n + 12) <|
  ck (kd (n + 7) = (100, 60)) <|
  bd (zr s24 (n + 7)) fun s26 =>
  bd (n + 7) fun o27 =>
  ck (1 ≤ th ∧ th ≤ n + 7) <|
  ck (¬ o27 = 0) <|
  ck ((kd th).1 = 8) <|
  bd (sR s26 th 6 o27) fun s28 =>
  ck (n ≤ n + 7 ∧ n + 8 ≤ n + 12) <|
  ck (kd (n + 8) = (100, 61)) <|
  bd (zr s28 (n + 8)) fun s30 =>
  bd (n + 8) fun o31 =>
  ck (1 ≤ th ∧ th ≤ n + 8) <|
  ck (¬ o31 = 0) <|
  ck ((kd th).1 = 8) <|
  bd (sR s30 th 7 o31) fun s32 =>
  ck (n ≤ n + 8 ∧ n + 9 ≤ n + 12) <|
  ck (kd (n + 9) = (100, 300)) <|
  bd (zr s32 (n + 9)) fun s34 =>
  bd (n + 9) fun o35 =>
  ck (1 ≤ th ∧ th ≤ n + 9) <|
  ck (¬ o35 = 0) <|
  ck ((kd th).1 = 8) <|
  bd (sR s34 th 8 o35) fun s36 =>
  ck (n ≤ n + 9 ∧ n + 10 ≤ n + 12) <|
  ck (kd (n + 10) = (100, 300)) <|
  bd (zr s36 (n + 10)) fun s38 =>
  bd (n + 10) fun o39 =>
  ck (1 ≤ th ∧ th ≤ n + 10) <|
  ck (¬ o39 = 0) <|
  ck ((kd th).1 = 8) <|
  bd (sR s38 th 9 o39) fun s40 =>
  ck (n ≤ n + 10 ∧ n + 11 ≤ n + 12) <|
  ck (kd (n + 11) = (100, 300)) <|
  bd (zr s40 (n + 11)) fun s42 =>
  bd (n + 11) fun o43 =>
  ck (1 ≤ th ∧ th ≤ n + 11) <|
  ck (¬ o43 = 0) <|
  ck ((kd th).1 = 8) <|
  bd (sR s42 th 10 o43) fun s44 =>
  ck (n ≤ n + 11 ∧ n + 12 ≤ n + 12) <|
  ck (kd (n + 12) = (103, 300)) <|
  bd (zr s44 (n + 12)) fun s46 =>
  bd (n + 12) fun o47 =>
  ck (1 ≤ th ∧ th ≤ n + 12) <|
  ck (¬ o47 = 0) <|
  ck ((kd th).1 = 8) <|
  bd (sR s46 th 11 o47) fun s48 =>
  ck (n + 12 = n + 12) (some s48)
set_option maxHeartbeats 4000000 in
set_option maxRecDepth 100000 in
theorem t_X8_init {X : CX} {res : St} (fu n : Nat) (B : BC X cX8_init RX8 1 2 n 12 res) (th : Nat) (st : St) : WW X res n 0 [(0, .ref (x_b X + th))] [] st (f_X8_init fu n th st) := by
  have hX := B.1
  have hL := B.2.1
  unfold f_X8_init
  refine ww_aload_n hX 0 rfl dX8_init_0 rfl ?_
  refine ww_objinit hX (tb_t (List.mem_of_getElem? (i := 188) (by decide +kernel)) rfl) (tb_t (List.mem_of_getElem? (i := 29) (by decide +kernel)) rfl) (tb_t (List.mem_of_getElem? (i := 30) (by decide +kernel)) rfl) (B.ho (by decide) (Nat.le_of_ble_eq_true rfl)) dX8_init_1 ?_
  refine ww_aload_n hX 0 rfl dX8_init_4 rfl ?_
  refine ww_bipush (v := 60) hX rfl dX8_init_5 ?_
  refine ww_ck (fun h1 => ?_)
  refine ww_newI hX (RA.of B h1) (by decide) (by decide) (by decide) ar_i dX8_init_7 ?_
  refine ww_bds (fun s2 => ?_)
  refine ww_bdR (fun o3 => ?_)
  refine ww_putRF hX B.2.2.2.2.2.2.2.1 (cls_own (own := RX8) (T' := TX8) (N' := 14) (C := "") (T := TX0) (N := 0) rfl) f_X8_11 (Or.inr ⟨_, rfl⟩) dX8_init_9 ?_
  refine ww_bds (fun s4 => ?_)
  refine ww_aload_n hX 0 rfl dX8_init_12 rfl ?_
  refine ww_pc (b := 13) rfl ?_
  refine ww_bipush (v := 60) hX rfl dX8_init_13 ?_
  refine ww_ck (fun h5 => ?_)
  refine ww_newI hX (RA.of B h5) (by decide) (by decide) (by decide) ar_i dX8_init_15 ?_
  refine ww_bds (fun s6 => ?_)
  refine ww_bdR (fun o7 => ?_)
  refine ww_putRF hX B.2.2.2.2.2.2.2.1 (cls_own (own := RX8) (T' := TX8) (N' := 14) (C := "") (T := TX0) (N := 0) rfl) f_X8_15 (Or.inr ⟨_, rfl⟩) dX8_init_17 ?_
  refine ww_bds (fun s8 => ?_)
  refine ww_aload_n hX 0 rfl dX8_init_20 rfl ?_
  refine ww_bipush (v := 60) hX rfl dX8_init_21 ?_
  refine ww_ck (fun h9 => ?_)
  refine ww_newI hX (RA.of B h9) (by decide) (by decide) (by decide) ar_i dX8_init_23 ?_
  refine ww_bds (fun s10 => ?_)
  refine ww_bdR (fun o11 => ?_)
  refine ww_putRF hX B.2.2.2.2.2.2.2.1 (cls_own (own := RX8) (T' := TX8) (N' := 14) (C := "") (T := TX0) (N := 0) rfl) f_X8_18 (Or.inr ⟨_, rfl⟩) dX8_init_25 ?_
  refine ww_bds (fun s12 => ?_)
  refine ww_aload_n hX 0 rfl dX8_init_28 rfl ?_
  refine ww_pc (b := 29) rfl ?_
  refine ww_bipush (v := 60) hX rfl dX8_init_29 ?_
  refine ww_ck (fun h13 => ?_)
  refine ww_newI hX (RA.of B h13) (by decide) (by decide) (by decide) ar_i dX8_init_31 ?_
  refine ww_bds (fun s14 => ?_)
  refine ww_bdR (fun o15 => ?_)
  refine ww_putRF hX B.2.2.2.2.2.2.2.1 (cls_own (own := RX8) (T' := TX8) (N' := 14) (C := "") (T := TX0) (N := 0) rfl) f_X8_21 (Or.inr ⟨_, rfl⟩) dX8_init_33 ?_
  refine ww_bds (fun s16 => ?_)
  refine ww_aload_n hX 0 rfl dX8_init_36 rfl ?_
  refine ww_bipush (v := 60) hX rfl dX8_init_37 ?_
  refine ww_ck (fun h17 => ?_)
  refine ww_newI hX (RA.of B h17) (by decide) (by decide) (by decide) ar_i dX8_init_39 ?_
  refine ww_bds (fun s18 => ?_)
  refine ww_bdR (fun o19 => ?_)
  refine ww_putRF hX B.2.2.2.2.2.2.2.1 (cls_own (own := RX8) (T' := TX8) (N' := 14) (C := "") (T := TX0) (N := 0) rfl) f_X8_24 (Or.inr ⟨_, rfl⟩) dX8_init_41 ?_
  refine ww_bds (fun s20 => ?_)
  refine ww_aload_n hX 0 rfl dX8_init_44 rfl ?_
  refine ww_pc (b := 45) rfl ?_
  refine ww_bipush (v := 60) hX rfl dX8_init_45 ?_
  refine ww_ck (fun h21 => ?_)
  refine ww_newI hX (RA.of B h21) (by decide) (by decide) (by decide) ar_i dX8_init_47 ?_
  refine ww_bds (fun s22 => ?_)
  refine ww_bdR (fun o23 => ?_)
  refine ww_putRF hX B.2.2.2.2.2.2.2.1 (cls_own (own := RX8) (T' := TX8) (N' := 14) (C := "") (T := TX0) (N := 0) rfl) f_X8_27 (Or.inr ⟨_, rfl⟩) dX8_init_49 ?_
  refine ww_bds (fun s24 => ?_)
  refine ww_aload_n hX 0 rfl dX8_init_52 rfl ?_
  refine ww_bipush (v := 60) hX rfl dX8_init_53 ?_
  refine ww_ck (fun h25 => ?_)
  refine ww_newI hX (RA.of B h25) (by decide) (by decide) (by decide) ar_i dX8_init_55 ?_
  refine ww_bds (fun s26 => ?_)
  refine ww_bdR (fun o27 => ?_)
  refine ww_putRF hX B.2.2.2.2.2.2.2.1 (cls_own (own := RX8) (T' := TX8) (N' := 14) (C := "") (T := TX0) (N := 0) rfl) f_X8_30 (Or.inr ⟨_, rfl⟩) dX8_init_57 ?_
  refine ww_bds (fun s28 => ?_)
  refine ww_aload_n hX 0 rfl dX8_init_60 rfl ?_
  refine ww_pc (b := 61) rfl ?_
  refine ww_bipush (v := 61) hX rfl dX8_init_61 ?_
  refine ww_ck (fun h29 => ?_)
  refine ww_newI hX (RA.of B h29) (by decide) (by decide) (by decide) ar_i dX8_init_63 ?_
  refine ww_bds (fun s30 => ?_)
  refine ww_bdR (fun o31 => ?_)
  refine ww_putRF hX B.2.2.2.2.2.2.2.1 (cls_own (own := RX8) (T' := TX8) (N' := 14) (C := "") (T := TX0) (N := 0) rfl) f_X8_33 (Or.inr ⟨_, rfl⟩) dX8_init_65 ?_
  refine ww_bds (fun s32 => ?_)
  refine ww_aload_n hX 0 rfl dX8_init_68 rfl ?_
  refine ww_sipush (v := 300) hX rfl dX8_init_69 ?_
  refine ww_ck (fun h33 => ?_)
  refine ww_newI hX (RA.of B h33) (by decide) (by decide) (by decide) ar_i dX8_init_72 ?_
  refine ww_bds (fun s34 => ?_)
  refine ww_bdR (fun o35 => ?_)
  refine ww_putRF hX B.2.2.2.2.2.2.2.1 (cls_own (own := RX8) (T' := TX8) (N' := 14) (C := "") (T := TX0) (N := 0) rfl) f_X8_36 (Or.inr ⟨_, rfl⟩) dX8_init_74 ?_
  refine ww_bds (fun s36 => ?_)
  refine ww_aload_n hX 0 rfl dX8_init_77 rfl ?_
  refine ww_pc (b := 78) rfl ?_
  refine ww_sipush (v := 300) hX rfl dX8_init_78 ?_
  refine ww_ck (fun h37 => ?_)
  refine ww_newI hX (RA.of B h37) (by decide) (by decide) (by decide) ar_i dX8_init_81 ?_
  refine ww_bds (fun s38 => ?_)
  refine ww_bdR (fun o39 => ?_)
  refine ww_putRF hX B.2.2.2.2.2.2.2.1 (cls_own (own := RX8) (T' := TX8) (N' := 14) (C := "") (T := TX0) (N := 0) rfl) f_X8_39 (Or.inr ⟨_, rfl⟩) dX8_init_83 ?_
  refine ww_bds (fun s40 => ?_)
  refine ww_aload_n hX 0 rfl dX8_init_86 rfl ?_
  refine ww_sipush (v := 300) hX rfl dX8_init_87 ?_
  refine ww_ck (fun h41 => ?_)
  refine ww_newI hX (RA.of B h41) (by decide) (by decide) (by decide) ar_i dX8_init_90 ?_
  refine ww_bds (fun s42 => ?_)
  refine ww_bdR (fun o43 => ?_)
  refine ww_putRF hX B.2.2.2.2.2.2.2.1 (cls_own (own := RX8) (T' := TX8) (N' := 14) (C := "") (T := TX0) (N := 0) rfl) f_X8_42 (Or.inr ⟨_, rfl⟩) dX8_init_92 ?_
  refine ww_bds (fun s44 => ?_)
  refine ww_aload_n hX 0 rfl dX8_init_95 rfl ?_
  refine ww_pc (b := 96) rfl ?_
  refine ww_sipush (v := 300) hX rfl dX8_init_96 ?_
  refine ww_ck (fun h45 => ?_)
  refine ww_newL hX (RA.of B h45) (by decide) (by decide) (by decide) ar_l dX8_init_99 ?_
  refine ww_bds (fun s46 => ?_)
  refine ww_bdR (fun o47 => ?_)
  refine ww_putRF hX B.2.2.2.2.2.2.2.1 (cls_own (own := RX8) (T' := TX8) (N' := 14) (C := "") (T := TX0) (N := 0) rfl) f_X8_45 (Or.inr ⟨_, rfl⟩) dX8_init_101 ?_
  refine ww_bds (fun s48 => ?_)
  exact ww_cret0 B dX8_init_104
theorem c_X8_init (G : GX) (l : Launch) (fu n : Nat) (th : Nat) (st : St) : MC G n 12 l yX8_init cX8_init 1 2 [.ref (G.2.2.1 + th)] st (f_X8_init fu n th st) := mkC (by decide) rfl (Nat.le_of_ble_eq_true rfl) (fun X res hl hG B => by subst hl; subst hG; exact t_X8_init fu n B th st)
/-! StageHouse$Tape() -/
set_option maxRecDepth 100000 in
def f_X9_init (fu n : Nat) (th : Nat) (st : St) : Option St :=
  ck (n ≤ n ∧ n + 1 ≤ n + 1) <|
  ck (kd (n + 1) = (101, 4000)) <|
  bd (zr st (n + 1)) fun s2 =>
  bd (n + 1) fun o3 =>
  ck (1 ≤ th ∧ th ≤ n + 1) <|
  ck (¬ o3 = 0) <|
  ck ((kd th).1 = 9) <|
  bd (sR s2 th 0 o3) fun s4 =>
  ck (n + 1 = n + 1) (some s4)
set_option maxHeartbeats 4000000 in
set_option maxRecDepth 100000 in
theorem t_X9_init {X : CX} {res : St} (fu n : Nat) (B : BC X cX9_init RX9 1 2 n 1 res) (th : Nat) (st : St) : WW X res n 0 [(0, .ref (x_b X + th))] [] st (f_X9_init fu n th st) := by
  have hX := B.1
  have hL := B.2.1
  unfold f_X9_init
  refine ww_aload_n hX 0 rfl dX9_init_0 rfl ?_
  refine ww_objinit hX (tb_t (List.mem_of_getElem? (i := 36) (by decide +kernel)) rfl) (tb_t (List.mem_of_getElem? (i := 29) (by decide +kernel)) rfl) (tb_t (List.mem_of_getElem? (i := 30) (by decide +kernel)) rfl) (B.ho (by decide) (Nat.le_of_ble_eq_true rfl)) dX9_init_1 ?_
  refine ww_aload_n hX 0 rfl dX9_init_4 rfl ?_
  refine ww_sipush (v := 4000) hX rfl dX9_init_5 ?_
  refine ww_ck (fun h1 => ?_)
  refine ww_newB hX (RA.of B h1) (by decide) (by decide) (by decide) ar_b dX9_init_8 ?_
  refine ww_bds (fun s2 => ?_)
  refine ww_bdR (fun o3 => ?_)
  refine ww_putRF hX B.2.2.2.2.2.2.2.1 (cls_own (own := RX9) (T' := TX9) (N' := 10) (C := "") (T := TX0) (N := 0) rfl) f_X9_11 (Or.inr ⟨_, rfl⟩) dX9_init_10 ?_
  refine ww_bds (fun s4 => ?_)
  exact ww_cret0 B dX9_init_13
theorem c_X9_init (G : GX) (l : Launch) (fu n : Nat) (th : Nat) (st : St) : MC G n 1 l yX9_init cX9_init 1 2 [.ref (G.2.2.1 + th)] st (f_X9_init fu n th st) := mkC (by decide) rfl (Nat.le_of_ble_eq_true rfl) (fun X res hl hG B => by subst hl; subst hG; exact t_X9_init fu n B th st)
/-! StageHouse$Rig() -/
def b_X7_init_31_b (fu n : Nat) (k_31 : Nat → Nat → Int32 → St → Option (St)) (m : Nat) (x0 : Nat) (x1 : Int32)  (st : St) : Option St :=
  if 8 ≤ x1 then (
  ck (m = n + 19) (some st))
  else (
  ck (1 ≤ x0 ∧ x0 ≤ m) <|
  ck (¬ gR st x0 0 = 0) <|
  ck ((kd x0).1 = 7) <|
  bd (gR st x0 0) fun o13 =>
  ck (n ≤ m ∧ m + 1 ≤ n + 19) <|
  ck ((kd (m + 1)).1 = 0) <|
  bd (zr st (m + 1)) fun s15 =>
  bd (m + 1) fun o16 =>
  ck (n ≤ m + 1 ∧ m + 2 ≤ n + 19) <|
  cv (f_X0_init fu (m + 1) o16 s15) fun s18 =>
  ck ((1 ≤ o13 ∧ o13 ≤ m + 2) ∧ (1 ≤ o16 ∧ o16 ≤ m + 2) ∧ (kd o16).1 = 0) <|
  ck ((kd o13).1 = 105 ∧ inb x1 (kd o13).2) <|
  bd (sR s18 o13 (ix x1) o16) fun s19 =>
  bd (x1 + 1) fun v20 =>
  k_31 (m + 2) x0 v20  s19)
set_option maxHeartbeats 4000000 in
set_option maxRecDepth 100000 in
theorem t_X7_init_31_b {X : CX} {res : St} (fu n : Nat) (B : BC X cX7_init RX7 2 4 n 19 res) (k_31 : Nat → Nat → Int32 → St → Option (St)) (h_31 : ∀ (m : Nat) (x0 : Nat) (x1 : Int32)  (st : St), WW X res m 31 [(0, .ref (x_b X + x0)), (1, .int x1)] [] st (k_31 m x0 x1 st)) (m : Nat) (x0 : Nat) (x1 : Int32)  (st : St) : WW X res m 31 [(0, .ref (x_b X + x0)), (1, .int x1)] [] st (b_X7_init_31_b fu n k_31 m x0 x1 st) := by
  have hX := B.1
  have hL := B.2.1
  unfold b_X7_init_31_b
  refine ww_iload_n hX 1 rfl dX7_init_31 rfl ?_
  refine ww_bipush (v := 8) hX rfl dX7_init_32 ?_
  refine ww_icmp_ge (tgt := 56) hX dX7_init_34 (by decide) ?_ ?_
  · exact ww_cret0 B dX7_init_56
  · refine ww_aload_n hX 0 rfl dX7_init_37 rfl ?_
    refine ww_getRx hX f_X7_11 (Or.inr ⟨_, rfl⟩) dX7_init_38 ?_
    refine ww_bdR (fun o13 => ?_)
    refine ww_iload_n hX 1 rfl dX7_init_41 rfl ?_
    refine ww_ck (fun h14 => ?_)
    refine ww_new hX (RA.of B h14) cls0 (by decide) (by decide +kernel) (tb_t (List.mem_of_getElem? (i := 91) (by decide +kernel)) rfl) (tb_t (List.mem_of_getElem? (i := 93) (by decide +kernel)) rfl) (tb_t (List.mem_of_getElem? (i := 4) (by decide +kernel)) rfl) dX7_init_42 ?_
    refine ww_bds (fun s15 => ?_)
    refine ww_bdR (fun o16 => ?_)
    refine ww_dup hX rfl dX7_init_45 ?_
    refine ww_ck (fun h17 => ?_)
    refine ww_callC (k' := 1) (As := []) (rest := [.ref (x_b X + o16), .int x1, .ref (x_b X + o13)]) (o := o16) hX B.2.2.2.2.2.2.2.2.2 B.hs (B.h0 (k' := 1) h17) (B.hr h17 (by decide) (by decide)) gi_X7_25 (c_X0_init (x_G X) (x_l X) fu (m + 1) o16 s15) rfl rfl (Nat.le_of_ble_eq_true rfl) dX7_init_46 (fun s18 => ?_)
    refine ww_aast (t := 5) (tc := 0) (r := (RX0, TX0, 14)) hX (by decide) rfl rfl (by decide) dX7_init_49 ?_
    refine ww_bds (fun s19 => ?_)
    refine ww_pc (b := 50) rfl ?_
    refine ww_iincb (lv' := fun v20 => [(1, .int v20), (0, .ref (x_b X + x0))]) (c := 1) hX hL 1 rfl dX7_init_50 rfl (by decide) (fun _ => rfl) (fun v20 => ?_)
    refine ww_goto (tgt := 31) hX dX7_init_53 (by decide) ?_
    exact ww_sub [1, 0] rfl (h_31 (m + 2) x0 v20  s19)
def b_X7_init_31 (fu n : Nat) : Nat → Nat → Nat → Int32 → St → Option St
  | 0, _, _, _, _ => none
  | i + 1, m, x0, x1, st => b_X7_init_31_b fu n (b_X7_init_31 fu n i) m x0 x1 st
theorem t_X7_init_31 {X : CX} {res : St} (fu n : Nat) (B : BC X cX7_init RX7 2 4 n 19 res) : ∀ (i : Nat) (m : Nat) (x0 : Nat) (x1 : Int32)  (st : St), WW X res m 31 [(0, .ref (x_b X + x0)), (1, .int x1)] [] st (b_X7_init_31 fu n i m x0 x1 st) := by
  intro i
  induction i with
  | zero => intro m x0 x1 st; exact ww_none
  | succ i ih => intro m x0 x1 st; exact t_X7_init_31_b fu n B (b_X7_init_31 fu n i) ih m x0 x1 st
set_option maxRecDepth 100000 in
def f_X7_init (fu n : Nat) (th : Nat) (st : St) : Option St :=
  ck (n ≤ n ∧ n + 1 ≤ n + 19) <|
  ck (kd (n + 1) = (105, 8)) <|
  bd (zr st (n + 1)) fun s2 =>
  bd (n + 1) fun o3 =>
  ck (1 ≤ th ∧ th ≤ n + 1) <|
  ck (¬ o3 = 0) <|
  ck ((kd th).1 = 7) <|
  bd (sR s2 th 0 o3) fun s4 =>
  ck (n ≤ n + 1 ∧ n + 2 ≤ n + 19) <|
  ck (kd (n + 2) = (102, 16)) <|
  bd (zr s4 (n + 2)) fun s6 =>
  bd (n + 2) fun o7 =>
  ck (1 ≤ th ∧ th ≤ n + 2) <|
  ck (¬ o7 = 0) <|
  ck ((kd th).1 = 7) <|
  bd (sR s6 th 1 o7) fun s8 =>
  ck (n ≤ n + 2 ∧ n + 3 ≤ n + 19) <|
  ck (kd (n + 3) = (100, 60)) <|
  bd (zr s8 (n + 3)) fun s10 =>
  bd (n + 3) fun o11 =>
  ck (1 ≤ th ∧ th ≤ n + 3) <|
  ck (¬ o11 = 0) <|
  ck ((kd th).1 = 7) <|
  bd (sR s10 th 3 o11) fun s12 =>
  b_X7_init_31 fu n fu (n + 3) th 0  s12
set_option maxHeartbeats 4000000 in
set_option maxRecDepth 100000 in
theorem t_X7_init {X : CX} {res : St} (fu n : Nat) (B : BC X cX7_init RX7 2 4 n 19 res) (th : Nat) (st : St) : WW X res n 0 [(0, .ref (x_b X + th))] [] st (f_X7_init fu n th st) := by
  have hX := B.1
  have hL := B.2.1
  unfold f_X7_init
  refine ww_aload_n hX 0 rfl dX7_init_0 rfl ?_
  refine ww_objinit hX (tb_t (List.mem_of_getElem? (i := 90) (by decide +kernel)) rfl) (tb_t (List.mem_of_getElem? (i := 29) (by decide +kernel)) rfl) (tb_t (List.mem_of_getElem? (i := 30) (by decide +kernel)) rfl) (B.ho (by decide) (Nat.le_of_ble_eq_true rfl)) dX7_init_1 ?_
  refine ww_aload_n hX 0 rfl dX7_init_4 rfl ?_
  refine ww_bipush (v := 8) hX rfl dX7_init_5 ?_
  refine ww_ck (fun h1 => ?_)
  refine ww_newq (t := 5) hX (RA.of B h1) (by decide) rfl (by decide) (by decide) (by decide) (tb_t (List.mem_of_getElem? (i := 91) (by decide +kernel)) rfl) B.2.2.2.2.2.2.2.2.2.2.2 dX7_init_7 ?_
  refine ww_bds (fun s2 => ?_)
  refine ww_bdR (fun o3 => ?_)
  refine ww_putRF hX B.2.2.2.2.2.2.2.1 (cls_own (own := RX7) (T' := TX7) (N' := 5) (C := "") (T := TX0) (N := 0) rfl) f_X7_11 (Or.inr ⟨_, rfl⟩) dX7_init_10 ?_
  refine ww_bds (fun s4 => ?_)
  refine ww_aload_n hX 0 rfl dX7_init_13 rfl ?_
  refine ww_pc (b := 14) rfl ?_
  refine ww_bipush (v := 16) hX rfl dX7_init_14 ?_
  refine ww_ck (fun h5 => ?_)
  refine ww_newZ hX (RA.of B h5) (by decide) (by decide) (by decide) ar_z dX7_init_16 ?_
  refine ww_bds (fun s6 => ?_)
  refine ww_bdR (fun o7 => ?_)
  refine ww_putRF hX B.2.2.2.2.2.2.2.1 (cls_own (own := RX7) (T' := TX7) (N' := 5) (C := "") (T := TX0) (N := 0) rfl) f_X7_17 (Or.inr ⟨_, rfl⟩) dX7_init_18 ?_
  refine ww_bds (fun s8 => ?_)
  refine ww_aload_n hX 0 rfl dX7_init_21 rfl ?_
  refine ww_bipush (v := 60) hX rfl dX7_init_22 ?_
  refine ww_ck (fun h9 => ?_)
  refine ww_newI hX (RA.of B h9) (by decide) (by decide) (by decide) ar_i dX7_init_24 ?_
  refine ww_bds (fun s10 => ?_)
  refine ww_bdR (fun o11 => ?_)
  refine ww_putRx hX f_X7_21 (Or.inr ⟨_, rfl⟩) dX7_init_26 ?_
  refine ww_bds (fun s12 => ?_)
  refine ww_iconst (v := 0) hX rfl dX7_init_29 ?_
  refine ww_pc (b := 30) rfl ?_
  refine ww_istore_n (lv' := [(1, .int 0), (0, .ref (x_b X + th))]) hX hL dX7_init_30 rfl (by decide) rfl ?_
  exact ww_sub [1, 0] rfl (t_X7_init_31 fu n B fu (n + 3) th 0  s12)
theorem c_X7_init (G : GX) (l : Launch) (fu n : Nat) (th : Nat) (st : St) : MC G n 19 l yX7_init cX7_init 2 4 [.ref (G.2.2.1 + th)] st (f_X7_init fu n th st) := mkC (by decide) rfl (Nat.le_of_ble_eq_true rfl) (fun X res hl hG B => by subst hl; subst hG; exact t_X7_init fu n B th st)
/-! StageHouse$CueList() -/
set_option maxRecDepth 100000 in
def f_X3_init (fu n : Nat) (th : Nat) (st : St) : Option St :=
  ck (n ≤ n ∧ n + 1 ≤ n + 17) <|
  ck ((kd (n + 1)).1 = 8) <|
  bd (zr st (n + 1)) fun s2 =>
  bd (n + 1) fun o3 =>
  ck (n ≤ n + 1 ∧ n + 13 ≤ n + 17) <|
  cv (f_X8_init fu (n + 1) o3 s2) fun s5 =>
  ck (1 ≤ th ∧ th ≤ n + 13) <|
  ck (¬ o3 = 0) <|
  ck ((kd th).1 = 3) <|
  bd (sR s5 th 0 o3) fun s6 =>
  ck (n ≤ n + 13 ∧ n + 14 ≤ n + 17) <|
  ck (kd (n + 14) = (100, 64)) <|
  bd (zr s6 (n + 14)) fun s8 =>
  bd (n + 14) fun o9 =>
  ck (1 ≤ th ∧ th ≤ n + 14) <|
  ck (¬ o9 = 0) <|
  ck ((kd th).1 = 3) <|
  bd (sR s8 th 1 o9) fun s10 =>
  ck (n ≤ n + 14 ∧ n + 15 ≤ n + 17) <|
  ck (kd (n + 15) = (100, 64)) <|
  bd (zr s10 (n + 15)) fun s12 =>
  bd (n + 15) fun o13 =>
  ck (1 ≤ th ∧ th ≤ n + 15) <|
  ck (¬ o13 = 0) <|
  ck ((kd th).1 = 3) <|
  bd (sR s12 th 2 o13) fun s14 =>
  ck (n ≤ n + 15 ∧ n + 16 ≤ n + 17) <|
  ck (kd (n + 16) = (100, 64)) <|
  bd (zr s14 (n + 16)) fun s16 =>
  bd (n + 16) fun o17 =>
  ck (1 ≤ th ∧ th ≤ n + 16) <|
  ck (¬ o17 = 0) <|
  ck ((kd th).1 = 3) <|
  bd (sR s16 th 3 o17) fun s18 =>
  ck (n ≤ n + 16 ∧ n + 17 ≤ n + 17) <|
  ck (kd (n + 17) = (100, 64)) <|
  bd (zr s18 (n + 17)) fun s20 =>
  bd (n + 17) fun o21 =>
  ck (1 ≤ th ∧ th ≤ n + 17) <|
  ck (¬ o21 = 0) <|
  ck ((kd th).1 = 3) <|
  bd (sR s20 th 4 o21) fun s22 =>
  ck (1 ≤ th ∧ th ≤ n + 17) <|
  ck ((kd th).1 = 3) <|
  bd (sI s22 th 5 ((-1))) fun s23 =>
  ck (1 ≤ th ∧ th ≤ n + 17) <|
  ck ((kd th).1 = 3) <|
  bd (sI s23 th 8 ((-1))) fun s24 =>
  ck (1 ≤ th ∧ th ≤ n + 17) <|
  ck ((kd th).1 = 3) <|
  bd (sI s24 th 9 255) fun s25 =>
  ck (n + 17 = n + 17) (some s25)
set_option maxHeartbeats 4000000 in
set_option maxRecDepth 100000 in
theorem t_X3_init {X : CX} {res : St} (fu n : Nat) (B : BC X cX3_init RX3 1 4 n 17 res) (th : Nat) (st : St) : WW X res n 0 [(0, .ref (x_b X + th))] [] st (f_X3_init fu n th st) := by
  have hX := B.1
  have hL := B.2.1
  unfold f_X3_init
  refine ww_aload_n hX 0 rfl dX3_init_0 rfl ?_
  refine ww_objinit hX (tb_t (List.mem_of_getElem? (i := 250) (by decide +kernel)) rfl) (tb_t (List.mem_of_getElem? (i := 29) (by decide +kernel)) rfl) (tb_t (List.mem_of_getElem? (i := 30) (by decide +kernel)) rfl) (B.ho (by decide) (Nat.le_of_ble_eq_true rfl)) dX3_init_1 ?_
  refine ww_aload_n hX 0 rfl dX3_init_4 rfl ?_
  refine ww_ck (fun h1 => ?_)
  refine ww_new hX (RA.of B h1) cls8 (by decide) (by decide +kernel) (tb_t (List.mem_of_getElem? (i := 251) (by decide +kernel)) rfl) (tb_t (List.mem_of_getElem? (i := 184) (by decide +kernel)) rfl) (tb_t (List.mem_of_getElem? (i := 6) (by decide +kernel)) rfl) dX3_init_5 ?_
  refine ww_bds (fun s2 => ?_)
  refine ww_bdR (fun o3 => ?_)
  refine ww_dup hX rfl dX3_init_8 ?_
  refine ww_ck (fun h4 => ?_)
  refine ww_callC (k' := 12) (As := []) (rest := [.ref (x_b X + o3), .ref (x_b X + th)]) (o := o3) hX B.2.2.2.2.2.2.2.2.2 B.hs (B.h0 (k' := 12) h4) (B.hr h4 (by decide) (by decide)) gi_X3_11 (c_X8_init (x_G X) (x_l X) fu (n + 1) o3 s2) rfl rfl (Nat.le_of_ble_eq_true rfl) dX3_init_9 (fun s5 => ?_)
  refine ww_putRx hX f_X3_12 (Or.inl ⟨_, rfl⟩) dX3_init_12 ?_
  refine ww_bds (fun s6 => ?_)
  refine ww_pc (b := 15) rfl ?_
  refine ww_aload_n hX 0 rfl dX3_init_15 rfl ?_
  refine ww_bipush (v := 64) hX rfl dX3_init_16 ?_
  refine ww_ck (fun h7 => ?_)
  refine ww_newI hX (RA.of B h7) (by decide) (by decide) (by decide) ar_i dX3_init_18 ?_
  refine ww_bds (fun s8 => ?_)
  refine ww_bdR (fun o9 => ?_)
  refine ww_putRF hX B.2.2.2.2.2.2.2.1 (cls_own (own := RX3) (T' := TX3) (N' := 10) (C := "") (T := TX0) (N := 0) rfl) f_X3_18 (Or.inr ⟨_, rfl⟩) dX3_init_20 ?_
  refine ww_bds (fun s10 => ?_)
  refine ww_aload_n hX 0 rfl dX3_init_23 rfl ?_
  refine ww_bipush (v := 64) hX rfl dX3_init_24 ?_
  refine ww_ck (fun h11 => ?_)
  refine ww_newI hX (RA.of B h11) (by decide) (by decide) (by decide) ar_i dX3_init_26 ?_
  refine ww_bds (fun s12 => ?_)
  refine ww_bdR (fun o13 => ?_)
  refine ww_putRF hX B.2.2.2.2.2.2.2.1 (cls_own (own := RX3) (T' := TX3) (N' := 10) (C := "") (T := TX0) (N := 0) rfl) f_X3_22 (Or.inr ⟨_, rfl⟩) dX3_init_28 ?_
  refine ww_bds (fun s14 => ?_)
  refine ww_pc (b := 31) rfl ?_
  refine ww_aload_n hX 0 rfl dX3_init_31 rfl ?_
  refine ww_bipush (v := 64) hX rfl dX3_init_32 ?_
  refine ww_ck (fun h15 => ?_)
  refine ww_newI hX (RA.of B h15) (by decide) (by decide) (by decide) ar_i dX3_init_34 ?_
  refine ww_bds (fun s16 => ?_)
  refine ww_bdR (fun o17 => ?_)
  refine ww_putRF hX B.2.2.2.2.2.2.2.1 (cls_own (own := RX3) (T' := TX3) (N' := 10) (C := "") (T := TX0) (N := 0) rfl) f_X3_25 (Or.inr ⟨_, rfl⟩) dX3_init_36 ?_
  refine ww_bds (fun s18 => ?_)
  refine ww_aload_n hX 0 rfl dX3_init_39 rfl ?_
  refine ww_bipush (v := 64) hX rfl dX3_init_40 ?_
  refine ww_ck (fun h19 => ?_)
  refine ww_newI hX (RA.of B h19) (by decide) (by decide) (by decide) ar_i dX3_init_42 ?_
  refine ww_bds (fun s20 => ?_)
  refine ww_bdR (fun o21 => ?_)
  refine ww_putRF hX B.2.2.2.2.2.2.2.1 (cls_own (own := RX3) (T' := TX3) (N' := 10) (C := "") (T := TX0) (N := 0) rfl) f_X3_28 (Or.inr ⟨_, rfl⟩) dX3_init_44 ?_
  refine ww_bds (fun s22 => ?_)
  refine ww_pc (b := 47) rfl ?_
  refine ww_aload_n hX 0 rfl dX3_init_47 rfl ?_
  refine ww_iconst (v := (-1)) hX rfl dX3_init_48 ?_
  refine ww_putIx hX f_X3_31 rfl dX3_init_49 ?_
  refine ww_bds (fun s23 => ?_)
  refine ww_aload_n hX 0 rfl dX3_init_52 rfl ?_
  refine ww_iconst (v := (-1)) hX rfl dX3_init_53 ?_
  refine ww_putIx hX f_X3_35 rfl dX3_init_54 ?_
  refine ww_bds (fun s24 => ?_)
  refine ww_aload_n hX 0 rfl dX3_init_57 rfl ?_
  refine ww_sipush (v := 255) hX rfl dX3_init_58 ?_
  refine ww_pc (b := 61) rfl ?_
  refine ww_putIx hX f_X3_38 rfl dX3_init_61 ?_
  refine ww_bds (fun s25 => ?_)
  exact ww_cret0 B dX3_init_64
theorem c_X3_init (G : GX) (l : Launch) (fu n : Nat) (th : Nat) (st : St) : MC G n 17 l yX3_init cX3_init 1 4 [.ref (G.2.2.1 + th)] st (f_X3_init fu n th st) := mkC (by decide) rfl (Nat.le_of_ble_eq_true rfl) (fun X res hl hG B => by subst hl; subst hG; exact t_X3_init fu n B th st)
/-! StageHouse$Board() -/
def b_X1_init_71_b (fu n : Nat) (k_71 : Nat → Nat → Int32 → St → Option (St)) (m : Nat) (x0 : Nat) (x2 : Int32)  (st : St) : Option St :=
  if 4 ≤ x2 then (
  ck (1 ≤ x0 ∧ x0 ≤ m) <|
  ck (¬ gR st x0 1 = 0) <|
  ck ((kd x0).1 = 1) <|
  bd (gR st x0 1) fun o29 =>
  ck (n ≤ m ∧ m ≤ n + 90) <|
  cv (f_J7_fill_53178_n fu (m) o29 ((-1)) st) fun s30 =>
  ck (m = n + 90) (some s30))
  else (
  ck (1 ≤ x0 ∧ x0 ≤ m) <|
  ck (¬ gR st x0 0 = 0) <|
  ck ((kd x0).1 = 1) <|
  bd (gR st x0 0) fun o32 =>
  ck (n ≤ m ∧ m + 1 ≤ n + 90) <|
  ck ((kd (m + 1)).1 = 3) <|
  bd (zr st (m + 1)) fun s34 =>
  bd (m + 1) fun o35 =>
  ck (n ≤ m + 1 ∧ m + 18 ≤ n + 90) <|
  cv (f_X3_init fu (m + 1) o35 s34) fun s37 =>
  ck ((1 ≤ o32 ∧ o32 ≤ m + 18) ∧ (1 ≤ o35 ∧ o35 ≤ m + 18) ∧ (kd o35).1 = 3) <|
  ck ((kd o32).1 = 104 ∧ inb x2 (kd o32).2) <|
  bd (sR s37 o32 (ix x2) o35) fun s38 =>
  bd (x2 + 1) fun v39 =>
  k_71 (m + 18) x0 v39  s38)
set_option maxHeartbeats 4000000 in
set_option maxRecDepth 100000 in
theorem t_X1_init_71_b {X : CX} {res : St} (fu n : Nat) (B : BC X cX1_init RX1 3 6 n 90 res) (k_71 : Nat → Nat → Int32 → St → Option (St)) (h_71 : ∀ (m : Nat) (x0 : Nat) (x2 : Int32)  (st : St), WW X res m 71 [(0, .ref (x_b X + x0)), (2, .int x2)] [] st (k_71 m x0 x2 st)) (m : Nat) (x0 : Nat) (x2 : Int32)  (st : St) : WW X res m 71 [(0, .ref (x_b X + x0)), (2, .int x2)] [] st (b_X1_init_71_b fu n k_71 m x0 x2 st) := by
  have hX := B.1
  have hL := B.2.1
  unfold b_X1_init_71_b
  refine ww_iload_n hX 1 rfl dX1_init_71 rfl ?_
  refine ww_iconst (v := 4) hX rfl dX1_init_72 ?_
  refine ww_icmp_ge (tgt := 95) hX dX1_init_73 (by decide) ?_ ?_
  · refine ww_aload_n hX 0 rfl dX1_init_95 rfl ?_
    refine ww_getRx hX f_X1_17 (Or.inr ⟨_, rfl⟩) dX1_init_96 ?_
    refine ww_bdR (fun o29 => ?_)
    refine ww_iconst (v := (-1)) hX rfl dX1_init_99 ?_
    refine ww_ck (fun h31 => ?_)
    refine ww_callSV (As := [.ref (x_b X + o29), .int ((-1))]) (rest := []) hX (B.hk h31 (by decide) (by decide)) g_X1_46 (c_J7_fill_53178_n (x_G X) (x_l X) fu (m) o29 ((-1)) st) rfl rfl (Nat.le_of_ble_eq_true rfl) dX1_init_100 (fun s30 => ?_)
    exact ww_cret0 B dX1_init_103
  · refine ww_aload_n hX 0 rfl dX1_init_76 rfl ?_
    refine ww_getRx hX f_X1_11 (Or.inr ⟨_, rfl⟩) dX1_init_77 ?_
    refine ww_bdR (fun o32 => ?_)
    refine ww_iload_n hX 1 rfl dX1_init_80 rfl ?_
    refine ww_ck (fun h33 => ?_)
    refine ww_new hX (RA.of B h33) cls3 (by decide) (by decide +kernel) (tb_t (List.mem_of_getElem? (i := 181) (by decide +kernel)) rfl) (tb_t (List.mem_of_getElem? (i := 246) (by decide +kernel)) rfl) (tb_t (List.mem_of_getElem? (i := 7) (by decide +kernel)) rfl) dX1_init_81 ?_
    refine ww_bds (fun s34 => ?_)
    refine ww_bdR (fun o35 => ?_)
    refine ww_dup hX rfl dX1_init_84 ?_
    refine ww_ck (fun h36 => ?_)
    refine ww_callC (k' := 17) (As := []) (rest := [.ref (x_b X + o35), .int x2, .ref (x_b X + o32)]) (o := o35) hX B.2.2.2.2.2.2.2.2.2 B.hs (B.h0 (k' := 17) h36) (B.hr h36 (by decide) (by decide)) gi_X1_45 (c_X3_init (x_G X) (x_l X) fu (m + 1) o35 s34) rfl rfl (Nat.le_of_ble_eq_true rfl) dX1_init_85 (fun s37 => ?_)
    refine ww_aast (t := 4) (tc := 3) (r := (RX3, TX3, 10)) hX (by decide) rfl rfl (by decide) dX1_init_88 ?_
    refine ww_bds (fun s38 => ?_)
    refine ww_pc (b := 89) rfl ?_
    refine ww_iincb (lv' := fun v39 => [(2, .int v39), (0, .ref (x_b X + x0))]) (c := 1) hX hL 1 rfl dX1_init_89 rfl (by decide) (fun _ => rfl) (fun v39 => ?_)
    refine ww_goto (tgt := 71) hX dX1_init_92 (by decide) ?_
    exact ww_sub [1, 0] rfl (h_71 (m + 18) x0 v39  s38)
def b_X1_init_71 (fu n : Nat) : Nat → Nat → Nat → Int32 → St → Option St
  | 0, _, _, _, _ => none
  | i + 1, m, x0, x2, st => b_X1_init_71_b fu n (b_X1_init_71 fu n i) m x0 x2 st
theorem t_X1_init_71 {X : CX} {res : St} (fu n : Nat) (B : BC X cX1_init RX1 3 6 n 90 res) : ∀ (i : Nat) (m : Nat) (x0 : Nat) (x2 : Int32)  (st : St), WW X res m 71 [(0, .ref (x_b X + x0)), (2, .int x2)] [] st (b_X1_init_71 fu n i m x0 x2 st) := by
  intro i
  induction i with
  | zero => intro m x0 x2 st; exact ww_none
  | succ i ih => intro m x0 x2 st; exact t_X1_init_71_b fu n B (b_X1_init_71 fu n i) ih m x0 x2 st
set_option maxRecDepth 100000 in
def f_X1_init (fu n : Nat) (th : Nat) (p1 : Nat) (st : St) : Option St :=
  ck (n ≤ n ∧ n + 1 ≤ n + 90) <|
  ck (kd (n + 1) = (104, 4)) <|
  bd (zr st (n + 1)) fun s2 =>
  bd (n + 1) fun o3 =>
  ck (1 ≤ th ∧ th ≤ n + 1) <|
  ck (¬ o3 = 0) <|
  ck ((kd th).1 = 1) <|
  bd (sR s2 th 0 o3) fun s4 =>
  ck (n ≤ n + 1 ∧ n + 2 ≤ n + 90) <|
  ck (kd (n + 2) = (100, 64)) <|
  bd (zr s4 (n + 2)) fun s6 =>
  bd (n + 2) fun o7 =>
  ck (1 ≤ th ∧ th ≤ n + 2) <|
  ck (¬ o7 = 0) <|
  ck ((kd th).1 = 1) <|
  bd (sR s6 th 1 o7) fun s8 =>
  ck (n ≤ n + 2 ∧ n + 3 ≤ n + 90) <|
  ck (kd (n + 3) = (100, 64)) <|
  bd (zr s8 (n + 3)) fun s10 =>
  bd (n + 3) fun o11 =>
  ck (1 ≤ th ∧ th ≤ n + 3) <|
  ck (¬ o11 = 0) <|
  ck ((kd th).1 = 1) <|
  bd (sR s10 th 2 o11) fun s12 =>
  ck (n ≤ n + 3 ∧ n + 4 ≤ n + 90) <|
  ck (kd (n + 4) = (100, 128)) <|
  bd (zr s12 (n + 4)) fun s14 =>
  bd (n + 4) fun o15 =>
  ck (1 ≤ th ∧ th ≤ n + 4) <|
  ck (¬ o15 = 0) <|
  ck ((kd th).1 = 1) <|
  bd (sR s14 th 3 o15) fun s16 =>
  ck (n ≤ n + 4 ∧ n + 5 ≤ n + 90) <|
  ck (kd (n + 5) = (100, 128)) <|
  bd (zr s16 (n + 5)) fun s18 =>
  bd (n + 5) fun o19 =>
  ck (1 ≤ th ∧ th ≤ n + 5) <|
  ck (¬ o19 = 0) <|
  ck ((kd th).1 = 1) <|
  bd (sR s18 th 4 o19) fun s20 =>
  ck (n ≤ n + 5 ∧ n + 6 ≤ n + 90) <|
  ck ((kd (n + 6)).1 = 8) <|
  bd (zr s20 (n + 6)) fun s22 =>
  bd (n + 6) fun o23 =>
  ck (n ≤ n + 6 ∧ n + 18 ≤ n + 90) <|
  cv (f_X8_init fu (n + 6) o23 s22) fun s25 =>
  ck (1 ≤ th ∧ th ≤ n + 18) <|
  ck (¬ o23 = 0) <|
  ck ((kd th).1 = 1) <|
  bd (sR s25 th 6 o23) fun s26 =>
  ck (1 ≤ th ∧ th ≤ n + 18) <|
  ck ((kd th).1 = 1) <|
  bd (sI s26 th 7 255) fun s27 =>
  ck (1 ≤ th ∧ th ≤ n + 18) <|
  ck (¬ p1 = 0) <|
  ck ((kd th).1 = 1) <|
  bd (sR s27 th 5 p1) fun s28 =>
  b_X1_init_71 fu n fu (n + 18) th 0  s28
set_option maxHeartbeats 4000000 in
set_option maxRecDepth 100000 in
theorem t_X1_init {X : CX} {res : St} (fu n : Nat) (B : BC X cX1_init RX1 3 6 n 90 res) (th : Nat) (p1 : Nat) (st : St) : WW X res n 0 [(0, .ref (x_b X + th)), (1, .ref (x_b X + p1))] [] st (f_X1_init fu n th p1 st) := by
  have hX := B.1
  have hL := B.2.1
  unfold f_X1_init
  refine ww_aload_n hX 0 rfl dX1_init_0 rfl ?_
  refine ww_objinit hX (tb_t (List.mem_of_getElem? (i := 180) (by decide +kernel)) rfl) (tb_t (List.mem_of_getElem? (i := 29) (by decide +kernel)) rfl) (tb_t (List.mem_of_getElem? (i := 30) (by decide +kernel)) rfl) (B.ho (by decide) (Nat.le_of_ble_eq_true rfl)) dX1_init_1 ?_
  refine ww_aload_n hX 0 rfl dX1_init_4 rfl ?_
  refine ww_iconst (v := 4) hX rfl dX1_init_5 ?_
  refine ww_ck (fun h1 => ?_)
  refine ww_newq (t := 4) hX (RA.of B h1) (by decide) rfl (by decide) (by decide) (by decide) (tb_t (List.mem_of_getElem? (i := 181) (by decide +kernel)) rfl) B.2.2.2.2.2.2.2.2.2.2.1 dX1_init_6 ?_
  refine ww_bds (fun s2 => ?_)
  refine ww_bdR (fun o3 => ?_)
  refine ww_putRF hX B.2.2.2.2.2.2.2.1 (cls_own (own := RX1) (T' := TX1) (N' := 8) (C := "") (T := TX0) (N := 0) rfl) f_X1_11 (Or.inr ⟨_, rfl⟩) dX1_init_9 ?_
  refine ww_bds (fun s4 => ?_)
  refine ww_aload_n hX 0 rfl dX1_init_12 rfl ?_
  refine ww_pc (b := 13) rfl ?_
  refine ww_bipush (v := 64) hX rfl dX1_init_13 ?_
  refine ww_ck (fun h5 => ?_)
  refine ww_newI hX (RA.of B h5) (by decide) (by decide) (by decide) ar_i dX1_init_15 ?_
  refine ww_bds (fun s6 => ?_)
  refine ww_bdR (fun o7 => ?_)
  refine ww_putRF hX B.2.2.2.2.2.2.2.1 (cls_own (own := RX1) (T' := TX1) (N' := 8) (C := "") (T := TX0) (N := 0) rfl) f_X1_17 (Or.inr ⟨_, rfl⟩) dX1_init_17 ?_
  refine ww_bds (fun s8 => ?_)
  refine ww_aload_n hX 0 rfl dX1_init_20 rfl ?_
  refine ww_bipush (v := 64) hX rfl dX1_init_21 ?_
  refine ww_ck (fun h9 => ?_)
  refine ww_newI hX (RA.of B h9) (by decide) (by decide) (by decide) ar_i dX1_init_23 ?_
  refine ww_bds (fun s10 => ?_)
  refine ww_bdR (fun o11 => ?_)
  refine ww_putRF hX B.2.2.2.2.2.2.2.1 (cls_own (own := RX1) (T' := TX1) (N' := 8) (C := "") (T := TX0) (N := 0) rfl) f_X1_21 (Or.inr ⟨_, rfl⟩) dX1_init_25 ?_
  refine ww_bds (fun s12 => ?_)
  refine ww_aload_n hX 0 rfl dX1_init_28 rfl ?_
  refine ww_pc (b := 29) rfl ?_
  refine ww_sipush (v := 128) hX rfl dX1_init_29 ?_
  refine ww_ck (fun h13 => ?_)
  refine ww_newI hX (RA.of B h13) (by decide) (by decide) (by decide) ar_i dX1_init_32 ?_
  refine ww_bds (fun s14 => ?_)
  refine ww_bdR (fun o15 => ?_)
  refine ww_putRF hX B.2.2.2.2.2.2.2.1 (cls_own (own := RX1) (T' := TX1) (N' := 8) (C := "") (T := TX0) (N := 0) rfl) f_X1_24 (Or.inr ⟨_, rfl⟩) dX1_init_34 ?_
  refine ww_bds (fun s16 => ?_)
  refine ww_aload_n hX 0 rfl dX1_init_37 rfl ?_
  refine ww_sipush (v := 128) hX rfl dX1_init_38 ?_
  refine ww_ck (fun h17 => ?_)
  refine ww_newI hX (RA.of B h17) (by decide) (by decide) (by decide) ar_i dX1_init_41 ?_
  refine ww_bds (fun s18 => ?_)
  refine ww_bdR (fun o19 => ?_)
  refine ww_putRF hX B.2.2.2.2.2.2.2.1 (cls_own (own := RX1) (T' := TX1) (N' := 8) (C := "") (T := TX0) (N := 0) rfl) f_X1_27 (Or.inr ⟨_, rfl⟩) dX1_init_43 ?_
  refine ww_bds (fun s20 => ?_)
  refine ww_aload_n hX 0 rfl dX1_init_46 rfl ?_
  refine ww_pc (b := 47) rfl ?_
  refine ww_ck (fun h21 => ?_)
  refine ww_new hX (RA.of B h21) cls8 (by decide) (by decide +kernel) (tb_t (List.mem_of_getElem? (i := 183) (by decide +kernel)) rfl) (tb_t (List.mem_of_getElem? (i := 184) (by decide +kernel)) rfl) (tb_t (List.mem_of_getElem? (i := 6) (by decide +kernel)) rfl) dX1_init_47 ?_
  refine ww_bds (fun s22 => ?_)
  refine ww_bdR (fun o23 => ?_)
  refine ww_dup hX rfl dX1_init_50 ?_
  refine ww_ck (fun h24 => ?_)
  refine ww_callC (k' := 12) (As := []) (rest := [.ref (x_b X + o23), .ref (x_b X + th)]) (o := o23) hX B.2.2.2.2.2.2.2.2.2 B.hs (B.h0 (k' := 12) h24) (B.hr h24 (by decide) (by decide)) gi_X1_32 (c_X8_init (x_G X) (x_l X) fu (n + 6) o23 s22) rfl rfl (Nat.le_of_ble_eq_true rfl) dX1_init_51 (fun s25 => ?_)
  refine ww_putRx hX f_X1_33 (Or.inl ⟨_, rfl⟩) dX1_init_54 ?_
  refine ww_bds (fun s26 => ?_)
  refine ww_aload_n hX 0 rfl dX1_init_57 rfl ?_
  refine ww_sipush (v := 255) hX rfl dX1_init_58 ?_
  refine ww_putIx hX f_X1_37 rfl dX1_init_61 ?_
  refine ww_bds (fun s27 => ?_)
  refine ww_aload_n hX 0 rfl dX1_init_64 rfl ?_
  refine ww_pc (b := 65) rfl ?_
  refine ww_aload_n hX 1 rfl dX1_init_65 rfl ?_
  refine ww_putRF hX B.2.2.2.2.2.2.2.1 (cls_own (own := RX1) (T' := TX1) (N' := 8) (C := "") (T := TX0) (N := 0) rfl) f_X1_41 (Or.inl ⟨_, rfl⟩) dX1_init_66 ?_
  refine ww_bds (fun s28 => ?_)
  refine ww_iconst (v := 0) hX rfl dX1_init_69 ?_
  refine ww_istore_n (lv' := [(2, .int 0), (0, .ref (x_b X + th)), (1, .ref (x_b X + p1))]) hX hL dX1_init_70 rfl (by decide) rfl ?_
  exact ww_sub [1, 0] rfl (t_X1_init_71 fu n B fu (n + 18) th 0  s28)
theorem c_X1_init (G : GX) (l : Launch) (fu n : Nat) (th : Nat) (p1 : Nat) (st : St) : MC G n 90 l yX1_init cX1_init 3 6 [.ref (G.2.2.1 + th), .ref (G.2.2.1 + p1)] st (f_X1_init fu n th p1 st) := mkC (by decide) rfl (Nat.le_of_ble_eq_true rfl) (fun X res hl hG B => by subst hl; subst hG; exact t_X1_init fu n B th p1 st)
/-! StageHouse$Hall() -/
set_option maxRecDepth 100000 in
def f_X4_init (fu n : Nat) (th : Nat) (st : St) : Option St :=
  ck (n ≤ n ∧ n + 1 ≤ n + 5) <|
  ck (kd (n + 1) = (100, 8)) <|
  bd (zr st (n + 1)) fun s2 =>
  bd (n + 1) fun o3 =>
  ck (1 ≤ th ∧ th ≤ n + 1) <|
  ck (¬ o3 = 0) <|
  ck ((kd th).1 = 4) <|
  bd (sR s2 th 0 o3) fun s4 =>
  ck (n ≤ n + 1 ∧ n + 2 ≤ n + 5) <|
  ck (kd (n + 2) = (100, 40)) <|
  bd (zr s4 (n + 2)) fun s6 =>
  bd (n + 2) fun o7 =>
  ck (1 ≤ th ∧ th ≤ n + 2) <|
  ck (¬ o7 = 0) <|
  ck ((kd th).1 = 4) <|
  bd (sR s6 th 1 o7) fun s8 =>
  ck (n ≤ n + 2 ∧ n + 3 ≤ n + 5) <|
  ck (kd (n + 3) = (100, 40)) <|
  bd (zr s8 (n + 3)) fun s10 =>
  bd (n + 3) fun o11 =>
  ck (1 ≤ th ∧ th ≤ n + 3) <|
  ck (¬ o11 = 0) <|
  ck ((kd th).1 = 4) <|
  bd (sR s10 th 2 o11) fun s12 =>
  ck (n ≤ n + 3 ∧ n + 4 ≤ n + 5) <|
  ck (kd (n + 4) = (100, 1200)) <|
  bd (zr s12 (n + 4)) fun s14 =>
  bd (n + 4) fun o15 =>
  ck (1 ≤ th ∧ th ≤ n + 4) <|
  ck (¬ o15 = 0) <|
  ck ((kd th).1 = 4) <|
  bd (sR s14 th 3 o15) fun s16 =>
  ck (n ≤ n + 4 ∧ n + 5 ≤ n + 5) <|
  ck (kd (n + 5) = (102, 4)) <|
  bd (zr s16 (n + 5)) fun s18 =>
  bd (n + 5) fun o19 =>
  ck (1 ≤ th ∧ th ≤ n + 5) <|
  ck (¬ o19 = 0) <|
  ck ((kd th).1 = 4) <|
  bd (sR s18 th 4 o19) fun s20 =>
  ck (n + 5 = n + 5) (some s20)
set_option maxHeartbeats 4000000 in
set_option maxRecDepth 100000 in
theorem t_X4_init {X : CX} {res : St} (fu n : Nat) (B : BC X cX4_init RX4 1 2 n 5 res) (th : Nat) (st : St) : WW X res n 0 [(0, .ref (x_b X + th))] [] st (f_X4_init fu n th st) := by
  have hX := B.1
  have hL := B.2.1
  unfold f_X4_init
  refine ww_aload_n hX 0 rfl dX4_init_0 rfl ?_
  refine ww_objinit hX (tb_t (List.mem_of_getElem? (i := 334) (by decide +kernel)) rfl) (tb_t (List.mem_of_getElem? (i := 29) (by decide +kernel)) rfl) (tb_t (List.mem_of_getElem? (i := 30) (by decide +kernel)) rfl) (B.ho (by decide) (Nat.le_of_ble_eq_true rfl)) dX4_init_1 ?_
  refine ww_aload_n hX 0 rfl dX4_init_4 rfl ?_
  refine ww_bipush (v := 8) hX rfl dX4_init_5 ?_
  refine ww_ck (fun h1 => ?_)
  refine ww_newI hX (RA.of B h1) (by decide) (by decide) (by decide) ar_i dX4_init_7 ?_
  refine ww_bds (fun s2 => ?_)
  refine ww_bdR (fun o3 => ?_)
  refine ww_putRF hX B.2.2.2.2.2.2.2.1 (cls_own (own := RX4) (T' := TX4) (N' := 5) (C := "") (T := TX0) (N := 0) rfl) f_X4_9 (Or.inr ⟨_, rfl⟩) dX4_init_9 ?_
  refine ww_bds (fun s4 => ?_)
  refine ww_aload_n hX 0 rfl dX4_init_12 rfl ?_
  refine ww_pc (b := 13) rfl ?_
  refine ww_bipush (v := 40) hX rfl dX4_init_13 ?_
  refine ww_ck (fun h5 => ?_)
  refine ww_newI hX (RA.of B h5) (by decide) (by decide) (by decide) ar_i dX4_init_15 ?_
  refine ww_bds (fun s6 => ?_)
  refine ww_bdR (fun o7 => ?_)
  refine ww_putRF hX B.2.2.2.2.2.2.2.1 (cls_own (own := RX4) (T' := TX4) (N' := 5) (C := "") (T := TX0) (N := 0) rfl) f_X4_15 (Or.inr ⟨_, rfl⟩) dX4_init_17 ?_
  refine ww_bds (fun s8 => ?_)
  refine ww_aload_n hX 0 rfl dX4_init_20 rfl ?_
  refine ww_bipush (v := 40) hX rfl dX4_init_21 ?_
  refine ww_ck (fun h9 => ?_)
  refine ww_newI hX (RA.of B h9) (by decide) (by decide) (by decide) ar_i dX4_init_23 ?_
  refine ww_bds (fun s10 => ?_)
  refine ww_bdR (fun o11 => ?_)
  refine ww_putRF hX B.2.2.2.2.2.2.2.1 (cls_own (own := RX4) (T' := TX4) (N' := 5) (C := "") (T := TX0) (N := 0) rfl) f_X4_18 (Or.inr ⟨_, rfl⟩) dX4_init_25 ?_
  refine ww_bds (fun s12 => ?_)
  refine ww_aload_n hX 0 rfl dX4_init_28 rfl ?_
  refine ww_pc (b := 29) rfl ?_
  refine ww_sipush (v := 1200) hX rfl dX4_init_29 ?_
  refine ww_ck (fun h13 => ?_)
  refine ww_newI hX (RA.of B h13) (by decide) (by decide) (by decide) ar_i dX4_init_32 ?_
  refine ww_bds (fun s14 => ?_)
  refine ww_bdR (fun o15 => ?_)
  refine ww_putRF hX B.2.2.2.2.2.2.2.1 (cls_own (own := RX4) (T' := TX4) (N' := 5) (C := "") (T := TX0) (N := 0) rfl) f_X4_21 (Or.inr ⟨_, rfl⟩) dX4_init_34 ?_
  refine ww_bds (fun s16 => ?_)
  refine ww_aload_n hX 0 rfl dX4_init_37 rfl ?_
  refine ww_iconst (v := 4) hX rfl dX4_init_38 ?_
  refine ww_ck (fun h17 => ?_)
  refine ww_newZ hX (RA.of B h17) (by decide) (by decide) (by decide) ar_z dX4_init_39 ?_
  refine ww_bds (fun s18 => ?_)
  refine ww_bdR (fun o19 => ?_)
  refine ww_putRF hX B.2.2.2.2.2.2.2.1 (cls_own (own := RX4) (T' := TX4) (N' := 5) (C := "") (T := TX0) (N := 0) rfl) f_X4_24 (Or.inr ⟨_, rfl⟩) dX4_init_41 ?_
  refine ww_bds (fun s20 => ?_)
  exact ww_cret0 B dX4_init_44
theorem c_X4_init (G : GX) (l : Launch) (fu n : Nat) (th : Nat) (st : St) : MC G n 5 l yX4_init cX4_init 1 2 [.ref (G.2.2.1 + th)] st (f_X4_init fu n th st) := mkC (by decide) rfl (Nat.le_of_ble_eq_true rfl) (fun X res hl hG B => by subst hl; subst hG; exact t_X4_init fu n B th st)
/-! StageHouse$Prices() -/
set_option maxRecDepth 100000 in
def f_X6_init (fu n : Nat) (th : Nat) (st : St) : Option St :=
  ck (n ≤ n ∧ n + 1 ≤ n + 2) <|
  ck (kd (n + 1) = (100, 120)) <|
  bd (zr st (n + 1)) fun s2 =>
  bd (n + 1) fun o3 =>
  ck (1 ≤ th ∧ th ≤ n + 1) <|
  ck (¬ o3 = 0) <|
  ck ((kd th).1 = 6) <|
  bd (sR s2 th 0 o3) fun s4 =>
  ck (n ≤ n + 1 ∧ n + 2 ≤ n + 2) <|
  ck (kd (n + 2) = (100, 120)) <|
  bd (zr s4 (n + 2)) fun s6 =>
  bd (n + 2) fun o7 =>
  ck (1 ≤ th ∧ th ≤ n + 2) <|
  ck (¬ o7 = 0) <|
  ck ((kd th).1 = 6) <|
  bd (sR s6 th 1 o7) fun s8 =>
  ck (n + 2 = n + 2) (some s8)
set_option maxHeartbeats 4000000 in
set_option maxRecDepth 100000 in
theorem t_X6_init {X : CX} {res : St} (fu n : Nat) (B : BC X cX6_init RX6 1 2 n 2 res) (th : Nat) (st : St) : WW X res n 0 [(0, .ref (x_b X + th))] [] st (f_X6_init fu n th st) := by
  have hX := B.1
  have hL := B.2.1
  unfold f_X6_init
  refine ww_aload_n hX 0 rfl dX6_init_0 rfl ?_
  refine ww_objinit hX (tb_t (List.mem_of_getElem? (i := 362) (by decide +kernel)) rfl) (tb_t (List.mem_of_getElem? (i := 29) (by decide +kernel)) rfl) (tb_t (List.mem_of_getElem? (i := 30) (by decide +kernel)) rfl) (B.ho (by decide) (Nat.le_of_ble_eq_true rfl)) dX6_init_1 ?_
  refine ww_aload_n hX 0 rfl dX6_init_4 rfl ?_
  refine ww_bipush (v := 120) hX rfl dX6_init_5 ?_
  refine ww_ck (fun h1 => ?_)
  refine ww_newI hX (RA.of B h1) (by decide) (by decide) (by decide) ar_i dX6_init_7 ?_
  refine ww_bds (fun s2 => ?_)
  refine ww_bdR (fun o3 => ?_)
  refine ww_putRx hX f_X6_11 (Or.inr ⟨_, rfl⟩) dX6_init_9 ?_
  refine ww_bds (fun s4 => ?_)
  refine ww_aload_n hX 0 rfl dX6_init_12 rfl ?_
  refine ww_pc (b := 13) rfl ?_
  refine ww_bipush (v := 120) hX rfl dX6_init_13 ?_
  refine ww_ck (fun h5 => ?_)
  refine ww_newI hX (RA.of B h5) (by decide) (by decide) (by decide) ar_i dX6_init_15 ?_
  refine ww_bds (fun s6 => ?_)
  refine ww_bdR (fun o7 => ?_)
  refine ww_putRx hX f_X6_15 (Or.inr ⟨_, rfl⟩) dX6_init_17 ?_
  refine ww_bds (fun s8 => ?_)
  exact ww_cret0 B dX6_init_20
theorem c_X6_init (G : GX) (l : Launch) (fu n : Nat) (th : Nat) (st : St) : MC G n 2 l yX6_init cX6_init 1 2 [.ref (G.2.2.1 + th)] st (f_X6_init fu n th st) := mkC (by decide) rfl (Nat.le_of_ble_eq_true rfl) (fun X res hl hG B => by subst hl; subst hG; exact t_X6_init fu n B th st)
/-! StageHouse$Box() -/
set_option maxRecDepth 100000 in
def f_X2_init (fu n : Nat) (th : Nat) (p1 : Nat) (p2 : Nat) (st : St) : Option St :=
  ck (n ≤ n ∧ n + 1 ≤ n + 9) <|
  ck (kd (n + 1) = (100, 60)) <|
  bd (zr st (n + 1)) fun s2 =>
  bd (n + 1) fun o3 =>
  ck (1 ≤ th ∧ th ≤ n + 1) <|
  ck (¬ o3 = 0) <|
  ck ((kd th).1 = 2) <|
  bd (sR s2 th 2 o3) fun s4 =>
  ck (n ≤ n + 1 ∧ n + 2 ≤ n + 9) <|
  ck (kd (n + 2) = (100, 60)) <|
  bd (zr s4 (n + 2)) fun s6 =>
  bd (n + 2) fun o7 =>
  ck (1 ≤ th ∧ th ≤ n + 2) <|
  ck (¬ o7 = 0) <|
  ck ((kd th).1 = 2) <|
  bd (sR s6 th 3 o7) fun s8 =>
  ck (n ≤ n + 2 ∧ n + 3 ≤ n + 9) <|
  ck (kd (n + 3) = (100, 60)) <|
  bd (zr s8 (n + 3)) fun s10 =>
  bd (n + 3) fun o11 =>
  ck (1 ≤ th ∧ th ≤ n + 3) <|
  ck (¬ o11 = 0) <|
  ck ((kd th).1 = 2) <|
  bd (sR s10 th 4 o11) fun s12 =>
  ck (n ≤ n + 3 ∧ n + 4 ≤ n + 9) <|
  ck (kd (n + 4) = (100, 60)) <|
  bd (zr s12 (n + 4)) fun s14 =>
  bd (n + 4) fun o15 =>
  ck (1 ≤ th ∧ th ≤ n + 4) <|
  ck (¬ o15 = 0) <|
  ck ((kd th).1 = 2) <|
  bd (sR s14 th 5 o15) fun s16 =>
  ck (n ≤ n + 4 ∧ n + 5 ≤ n + 9) <|
  ck (kd (n + 5) = (100, 60)) <|
  bd (zr s16 (n + 5)) fun s18 =>
  bd (n + 5) fun o19 =>
  ck (1 ≤ th ∧ th ≤ n + 5) <|
  ck (¬ o19 = 0) <|
  ck ((kd th).1 = 2) <|
  bd (sR s18 th 6 o19) fun s20 =>
  ck (n ≤ n + 5 ∧ n + 6 ≤ n + 9) <|
  ck (kd (n + 6) = (100, 300)) <|
  bd (zr s20 (n + 6)) fun s22 =>
  bd (n + 6) fun o23 =>
  ck (1 ≤ th ∧ th ≤ n + 6) <|
  ck (¬ o23 = 0) <|
  ck ((kd th).1 = 2) <|
  bd (sR s22 th 7 o23) fun s24 =>
  ck (n ≤ n + 6 ∧ n + 7 ≤ n + 9) <|
  ck (kd (n + 7) = (100, 300)) <|
  bd (zr s24 (n + 7)) fun s26 =>
  bd (n + 7) fun o27 =>
  ck (1 ≤ th ∧ th ≤ n + 7) <|
  ck (¬ o27 = 0) <|
  ck ((kd th).1 = 2) <|
  bd (sR s26 th 8 o27) fun s28 =>
  ck (n ≤ n + 7 ∧ n + 8 ≤ n + 9) <|
  ck (kd (n + 8) = (100, 300)) <|
  bd (zr s28 (n + 8)) fun s30 =>
  bd (n + 8) fun o31 =>
  ck (1 ≤ th ∧ th ≤ n + 8) <|
  ck (¬ o31 = 0) <|
  ck ((kd th).1 = 2) <|
  bd (sR s30 th 9 o31) fun s32 =>
  ck (n ≤ n + 8 ∧ n + 9 ≤ n + 9) <|
  ck (kd (n + 9) = (100, 300)) <|
  bd (zr s32 (n + 9)) fun s34 =>
  bd (n + 9) fun o35 =>
  ck (1 ≤ th ∧ th ≤ n + 9) <|
  ck (¬ o35 = 0) <|
  ck ((kd th).1 = 2) <|
  bd (sR s34 th 10 o35) fun s36 =>
  ck (1 ≤ th ∧ th ≤ n + 9) <|
  ck (¬ p1 = 0) <|
  ck ((kd th).1 = 2) <|
  bd (sR s36 th 0 p1) fun s37 =>
  ck (1 ≤ th ∧ th ≤ n + 9) <|
  ck (¬ p2 = 0) <|
  ck ((kd th).1 = 2) <|
  bd (sR s37 th 1 p2) fun s38 =>
  ck (n + 9 = n + 9) (some s38)
set_option maxHeartbeats 4000000 in
set_option maxRecDepth 100000 in
theorem t_X2_init {X : CX} {res : St} (fu n : Nat) (B : BC X cX2_init RX2 3 2 n 9 res) (th : Nat) (p1 : Nat) (p2 : Nat) (st : St) : WW X res n 0 [(0, .ref (x_b X + th)), (1, .ref (x_b X + p1)), (2, .ref (x_b X + p2))] [] st (f_X2_init fu n th p1 p2 st) := by
  have hX := B.1
  have hL := B.2.1
  unfold f_X2_init
  refine ww_aload_n hX 0 rfl dX2_init_0 rfl ?_
  refine ww_objinit hX (tb_t (List.mem_of_getElem? (i := 379) (by decide +kernel)) rfl) (tb_t (List.mem_of_getElem? (i := 29) (by decide +kernel)) rfl) (tb_t (List.mem_of_getElem? (i := 30) (by decide +kernel)) rfl) (B.ho (by decide) (Nat.le_of_ble_eq_true rfl)) dX2_init_1 ?_
  refine ww_aload_n hX 0 rfl dX2_init_4 rfl ?_
  refine ww_bipush (v := 60) hX rfl dX2_init_5 ?_
  refine ww_ck (fun h1 => ?_)
  refine ww_newI hX (RA.of B h1) (by decide) (by decide) (by decide) ar_i dX2_init_7 ?_
  refine ww_bds (fun s2 => ?_)
  refine ww_bdR (fun o3 => ?_)
  refine ww_putRF hX B.2.2.2.2.2.2.2.1 (cls_own (own := RX2) (T' := TX2) (N' := 17) (C := "") (T := TX0) (N := 0) rfl) f_X2_11 (Or.inr ⟨_, rfl⟩) dX2_init_9 ?_
  refine ww_bds (fun s4 => ?_)
  refine ww_aload_n hX 0 rfl dX2_init_12 rfl ?_
  refine ww_pc (b := 13) rfl ?_
  refine ww_bipush (v := 60) hX rfl dX2_init_13 ?_
  refine ww_ck (fun h5 => ?_)
  refine ww_newI hX (RA.of B h5) (by decide) (by decide) (by decide) ar_i dX2_init_15 ?_
  refine ww_bds (fun s6 => ?_)
  refine ww_bdR (fun o7 => ?_)
  refine ww_putRF hX B.2.2.2.2.2.2.2.1 (cls_own (own := RX2) (T' := TX2) (N' := 17) (C := "") (T := TX0) (N := 0) rfl) f_X2_15 (Or.inr ⟨_, rfl⟩) dX2_init_17 ?_
  refine ww_bds (fun s8 => ?_)
  refine ww_aload_n hX 0 rfl dX2_init_20 rfl ?_
  refine ww_bipush (v := 60) hX rfl dX2_init_21 ?_
  refine ww_ck (fun h9 => ?_)
  refine ww_newI hX (RA.of B h9) (by decide) (by decide) (by decide) ar_i dX2_init_23 ?_
  refine ww_bds (fun s10 => ?_)
  refine ww_bdR (fun o11 => ?_)
  refine ww_putRF hX B.2.2.2.2.2.2.2.1 (cls_own (own := RX2) (T' := TX2) (N' := 17) (C := "") (T := TX0) (N := 0) rfl) f_X2_18 (Or.inr ⟨_, rfl⟩) dX2_init_25 ?_
  refine ww_bds (fun s12 => ?_)
  refine ww_aload_n hX 0 rfl dX2_init_28 rfl ?_
  refine ww_pc (b := 29) rfl ?_
  refine ww_bipush (v := 60) hX rfl dX2_init_29 ?_
  refine ww_ck (fun h13 => ?_)
  refine ww_newI hX (RA.of B h13) (by decide) (by decide) (by decide) ar_i dX2_init_31 ?_
  refine ww_bds (fun s14 => ?_)
  refine ww_bdR (fun o15 => ?_)
  refine ww_putRF hX B.2.2.2.2.2.2.2.1 (cls_own (own := RX2) (T' := TX2) (N' := 17) (C := "") (T := TX0) (N := 0) rfl) f_X2_21 (Or.inr ⟨_, rfl⟩) dX2_init_33 ?_
  refine ww_bds (fun s16 => ?_)
  refine ww_aload_n hX 0 rfl dX2_init_36 rfl ?_
  refine ww_bipush (v := 60) hX rfl dX2_init_37 ?_
  refine ww_ck (fun h17 => ?_)
  refine ww_newI hX (RA.of B h17) (by decide) (by decide) (by decide) ar_i dX2_init_39 ?_
  refine ww_bds (fun s18 => ?_)
  refine ww_bdR (fun o19 => ?_)
  refine ww_putRF hX B.2.2.2.2.2.2.2.1 (cls_own (own := RX2) (T' := TX2) (N' := 17) (C := "") (T := TX0) (N := 0) rfl) f_X2_24 (Or.inr ⟨_, rfl⟩) dX2_init_41 ?_
  refine ww_bds (fun s20 => ?_)
  refine ww_aload_n hX 0 rfl dX2_init_44 rfl ?_
  refine ww_pc (b := 45) rfl ?_
  refine ww_sipush (v := 300) hX rfl dX2_init_45 ?_
  refine ww_ck (fun h21 => ?_)
  refine ww_newI hX (RA.of B h21) (by decide) (by decide) (by decide) ar_i dX2_init_48 ?_
  refine ww_bds (fun s22 => ?_)
  refine ww_bdR (fun o23 => ?_)
  refine ww_putRF hX B.2.2.2.2.2.2.2.1 (cls_own (own := RX2) (T' := TX2) (N' := 17) (C := "") (T := TX0) (N := 0) rfl) f_X2_27 (Or.inr ⟨_, rfl⟩) dX2_init_50 ?_
  refine ww_bds (fun s24 => ?_)
  refine ww_aload_n hX 0 rfl dX2_init_53 rfl ?_
  refine ww_sipush (v := 300) hX rfl dX2_init_54 ?_
  refine ww_ck (fun h25 => ?_)
  refine ww_newI hX (RA.of B h25) (by decide) (by decide) (by decide) ar_i dX2_init_57 ?_
  refine ww_bds (fun s26 => ?_)
  refine ww_bdR (fun o27 => ?_)
  refine ww_putRF hX B.2.2.2.2.2.2.2.1 (cls_own (own := RX2) (T' := TX2) (N' := 17) (C := "") (T := TX0) (N := 0) rfl) f_X2_30 (Or.inr ⟨_, rfl⟩) dX2_init_59 ?_
  refine ww_bds (fun s28 => ?_)
  refine ww_aload_n hX 0 rfl dX2_init_62 rfl ?_
  refine ww_pc (b := 63) rfl ?_
  refine ww_sipush (v := 300) hX rfl dX2_init_63 ?_
  refine ww_ck (fun h29 => ?_)
  refine ww_newI hX (RA.of B h29) (by decide) (by decide) (by decide) ar_i dX2_init_66 ?_
  refine ww_bds (fun s30 => ?_)
  refine ww_bdR (fun o31 => ?_)
  refine ww_putRF hX B.2.2.2.2.2.2.2.1 (cls_own (own := RX2) (T' := TX2) (N' := 17) (C := "") (T := TX0) (N := 0) rfl) f_X2_33 (Or.inr ⟨_, rfl⟩) dX2_init_68 ?_
  refine ww_bds (fun s32 => ?_)
  refine ww_aload_n hX 0 rfl dX2_init_71 rfl ?_
  refine ww_sipush (v := 300) hX rfl dX2_init_72 ?_
  refine ww_ck (fun h33 => ?_)
  refine ww_newI hX (RA.of B h33) (by decide) (by decide) (by decide) ar_i dX2_init_75 ?_
  refine ww_bds (fun s34 => ?_)
  refine ww_bdR (fun o35 => ?_)
  refine ww_putRF hX B.2.2.2.2.2.2.2.1 (cls_own (own := RX2) (T' := TX2) (N' := 17) (C := "") (T := TX0) (N := 0) rfl) f_X2_36 (Or.inr ⟨_, rfl⟩) dX2_init_77 ?_
  refine ww_bds (fun s36 => ?_)
  refine ww_aload_n hX 0 rfl dX2_init_80 rfl ?_
  refine ww_pc (b := 81) rfl ?_
  refine ww_aload_n hX 1 rfl dX2_init_81 rfl ?_
  refine ww_putRF hX B.2.2.2.2.2.2.2.1 (cls_own (own := RX2) (T' := TX2) (N' := 17) (C := "") (T := TX0) (N := 0) rfl) f_X2_39 (Or.inl ⟨_, rfl⟩) dX2_init_82 ?_
  refine ww_bds (fun s37 => ?_)
  refine ww_aload_n hX 0 rfl dX2_init_85 rfl ?_
  refine ww_aload_n hX 2 rfl dX2_init_86 rfl ?_
  refine ww_putRF hX B.2.2.2.2.2.2.2.1 (cls_own (own := RX2) (T' := TX2) (N' := 17) (C := "") (T := TX0) (N := 0) rfl) f_X2_43 (Or.inl ⟨_, rfl⟩) dX2_init_87 ?_
  refine ww_bds (fun s38 => ?_)
  exact ww_cret0 B dX2_init_90
theorem c_X2_init (G : GX) (l : Launch) (fu n : Nat) (th : Nat) (p1 : Nat) (p2 : Nat) (st : St) : MC G n 9 l yX2_init cX2_init 3 2 [.ref (G.2.2.1 + th), .ref (G.2.2.1 + p1), .ref (G.2.2.1 + p2)] st (f_X2_init fu n th p1 p2 st) := mkC (by decide) rfl (Nat.le_of_ble_eq_true rfl) (fun X res hl hG B => by subst hl; subst hG; exact t_X2_init fu n B th p1 p2 st)
/-! StageHouse$Parties() -/
set_option maxRecDepth 100000 in
def f_X5_init (fu n : Nat) (th : Nat) (st : St) : Option St :=
  ck (n ≤ n ∧ n + 1 ≤ n + 4) <|
  ck (kd (n + 1) = (100, 15)) <|
  bd (zr st (n + 1)) fun s2 =>
  bd (n + 1) fun o3 =>
  ck (1 ≤ th ∧ th ≤ n + 1) <|
  ck (¬ o3 = 0) <|
  ck ((kd th).1 = 5) <|
  bd (sR s2 th 0 o3) fun s4 =>
  ck (n ≤ n + 1 ∧ n + 2 ≤ n + 4) <|
  ck (kd (n + 2) = (100, 15)) <|
  bd (zr s4 (n + 2)) fun s6 =>
  bd (n + 2) fun o7 =>
  ck (1 ≤ th ∧ th ≤ n + 2) <|
  ck (¬ o7 = 0) <|
  ck ((kd th).1 = 5) <|
  bd (sR s6 th 1 o7) fun s8 =>
  ck (n ≤ n + 2 ∧ n + 3 ≤ n + 4) <|
  ck (kd (n + 3) = (103, 9)) <|
  bd (zr s8 (n + 3)) fun s10 =>
  bd (n + 3) fun o11 =>
  ck (1 ≤ th ∧ th ≤ n + 3) <|
  ck (¬ o11 = 0) <|
  ck ((kd th).1 = 5) <|
  bd (sR s10 th 3 o11) fun s12 =>
  ck (n ≤ n + 3 ∧ n + 4 ≤ n + 4) <|
  ck (kd (n + 4) = (103, 3)) <|
  bd (zr s12 (n + 4)) fun s14 =>
  bd (n + 4) fun o15 =>
  ck (1 ≤ th ∧ th ≤ n + 4) <|
  ck (¬ o15 = 0) <|
  ck ((kd th).1 = 5) <|
  bd (sR s14 th 4 o15) fun s16 =>
  ck (n + 4 = n + 4) (some s16)
set_option maxHeartbeats 4000000 in
set_option maxRecDepth 100000 in
theorem t_X5_init {X : CX} {res : St} (fu n : Nat) (B : BC X cX5_init RX5 1 2 n 4 res) (th : Nat) (st : St) : WW X res n 0 [(0, .ref (x_b X + th))] [] st (f_X5_init fu n th st) := by
  have hX := B.1
  have hL := B.2.1
  unfold f_X5_init
  refine ww_aload_n hX 0 rfl dX5_init_0 rfl ?_
  refine ww_objinit hX (tb_t (List.mem_of_getElem? (i := 443) (by decide +kernel)) rfl) (tb_t (List.mem_of_getElem? (i := 29) (by decide +kernel)) rfl) (tb_t (List.mem_of_getElem? (i := 30) (by decide +kernel)) rfl) (B.ho (by decide) (Nat.le_of_ble_eq_true rfl)) dX5_init_1 ?_
  refine ww_aload_n hX 0 rfl dX5_init_4 rfl ?_
  refine ww_bipush (v := 15) hX rfl dX5_init_5 ?_
  refine ww_ck (fun h1 => ?_)
  refine ww_newI hX (RA.of B h1) (by decide) (by decide) (by decide) ar_i dX5_init_7 ?_
  refine ww_bds (fun s2 => ?_)
  refine ww_bdR (fun o3 => ?_)
  refine ww_putRx hX f_X5_9 (Or.inr ⟨_, rfl⟩) dX5_init_9 ?_
  refine ww_bds (fun s4 => ?_)
  refine ww_aload_n hX 0 rfl dX5_init_12 rfl ?_
  refine ww_pc (b := 13) rfl ?_
  refine ww_bipush (v := 15) hX rfl dX5_init_13 ?_
  refine ww_ck (fun h5 => ?_)
  refine ww_newI hX (RA.of B h5) (by decide) (by decide) (by decide) ar_i dX5_init_15 ?_
  refine ww_bds (fun s6 => ?_)
  refine ww_bdR (fun o7 => ?_)
  refine ww_putRx hX f_X5_13 (Or.inr ⟨_, rfl⟩) dX5_init_17 ?_
  refine ww_bds (fun s8 => ?_)
  refine ww_aload_n hX 0 rfl dX5_init_20 rfl ?_
  refine ww_bipush (v := 9) hX rfl dX5_init_21 ?_
  refine ww_ck (fun h9 => ?_)
  refine ww_newL hX (RA.of B h9) (by decide) (by decide) (by decide) ar_l dX5_init_23 ?_
  refine ww_bds (fun s10 => ?_)
  refine ww_bdR (fun o11 => ?_)
  refine ww_putRF hX B.2.2.2.2.2.2.2.1 (cls_own (own := RX5) (T' := TX5) (N' := 5) (C := "") (T := TX0) (N := 0) rfl) f_X5_16 (Or.inr ⟨_, rfl⟩) dX5_init_25 ?_
  refine ww_bds (fun s12 => ?_)
  refine ww_aload_n hX 0 rfl dX5_init_28 rfl ?_
  refine ww_pc (b := 29) rfl ?_
  refine ww_iconst (v := 3) hX rfl dX5_init_29 ?_
  refine ww_ck (fun h13 => ?_)
  refine ww_newL hX (RA.of B h13) (by decide) (by decide) (by decide) ar_l dX5_init_30 ?_
  refine ww_bds (fun s14 => ?_)
  refine ww_bdR (fun o15 => ?_)
  refine ww_putRF hX B.2.2.2.2.2.2.2.1 (cls_own (own := RX5) (T' := TX5) (N' := 5) (C := "") (T := TX0) (N := 0) rfl) f_X5_20 (Or.inr ⟨_, rfl⟩) dX5_init_32 ?_
  refine ww_bds (fun s16 => ?_)
  exact ww_cret0 B dX5_init_35
theorem c_X5_init (G : GX) (l : Launch) (fu n : Nat) (th : Nat) (st : St) : MC G n 4 l yX5_init cX5_init 1 2 [.ref (G.2.2.1 + th)] st (f_X5_init fu n th st) := mkC (by decide) rfl (Nat.le_of_ble_eq_true rfl) (fun X res hl hG B => by subst hl; subst hG; exact t_X5_init fu n B th st)
/-! StageHouse$Ways() -/
set_option maxRecDepth 100000 in
def f_X10_init (fu n : Nat) (th : Nat) (st : St) : Option St :=
  ck (n ≤ n ∧ n + 1 ≤ n + 13) <|
  ck (kd (n + 1) = (100, 20)) <|
  bd (zr st (n + 1)) fun s2 =>
  bd (n + 1) fun o3 =>
  ck (1 ≤ th ∧ th ≤ n + 1) <|
  ck (¬ o3 = 0) <|
  ck ((kd th).1 = 10) <|
  bd (sR s2 th 0 o3) fun s4 =>
  ck (n ≤ n + 1 ∧ n + 2 ≤ n + 13) <|
  ck (kd (n + 2) = (100, 20)) <|
  bd (zr s4 (n + 2)) fun s6 =>
  bd (n + 2) fun o7 =>
  ck (1 ≤ th ∧ th ≤ n + 2) <|
  ck (¬ o7 = 0) <|
  ck ((kd th).1 = 10) <|
  bd (sR s6 th 1 o7) fun s8 =>
  ck (n ≤ n + 2 ∧ n + 3 ≤ n + 13) <|
  ck (kd (n + 3) = (100, 20)) <|
  bd (zr s8 (n + 3)) fun s10 =>
  bd (n + 3) fun o11 =>
  ck (1 ≤ th ∧ th ≤ n + 3) <|
  ck (¬ o11 = 0) <|
  ck ((kd th).1 = 10) <|
  bd (sR s10 th 2 o11) fun s12 =>
  ck (n ≤ n + 3 ∧ n + 4 ≤ n + 13) <|
  ck (kd (n + 4) = (100, 20)) <|
  bd (zr s12 (n + 4)) fun s14 =>
  bd (n + 4) fun o15 =>
  ck (1 ≤ th ∧ th ≤ n + 4) <|
  ck (¬ o15 = 0) <|
  ck ((kd th).1 = 10) <|
  bd (sR s14 th 3 o15) fun s16 =>
  ck (n ≤ n + 4 ∧ n + 5 ≤ n + 13) <|
  ck (kd (n + 5) = (100, 12)) <|
  bd (zr s16 (n + 5)) fun s18 =>
  bd (n + 5) fun o19 =>
  ck (1 ≤ th ∧ th ≤ n + 5) <|
  ck (¬ o19 = 0) <|
  ck ((kd th).1 = 10) <|
  bd (sR s18 th 4 o19) fun s20 =>
  ck (n ≤ n + 5 ∧ n + 6 ≤ n + 13) <|
  ck (kd (n + 6) = (100, 12)) <|
  bd (zr s20 (n + 6)) fun s22 =>
  bd (n + 6) fun o23 =>
  ck (1 ≤ th ∧ th ≤ n + 6) <|
  ck (¬ o23 = 0) <|
  ck ((kd th).1 = 10) <|
  bd (sR s22 th 5 o23) fun s24 =>
  ck (n ≤ n + 6 ∧ n + 7 ≤ n + 13) <|
  ck (kd (n + 7) = (100, 1020)) <|
  bd (zr s24 (n + 7)) fun s26 =>
  bd (n + 7) fun o27 =>
  ck (1 ≤ th ∧ th ≤ n + 7) <|
  ck (¬ o27 = 0) <|
  ck ((kd th).1 = 10) <|
  bd (sR s26 th 6 o27) fun s28 =>
  ck (n ≤ n + 7 ∧ n + 8 ≤ n + 13) <|
  ck (kd (n + 8) = (100, 612)) <|
  bd (zr s28 (n + 8)) fun s30 =>
  bd (n + 8) fun o31 =>
  ck (1 ≤ th ∧ th ≤ n + 8) <|
  ck (¬ o31 = 0) <|
  ck ((kd th).1 = 10) <|
  bd (sR s30 th 7 o31) fun s32 =>
  ck (n ≤ n + 8 ∧ n + 9 ≤ n + 13) <|
  ck (kd (n + 9) = (100, 612)) <|
  bd (zr s32 (n + 9)) fun s34 =>
  bd (n + 9) fun o35 =>
  ck (1 ≤ th ∧ th ≤ n + 9) <|
  ck (¬ o35 = 0) <|
  ck ((kd th).1 = 10) <|
  bd (sR s34 th 8 o35) fun s36 =>
  ck (n ≤ n + 9 ∧ n + 10 ≤ n + 13) <|
  ck (kd (n + 10) = (100, 612)) <|
  bd (zr s36 (n + 10)) fun s38 =>
  bd (n + 10) fun o39 =>
  ck (1 ≤ th ∧ th ≤ n + 10) <|
  ck (¬ o39 = 0) <|
  ck ((kd th).1 = 10) <|
  bd (sR s38 th 9 o39) fun s40 =>
  ck (n ≤ n + 10 ∧ n + 11 ≤ n + 13) <|
  ck (kd (n + 11) = (100, 612)) <|
  bd (zr s40 (n + 11)) fun s42 =>
  bd (n + 11) fun o43 =>
  ck (1 ≤ th ∧ th ≤ n + 11) <|
  ck (¬ o43 = 0) <|
  ck ((kd th).1 = 10) <|
  bd (sR s42 th 10 o43) fun s44 =>
  ck (n ≤ n + 11 ∧ n + 12 ≤ n + 13) <|
  ck (kd (n + 12) = (100, 12)) <|
  bd (zr s44 (n + 12)) fun s46 =>
  bd (n + 12) fun o47 =>
  ck (1 ≤ th ∧ th ≤ n + 12) <|
  ck (¬ o47 = 0) <|
  ck ((kd th).1 = 10) <|
  bd (sR s46 th 11 o47) fun s48 =>
  ck (n ≤ n + 12 ∧ n + 13 ≤ n + 13) <|
  ck (kd (n + 13) = (100, 480)) <|
  bd (zr s48 (n + 13)) fun s50 =>
  bd (n + 13) fun o51 =>
  ck (1 ≤ th ∧ th ≤ n + 13) <|
  ck (¬ o51 = 0) <|
  ck ((kd th).1 = 10) <|
  bd (sR s50 th 12 o51) fun s52 =>
  ck (n + 13 = n + 13) (some s52)
set_option maxHeartbeats 4000000 in
set_option maxRecDepth 100000 in
theorem t_X10_init {X : CX} {res : St} (fu n : Nat) (B : BC X cX10_init RX10 1 2 n 13 res) (th : Nat) (st : St) : WW X res n 0 [(0, .ref (x_b X + th))] [] st (f_X10_init fu n th st) := by
  have hX := B.1
  have hL := B.2.1
  unfold f_X10_init
  refine ww_aload_n hX 0 rfl dX10_init_0 rfl ?_
  refine ww_objinit hX (tb_t (List.mem_of_getElem? (i := 466) (by decide +kernel)) rfl) (tb_t (List.mem_of_getElem? (i := 29) (by decide +kernel)) rfl) (tb_t (List.mem_of_getElem? (i := 30) (by decide +kernel)) rfl) (B.ho (by decide) (Nat.le_of_ble_eq_true rfl)) dX10_init_1 ?_
  refine ww_aload_n hX 0 rfl dX10_init_4 rfl ?_
  refine ww_bipush (v := 20) hX rfl dX10_init_5 ?_
  refine ww_ck (fun h1 => ?_)
  refine ww_newI hX (RA.of B h1) (by decide) (by decide) (by decide) ar_i dX10_init_7 ?_
  refine ww_bds (fun s2 => ?_)
  refine ww_bdR (fun o3 => ?_)
  refine ww_putRF hX B.2.2.2.2.2.2.2.1 (cls_own (own := RX10) (T' := TX10) (N' := 14) (C := "") (T := TX0) (N := 0) rfl) f_X10_11 (Or.inr ⟨_, rfl⟩) dX10_init_9 ?_
  refine ww_bds (fun s4 => ?_)
  refine ww_aload_n hX 0 rfl dX10_init_12 rfl ?_
  refine ww_pc (b := 13) rfl ?_
  refine ww_bipush (v := 20) hX rfl dX10_init_13 ?_
  refine ww_ck (fun h5 => ?_)
  refine ww_newI hX (RA.of B h5) (by decide) (by decide) (by decide) ar_i dX10_init_15 ?_
  refine ww_bds (fun s6 => ?_)
  refine ww_bdR (fun o7 => ?_)
  refine ww_putRF hX B.2.2.2.2.2.2.2.1 (cls_own (own := RX10) (T' := TX10) (N' := 14) (C := "") (T := TX0) (N := 0) rfl) f_X10_15 (Or.inr ⟨_, rfl⟩) dX10_init_17 ?_
  refine ww_bds (fun s8 => ?_)
  refine ww_aload_n hX 0 rfl dX10_init_20 rfl ?_
  refine ww_bipush (v := 20) hX rfl dX10_init_21 ?_
  refine ww_ck (fun h9 => ?_)
  refine ww_newI hX (RA.of B h9) (by decide) (by decide) (by decide) ar_i dX10_init_23 ?_
  refine ww_bds (fun s10 => ?_)
  refine ww_bdR (fun o11 => ?_)
  refine ww_putRF hX B.2.2.2.2.2.2.2.1 (cls_own (own := RX10) (T' := TX10) (N' := 14) (C := "") (T := TX0) (N := 0) rfl) f_X10_18 (Or.inr ⟨_, rfl⟩) dX10_init_25 ?_
  refine ww_bds (fun s12 => ?_)
  refine ww_aload_n hX 0 rfl dX10_init_28 rfl ?_
  refine ww_pc (b := 29) rfl ?_
  refine ww_bipush (v := 20) hX rfl dX10_init_29 ?_
  refine ww_ck (fun h13 => ?_)
  refine ww_newI hX (RA.of B h13) (by decide) (by decide) (by decide) ar_i dX10_init_31 ?_
  refine ww_bds (fun s14 => ?_)
  refine ww_bdR (fun o15 => ?_)
  refine ww_putRF hX B.2.2.2.2.2.2.2.1 (cls_own (own := RX10) (T' := TX10) (N' := 14) (C := "") (T := TX0) (N := 0) rfl) f_X10_21 (Or.inr ⟨_, rfl⟩) dX10_init_33 ?_
  refine ww_bds (fun s16 => ?_)
  refine ww_aload_n hX 0 rfl dX10_init_36 rfl ?_
  refine ww_bipush (v := 12) hX rfl dX10_init_37 ?_
  refine ww_ck (fun h17 => ?_)
  refine ww_newI hX (RA.of B h17) (by decide) (by decide) (by decide) ar_i dX10_init_39 ?_
  refine ww_bds (fun s18 => ?_)
  refine ww_bdR (fun o19 => ?_)
  refine ww_putRF hX B.2.2.2.2.2.2.2.1 (cls_own (own := RX10) (T' := TX10) (N' := 14) (C := "") (T := TX0) (N := 0) rfl) f_X10_24 (Or.inr ⟨_, rfl⟩) dX10_init_41 ?_
  refine ww_bds (fun s20 => ?_)
  refine ww_aload_n hX 0 rfl dX10_init_44 rfl ?_
  refine ww_pc (b := 45) rfl ?_
  refine ww_bipush (v := 12) hX rfl dX10_init_45 ?_
  refine ww_ck (fun h21 => ?_)
  refine ww_newI hX (RA.of B h21) (by decide) (by decide) (by decide) ar_i dX10_init_47 ?_
  refine ww_bds (fun s22 => ?_)
  refine ww_bdR (fun o23 => ?_)
  refine ww_putRF hX B.2.2.2.2.2.2.2.1 (cls_own (own := RX10) (T' := TX10) (N' := 14) (C := "") (T := TX0) (N := 0) rfl) f_X10_27 (Or.inr ⟨_, rfl⟩) dX10_init_49 ?_
  refine ww_bds (fun s24 => ?_)
  refine ww_aload_n hX 0 rfl dX10_init_52 rfl ?_
  refine ww_sipush (v := 1020) hX rfl dX10_init_53 ?_
  refine ww_ck (fun h25 => ?_)
  refine ww_newI hX (RA.of B h25) (by decide) (by decide) (by decide) ar_i dX10_init_56 ?_
  refine ww_bds (fun s26 => ?_)
  refine ww_bdR (fun o27 => ?_)
  refine ww_putRF hX B.2.2.2.2.2.2.2.1 (cls_own (own := RX10) (T' := TX10) (N' := 14) (C := "") (T := TX0) (N := 0) rfl) f_X10_30 (Or.inr ⟨_, rfl⟩) dX10_init_58 ?_
  refine ww_bds (fun s28 => ?_)
  refine ww_aload_n hX 0 rfl dX10_init_61 rfl ?_
  refine ww_pc (b := 62) rfl ?_
  refine ww_sipush (v := 612) hX rfl dX10_init_62 ?_
  refine ww_ck (fun h29 => ?_)
  refine ww_newI hX (RA.of B h29) (by decide) (by decide) (by decide) ar_i dX10_init_65 ?_
  refine ww_bds (fun s30 => ?_)
  refine ww_bdR (fun o31 => ?_)
  refine ww_putRF hX B.2.2.2.2.2.2.2.1 (cls_own (own := RX10) (T' := TX10) (N' := 14) (C := "") (T := TX0) (N := 0) rfl) f_X10_33 (Or.inr ⟨_, rfl⟩) dX10_init_67 ?_
  refine ww_bds (fun s32 => ?_)
  refine ww_aload_n hX 0 rfl dX10_init_70 rfl ?_
  refine ww_sipush (v := 612) hX rfl dX10_init_71 ?_
  refine ww_ck (fun h33 => ?_)
  refine ww_newI hX (RA.of B h33) (by decide) (by decide) (by decide) ar_i dX10_init_74 ?_
  refine ww_bds (fun s34 => ?_)
  refine ww_bdR (fun o35 => ?_)
  refine ww_putRF hX B.2.2.2.2.2.2.2.1 (cls_own (own := RX10) (T' := TX10) (N' := 14) (C := "") (T := TX0) (N := 0) rfl) f_X10_36 (Or.inr ⟨_, rfl⟩) dX10_init_76 ?_
  refine ww_bds (fun s36 => ?_)
  refine ww_aload_n hX 0 rfl dX10_init_79 rfl ?_
  refine ww_pc (b := 80) rfl ?_
  refine ww_sipush (v := 612) hX rfl dX10_init_80 ?_
  refine ww_ck (fun h37 => ?_)
  refine ww_newI hX (RA.of B h37) (by decide) (by decide) (by decide) ar_i dX10_init_83 ?_
  refine ww_bds (fun s38 => ?_)
  refine ww_bdR (fun o39 => ?_)
  refine ww_putRF hX B.2.2.2.2.2.2.2.1 (cls_own (own := RX10) (T' := TX10) (N' := 14) (C := "") (T := TX0) (N := 0) rfl) f_X10_39 (Or.inr ⟨_, rfl⟩) dX10_init_85 ?_
  refine ww_bds (fun s40 => ?_)
  refine ww_aload_n hX 0 rfl dX10_init_88 rfl ?_
  refine ww_sipush (v := 612) hX rfl dX10_init_89 ?_
  refine ww_ck (fun h41 => ?_)
  refine ww_newI hX (RA.of B h41) (by decide) (by decide) (by decide) ar_i dX10_init_92 ?_
  refine ww_bds (fun s42 => ?_)
  refine ww_bdR (fun o43 => ?_)
  refine ww_putRF hX B.2.2.2.2.2.2.2.1 (cls_own (own := RX10) (T' := TX10) (N' := 14) (C := "") (T := TX0) (N := 0) rfl) f_X10_42 (Or.inr ⟨_, rfl⟩) dX10_init_94 ?_
  refine ww_bds (fun s44 => ?_)
  refine ww_aload_n hX 0 rfl dX10_init_97 rfl ?_
  refine ww_pc (b := 98) rfl ?_
  refine ww_bipush (v := 12) hX rfl dX10_init_98 ?_
  refine ww_ck (fun h45 => ?_)
  refine ww_newI hX (RA.of B h45) (by decide) (by decide) (by decide) ar_i dX10_init_100 ?_
  refine ww_bds (fun s46 => ?_)
  refine ww_bdR (fun o47 => ?_)
  refine ww_putRF hX B.2.2.2.2.2.2.2.1 (cls_own (own := RX10) (T' := TX10) (N' := 14) (C := "") (T := TX0) (N := 0) rfl) f_X10_45 (Or.inr ⟨_, rfl⟩) dX10_init_102 ?_
  refine ww_bds (fun s48 => ?_)
  refine ww_aload_n hX 0 rfl dX10_init_105 rfl ?_
  refine ww_sipush (v := 480) hX rfl dX10_init_106 ?_
  refine ww_ck (fun h49 => ?_)
  refine ww_newI hX (RA.of B h49) (by decide) (by decide) (by decide) ar_i dX10_init_109 ?_
  refine ww_bds (fun s50 => ?_)
  refine ww_bdR (fun o51 => ?_)
  refine ww_putRF hX B.2.2.2.2.2.2.2.1 (cls_own (own := RX10) (T' := TX10) (N' := 14) (C := "") (T := TX0) (N := 0) rfl) f_X10_48 (Or.inr ⟨_, rfl⟩) dX10_init_111 ?_
  refine ww_bds (fun s52 => ?_)
  exact ww_cret0 B dX10_init_114
theorem c_X10_init (G : GX) (l : Launch) (fu n : Nat) (th : Nat) (st : St) : MC G n 13 l yX10_init cX10_init 1 2 [.ref (G.2.2.1 + th)] st (f_X10_init fu n th st) := mkC (by decide) rfl (Nat.le_of_ble_eq_true rfl) (fun X res hl hG B => by subst hl; subst hG; exact t_X10_init fu n B th st)
/-! StageHouse() -/
set_option maxRecDepth 100000 in
def f_X11_init (fu n : Nat) (th : Nat) (st : St) : Option St :=
  ck (n ≤ n ∧ n + 1 ≤ n + 151) <|
  ck ((kd (n + 1)).1 = 9) <|
  bd (zr st (n + 1)) fun s2 =>
  bd (n + 1) fun o3 =>
  ck (n ≤ n + 1 ∧ n + 2 ≤ n + 151) <|
  cv (f_X9_init fu (n + 1) o3 s2) fun s5 =>
  ck (1 ≤ th ∧ th ≤ n + 2) <|
  ck (¬ o3 = 0) <|
  ck ((kd th).1 = 11) <|
  bd (sR s5 th 0 o3) fun s6 =>
  ck (n ≤ n + 2 ∧ n + 3 ≤ n + 151) <|
  ck ((kd (n + 3)).1 = 7) <|
  bd (zr s6 (n + 3)) fun s8 =>
  bd (n + 3) fun o9 =>
  ck (n ≤ n + 3 ∧ n + 22 ≤ n + 151) <|
  cv (f_X7_init fu (n + 3) o9 s8) fun s11 =>
  ck (1 ≤ th ∧ th ≤ n + 22) <|
  ck (¬ o9 = 0) <|
  ck ((kd th).1 = 11) <|
  bd (sR s11 th 1 o9) fun s12 =>
  ck (n ≤ n + 22 ∧ n + 23 ≤ n + 151) <|
  ck ((kd (n + 23)).1 = 1) <|
  bd (zr s12 (n + 23)) fun s14 =>
  bd (n + 23) fun o15 =>
  ck (1 ≤ th ∧ th ≤ n + 23) <|
  ck (¬ gR s14 th 1 = 0) <|
  ck ((kd th).1 = 11) <|
  bd (gR s14 th 1) fun o16 =>
  ck (n ≤ n + 23 ∧ n + 113 ≤ n + 151) <|
  cv (f_X1_init fu (n + 23) o15 o16 s14) fun s18 =>
  ck (1 ≤ th ∧ th ≤ n + 113) <|
  ck (¬ o15 = 0) <|
  ck ((kd th).1 = 11) <|
  bd (sR s18 th 2 o15) fun s19 =>
  ck (n ≤ n + 113 ∧ n + 114 ≤ n + 151) <|
  ck ((kd (n + 114)).1 = 4) <|
  bd (zr s19 (n + 114)) fun s21 =>
  bd (n + 114) fun o22 =>
  ck (n ≤ n + 114 ∧ n + 119 ≤ n + 151) <|
  cv (f_X4_init fu (n + 114) o22 s21) fun s24 =>
  ck (1 ≤ th ∧ th ≤ n + 119) <|
  ck (¬ o22 = 0) <|
  ck ((kd th).1 = 11) <|
  bd (sR s24 th 3 o22) fun s25 =>
  ck (n ≤ n + 119 ∧ n + 120 ≤ n + 151) <|
  ck ((kd (n + 120)).1 = 6) <|
  bd (zr s25 (n + 120)) fun s27 =>
  bd (n + 120) fun o28 =>
  ck (n ≤ n + 120 ∧ n + 122 ≤ n + 151) <|
  cv (f_X6_init fu (n + 120) o28 s27) fun s30 =>
  ck (1 ≤ th ∧ th ≤ n + 122) <|
  ck (¬ o28 = 0) <|
  ck ((kd th).1 = 11) <|
  bd (sR s30 th 4 o28) fun s31 =>
  ck (n ≤ n + 122 ∧ n + 123 ≤ n + 151) <|
  ck ((kd (n + 123)).1 = 2) <|
  bd (zr s31 (n + 123)) fun s33 =>
  bd (n + 123) fun o34 =>
  ck (1 ≤ th ∧ th ≤ n + 123) <|
  ck (¬ gR s33 th 3 = 0) <|
  ck ((kd th).1 = 11) <|
  bd (gR s33 th 3) fun o35 =>
  ck (1 ≤ th ∧ th ≤ n + 123) <|
  ck (¬ gR s33 th 4 = 0) <|
  ck ((kd th).1 = 11) <|
  bd (gR s33 th 4) fun o36 =>
  ck (n ≤ n + 123 ∧ n + 132 ≤ n + 151) <|
  cv (f_X2_init fu (n + 123) o34 o35 o36 s33) fun s38 =>
  ck (1 ≤ th ∧ th ≤ n + 132) <|
  ck (¬ o34 = 0) <|
  ck ((kd th).1 = 11) <|
  bd (sR s38 th 5 o34) fun s39 =>
  ck (n ≤ n + 132 ∧ n + 133 ≤ n + 151) <|
  ck ((kd (n + 133)).1 = 5) <|
  bd (zr s39 (n + 133)) fun s41 =>
  bd (n + 133) fun o42 =>
  ck (n ≤ n + 133 ∧ n + 137 ≤ n + 151) <|
  cv (f_X5_init fu (n + 133) o42 s41) fun s44 =>
  ck (1 ≤ th ∧ th ≤ n + 137) <|
  ck (¬ o42 = 0) <|
  ck ((kd th).1 = 11) <|
  bd (sR s44 th 6 o42) fun s45 =>
  ck (n ≤ n + 137 ∧ n + 138 ≤ n + 151) <|
  ck ((kd (n + 138)).1 = 10) <|
  bd (zr s45 (n + 138)) fun s47 =>
  bd (n + 138) fun o48 =>
  ck (n ≤ n + 138 ∧ n + 151 ≤ n + 151) <|
  cv (f_X10_init fu (n + 138) o48 s47) fun s50 =>
  ck (1 ≤ th ∧ th ≤ n + 151) <|
  ck (¬ o48 = 0) <|
  ck ((kd th).1 = 11) <|
  bd (sR s50 th 7 o48) fun s51 =>
  ck (1 ≤ th ∧ th ≤ n + 151) <|
  ck ((kd th).1 = 11) <|
  bd (sI s51 th 8 0) fun s52 =>
  ck (n + 151 = n + 151) (some s52)
set_option maxHeartbeats 4000000 in
set_option maxRecDepth 100000 in
theorem t_X11_init {X : CX} {res : St} (fu n : Nat) (B : BC X cX11_init RX11 1 8 n 151 res) (th : Nat) (st : St) : WW X res n 0 [(0, .ref (x_b X + th))] [] st (f_X11_init fu n th st) := by
  have hX := B.1
  have hL := B.2.1
  unfold f_X11_init
  refine ww_aload_n hX 0 rfl dX11_init_0 rfl ?_
  refine ww_objinit hX (tb_t (List.mem_of_getElem? (i := 28) (by decide +kernel)) rfl) (tb_t (List.mem_of_getElem? (i := 29) (by decide +kernel)) rfl) (tb_t (List.mem_of_getElem? (i := 30) (by decide +kernel)) rfl) (B.ho (by decide) (Nat.le_of_ble_eq_true rfl)) dX11_init_1 ?_
  refine ww_aload_n hX 0 rfl dX11_init_4 rfl ?_
  refine ww_ck (fun h1 => ?_)
  refine ww_new hX (RA.of B h1) cls9 (by decide) (by decide +kernel) (tb_t (List.mem_of_getElem? (i := 31) (by decide +kernel)) rfl) (tb_t (List.mem_of_getElem? (i := 32) (by decide +kernel)) rfl) (tb_t (List.mem_of_getElem? (i := 2) (by decide +kernel)) rfl) dX11_init_5 ?_
  refine ww_bds (fun s2 => ?_)
  refine ww_bdR (fun o3 => ?_)
  refine ww_dup hX rfl dX11_init_8 ?_
  refine ww_ck (fun h4 => ?_)
  refine ww_callC (k' := 1) (As := []) (rest := [.ref (x_b X + o3), .ref (x_b X + th)]) (o := o3) hX B.2.2.2.2.2.2.2.2.2 B.hs (B.h0 (k' := 1) h4) (B.hr h4 (by decide) (by decide)) gi_X11_9 (c_X9_init (x_G X) (x_l X) fu (n + 1) o3 s2) rfl rfl (Nat.le_of_ble_eq_true rfl) dX11_init_9 (fun s5 => ?_)
  refine ww_putRF hX B.2.2.2.2.2.2.2.1 (cls_own (own := RX11) (T' := TX11) (N' := 9) (C := "") (T := TX0) (N := 0) rfl) f_X11_10 (Or.inl ⟨_, rfl⟩) dX11_init_12 ?_
  refine ww_bds (fun s6 => ?_)
  refine ww_pc (b := 15) rfl ?_
  refine ww_aload_n hX 0 rfl dX11_init_15 rfl ?_
  refine ww_ck (fun h7 => ?_)
  refine ww_new hX (RA.of B h7) cls7 (by decide) (by decide +kernel) (tb_t (List.mem_of_getElem? (i := 85) (by decide +kernel)) rfl) (tb_t (List.mem_of_getElem? (i := 86) (by decide +kernel)) rfl) (tb_t (List.mem_of_getElem? (i := 3) (by decide +kernel)) rfl) dX11_init_16 ?_
  refine ww_bds (fun s8 => ?_)
  refine ww_bdR (fun o9 => ?_)
  refine ww_dup hX rfl dX11_init_19 ?_
  refine ww_ck (fun h10 => ?_)
  refine ww_callC (k' := 19) (As := []) (rest := [.ref (x_b X + o9), .ref (x_b X + th)]) (o := o9) hX B.2.2.2.2.2.2.2.2.2 B.hs (B.h0 (k' := 19) h10) (B.hr h10 (by decide) (by decide)) gi_X11_18 (c_X7_init (x_G X) (x_l X) fu (n + 3) o9 s8) rfl rfl (Nat.le_of_ble_eq_true rfl) dX11_init_20 (fun s11 => ?_)
  refine ww_putRF hX B.2.2.2.2.2.2.2.1 (cls_own (own := RX11) (T' := TX11) (N' := 9) (C := "") (T := TX0) (N := 0) rfl) f_X11_19 (Or.inl ⟨_, rfl⟩) dX11_init_23 ?_
  refine ww_bds (fun s12 => ?_)
  refine ww_aload_n hX 0 rfl dX11_init_26 rfl ?_
  refine ww_ck (fun h13 => ?_)
  refine ww_new hX (RA.of B h13) cls1 (by decide) (by decide +kernel) (tb_t (List.mem_of_getElem? (i := 175) (by decide +kernel)) rfl) (tb_t (List.mem_of_getElem? (i := 176) (by decide +kernel)) rfl) (tb_t (List.mem_of_getElem? (i := 5) (by decide +kernel)) rfl) dX11_init_27 ?_
  refine ww_bds (fun s14 => ?_)
  refine ww_bdR (fun o15 => ?_)
  refine ww_dup hX rfl dX11_init_30 ?_
  refine ww_pc (b := 31) rfl ?_
  refine ww_aload_n hX 0 rfl dX11_init_31 rfl ?_
  refine ww_getRx hX f_X11_19 (Or.inl ⟨_, rfl⟩) dX11_init_32 ?_
  refine ww_bdR (fun o16 => ?_)
  refine ww_ck (fun h17 => ?_)
  refine ww_callC (k' := 90) (As := [.ref (x_b X + o16)]) (rest := [.ref (x_b X + o15), .ref (x_b X + th)]) (o := o15) hX B.2.2.2.2.2.2.2.2.2 B.hs (B.h0 (k' := 90) h17) (B.hr h17 (by decide) (by decide)) gi_X11_25 (c_X1_init (x_G X) (x_l X) fu (n + 23) o15 o16 s14) rfl rfl (Nat.le_of_ble_eq_true rfl) dX11_init_35 (fun s18 => ?_)
  refine ww_putRF hX B.2.2.2.2.2.2.2.1 (cls_own (own := RX11) (T' := TX11) (N' := 9) (C := "") (T := TX0) (N := 0) rfl) f_X11_28 (Or.inl ⟨_, rfl⟩) dX11_init_38 ?_
  refine ww_bds (fun s19 => ?_)
  refine ww_aload_n hX 0 rfl dX11_init_41 rfl ?_
  refine ww_ck (fun h20 => ?_)
  refine ww_new hX (RA.of B h20) cls4 (by decide) (by decide +kernel) (tb_t (List.mem_of_getElem? (i := 329) (by decide +kernel)) rfl) (tb_t (List.mem_of_getElem? (i := 330) (by decide +kernel)) rfl) (tb_t (List.mem_of_getElem? (i := 9) (by decide +kernel)) rfl) dX11_init_42 ?_
  refine ww_bds (fun s21 => ?_)
  refine ww_bdR (fun o22 => ?_)
  refine ww_dup hX rfl dX11_init_45 ?_
  refine ww_ck (fun h23 => ?_)
  refine ww_callC (k' := 5) (As := []) (rest := [.ref (x_b X + o22), .ref (x_b X + th)]) (o := o22) hX B.2.2.2.2.2.2.2.2.2 B.hs (B.h0 (k' := 5) h23) (B.hr h23 (by decide) (by decide)) gi_X11_34 (c_X4_init (x_G X) (x_l X) fu (n + 114) o22 s21) rfl rfl (Nat.le_of_ble_eq_true rfl) dX11_init_46 (fun s24 => ?_)
  refine ww_pc (b := 49) rfl ?_
  refine ww_putRF hX B.2.2.2.2.2.2.2.1 (cls_own (own := RX11) (T' := TX11) (N' := 9) (C := "") (T := TX0) (N := 0) rfl) f_X11_35 (Or.inl ⟨_, rfl⟩) dX11_init_49 ?_
  refine ww_bds (fun s25 => ?_)
  refine ww_aload_n hX 0 rfl dX11_init_52 rfl ?_
  refine ww_ck (fun h26 => ?_)
  refine ww_new hX (RA.of B h26) cls6 (by decide) (by decide +kernel) (tb_t (List.mem_of_getElem? (i := 357) (by decide +kernel)) rfl) (tb_t (List.mem_of_getElem? (i := 358) (by decide +kernel)) rfl) (tb_t (List.mem_of_getElem? (i := 10) (by decide +kernel)) rfl) dX11_init_53 ?_
  refine ww_bds (fun s27 => ?_)
  refine ww_bdR (fun o28 => ?_)
  refine ww_dup hX rfl dX11_init_56 ?_
  refine ww_ck (fun h29 => ?_)
  refine ww_callC (k' := 2) (As := []) (rest := [.ref (x_b X + o28), .ref (x_b X + th)]) (o := o28) hX B.2.2.2.2.2.2.2.2.2 B.hs (B.h0 (k' := 2) h29) (B.hr h29 (by decide) (by decide)) gi_X11_41 (c_X6_init (x_G X) (x_l X) fu (n + 120) o28 s27) rfl rfl (Nat.le_of_ble_eq_true rfl) dX11_init_57 (fun s30 => ?_)
  refine ww_putRF hX B.2.2.2.2.2.2.2.1 (cls_own (own := RX11) (T' := TX11) (N' := 9) (C := "") (T := TX0) (N := 0) rfl) f_X11_42 (Or.inl ⟨_, rfl⟩) dX11_init_60 ?_
  refine ww_bds (fun s31 => ?_)
  refine ww_aload_n hX 0 rfl dX11_init_63 rfl ?_
  refine ww_ck (fun h32 => ?_)
  refine ww_new hX (RA.of B h32) cls2 (by decide) (by decide +kernel) (tb_t (List.mem_of_getElem? (i := 374) (by decide +kernel)) rfl) (tb_t (List.mem_of_getElem? (i := 375) (by decide +kernel)) rfl) (tb_t (List.mem_of_getElem? (i := 11) (by decide +kernel)) rfl) dX11_init_64 ?_
  refine ww_bds (fun s33 => ?_)
  refine ww_bdR (fun o34 => ?_)
  refine ww_pc (b := 67) rfl ?_
  refine ww_dup hX rfl dX11_init_67 ?_
  refine ww_aload_n hX 0 rfl dX11_init_68 rfl ?_
  refine ww_getRx hX f_X11_35 (Or.inl ⟨_, rfl⟩) dX11_init_69 ?_
  refine ww_bdR (fun o35 => ?_)
  refine ww_aload_n hX 0 rfl dX11_init_72 rfl ?_
  refine ww_getRx hX f_X11_42 (Or.inl ⟨_, rfl⟩) dX11_init_73 ?_
  refine ww_bdR (fun o36 => ?_)
  refine ww_ck (fun h37 => ?_)
  refine ww_callC (k' := 9) (As := [.ref (x_b X + o35), .ref (x_b X + o36)]) (rest := [.ref (x_b X + o34), .ref (x_b X + th)]) (o := o34) hX B.2.2.2.2.2.2.2.2.2 B.hs (B.h0 (k' := 9) h37) (B.hr h37 (by decide) (by decide)) gi_X11_48 (c_X2_init (x_G X) (x_l X) fu (n + 123) o34 o35 o36 s33) rfl rfl (Nat.le_of_ble_eq_true rfl) dX11_init_76 (fun s38 => ?_)
  refine ww_putRF hX B.2.2.2.2.2.2.2.1 (cls_own (own := RX11) (T' := TX11) (N' := 9) (C := "") (T := TX0) (N := 0) rfl) f_X11_51 (Or.inl ⟨_, rfl⟩) dX11_init_79 ?_
  refine ww_bds (fun s39 => ?_)
  refine ww_aload_n hX 0 rfl dX11_init_82 rfl ?_
  refine ww_pc (b := 83) rfl ?_
  refine ww_ck (fun h40 => ?_)
  refine ww_new hX (RA.of B h40) cls5 (by decide) (by decide +kernel) (tb_t (List.mem_of_getElem? (i := 438) (by decide +kernel)) rfl) (tb_t (List.mem_of_getElem? (i := 439) (by decide +kernel)) rfl) (tb_t (List.mem_of_getElem? (i := 12) (by decide +kernel)) rfl) dX11_init_83 ?_
  refine ww_bds (fun s41 => ?_)
  refine ww_bdR (fun o42 => ?_)
  refine ww_dup hX rfl dX11_init_86 ?_
  refine ww_ck (fun h43 => ?_)
  refine ww_callC (k' := 4) (As := []) (rest := [.ref (x_b X + o42), .ref (x_b X + th)]) (o := o42) hX B.2.2.2.2.2.2.2.2.2 B.hs (B.h0 (k' := 4) h43) (B.hr h43 (by decide) (by decide)) gi_X11_57 (c_X5_init (x_G X) (x_l X) fu (n + 133) o42 s41) rfl rfl (Nat.le_of_ble_eq_true rfl) dX11_init_87 (fun s44 => ?_)
  refine ww_putRF hX B.2.2.2.2.2.2.2.1 (cls_own (own := RX11) (T' := TX11) (N' := 9) (C := "") (T := TX0) (N := 0) rfl) f_X11_58 (Or.inl ⟨_, rfl⟩) dX11_init_90 ?_
  refine ww_bds (fun s45 => ?_)
  refine ww_aload_n hX 0 rfl dX11_init_93 rfl ?_
  refine ww_ck (fun h46 => ?_)
  refine ww_new hX (RA.of B h46) cls10 (by decide) (by decide +kernel) (tb_t (List.mem_of_getElem? (i := 461) (by decide +kernel)) rfl) (tb_t (List.mem_of_getElem? (i := 462) (by decide +kernel)) rfl) (tb_t (List.mem_of_getElem? (i := 13) (by decide +kernel)) rfl) dX11_init_94 ?_
  refine ww_bds (fun s47 => ?_)
  refine ww_bdR (fun o48 => ?_)
  refine ww_dup hX rfl dX11_init_97 ?_
  refine ww_ck (fun h49 => ?_)
  refine ww_callC (k' := 13) (As := []) (rest := [.ref (x_b X + o48), .ref (x_b X + th)]) (o := o48) hX B.2.2.2.2.2.2.2.2.2 B.hs (B.h0 (k' := 13) h49) (B.hr h49 (by decide) (by decide)) gi_X11_64 (c_X10_init (x_G X) (x_l X) fu (n + 138) o48 s47) rfl rfl (Nat.le_of_ble_eq_true rfl) dX11_init_98 (fun s50 => ?_)
  refine ww_pc (b := 101) rfl ?_
  refine ww_putRF hX B.2.2.2.2.2.2.2.1 (cls_own (own := RX11) (T' := TX11) (N' := 9) (C := "") (T := TX0) (N := 0) rfl) f_X11_65 (Or.inl ⟨_, rfl⟩) dX11_init_101 ?_
  refine ww_bds (fun s51 => ?_)
  refine ww_aload_n hX 0 rfl dX11_init_104 rfl ?_
  refine ww_iconst (v := 0) hX rfl dX11_init_105 ?_
  refine ww_putIx hX f_X11_69 rfl dX11_init_106 ?_
  refine ww_bds (fun s52 => ?_)
  exact ww_cret0 B dX11_init_109
theorem c_X11_init (G : GX) (l : Launch) (fu n : Nat) (th : Nat) (st : St) : MC G n 151 l yX11_init cX11_init 1 8 [.ref (G.2.2.1 + th)] st (f_X11_init fu n th st) := mkC (by decide) rfl (Nat.le_of_ble_eq_true rfl) (fun X res hl hG B => by subst hl; subst hG; exact t_X11_init fu n B th st)
/-! StageHouseModel() -/
def b_X12_init_992_b (fu n : Nat) (k_992 : Nat → Nat → Int32 → St → Option (St)) (m : Nat) (x0 : Nat) (x1 : Int32)  (st : St) : Option St :=
  if 8 ≤ x1 then (
  ck (m = n + 108) (some st))
  else (
  ck (1 ≤ x0 ∧ x0 ≤ m) <|
  ck (¬ gR st x0 61 = 0) <|
  ck ((kd x0).1 = 12) <|
  bd (gR st x0 61) fun o434 =>
  ck (1 ≤ o434 ∧ o434 ≤ m) <|
  ck ((kd o434).1 = 100 ∧ inb x1 (kd o434).2) <|
  bd (sI st o434 (ix x1) ((-1))) fun s435 =>
  bd (x1 + 1) fun v436 =>
  k_992 m x0 v436  s435)
set_option maxHeartbeats 4000000 in
set_option maxRecDepth 100000 in
theorem t_X12_init_992_b {X : CX} {res : St} (fu n : Nat) (B : BC X cX12_init RX12 2 3 n 108 res) (k_992 : Nat → Nat → Int32 → St → Option (St)) (h_992 : ∀ (m : Nat) (x0 : Nat) (x1 : Int32)  (st : St), WW X res m 992 [(0, .ref (x_b X + x0)), (1, .int x1)] [] st (k_992 m x0 x1 st)) (m : Nat) (x0 : Nat) (x1 : Int32)  (st : St) : WW X res m 992 [(0, .ref (x_b X + x0)), (1, .int x1)] [] st (b_X12_init_992_b fu n k_992 m x0 x1 st) := by
  have hX := B.1
  have hL := B.2.1
  unfold b_X12_init_992_b
  refine ww_iload_n hX 1 rfl dX12_init_992 rfl ?_
  refine ww_bipush (v := 8) hX rfl dX12_init_993 ?_
  refine ww_icmp_ge (tgt := 1011) hX dX12_init_995 (by decide) ?_ ?_
  · exact ww_cret0 B dX12_init_1011
  · refine ww_aload_n hX 0 rfl dX12_init_998 rfl ?_
    refine ww_getRx hX f_X12_166 (Or.inr ⟨_, rfl⟩) dX12_init_999 ?_
    refine ww_bdR (fun o434 => ?_)
    refine ww_iload_n hX 1 rfl dX12_init_1002 rfl ?_
    refine ww_iconst (v := (-1)) hX rfl dX12_init_1003 ?_
    refine ww_iastx hX dX12_init_1004 ?_
    refine ww_bds (fun s435 => ?_)
    refine ww_iincb (lv' := fun v436 => [(1, .int v436), (0, .ref (x_b X + x0))]) (c := 1) hX hL 1 rfl dX12_init_1005 rfl (by decide) (fun _ => rfl) (fun v436 => ?_)
    refine ww_goto (tgt := 992) hX dX12_init_1008 (by decide) ?_
    exact ww_sub [1, 0] rfl (h_992 m x0 v436  s435)
def b_X12_init_992 (fu n : Nat) : Nat → Nat → Nat → Int32 → St → Option St
  | 0, _, _, _, _ => none
  | i + 1, m, x0, x1, st => b_X12_init_992_b fu n (b_X12_init_992 fu n i) m x0 x1 st
theorem t_X12_init_992 {X : CX} {res : St} (fu n : Nat) (B : BC X cX12_init RX12 2 3 n 108 res) : ∀ (i : Nat) (m : Nat) (x0 : Nat) (x1 : Int32)  (st : St), WW X res m 992 [(0, .ref (x_b X + x0)), (1, .int x1)] [] st (b_X12_init_992 fu n i m x0 x1 st) := by
  intro i
  induction i with
  | zero => intro m x0 x1 st; exact ww_none
  | succ i ih => intro m x0 x1 st; exact t_X12_init_992_b fu n B (b_X12_init_992 fu n i) ih m x0 x1 st
def b_X12_init_971_b (fu n : Nat) (k_971 : Nat → Nat → Int32 → St → Option (St)) (m : Nat) (x0 : Nat) (x1 : Int32)  (st : St) : Option St :=
  if 40 ≤ x1 then (
  b_X12_init_992 fu n fu m x0 0  st)
  else (
  ck (1 ≤ x0 ∧ x0 ≤ m) <|
  ck (¬ gR st x0 74 = 0) <|
  ck ((kd x0).1 = 12) <|
  bd (gR st x0 74) fun o437 =>
  ck (1 ≤ o437 ∧ o437 ≤ m) <|
  ck ((kd o437).1 = 100 ∧ inb x1 (kd o437).2) <|
  bd (sI st o437 (ix x1) ((-1))) fun s438 =>
  bd (x1 + 1) fun v439 =>
  k_971 m x0 v439  s438)
set_option maxHeartbeats 4000000 in
set_option maxRecDepth 100000 in
theorem t_X12_init_971_b {X : CX} {res : St} (fu n : Nat) (B : BC X cX12_init RX12 2 3 n 108 res) (k_971 : Nat → Nat → Int32 → St → Option (St)) (h_971 : ∀ (m : Nat) (x0 : Nat) (x1 : Int32)  (st : St), WW X res m 971 [(0, .ref (x_b X + x0)), (1, .int x1)] [] st (k_971 m x0 x1 st)) (m : Nat) (x0 : Nat) (x1 : Int32)  (st : St) : WW X res m 971 [(0, .ref (x_b X + x0)), (1, .int x1)] [] st (b_X12_init_971_b fu n k_971 m x0 x1 st) := by
  have hX := B.1
  have hL := B.2.1
  unfold b_X12_init_971_b
  refine ww_iload_n hX 1 rfl dX12_init_971 rfl ?_
  refine ww_bipush (v := 40) hX rfl dX12_init_972 ?_
  refine ww_icmp_ge (tgt := 990) hX dX12_init_974 (by decide) ?_ ?_
  · refine ww_iconst (v := 0) hX rfl dX12_init_990 ?_
    refine ww_istore_n (lv' := [(1, .int 0), (0, .ref (x_b X + x0))]) hX hL dX12_init_991 rfl (by decide) rfl ?_
    exact ww_sub [1, 0] rfl (t_X12_init_992 fu n B fu m x0 0  st)
  · refine ww_aload_n hX 0 rfl dX12_init_977 rfl ?_
    refine ww_getRx hX f_X12_196 (Or.inr ⟨_, rfl⟩) dX12_init_978 ?_
    refine ww_bdR (fun o437 => ?_)
    refine ww_iload_n hX 1 rfl dX12_init_981 rfl ?_
    refine ww_iconst (v := (-1)) hX rfl dX12_init_982 ?_
    refine ww_iastx hX dX12_init_983 ?_
    refine ww_bds (fun s438 => ?_)
    refine ww_iincb (lv' := fun v439 => [(1, .int v439), (0, .ref (x_b X + x0))]) (c := 1) hX hL 1 rfl dX12_init_984 rfl (by decide) (fun _ => rfl) (fun v439 => ?_)
    refine ww_goto (tgt := 971) hX dX12_init_987 (by decide) ?_
    exact ww_sub [1, 0] rfl (h_971 m x0 v439  s438)
def b_X12_init_971 (fu n : Nat) : Nat → Nat → Nat → Int32 → St → Option St
  | 0, _, _, _, _ => none
  | i + 1, m, x0, x1, st => b_X12_init_971_b fu n (b_X12_init_971 fu n i) m x0 x1 st
theorem t_X12_init_971 {X : CX} {res : St} (fu n : Nat) (B : BC X cX12_init RX12 2 3 n 108 res) : ∀ (i : Nat) (m : Nat) (x0 : Nat) (x1 : Int32)  (st : St), WW X res m 971 [(0, .ref (x_b X + x0)), (1, .int x1)] [] st (b_X12_init_971 fu n i m x0 x1 st) := by
  intro i
  induction i with
  | zero => intro m x0 x1 st; exact ww_none
  | succ i ih => intro m x0 x1 st; exact t_X12_init_971_b fu n B (b_X12_init_971 fu n i) ih m x0 x1 st
def b_X12_init_951_b (fu n : Nat) (k_951 : Nat → Nat → Int32 → St → Option (St)) (m : Nat) (x0 : Nat) (x1 : Int32)  (st : St) : Option St :=
  if 4 ≤ x1 then (
  b_X12_init_971 fu n fu m x0 0  st)
  else (
  ck (1 ≤ x0 ∧ x0 ≤ m) <|
  ck (¬ gR st x0 77 = 0) <|
  ck ((kd x0).1 = 12) <|
  bd (gR st x0 77) fun o440 =>
  ck (1 ≤ o440 ∧ o440 ≤ m) <|
  ck (isb 1) <|
  ck ((kd o440).1 = 102 ∧ inb x1 (kd o440).2) <|
  bd (sI st o440 (ix x1) 1) fun s441 =>
  bd (x1 + 1) fun v442 =>
  k_951 m x0 v442  s441)
set_option maxHeartbeats 4000000 in
set_option maxRecDepth 100000 in
theorem t_X12_init_951_b {X : CX} {res : St} (fu n : Nat) (B : BC X cX12_init RX12 2 3 n 108 res) (k_951 : Nat → Nat → Int32 → St → Option (St)) (h_951 : ∀ (m : Nat) (x0 : Nat) (x1 : Int32)  (st : St), WW X res m 951 [(0, .ref (x_b X + x0)), (1, .int x1)] [] st (k_951 m x0 x1 st)) (m : Nat) (x0 : Nat) (x1 : Int32)  (st : St) : WW X res m 951 [(0, .ref (x_b X + x0)), (1, .int x1)] [] st (b_X12_init_951_b fu n k_951 m x0 x1 st) := by
  have hX := B.1
  have hL := B.2.1
  unfold b_X12_init_951_b
  refine ww_iload_n hX 1 rfl dX12_init_951 rfl ?_
  refine ww_iconst (v := 4) hX rfl dX12_init_952 ?_
  refine ww_icmp_ge (tgt := 969) hX dX12_init_953 (by decide) ?_ ?_
  · refine ww_iconst (v := 0) hX rfl dX12_init_969 ?_
    refine ww_istore_n (lv' := [(1, .int 0), (0, .ref (x_b X + x0))]) hX hL dX12_init_970 rfl (by decide) rfl ?_
    exact ww_sub [1, 0] rfl (t_X12_init_971 fu n B fu m x0 0  st)
  · refine ww_aload_n hX 0 rfl dX12_init_956 rfl ?_
    refine ww_getRx hX f_X12_205 (Or.inr ⟨_, rfl⟩) dX12_init_957 ?_
    refine ww_bdR (fun o440 => ?_)
    refine ww_iload_n hX 1 rfl dX12_init_960 rfl ?_
    refine ww_iconst (v := 1) hX rfl dX12_init_961 ?_
    refine ww_zastx hX dX12_init_962 ?_
    refine ww_bds (fun s441 => ?_)
    refine ww_iincb (lv' := fun v442 => [(1, .int v442), (0, .ref (x_b X + x0))]) (c := 1) hX hL 1 rfl dX12_init_963 rfl (by decide) (fun _ => rfl) (fun v442 => ?_)
    refine ww_goto (tgt := 951) hX dX12_init_966 (by decide) ?_
    exact ww_sub [1, 0] rfl (h_951 m x0 v442  s441)
def b_X12_init_951 (fu n : Nat) : Nat → Nat → Nat → Int32 → St → Option St
  | 0, _, _, _, _ => none
  | i + 1, m, x0, x1, st => b_X12_init_951_b fu n (b_X12_init_951 fu n i) m x0 x1 st
theorem t_X12_init_951 {X : CX} {res : St} (fu n : Nat) (B : BC X cX12_init RX12 2 3 n 108 res) : ∀ (i : Nat) (m : Nat) (x0 : Nat) (x1 : Int32)  (st : St), WW X res m 951 [(0, .ref (x_b X + x0)), (1, .int x1)] [] st (b_X12_init_951 fu n i m x0 x1 st) := by
  intro i
  induction i with
  | zero => intro m x0 x1 st; exact ww_none
  | succ i ih => intro m x0 x1 st; exact t_X12_init_951_b fu n B (b_X12_init_951 fu n i) ih m x0 x1 st
def b_X12_init_923_b (fu n : Nat) (k_923 : Nat → Nat → Int32 → St → Option (St)) (m : Nat) (x0 : Nat) (x1 : Int32)  (st : St) : Option St :=
  if 65 ≤ x1 then (
  ck (1 ≤ x0 ∧ x0 ≤ m) <|
  ck ((kd x0).1 = 12) <|
  bd (sI st x0 53 255) fun s433 =>
  b_X12_init_951 fu n fu m x0 0  s433)
  else (
  ck (1 ≤ x0 ∧ x0 ≤ m) <|
  ck (¬ gR st x0 50 = 0) <|
  ck ((kd x0).1 = 12) <|
  bd (gR st x0 50) fun o443 =>
  ck (1 ≤ o443 ∧ o443 ≤ m) <|
  ck ((kd o443).1 = 100 ∧ inb x1 (kd o443).2) <|
  bd (sI st o443 (ix x1) ((-1))) fun s444 =>
  bd (x1 + 1) fun v445 =>
  k_923 m x0 v445  s444)
set_option maxHeartbeats 4000000 in
set_option maxRecDepth 100000 in
theorem t_X12_init_923_b {X : CX} {res : St} (fu n : Nat) (B : BC X cX12_init RX12 2 3 n 108 res) (k_923 : Nat → Nat → Int32 → St → Option (St)) (h_923 : ∀ (m : Nat) (x0 : Nat) (x1 : Int32)  (st : St), WW X res m 923 [(0, .ref (x_b X + x0)), (1, .int x1)] [] st (k_923 m x0 x1 st)) (m : Nat) (x0 : Nat) (x1 : Int32)  (st : St) : WW X res m 923 [(0, .ref (x_b X + x0)), (1, .int x1)] [] st (b_X12_init_923_b fu n k_923 m x0 x1 st) := by
  have hX := B.1
  have hL := B.2.1
  unfold b_X12_init_923_b
  refine ww_iload_n hX 1 rfl dX12_init_923 rfl ?_
  refine ww_bipush (v := 65) hX rfl dX12_init_924 ?_
  refine ww_icmp_ge (tgt := 942) hX dX12_init_926 (by decide) ?_ ?_
  · refine ww_aload_n hX 0 rfl dX12_init_942 rfl ?_
    refine ww_sipush (v := 255) hX rfl dX12_init_943 ?_
    refine ww_putIx hX f_X12_341 rfl dX12_init_946 ?_
    refine ww_bds (fun s433 => ?_)
    refine ww_iconst (v := 0) hX rfl dX12_init_949 ?_
    refine ww_istore_n (lv' := [(1, .int 0), (0, .ref (x_b X + x0))]) hX hL dX12_init_950 rfl (by decide) rfl ?_
    exact ww_sub [1, 0] rfl (t_X12_init_951 fu n B fu m x0 0  s433)
  · refine ww_aload_n hX 0 rfl dX12_init_929 rfl ?_
    refine ww_getRx hX f_X12_136 (Or.inr ⟨_, rfl⟩) dX12_init_930 ?_
    refine ww_bdR (fun o443 => ?_)
    refine ww_iload_n hX 1 rfl dX12_init_933 rfl ?_
    refine ww_iconst (v := (-1)) hX rfl dX12_init_934 ?_
    refine ww_iastx hX dX12_init_935 ?_
    refine ww_bds (fun s444 => ?_)
    refine ww_iincb (lv' := fun v445 => [(1, .int v445), (0, .ref (x_b X + x0))]) (c := 1) hX hL 1 rfl dX12_init_936 rfl (by decide) (fun _ => rfl) (fun v445 => ?_)
    refine ww_goto (tgt := 923) hX dX12_init_939 (by decide) ?_
    exact ww_sub [1, 0] rfl (h_923 m x0 v445  s444)
def b_X12_init_923 (fu n : Nat) : Nat → Nat → Nat → Int32 → St → Option St
  | 0, _, _, _, _ => none
  | i + 1, m, x0, x1, st => b_X12_init_923_b fu n (b_X12_init_923 fu n i) m x0 x1 st
theorem t_X12_init_923 {X : CX} {res : St} (fu n : Nat) (B : BC X cX12_init RX12 2 3 n 108 res) : ∀ (i : Nat) (m : Nat) (x0 : Nat) (x1 : Int32)  (st : St), WW X res m 923 [(0, .ref (x_b X + x0)), (1, .int x1)] [] st (b_X12_init_923 fu n i m x0 x1 st) := by
  intro i
  induction i with
  | zero => intro m x0 x1 st; exact ww_none
  | succ i ih => intro m x0 x1 st; exact t_X12_init_923_b fu n B (b_X12_init_923 fu n i) ih m x0 x1 st
def b_X12_init_905_b (fu n : Nat) (k_905 : Nat → Nat → Int32 → St → Option (St)) (m : Nat) (x0 : Nat) (x1 : Int32)  (st : St) : Option St :=
  if 4 ≤ x1 then (
  b_X12_init_923 fu n fu m x0 0  st)
  else (
  ck (m = NN) <|
  ck (n ≤ NN ∧ NN ≤ n + 108) <|
  ck ((kd x0).1 = 12) <|
  cv (f_X12_fresh fu x0 x1 st) fun s446 =>
  bd (x1 + 1) fun v448 =>
  k_905 NN x0 v448  s446)
set_option maxHeartbeats 4000000 in
set_option maxRecDepth 100000 in
theorem t_X12_init_905_b {X : CX} {res : St} (fu n : Nat) (B : BC X cX12_init RX12 2 3 n 108 res) (k_905 : Nat → Nat → Int32 → St → Option (St)) (h_905 : ∀ (m : Nat) (x0 : Nat) (x1 : Int32)  (st : St), WW X res m 905 [(0, .ref (x_b X + x0)), (1, .int x1)] [] st (k_905 m x0 x1 st)) (m : Nat) (x0 : Nat) (x1 : Int32)  (st : St) : WW X res m 905 [(0, .ref (x_b X + x0)), (1, .int x1)] [] st (b_X12_init_905_b fu n k_905 m x0 x1 st) := by
  have hX := B.1
  have hL := B.2.1
  unfold b_X12_init_905_b
  refine ww_iload_n hX 1 rfl dX12_init_905 rfl ?_
  refine ww_iconst (v := 4) hX rfl dX12_init_906 ?_
  refine ww_icmp_ge (tgt := 921) hX dX12_init_907 (by decide) ?_ ?_
  · refine ww_iconst (v := 0) hX rfl dX12_init_921 ?_
    refine ww_istore_n (lv' := [(1, .int 0), (0, .ref (x_b X + x0))]) hX hL dX12_init_922 rfl (by decide) rfl ?_
    exact ww_sub [1, 0] rfl (t_X12_init_923 fu n B fu m x0 0  st)
  · refine ww_aload_n hX 0 rfl dX12_init_910 rfl ?_
    refine ww_iload_n hX 1 rfl dX12_init_911 rfl ?_
    refine ww_atN ?_
    refine ww_ck (fun h447 => ?_)
    refine ww_callVV (As := [.int x1]) (rest := []) (o := x0) hX (B.hk h447 (by decide) (by decide)) g_X12_337 g_X12_337.in (fun _ => c_X12_fresh (x_G X) (x_l X) fu x0 x1 st) rfl rfl (Nat.le_of_ble_eq_true rfl) dX12_init_912 (fun s446 => ?_)
    refine ww_iincb (lv' := fun v448 => [(1, .int v448), (0, .ref (x_b X + x0))]) (c := 1) hX hL 1 rfl dX12_init_915 rfl (by decide) (fun _ => rfl) (fun v448 => ?_)
    refine ww_goto (tgt := 905) hX dX12_init_918 (by decide) ?_
    exact ww_sub [1, 0] rfl (h_905 NN x0 v448  s446)
def b_X12_init_905 (fu n : Nat) : Nat → Nat → Nat → Int32 → St → Option St
  | 0, _, _, _, _ => none
  | i + 1, m, x0, x1, st => b_X12_init_905_b fu n (b_X12_init_905 fu n i) m x0 x1 st
theorem t_X12_init_905 {X : CX} {res : St} (fu n : Nat) (B : BC X cX12_init RX12 2 3 n 108 res) : ∀ (i : Nat) (m : Nat) (x0 : Nat) (x1 : Int32)  (st : St), WW X res m 905 [(0, .ref (x_b X + x0)), (1, .int x1)] [] st (b_X12_init_905 fu n i m x0 x1 st) := by
  intro i
  induction i with
  | zero => intro m x0 x1 st; exact ww_none
  | succ i ih => intro m x0 x1 st; exact t_X12_init_905_b fu n B (b_X12_init_905 fu n i) ih m x0 x1 st
set_option maxRecDepth 100000 in
def f_X12_init (fu n : Nat) (th : Nat) (st : St) : Option St :=
  ck (n ≤ n ∧ n + 1 ≤ n + 108) <|
  ck (kd (n + 1) = (101, 4000)) <|
  bd (zr st (n + 1)) fun s2 =>
  bd (n + 1) fun o3 =>
  ck (1 ≤ th ∧ th ≤ n + 1) <|
  ck (¬ o3 = 0) <|
  ck ((kd th).1 = 12) <|
  bd (sR s2 th 0 o3) fun s4 =>
  ck (n ≤ n + 1 ∧ n + 2 ≤ n + 108) <|
  ck (kd (n + 2) = (100, 4001)) <|
  bd (zr s4 (n + 2)) fun s6 =>
  bd (n + 2) fun o7 =>
  ck (1 ≤ th ∧ th ≤ n + 2) <|
  ck (¬ o7 = 0) <|
  ck ((kd th).1 = 12) <|
  bd (sR s6 th 2 o7) fun s8 =>
  ck (n ≤ n + 2 ∧ n + 3 ≤ n + 108) <|
  ck (kd (n + 3) = (103, 4001)) <|
  bd (zr s8 (n + 3)) fun s10 =>
  bd (n + 3) fun o11 =>
  ck (1 ≤ th ∧ th ≤ n + 3) <|
  ck (¬ o11 = 0) <|
  ck ((kd th).1 = 12) <|
  bd (sR s10 th 3 o11) fun s12 =>
  ck (n ≤ n + 3 ∧ n + 4 ≤ n + 108) <|
  ck (kd (n + 4) = (100, 4001)) <|
  bd (zr s12 (n + 4)) fun s14 =>
  bd (n + 4) fun o15 =>
  ck (1 ≤ th ∧ th ≤ n + 4) <|
  ck (¬ o15 = 0) <|
  ck ((kd th).1 = 12) <|
  bd (sR s14 th 4 o15) fun s16 =>
  ck (n ≤ n + 4 ∧ n + 5 ≤ n + 108) <|
  ck (kd (n + 5) = (100, 4)) <|
  bd (zr s16 (n + 5)) fun s18 =>
  bd (n + 5) fun o19 =>
  ck (1 ≤ th ∧ th ≤ n + 5) <|
  ck (¬ o19 = 0) <|
  ck ((kd th).1 = 12) <|
  bd (sR s18 th 9 o19) fun s20 =>
  ck (n ≤ n + 5 ∧ n + 6 ≤ n + 108) <|
  ck (kd (n + 6) = (100, 240)) <|
  bd (zr s20 (n + 6)) fun s22 =>
  bd (n + 6) fun o23 =>
  ck (1 ≤ th ∧ th ≤ n + 6) <|
  ck (¬ o23 = 0) <|
  ck ((kd th).1 = 12) <|
  bd (sR s22 th 10 o23) fun s24 =>
  ck (n ≤ n + 6 ∧ n + 7 ≤ n + 108) <|
  ck (kd (n + 7) = (100, 240)) <|
  bd (zr s24 (n + 7)) fun s26 =>
  bd (n + 7) fun o27 =>
  ck (1 ≤ th ∧ th ≤ n + 7) <|
  ck (¬ o27 = 0) <|
  ck ((kd th).1 = 12) <|
  bd (sR s26 th 11 o27) fun s28 =>
  ck (n ≤ n + 7 ∧ n + 8 ≤ n + 108) <|
  ck (kd (n + 8) = (100, 240)) <|
  bd (zr s28 (n + 8)) fun s30 =>
  bd (n + 8) fun o31 =>
  ck (1 ≤ th ∧ th ≤ n + 8) <|
  ck (¬ o31 = 0) <|
  ck ((kd th).1 = 12) <|
  bd (sR s30 th 12 o31) fun s32 =>
  ck (n ≤ n + 8 ∧ n + 9 ≤ n + 108) <|
  ck (kd (n + 9) = (100, 240)) <|
  bd (zr s32 (n + 9)) fun s34 =>
  bd (n + 9) fun o35 =>
  ck (1 ≤ th ∧ th ≤ n + 9) <|
  ck (¬ o35 = 0) <|
  ck ((kd th).1 = 12) <|
  bd (sR s34 th 13 o35) fun s36 =>
  ck (n ≤ n + 9 ∧ n + 10 ≤ n + 108) <|
  ck (kd (n + 10) = (100, 240)) <|
  bd (zr s36 (n + 10)) fun s38 =>
  bd (n + 10) fun o39 =>
  ck (1 ≤ th ∧ th ≤ n + 10) <|
  ck (¬ o39 = 0) <|
  ck ((kd th).1 = 12) <|
  bd (sR s38 th 14 o39) fun s40 =>
  ck (n ≤ n + 10 ∧ n + 11 ≤ n + 108) <|
  ck (kd (n + 11) = (100, 240)) <|
  bd (zr s40 (n + 11)) fun s42 =>
  bd (n + 11) fun o43 =>
  ck (1 ≤ th ∧ th ≤ n + 11) <|
  ck (¬ o43 = 0) <|
  ck ((kd th).1 = 12) <|
  bd (sR s42 th 15 o43) fun s44 =>
  ck (n ≤ n + 11 ∧ n + 12 ≤ n + 108) <|
  ck (kd (n + 12) = (100, 240)) <|
  bd (zr s44 (n + 12)) fun s46 =>
  bd (n + 12) fun o47 =>
  ck (1 ≤ th ∧ th ≤ n + 12) <|
  ck (¬ o47 = 0) <|
  ck ((kd th).1 = 12) <|
  bd (sR s46 th 16 o47) fun s48 =>
  ck (n ≤ n + 12 ∧ n + 13 ≤ n + 108) <|
  ck (kd (n + 13) = (100, 240)) <|
  bd (zr s48 (n + 13)) fun s50 =>
  bd (n + 13) fun o51 =>
  ck (1 ≤ th ∧ th ≤ n + 13) <|
  ck (¬ o51 = 0) <|
  ck ((kd th).1 = 12) <|
  bd (sR s50 th 17 o51) fun s52 =>
  ck (n ≤ n + 13 ∧ n + 14 ≤ n + 108) <|
  ck (kd (n + 14) = (100, 15600)) <|
  bd (zr s52 (n + 14)) fun s54 =>
  bd (n + 14) fun o55 =>
  ck (1 ≤ th ∧ th ≤ n + 14) <|
  ck (¬ o55 = 0) <|
  ck ((kd th).1 = 12) <|
  bd (sR s54 th 18 o55) fun s56 =>
  ck (n ≤ n + 14 ∧ n + 15 ≤ n + 108) <|
  ck (kd (n + 15) = (100, 1200)) <|
  bd (zr s56 (n + 15)) fun s58 =>
  bd (n + 15) fun o59 =>
  ck (1 ≤ th ∧ th ≤ n + 15) <|
  ck (¬ o59 = 0) <|
  ck ((kd th).1 = 12) <|
  bd (sR s58 th 19 o59) fun s60 =>
  ck (n ≤ n + 15 ∧ n + 16 ≤ n + 108) <|
  ck (kd (n + 16) = (100, 1200)) <|
  bd (zr s60 (n + 16)) fun s62 =>
  bd (n + 16) fun o63 =>
  ck (1 ≤ th ∧ th ≤ n + 16) <|
  ck (¬ o63 = 0) <|
  ck ((kd th).1 = 12) <|
  bd (sR s62 th 20 o63) fun s64 =>
  ck (n ≤ n + 16 ∧ n + 17 ≤ n + 108) <|
  ck (kd (n + 17) = (100, 1200)) <|
  bd (zr s64 (n + 17)) fun s66 =>
  bd (n + 17) fun o67 =>
  ck (1 ≤ th ∧ th ≤ n + 17) <|
  ck (¬ o67 = 0) <|
  ck ((kd th).1 = 12) <|
  bd (sR s66 th 21 o67) fun s68 =>
  ck (n ≤ n + 17 ∧ n + 18 ≤ n + 108) <|
  ck (kd (n + 18) = (100, 60)) <|
  bd (zr s68 (n + 18)) fun s70 =>
  bd (n + 18) fun o71 =>
  ck (1 ≤ th ∧ th ≤ n + 18) <|
  ck (¬ o71 = 0) <|
  ck ((kd th).1 = 12) <|
  bd (sR s70 th 22 o71) fun s72 =>
  ck (n ≤ n + 18 ∧ n + 19 ≤ n + 108) <|
  ck (kd (n + 19) = (100, 60)) <|
  bd (zr s72 (n + 19)) fun s74 =>
  bd (n + 19) fun o75 =>
  ck (1 ≤ th ∧ th ≤ n + 19) <|
  ck (¬ o75 = 0) <|
  ck ((kd th).1 = 12) <|
  bd (sR s74 th 23 o75) fun s76 =>
  ck (n ≤ n + 19 ∧ n + 20 ≤ n + 108) <|
  ck (kd (n + 20) = (100, 60)) <|
  bd (zr s76 (n + 20)) fun s78 =>
  bd (n + 20) fun o79 =>
  ck (1 ≤ th ∧ th ≤ n + 20) <|
  ck (¬ o79 = 0) <|
  ck ((kd th).1 = 12) <|
  bd (sR s78 th 24 o79) fun s80 =>
  ck (n ≤ n + 20 ∧ n + 21 ≤ n + 108) <|
  ck (kd (n + 21) = (100, 60)) <|
  bd (zr s80 (n + 21)) fun s82 =>
  bd (n + 21) fun o83 =>
  ck (1 ≤ th ∧ th ≤ n + 21) <|
  ck (¬ o83 = 0) <|
  ck ((kd th).1 = 12) <|
  bd (sR s82 th 25 o83) fun s84 =>
  ck (n ≤ n + 21 ∧ n + 22 ≤ n + 108) <|
  ck (kd (n + 22) = (100, 60)) <|
  bd (zr s84 (n + 22)) fun s86 =>
  bd (n + 22) fun o87 =>
  ck (1 ≤ th ∧ th ≤ n + 22) <|
  ck (¬ o87 = 0) <|
  ck ((kd th).1 = 12) <|
  bd (sR s86 th 26 o87) fun s88 =>
  ck (n ≤ n + 22 ∧ n + 23 ≤ n + 108) <|
  ck (kd (n + 23) = (100, 60)) <|
  bd (zr s88 (n + 23)) fun s90 =>
  bd (n + 23) fun o91 =>
  ck (1 ≤ th ∧ th ≤ n + 23) <|
  ck (¬ o91 = 0) <|
  ck ((kd th).1 = 12) <|
  bd (sR s90 th 27 o91) fun s92 =>
  ck (n ≤ n + 23 ∧ n + 24 ≤ n + 108) <|
  ck (kd (n + 24) = (100, 60)) <|
  bd (zr s92 (n + 24)) fun s94 =>
  bd (n + 24) fun o95 =>
  ck (1 ≤ th ∧ th ≤ n + 24) <|
  ck (¬ o95 = 0) <|
  ck ((kd th).1 = 12) <|
  bd (sR s94 th 28 o95) fun s96 =>
  ck (n ≤ n + 24 ∧ n + 25 ≤ n + 108) <|
  ck (kd (n + 25) = (100, 60)) <|
  bd (zr s96 (n + 25)) fun s98 =>
  bd (n + 25) fun o99 =>
  ck (1 ≤ th ∧ th ≤ n + 25) <|
  ck (¬ o99 = 0) <|
  ck ((kd th).1 = 12) <|
  bd (sR s98 th 29 o99) fun s100 =>
  ck (n ≤ n + 25 ∧ n + 26 ≤ n + 108) <|
  ck (kd (n + 26) = (100, 3900)) <|
  bd (zr s100 (n + 26)) fun s102 =>
  bd (n + 26) fun o103 =>
  ck (1 ≤ th ∧ th ≤ n + 26) <|
  ck (¬ o103 = 0) <|
  ck ((kd th).1 = 12) <|
  bd (sR s102 th 30 o103) fun s104 =>
  ck (n ≤ n + 26 ∧ n + 27 ≤ n + 108) <|
  ck (kd (n + 27) = (100, 300)) <|
  bd (zr s104 (n + 27)) fun s106 =>
  bd (n + 27) fun o107 =>
  ck (1 ≤ th ∧ th ≤ n + 27) <|
  ck (¬ o107 = 0) <|
  ck ((kd th).1 = 12) <|
  bd (sR s106 th 31 o107) fun s108 =>
  ck (n ≤ n + 27 ∧ n + 28 ≤ n + 108) <|
  ck (kd (n + 28) = (100, 300)) <|
  bd (zr s108 (n + 28)) fun s110 =>
  bd (n + 28) fun o111 =>
  ck (1 ≤ th ∧ th ≤ n + 28) <|
  ck (¬ o111 = 0) <|
  ck ((kd th).1 = 12) <|
  bd (sR s110 th 32 o111) fun s112 =>
  ck (n ≤ n + 28 ∧ n + 29 ≤ n + 108) <|
  ck (kd (n + 29) = (100, 300)) <|
  bd (zr s112 (n + 29)) fun s114 =>
  bd (n + 29) fun o115 =>
  ck (1 ≤ th ∧ th ≤ n + 29) <|
  ck (¬ o115 = 0) <|
  ck ((kd th).1 = 12) <|
  bd (sR s114 th 33 o115) fun s116 =>
  ck (n ≤ n + 29 ∧ n + 30 ≤ n + 108) <|
  ck (kd (n + 30) = (100, 65)) <|
  bd (zr s116 (n + 30)) fun s118 =>
  bd (n + 30) fun o119 =>
  ck (1 ≤ th ∧ th ≤ n + 30) <|
  ck (¬ o119 = 0) <|
  ck ((kd th).1 = 12) <|
  bd (sR s118 th 36 o119) fun s120 =>
  ck (n ≤ n + 30 ∧ n + 31 ≤ n + 108) <|
  ck (kd (n + 31) = (102, 65)) <|
  bd (zr s120 (n + 31)) fun s122 =>
  bd (n + 31) fun o123 =>
  ck (1 ≤ th ∧ th ≤ n + 31) <|
  ck (¬ o123 = 0) <|
  ck ((kd th).1 = 12) <|
  bd (sR s122 th 37 o123) fun s124 =>
  ck (n ≤ n + 31 ∧ n + 32 ≤ n + 108) <|
  ck (kd (n + 32) = (102, 65)) <|
  bd (zr s124 (n + 32)) fun s126 =>
  bd (n + 32) fun o127 =>
  ck (1 ≤ th ∧ th ≤ n + 32) <|
  ck (¬ o127 = 0) <|
  ck ((kd th).1 = 12) <|
  bd (sR s126 th 39 o127) fun s128 =>
  ck (n ≤ n + 32 ∧ n + 33 ≤ n + 108) <|
  ck (kd (n + 33) = (100, 4)) <|
  bd (zr s128 (n + 33)) fun s130 =>
  bd (n + 33) fun o131 =>
  ck (1 ≤ th ∧ th ≤ n + 33) <|
  ck (¬ o131 = 0) <|
  ck ((kd th).1 = 12) <|
  bd (sR s130 th 41 o131) fun s132 =>
  ck (n ≤ n + 33 ∧ n + 34 ≤ n + 108) <|
  ck (kd (n + 34) = (100, 4)) <|
  bd (zr s132 (n + 34)) fun s134 =>
  bd (n + 34) fun o135 =>
  ck (1 ≤ th ∧ th ≤ n + 34) <|
  ck (¬ o135 = 0) <|
  ck ((kd th).1 = 12) <|
  bd (sR s134 th 42 o135) fun s136 =>
  ck (n ≤ n + 34 ∧ n + 35 ≤ n + 108) <|
  ck (kd (n + 35) = (100, 4)) <|
  bd (zr s136 (n + 35)) fun s138 =>
  bd (n + 35) fun o139 =>
  ck (1 ≤ th ∧ th ≤ n + 35) <|
  ck (¬ o139 = 0) <|
  ck ((kd th).1 = 12) <|
  bd (sR s138 th 43 o139) fun s140 =>
  ck (n ≤ n + 35 ∧ n + 36 ≤ n + 108) <|
  ck (kd (n + 36) = (100, 4)) <|
  bd (zr s140 (n + 36)) fun s142 =>
  bd (n + 36) fun o143 =>
  ck (1 ≤ th ∧ th ≤ n + 36) <|
  ck (¬ o143 = 0) <|
  ck ((kd th).1 = 12) <|
  bd (sR s142 th 44 o143) fun s144 =>
  ck (n ≤ n + 36 ∧ n + 37 ≤ n + 108) <|
  ck (kd (n + 37) = (100, 260)) <|
  bd (zr s144 (n + 37)) fun s146 =>
  bd (n + 37) fun o147 =>
  ck (1 ≤ th ∧ th ≤ n + 37) <|
  ck (¬ o147 = 0) <|
  ck ((kd th).1 = 12) <|
  bd (sR s146 th 45 o147) fun s148 =>
  ck (n ≤ n + 37 ∧ n + 38 ≤ n + 108) <|
  ck (kd (n + 38) = (100, 260)) <|
  bd (zr s148 (n + 38)) fun s150 =>
  bd (n + 38) fun o151 =>
  ck (1 ≤ th ∧ th ≤ n + 38) <|
  ck (¬ o151 = 0) <|
  ck ((kd th).1 = 12) <|
  bd (sR s150 th 46 o151) fun s152 =>
  ck (n ≤ n + 38 ∧ n + 39 ≤ n + 108) <|
  ck (kd (n + 39) = (100, 260)) <|
  bd (zr s152 (n + 39)) fun s154 =>
  bd (n + 39) fun o155 =>
  ck (1 ≤ th ∧ th ≤ n + 39) <|
  ck (¬ o155 = 0) <|
  ck ((kd th).1 = 12) <|
  bd (sR s154 th 47 o155) fun s156 =>
  ck (n ≤ n + 39 ∧ n + 40 ≤ n + 108) <|
  ck (kd (n + 40) = (100, 260)) <|
  bd (zr s156 (n + 40)) fun s158 =>
  bd (n + 40) fun o159 =>
  ck (1 ≤ th ∧ th ≤ n + 40) <|
  ck (¬ o159 = 0) <|
  ck ((kd th).1 = 12) <|
  bd (sR s158 th 48 o159) fun s160 =>
  ck (n ≤ n + 40 ∧ n + 41 ≤ n + 108) <|
  ck (kd (n + 41) = (100, 260)) <|
  bd (zr s160 (n + 41)) fun s162 =>
  bd (n + 41) fun o163 =>
  ck (1 ≤ th ∧ th ≤ n + 41) <|
  ck (¬ o163 = 0) <|
  ck ((kd th).1 = 12) <|
  bd (sR s162 th 49 o163) fun s164 =>
  ck (n ≤ n + 41 ∧ n + 42 ≤ n + 108) <|
  ck (kd (n + 42) = (100, 65)) <|
  bd (zr s164 (n + 42)) fun s166 =>
  bd (n + 42) fun o167 =>
  ck (1 ≤ th ∧ th ≤ n + 42) <|
  ck (¬ o167 = 0) <|
  ck ((kd th).1 = 12) <|
  bd (sR s166 th 50 o167) fun s168 =>
  ck (n ≤ n + 42 ∧ n + 43 ≤ n + 108) <|
  ck (kd (n + 43) = (100, 128)) <|
  bd (zr s168 (n + 43)) fun s170 =>
  bd (n + 43) fun o171 =>
  ck (1 ≤ th ∧ th ≤ n + 43) <|
  ck (¬ o171 = 0) <|
  ck ((kd th).1 = 12) <|
  bd (sR s170 th 51 o171) fun s172 =>
  ck (n ≤ n + 43 ∧ n + 44 ≤ n + 108) <|
  ck (kd (n + 44) = (100, 128)) <|
  bd (zr s172 (n + 44)) fun s174 =>
  bd (n + 44) fun o175 =>
  ck (1 ≤ th ∧ th ≤ n + 44) <|
  ck (¬ o175 = 0) <|
  ck ((kd th).1 = 12) <|
  bd (sR s174 th 52 o175) fun s176 =>
  ck (n ≤ n + 44 ∧ n + 45 ≤ n + 108) <|
  ck (kd (n + 45) = (102, 8)) <|
  bd (zr s176 (n + 45)) fun s178 =>
  bd (n + 45) fun o179 =>
  ck (1 ≤ th ∧ th ≤ n + 45) <|
  ck (¬ o179 = 0) <|
  ck ((kd th).1 = 12) <|
  bd (sR s178 th 54 o179) fun s180 =>
  ck (n ≤ n + 45 ∧ n + 46 ≤ n + 108) <|
  ck (kd (n + 46) = (100, 8)) <|
  bd (zr s180 (n + 46)) fun s182 =>
  bd (n + 46) fun o183 =>
  ck (1 ≤ th ∧ th ≤ n + 46) <|
  ck (¬ o183 = 0) <|
  ck ((kd th).1 = 12) <|
  bd (sR s182 th 55 o183) fun s184 =>
  ck (n ≤ n + 46 ∧ n + 47 ≤ n + 108) <|
  ck (kd (n + 47) = (100, 8)) <|
  bd (zr s184 (n + 47)) fun s186 =>
  bd (n + 47) fun o187 =>
  ck (1 ≤ th ∧ th ≤ n + 47) <|
  ck (¬ o187 = 0) <|
  ck ((kd th).1 = 12) <|
  bd (sR s186 th 56 o187) fun s188 =>
  ck (n ≤ n + 47 ∧ n + 48 ≤ n + 108) <|
  ck (kd (n + 48) = (100, 8)) <|
  bd (zr s188 (n + 48)) fun s190 =>
  bd (n + 48) fun o191 =>
  ck (1 ≤ th ∧ th ≤ n + 48) <|
  ck (¬ o191 = 0) <|
  ck ((kd th).1 = 12) <|
  bd (sR s190 th 57 o191) fun s192 =>
  ck (n ≤ n + 48 ∧ n + 49 ≤ n + 108) <|
  ck (kd (n + 49) = (100, 8)) <|
  bd (zr s192 (n + 49)) fun s194 =>
  bd (n + 49) fun o195 =>
  ck (1 ≤ th ∧ th ≤ n + 49) <|
  ck (¬ o195 = 0) <|
  ck ((kd th).1 = 12) <|
  bd (sR s194 th 58 o195) fun s196 =>
  ck (n ≤ n + 49 ∧ n + 50 ≤ n + 108) <|
  ck (kd (n + 50) = (100, 8)) <|
  bd (zr s196 (n + 50)) fun s198 =>
  bd (n + 50) fun o199 =>
  ck (1 ≤ th ∧ th ≤ n + 50) <|
  ck (¬ o199 = 0) <|
  ck ((kd th).1 = 12) <|
  bd (sR s198 th 59 o199) fun s200 =>
  ck (n ≤ n + 50 ∧ n + 51 ≤ n + 108) <|
  ck (kd (n + 51) = (100, 8)) <|
  bd (zr s200 (n + 51)) fun s202 =>
  bd (n + 51) fun o203 =>
  ck (1 ≤ th ∧ th ≤ n + 51) <|
  ck (¬ o203 = 0) <|
  ck ((kd th).1 = 12) <|
  bd (sR s202 th 60 o203) fun s204 =>
  ck (n ≤ n + 51 ∧ n + 52 ≤ n + 108) <|
  ck (kd (n + 52) = (100, 8)) <|
  bd (zr s204 (n + 52)) fun s206 =>
  bd (n + 52) fun o207 =>
  ck (1 ≤ th ∧ th ≤ n + 52) <|
  ck (¬ o207 = 0) <|
  ck ((kd th).1 = 12) <|
  bd (sR s206 th 61 o207) fun s208 =>
  ck (n ≤ n + 52 ∧ n + 53 ≤ n + 108) <|
  ck (kd (n + 53) = (100, 8)) <|
  bd (zr s208 (n + 53)) fun s210 =>
  bd (n + 53) fun o211 =>
  ck (1 ≤ th ∧ th ≤ n + 53) <|
  ck (¬ o211 = 0) <|
  ck ((kd th).1 = 12) <|
  bd (sR s210 th 62 o211) fun s212 =>
  ck (n ≤ n + 53 ∧ n + 54 ≤ n + 108) <|
  ck (kd (n + 54) = (100, 8)) <|
  bd (zr s212 (n + 54)) fun s214 =>
  bd (n + 54) fun o215 =>
  ck (1 ≤ th ∧ th ≤ n + 54) <|
  ck (¬ o215 = 0) <|
  ck ((kd th).1 = 12) <|
  bd (sR s214 th 63 o215) fun s216 =>
  ck (n ≤ n + 54 ∧ n + 55 ≤ n + 108) <|
  ck (kd (n + 55) = (100, 8)) <|
  bd (zr s216 (n + 55)) fun s218 =>
  bd (n + 55) fun o219 =>
  ck (1 ≤ th ∧ th ≤ n + 55) <|
  ck (¬ o219 = 0) <|
  ck ((kd th).1 = 12) <|
  bd (sR s218 th 64 o219) fun s220 =>
  ck (n ≤ n + 55 ∧ n + 56 ≤ n + 108) <|
  ck (kd (n + 56) = (100, 8)) <|
  bd (zr s220 (n + 56)) fun s222 =>
  bd (n + 56) fun o223 =>
  ck (1 ≤ th ∧ th ≤ n + 56) <|
  ck (¬ o223 = 0) <|
  ck ((kd th).1 = 12) <|
  bd (sR s222 th 65 o223) fun s224 =>
  ck (n ≤ n + 56 ∧ n + 57 ≤ n + 108) <|
  ck (kd (n + 57) = (102, 16)) <|
  bd (zr s224 (n + 57)) fun s226 =>
  bd (n + 57) fun o227 =>
  ck (1 ≤ th ∧ th ≤ n + 57) <|
  ck (¬ o227 = 0) <|
  ck ((kd th).1 = 12) <|
  bd (sR s226 th 66 o227) fun s228 =>
  ck (n ≤ n + 57 ∧ n + 58 ≤ n + 108) <|
  ck (kd (n + 58) = (100, 8)) <|
  bd (zr s228 (n + 58)) fun s230 =>
  bd (n + 58) fun o231 =>
  ck (1 ≤ th ∧ th ≤ n + 58) <|
  ck (¬ o231 = 0) <|
  ck ((kd th).1 = 12) <|
  bd (sR s230 th 68 o231) fun s232 =>
  ck (n ≤ n + 58 ∧ n + 59 ≤ n + 108) <|
  ck (kd (n + 59) = (100, 488)) <|
  bd (zr s232 (n + 59)) fun s234 =>
  bd (n + 59) fun o235 =>
  ck (1 ≤ th ∧ th ≤ n + 59) <|
  ck (¬ o235 = 0) <|
  ck ((kd th).1 = 12) <|
  bd (sR s234 th 69 o235) fun s236 =>
  ck (n ≤ n + 59 ∧ n + 60 ≤ n + 108) <|
  ck (kd (n + 60) = (103, 488)) <|
  bd (zr s236 (n + 60)) fun s238 =>
  bd (n + 60) fun o239 =>
  ck (1 ≤ th ∧ th ≤ n + 60) <|
  ck (¬ o239 = 0) <|
  ck ((kd th).1 = 12) <|
  bd (sR s238 th 70 o239) fun s240 =>
  ck (n ≤ n + 60 ∧ n + 61 ≤ n + 108) <|
  ck (kd (n + 61) = (100, 8)) <|
  bd (zr s240 (n + 61)) fun s242 =>
  bd (n + 61) fun o243 =>
  ck (1 ≤ th ∧ th ≤ n + 61) <|
  ck (¬ o243 = 0) <|
  ck ((kd th).1 = 12) <|
  bd (sR s242 th 73 o243) fun s244 =>
  ck (n ≤ n + 61 ∧ n + 62 ≤ n + 108) <|
  ck (kd (n + 62) = (100, 40)) <|
  bd (zr s244 (n + 62)) fun s246 =>
  bd (n + 62) fun o247 =>
  ck (1 ≤ th ∧ th ≤ n + 62) <|
  ck (¬ o247 = 0) <|
  ck ((kd th).1 = 12) <|
  bd (sR s246 th 74 o247) fun s248 =>
  ck (n ≤ n + 62 ∧ n + 63 ≤ n + 108) <|
  ck (kd (n + 63) = (100, 40)) <|
  bd (zr s248 (n + 63)) fun s250 =>
  bd (n + 63) fun o251 =>
  ck (1 ≤ th ∧ th ≤ n + 63) <|
  ck (¬ o251 = 0) <|
  ck ((kd th).1 = 12) <|
  bd (sR s250 th 75 o251) fun s252 =>
  ck (n ≤ n + 63 ∧ n + 64 ≤ n + 108) <|
  ck (kd (n + 64) = (100, 1200)) <|
  bd (zr s252 (n + 64)) fun s254 =>
  bd (n + 64) fun o255 =>
  ck (1 ≤ th ∧ th ≤ n + 64) <|
  ck (¬ o255 = 0) <|
  ck ((kd th).1 = 12) <|
  bd (sR s254 th 76 o255) fun s256 =>
  ck (n ≤ n + 64 ∧ n + 65 ≤ n + 108) <|
  ck (kd (n + 65) = (102, 4)) <|
  bd (zr s256 (n + 65)) fun s258 =>
  bd (n + 65) fun o259 =>
  ck (1 ≤ th ∧ th ≤ n + 65) <|
  ck (¬ o259 = 0) <|
  ck ((kd th).1 = 12) <|
  bd (sR s258 th 77 o259) fun s260 =>
  ck (n ≤ n + 65 ∧ n + 66 ≤ n + 108) <|
  ck (kd (n + 66) = (102, 60)) <|
  bd (zr s260 (n + 66)) fun s262 =>
  bd (n + 66) fun o263 =>
  ck (1 ≤ th ∧ th ≤ n + 66) <|
  ck (¬ o263 = 0) <|
  ck ((kd th).1 = 12) <|
  bd (sR s262 th 78 o263) fun s264 =>
  ck (n ≤ n + 66 ∧ n + 67 ≤ n + 108) <|
  ck (kd (n + 67) = (100, 60)) <|
  bd (zr s264 (n + 67)) fun s266 =>
  bd (n + 67) fun o267 =>
  ck (1 ≤ th ∧ th ≤ n + 67) <|
  ck (¬ o267 = 0) <|
  ck ((kd th).1 = 12) <|
  bd (sR s266 th 79 o267) fun s268 =>
  ck (n ≤ n + 67 ∧ n + 68 ≤ n + 108) <|
  ck (kd (n + 68) = (100, 60)) <|
  bd (zr s268 (n + 68)) fun s270 =>
  bd (n + 68) fun o271 =>
  ck (1 ≤ th ∧ th ≤ n + 68) <|
  ck (¬ o271 = 0) <|
  ck ((kd th).1 = 12) <|
  bd (sR s270 th 80 o271) fun s272 =>
  ck (n ≤ n + 68 ∧ n + 69 ≤ n + 108) <|
  ck (kd (n + 69) = (100, 60)) <|
  bd (zr s272 (n + 69)) fun s274 =>
  bd (n + 69) fun o275 =>
  ck (1 ≤ th ∧ th ≤ n + 69) <|
  ck (¬ o275 = 0) <|
  ck ((kd th).1 = 12) <|
  bd (sR s274 th 81 o275) fun s276 =>
  ck (n ≤ n + 69 ∧ n + 70 ≤ n + 108) <|
  ck (kd (n + 70) = (100, 60)) <|
  bd (zr s276 (n + 70)) fun s278 =>
  bd (n + 70) fun o279 =>
  ck (1 ≤ th ∧ th ≤ n + 70) <|
  ck (¬ o279 = 0) <|
  ck ((kd th).1 = 12) <|
  bd (sR s278 th 82 o279) fun s280 =>
  ck (n ≤ n + 70 ∧ n + 71 ≤ n + 108) <|
  ck (kd (n + 71) = (100, 60)) <|
  bd (zr s280 (n + 71)) fun s282 =>
  bd (n + 71) fun o283 =>
  ck (1 ≤ th ∧ th ≤ n + 71) <|
  ck (¬ o283 = 0) <|
  ck ((kd th).1 = 12) <|
  bd (sR s282 th 83 o283) fun s284 =>
  ck (n ≤ n + 71 ∧ n + 72 ≤ n + 108) <|
  ck (kd (n + 72) = (100, 60)) <|
  bd (zr s284 (n + 72)) fun s286 =>
  bd (n + 72) fun o287 =>
  ck (1 ≤ th ∧ th ≤ n + 72) <|
  ck (¬ o287 = 0) <|
  ck ((kd th).1 = 12) <|
  bd (sR s286 th 84 o287) fun s288 =>
  ck (n ≤ n + 72 ∧ n + 73 ≤ n + 108) <|
  ck (kd (n + 73) = (100, 60)) <|
  bd (zr s288 (n + 73)) fun s290 =>
  bd (n + 73) fun o291 =>
  ck (1 ≤ th ∧ th ≤ n + 73) <|
  ck (¬ o291 = 0) <|
  ck ((kd th).1 = 12) <|
  bd (sR s290 th 85 o291) fun s292 =>
  ck (n ≤ n + 73 ∧ n + 74 ≤ n + 108) <|
  ck (kd (n + 74) = (100, 300)) <|
  bd (zr s292 (n + 74)) fun s294 =>
  bd (n + 74) fun o295 =>
  ck (1 ≤ th ∧ th ≤ n + 74) <|
  ck (¬ o295 = 0) <|
  ck ((kd th).1 = 12) <|
  bd (sR s294 th 86 o295) fun s296 =>
  ck (n ≤ n + 74 ∧ n + 75 ≤ n + 108) <|
  ck (kd (n + 75) = (100, 300)) <|
  bd (zr s296 (n + 75)) fun s298 =>
  bd (n + 75) fun o299 =>
  ck (1 ≤ th ∧ th ≤ n + 75) <|
  ck (¬ o299 = 0) <|
  ck ((kd th).1 = 12) <|
  bd (sR s298 th 87 o299) fun s300 =>
  ck (n ≤ n + 75 ∧ n + 76 ≤ n + 108) <|
  ck (kd (n + 76) = (100, 300)) <|
  bd (zr s300 (n + 76)) fun s302 =>
  bd (n + 76) fun o303 =>
  ck (1 ≤ th ∧ th ≤ n + 76) <|
  ck (¬ o303 = 0) <|
  ck ((kd th).1 = 12) <|
  bd (sR s302 th 88 o303) fun s304 =>
  ck (n ≤ n + 76 ∧ n + 77 ≤ n + 108) <|
  ck (kd (n + 77) = (100, 300)) <|
  bd (zr s304 (n + 77)) fun s306 =>
  bd (n + 77) fun o307 =>
  ck (1 ≤ th ∧ th ≤ n + 77) <|
  ck (¬ o307 = 0) <|
  ck ((kd th).1 = 12) <|
  bd (sR s306 th 89 o307) fun s308 =>
  ck (n ≤ n + 77 ∧ n + 78 ≤ n + 108) <|
  ck (kd (n + 78) = (102, 300)) <|
  bd (zr s308 (n + 78)) fun s310 =>
  bd (n + 78) fun o311 =>
  ck (1 ≤ th ∧ th ≤ n + 78) <|
  ck (¬ o311 = 0) <|
  ck ((kd th).1 = 12) <|
  bd (sR s310 th 90 o311) fun s312 =>
  ck (n ≤ n + 78 ∧ n + 79 ≤ n + 108) <|
  ck (kd (n + 79) = (102, 300)) <|
  bd (zr s312 (n + 79)) fun s314 =>
  bd (n + 79) fun o315 =>
  ck (1 ≤ th ∧ th ≤ n + 79) <|
  ck (¬ o315 = 0) <|
  ck ((kd th).1 = 12) <|
  bd (sR s314 th 91 o315) fun s316 =>
  ck (n ≤ n + 79 ∧ n + 80 ≤ n + 108) <|
  ck (kd (n + 80) = (100, 21)) <|
  bd (zr s316 (n + 80)) fun s318 =>
  bd (n + 80) fun o319 =>
  ck (1 ≤ th ∧ th ≤ n + 80) <|
  ck (¬ o319 = 0) <|
  ck ((kd th).1 = 12) <|
  bd (sR s318 th 95 o319) fun s320 =>
  ck (n ≤ n + 80 ∧ n + 81 ≤ n + 108) <|
  ck (kd (n + 81) = (100, 20)) <|
  bd (zr s320 (n + 81)) fun s322 =>
  bd (n + 81) fun o323 =>
  ck (1 ≤ th ∧ th ≤ n + 81) <|
  ck (¬ o323 = 0) <|
  ck ((kd th).1 = 12) <|
  bd (sR s322 th 96 o323) fun s324 =>
  ck (n ≤ n + 81 ∧ n + 82 ≤ n + 108) <|
  ck (kd (n + 82) = (100, 20)) <|
  bd (zr s324 (n + 82)) fun s326 =>
  bd (n + 82) fun o327 =>
  ck (1 ≤ th ∧ th ≤ n + 82) <|
  ck (¬ o327 = 0) <|
  ck ((kd th).1 = 12) <|
  bd (sR s326 th 97 o327) fun s328 =>
  ck (n ≤ n + 82 ∧ n + 83 ≤ n + 108) <|
  ck (kd (n + 83) = (100, 4000)) <|
  bd (zr s328 (n + 83)) fun s330 =>
  bd (n + 83) fun o331 =>
  ck (1 ≤ th ∧ th ≤ n + 83) <|
  ck (¬ o331 = 0) <|
  ck ((kd th).1 = 12) <|
  bd (sR s330 th 98 o331) fun s332 =>
  ck (n ≤ n + 83 ∧ n + 84 ≤ n + 108) <|
  ck (kd (n + 84) = (100, 4000)) <|
  bd (zr s332 (n + 84)) fun s334 =>
  bd (n + 84) fun o335 =>
  ck (1 ≤ th ∧ th ≤ n + 84) <|
  ck (¬ o335 = 0) <|
  ck ((kd th).1 = 12) <|
  bd (sR s334 th 99 o335) fun s336 =>
  ck (n ≤ n + 84 ∧ n + 85 ≤ n + 108) <|
  ck (kd (n + 85) = (100, 21)) <|
  bd (zr s336 (n + 85)) fun s338 =>
  bd (n + 85) fun o339 =>
  ck (1 ≤ th ∧ th ≤ n + 85) <|
  ck (¬ o339 = 0) <|
  ck ((kd th).1 = 12) <|
  bd (sR s338 th 101 o339) fun s340 =>
  ck (n ≤ n + 85 ∧ n + 86 ≤ n + 108) <|
  ck (kd (n + 86) = (100, 20)) <|
  bd (zr s340 (n + 86)) fun s342 =>
  bd (n + 86) fun o343 =>
  ck (1 ≤ th ∧ th ≤ n + 86) <|
  ck (¬ o343 = 0) <|
  ck ((kd th).1 = 12) <|
  bd (sR s342 th 102 o343) fun s344 =>
  ck (n ≤ n + 86 ∧ n + 87 ≤ n + 108) <|
  ck (kd (n + 87) = (100, 20)) <|
  bd (zr s344 (n + 87)) fun s346 =>
  bd (n + 87) fun o347 =>
  ck (1 ≤ th ∧ th ≤ n + 87) <|
  ck (¬ o347 = 0) <|
  ck ((kd th).1 = 12) <|
  bd (sR s346 th 103 o347) fun s348 =>
  ck (n ≤ n + 87 ∧ n + 88 ≤ n + 108) <|
  ck (kd (n + 88) = (100, 4000)) <|
  bd (zr s348 (n + 88)) fun s350 =>
  bd (n + 88) fun o351 =>
  ck (1 ≤ th ∧ th ≤ n + 88) <|
  ck (¬ o351 = 0) <|
  ck ((kd th).1 = 12) <|
  bd (sR s350 th 104 o351) fun s352 =>
  ck (n ≤ n + 88 ∧ n + 89 ≤ n + 108) <|
  ck (kd (n + 89) = (100, 4000)) <|
  bd (zr s352 (n + 89)) fun s354 =>
  bd (n + 89) fun o355 =>
  ck (1 ≤ th ∧ th ≤ n + 89) <|
  ck (¬ o355 = 0) <|
  ck ((kd th).1 = 12) <|
  bd (sR s354 th 105 o355) fun s356 =>
  ck (n ≤ n + 89 ∧ n + 90 ≤ n + 108) <|
  ck (kd (n + 90) = (103, 3)) <|
  bd (zr s356 (n + 90)) fun s358 =>
  bd (n + 90) fun o359 =>
  ck (1 ≤ th ∧ th ≤ n + 90) <|
  ck (¬ o359 = 0) <|
  ck ((kd th).1 = 12) <|
  bd (sR s358 th 106 o359) fun s360 =>
  ck (n ≤ n + 90 ∧ n + 91 ≤ n + 108) <|
  ck (kd (n + 91) = (103, 9)) <|
  bd (zr s360 (n + 91)) fun s362 =>
  bd (n + 91) fun o363 =>
  ck (1 ≤ th ∧ th ≤ n + 91) <|
  ck (¬ o363 = 0) <|
  ck ((kd th).1 = 12) <|
  bd (sR s362 th 107 o363) fun s364 =>
  ck (n ≤ n + 91 ∧ n + 92 ≤ n + 108) <|
  ck (kd (n + 92) = (103, 3)) <|
  bd (zr s364 (n + 92)) fun s366 =>
  bd (n + 92) fun o367 =>
  ck (1 ≤ th ∧ th ≤ n + 92) <|
  ck (¬ o367 = 0) <|
  ck ((kd th).1 = 12) <|
  bd (sR s366 th 108 o367) fun s368 =>
  ck (n ≤ n + 92 ∧ n + 93 ≤ n + 108) <|
  ck (kd (n + 93) = (103, 3)) <|
  bd (zr s368 (n + 93)) fun s370 =>
  bd (n + 93) fun o371 =>
  ck (1 ≤ th ∧ th ≤ n + 93) <|
  ck (¬ o371 = 0) <|
  ck ((kd th).1 = 12) <|
  bd (sR s370 th 109 o371) fun s372 =>
  ck (n ≤ n + 93 ∧ n + 94 ≤ n + 108) <|
  ck (kd (n + 94) = (103, 9)) <|
  bd (zr s372 (n + 94)) fun s374 =>
  bd (n + 94) fun o375 =>
  ck (1 ≤ th ∧ th ≤ n + 94) <|
  ck (¬ o375 = 0) <|
  ck ((kd th).1 = 12) <|
  bd (sR s374 th 110 o375) fun s376 =>
  ck (n ≤ n + 94 ∧ n + 95 ≤ n + 108) <|
  ck (kd (n + 95) = (103, 3)) <|
  bd (zr s376 (n + 95)) fun s378 =>
  bd (n + 95) fun o379 =>
  ck (1 ≤ th ∧ th ≤ n + 95) <|
  ck (¬ o379 = 0) <|
  ck ((kd th).1 = 12) <|
  bd (sR s378 th 111 o379) fun s380 =>
  ck (n ≤ n + 95 ∧ n + 96 ≤ n + 108) <|
  ck (kd (n + 96) = (102, 3)) <|
  bd (zr s380 (n + 96)) fun s382 =>
  bd (n + 96) fun o383 =>
  ck (1 ≤ th ∧ th ≤ n + 96) <|
  ck (¬ o383 = 0) <|
  ck ((kd th).1 = 12) <|
  bd (sR s382 th 112 o383) fun s384 =>
  ck (n ≤ n + 96 ∧ n + 97 ≤ n + 108) <|
  ck (kd (n + 97) = (100, 20)) <|
  bd (zr s384 (n + 97)) fun s386 =>
  bd (n + 97) fun o387 =>
  ck (1 ≤ th ∧ th ≤ n + 97) <|
  ck (¬ o387 = 0) <|
  ck ((kd th).1 = 12) <|
  bd (sR s386 th 114 o387) fun s388 =>
  ck (n ≤ n + 97 ∧ n + 98 ≤ n + 108) <|
  ck (kd (n + 98) = (100, 20)) <|
  bd (zr s388 (n + 98)) fun s390 =>
  bd (n + 98) fun o391 =>
  ck (1 ≤ th ∧ th ≤ n + 98) <|
  ck (¬ o391 = 0) <|
  ck ((kd th).1 = 12) <|
  bd (sR s390 th 115 o391) fun s392 =>
  ck (n ≤ n + 98 ∧ n + 99 ≤ n + 108) <|
  ck (kd (n + 99) = (100, 20)) <|
  bd (zr s392 (n + 99)) fun s394 =>
  bd (n + 99) fun o395 =>
  ck (1 ≤ th ∧ th ≤ n + 99) <|
  ck (¬ o395 = 0) <|
  ck ((kd th).1 = 12) <|
  bd (sR s394 th 116 o395) fun s396 =>
  ck (n ≤ n + 99 ∧ n + 100 ≤ n + 108) <|
  ck (kd (n + 100) = (100, 20)) <|
  bd (zr s396 (n + 100)) fun s398 =>
  bd (n + 100) fun o399 =>
  ck (1 ≤ th ∧ th ≤ n + 100) <|
  ck (¬ o399 = 0) <|
  ck ((kd th).1 = 12) <|
  bd (sR s398 th 117 o399) fun s400 =>
  ck (n ≤ n + 100 ∧ n + 101 ≤ n + 108) <|
  ck (kd (n + 101) = (100, 11)) <|
  bd (zr s400 (n + 101)) fun s402 =>
  bd (n + 101) fun o403 =>
  ck (1 ≤ th ∧ th ≤ n + 101) <|
  ck (¬ o403 = 0) <|
  ck ((kd th).1 = 12) <|
  bd (sR s402 th 118 o403) fun s404 =>
  ck (n ≤ n + 101 ∧ n + 102 ≤ n + 108) <|
  ck (kd (n + 102) = (100, 612)) <|
  bd (zr s404 (n + 102)) fun s406 =>
  bd (n + 102) fun o407 =>
  ck (1 ≤ th ∧ th ≤ n + 102) <|
  ck (¬ o407 = 0) <|
  ck ((kd th).1 = 12) <|
  bd (sR s406 th 119 o407) fun s408 =>
  ck (n ≤ n + 102 ∧ n + 103 ≤ n + 108) <|
  ck (kd (n + 103) = (100, 3264)) <|
  bd (zr s408 (n + 103)) fun s410 =>
  bd (n + 103) fun o411 =>
  ck (1 ≤ th ∧ th ≤ n + 103) <|
  ck (¬ o411 = 0) <|
  ck ((kd th).1 = 12) <|
  bd (sR s410 th 120 o411) fun s412 =>
  ck (n ≤ n + 103 ∧ n + 104 ≤ n + 108) <|
  ck (kd (n + 104) = (100, 3264)) <|
  bd (zr s412 (n + 104)) fun s414 =>
  bd (n + 104) fun o415 =>
  ck (1 ≤ th ∧ th ≤ n + 104) <|
  ck (¬ o415 = 0) <|
  ck ((kd th).1 = 12) <|
  bd (sR s414 th 121 o415) fun s416 =>
  ck (n ≤ n + 104 ∧ n + 105 ≤ n + 108) <|
  ck (kd (n + 105) = (100, 3264)) <|
  bd (zr s416 (n + 105)) fun s418 =>
  bd (n + 105) fun o419 =>
  ck (1 ≤ th ∧ th ≤ n + 105) <|
  ck (¬ o419 = 0) <|
  ck ((kd th).1 = 12) <|
  bd (sR s418 th 122 o419) fun s420 =>
  ck (n ≤ n + 105 ∧ n + 106 ≤ n + 108) <|
  ck (kd (n + 106) = (100, 612)) <|
  bd (zr s420 (n + 106)) fun s422 =>
  bd (n + 106) fun o423 =>
  ck (1 ≤ th ∧ th ≤ n + 106) <|
  ck (¬ o423 = 0) <|
  ck ((kd th).1 = 12) <|
  bd (sR s422 th 124 o423) fun s424 =>
  ck (n ≤ n + 106 ∧ n + 107 ≤ n + 108) <|
  ck (kd (n + 107) = (100, 612)) <|
  bd (zr s424 (n + 107)) fun s426 =>
  bd (n + 107) fun o427 =>
  ck (1 ≤ th ∧ th ≤ n + 107) <|
  ck (¬ o427 = 0) <|
  ck ((kd th).1 = 12) <|
  bd (sR s426 th 125 o427) fun s428 =>
  ck (n ≤ n + 107 ∧ n + 108 ≤ n + 108) <|
  ck (kd (n + 108) = (100, 11)) <|
  bd (zr s428 (n + 108)) fun s430 =>
  bd (n + 108) fun o431 =>
  ck (1 ≤ th ∧ th ≤ n + 108) <|
  ck (¬ o431 = 0) <|
  ck ((kd th).1 = 12) <|
  bd (sR s430 th 126 o431) fun s432 =>
  b_X12_init_905 fu n fu (n + 108) th 0  s432
set_option maxHeartbeats 4000000 in
set_option maxRecDepth 100000 in
theorem t_X12_init {X : CX} {res : St} (fu n : Nat) (B : BC X cX12_init RX12 2 3 n 108 res) (th : Nat) (st : St) : WW X res n 0 [(0, .ref (x_b X + th))] [] st (f_X12_init fu n th st) := by
  have hX := B.1
  have hL := B.2.1
  unfold f_X12_init
  refine ww_aload_n hX 0 rfl dX12_init_0 rfl ?_
  refine ww_objinit hX (tb_t (List.mem_of_getElem? (i := 1367) (by decide +kernel)) rfl) (tb_t (List.mem_of_getElem? (i := 29) (by decide +kernel)) rfl) (tb_t (List.mem_of_getElem? (i := 30) (by decide +kernel)) rfl) (B.ho (by decide) (Nat.le_of_ble_eq_true rfl)) dX12_init_1 ?_
  refine ww_aload_n hX 0 rfl dX12_init_4 rfl ?_
  refine ww_sipush (v := 4000) hX rfl dX12_init_5 ?_
  refine ww_ck (fun h1 => ?_)
  refine ww_newB hX (RA.of B h1) (by decide) (by decide) (by decide) ar_b dX12_init_8 ?_
  refine ww_bds (fun s2 => ?_)
  refine ww_bdR (fun o3 => ?_)
  refine ww_putRF hX B.2.2.2.2.2.2.2.1 (cls_own (own := RX12) (T' := TX12) (N' := 127) (C := "") (T := TX0) (N := 0) rfl) f_X12_9 (Or.inr ⟨_, rfl⟩) dX12_init_10 ?_
  refine ww_bds (fun s4 => ?_)
  refine ww_aload_n hX 0 rfl dX12_init_13 rfl ?_
  refine ww_pc (b := 14) rfl ?_
  refine ww_sipush (v := 4001) hX rfl dX12_init_14 ?_
  refine ww_ck (fun h5 => ?_)
  refine ww_newI hX (RA.of B h5) (by decide) (by decide) (by decide) ar_i dX12_init_17 ?_
  refine ww_bds (fun s6 => ?_)
  refine ww_bdR (fun o7 => ?_)
  refine ww_putRF hX B.2.2.2.2.2.2.2.1 (cls_own (own := RX12) (T' := TX12) (N' := 127) (C := "") (T := TX0) (N := 0) rfl) f_X12_13 (Or.inr ⟨_, rfl⟩) dX12_init_19 ?_
  refine ww_bds (fun s8 => ?_)
  refine ww_aload_n hX 0 rfl dX12_init_22 rfl ?_
  refine ww_sipush (v := 4001) hX rfl dX12_init_23 ?_
  refine ww_ck (fun h9 => ?_)
  refine ww_newL hX (RA.of B h9) (by decide) (by decide) (by decide) ar_l dX12_init_26 ?_
  refine ww_bds (fun s10 => ?_)
  refine ww_bdR (fun o11 => ?_)
  refine ww_putRF hX B.2.2.2.2.2.2.2.1 (cls_own (own := RX12) (T' := TX12) (N' := 127) (C := "") (T := TX0) (N := 0) rfl) f_X12_17 (Or.inr ⟨_, rfl⟩) dX12_init_28 ?_
  refine ww_bds (fun s12 => ?_)
  refine ww_aload_n hX 0 rfl dX12_init_31 rfl ?_
  refine ww_pc (b := 32) rfl ?_
  refine ww_sipush (v := 4001) hX rfl dX12_init_32 ?_
  refine ww_ck (fun h13 => ?_)
  refine ww_newI hX (RA.of B h13) (by decide) (by decide) (by decide) ar_i dX12_init_35 ?_
  refine ww_bds (fun s14 => ?_)
  refine ww_bdR (fun o15 => ?_)
  refine ww_putRF hX B.2.2.2.2.2.2.2.1 (cls_own (own := RX12) (T' := TX12) (N' := 127) (C := "") (T := TX0) (N := 0) rfl) f_X12_21 (Or.inr ⟨_, rfl⟩) dX12_init_37 ?_
  refine ww_bds (fun s16 => ?_)
  refine ww_aload_n hX 0 rfl dX12_init_40 rfl ?_
  refine ww_iconst (v := 4) hX rfl dX12_init_41 ?_
  refine ww_ck (fun h17 => ?_)
  refine ww_newI hX (RA.of B h17) (by decide) (by decide) (by decide) ar_i dX12_init_42 ?_
  refine ww_bds (fun s18 => ?_)
  refine ww_bdR (fun o19 => ?_)
  refine ww_putRF hX B.2.2.2.2.2.2.2.1 (cls_own (own := RX12) (T' := TX12) (N' := 127) (C := "") (T := TX0) (N := 0) rfl) f_X12_24 (Or.inr ⟨_, rfl⟩) dX12_init_44 ?_
  refine ww_bds (fun s20 => ?_)
  refine ww_aload_n hX 0 rfl dX12_init_47 rfl ?_
  refine ww_pc (b := 48) rfl ?_
  refine ww_sipush (v := 240) hX rfl dX12_init_48 ?_
  refine ww_ck (fun h21 => ?_)
  refine ww_newI hX (RA.of B h21) (by decide) (by decide) (by decide) ar_i dX12_init_51 ?_
  refine ww_bds (fun s22 => ?_)
  refine ww_bdR (fun o23 => ?_)
  refine ww_putRF hX B.2.2.2.2.2.2.2.1 (cls_own (own := RX12) (T' := TX12) (N' := 127) (C := "") (T := TX0) (N := 0) rfl) f_X12_27 (Or.inr ⟨_, rfl⟩) dX12_init_53 ?_
  refine ww_bds (fun s24 => ?_)
  refine ww_aload_n hX 0 rfl dX12_init_56 rfl ?_
  refine ww_sipush (v := 240) hX rfl dX12_init_57 ?_
  refine ww_ck (fun h25 => ?_)
  refine ww_newI hX (RA.of B h25) (by decide) (by decide) (by decide) ar_i dX12_init_60 ?_
  refine ww_bds (fun s26 => ?_)
  refine ww_bdR (fun o27 => ?_)
  refine ww_putRF hX B.2.2.2.2.2.2.2.1 (cls_own (own := RX12) (T' := TX12) (N' := 127) (C := "") (T := TX0) (N := 0) rfl) f_X12_30 (Or.inr ⟨_, rfl⟩) dX12_init_62 ?_
  refine ww_bds (fun s28 => ?_)
  refine ww_aload_n hX 0 rfl dX12_init_65 rfl ?_
  refine ww_pc (b := 66) rfl ?_
  refine ww_sipush (v := 240) hX rfl dX12_init_66 ?_
  refine ww_ck (fun h29 => ?_)
  refine ww_newI hX (RA.of B h29) (by decide) (by decide) (by decide) ar_i dX12_init_69 ?_
  refine ww_bds (fun s30 => ?_)
  refine ww_bdR (fun o31 => ?_)
  refine ww_putRF hX B.2.2.2.2.2.2.2.1 (cls_own (own := RX12) (T' := TX12) (N' := 127) (C := "") (T := TX0) (N := 0) rfl) f_X12_33 (Or.inr ⟨_, rfl⟩) dX12_init_71 ?_
  refine ww_bds (fun s32 => ?_)
  refine ww_aload_n hX 0 rfl dX12_init_74 rfl ?_
  refine ww_sipush (v := 240) hX rfl dX12_init_75 ?_
  refine ww_ck (fun h33 => ?_)
  refine ww_newI hX (RA.of B h33) (by decide) (by decide) (by decide) ar_i dX12_init_78 ?_
  refine ww_bds (fun s34 => ?_)
  refine ww_bdR (fun o35 => ?_)
  refine ww_putRF hX B.2.2.2.2.2.2.2.1 (cls_own (own := RX12) (T' := TX12) (N' := 127) (C := "") (T := TX0) (N := 0) rfl) f_X12_36 (Or.inr ⟨_, rfl⟩) dX12_init_80 ?_
  refine ww_bds (fun s36 => ?_)
  refine ww_aload_n hX 0 rfl dX12_init_83 rfl ?_
  refine ww_pc (b := 84) rfl ?_
  refine ww_sipush (v := 240) hX rfl dX12_init_84 ?_
  refine ww_ck (fun h37 => ?_)
  refine ww_newI hX (RA.of B h37) (by decide) (by decide) (by decide) ar_i dX12_init_87 ?_
  refine ww_bds (fun s38 => ?_)
  refine ww_bdR (fun o39 => ?_)
  refine ww_putRF hX B.2.2.2.2.2.2.2.1 (cls_own (own := RX12) (T' := TX12) (N' := 127) (C := "") (T := TX0) (N := 0) rfl) f_X12_39 (Or.inr ⟨_, rfl⟩) dX12_init_89 ?_
  refine ww_bds (fun s40 => ?_)
  refine ww_aload_n hX 0 rfl dX12_init_92 rfl ?_
  refine ww_sipush (v := 240) hX rfl dX12_init_93 ?_
  refine ww_ck (fun h41 => ?_)
  refine ww_newI hX (RA.of B h41) (by decide) (by decide) (by decide) ar_i dX12_init_96 ?_
  refine ww_bds (fun s42 => ?_)
  refine ww_bdR (fun o43 => ?_)
  refine ww_putRF hX B.2.2.2.2.2.2.2.1 (cls_own (own := RX12) (T' := TX12) (N' := 127) (C := "") (T := TX0) (N := 0) rfl) f_X12_42 (Or.inr ⟨_, rfl⟩) dX12_init_98 ?_
  refine ww_bds (fun s44 => ?_)
  refine ww_aload_n hX 0 rfl dX12_init_101 rfl ?_
  refine ww_pc (b := 102) rfl ?_
  refine ww_sipush (v := 240) hX rfl dX12_init_102 ?_
  refine ww_ck (fun h45 => ?_)
  refine ww_newI hX (RA.of B h45) (by decide) (by decide) (by decide) ar_i dX12_init_105 ?_
  refine ww_bds (fun s46 => ?_)
  refine ww_bdR (fun o47 => ?_)
  refine ww_putRF hX B.2.2.2.2.2.2.2.1 (cls_own (own := RX12) (T' := TX12) (N' := 127) (C := "") (T := TX0) (N := 0) rfl) f_X12_45 (Or.inr ⟨_, rfl⟩) dX12_init_107 ?_
  refine ww_bds (fun s48 => ?_)
  refine ww_aload_n hX 0 rfl dX12_init_110 rfl ?_
  refine ww_sipush (v := 240) hX rfl dX12_init_111 ?_
  refine ww_ck (fun h49 => ?_)
  refine ww_newI hX (RA.of B h49) (by decide) (by decide) (by decide) ar_i dX12_init_114 ?_
  refine ww_bds (fun s50 => ?_)
  refine ww_bdR (fun o51 => ?_)
  refine ww_putRF hX B.2.2.2.2.2.2.2.1 (cls_own (own := RX12) (T' := TX12) (N' := 127) (C := "") (T := TX0) (N := 0) rfl) f_X12_48 (Or.inr ⟨_, rfl⟩) dX12_init_116 ?_
  refine ww_bds (fun s52 => ?_)
  refine ww_aload_n hX 0 rfl dX12_init_119 rfl ?_
  refine ww_pc (b := 120) rfl ?_
  refine ww_sipush (v := 15600) hX rfl dX12_init_120 ?_
  refine ww_ck (fun h53 => ?_)
  refine ww_newI hX (RA.of B h53) (by decide) (by decide) (by decide) ar_i dX12_init_123 ?_
  refine ww_bds (fun s54 => ?_)
  refine ww_bdR (fun o55 => ?_)
  refine ww_putRF hX B.2.2.2.2.2.2.2.1 (cls_own (own := RX12) (T' := TX12) (N' := 127) (C := "") (T := TX0) (N := 0) rfl) f_X12_51 (Or.inr ⟨_, rfl⟩) dX12_init_125 ?_
  refine ww_bds (fun s56 => ?_)
  refine ww_aload_n hX 0 rfl dX12_init_128 rfl ?_
  refine ww_sipush (v := 1200) hX rfl dX12_init_129 ?_
  refine ww_ck (fun h57 => ?_)
  refine ww_newI hX (RA.of B h57) (by decide) (by decide) (by decide) ar_i dX12_init_132 ?_
  refine ww_bds (fun s58 => ?_)
  refine ww_bdR (fun o59 => ?_)
  refine ww_putRF hX B.2.2.2.2.2.2.2.1 (cls_own (own := RX12) (T' := TX12) (N' := 127) (C := "") (T := TX0) (N := 0) rfl) f_X12_54 (Or.inr ⟨_, rfl⟩) dX12_init_134 ?_
  refine ww_bds (fun s60 => ?_)
  refine ww_aload_n hX 0 rfl dX12_init_137 rfl ?_
  refine ww_pc (b := 138) rfl ?_
  refine ww_sipush (v := 1200) hX rfl dX12_init_138 ?_
  refine ww_ck (fun h61 => ?_)
  refine ww_newI hX (RA.of B h61) (by decide) (by decide) (by decide) ar_i dX12_init_141 ?_
  refine ww_bds (fun s62 => ?_)
  refine ww_bdR (fun o63 => ?_)
  refine ww_putRF hX B.2.2.2.2.2.2.2.1 (cls_own (own := RX12) (T' := TX12) (N' := 127) (C := "") (T := TX0) (N := 0) rfl) f_X12_57 (Or.inr ⟨_, rfl⟩) dX12_init_143 ?_
  refine ww_bds (fun s64 => ?_)
  refine ww_aload_n hX 0 rfl dX12_init_146 rfl ?_
  refine ww_sipush (v := 1200) hX rfl dX12_init_147 ?_
  refine ww_ck (fun h65 => ?_)
  refine ww_newI hX (RA.of B h65) (by decide) (by decide) (by decide) ar_i dX12_init_150 ?_
  refine ww_bds (fun s66 => ?_)
  refine ww_bdR (fun o67 => ?_)
  refine ww_putRF hX B.2.2.2.2.2.2.2.1 (cls_own (own := RX12) (T' := TX12) (N' := 127) (C := "") (T := TX0) (N := 0) rfl) f_X12_60 (Or.inr ⟨_, rfl⟩) dX12_init_152 ?_
  refine ww_bds (fun s68 => ?_)
  refine ww_aload_n hX 0 rfl dX12_init_155 rfl ?_
  refine ww_pc (b := 156) rfl ?_
  refine ww_bipush (v := 60) hX rfl dX12_init_156 ?_
  refine ww_ck (fun h69 => ?_)
  refine ww_newI hX (RA.of B h69) (by decide) (by decide) (by decide) ar_i dX12_init_158 ?_
  refine ww_bds (fun s70 => ?_)
  refine ww_bdR (fun o71 => ?_)
  refine ww_putRF hX B.2.2.2.2.2.2.2.1 (cls_own (own := RX12) (T' := TX12) (N' := 127) (C := "") (T := TX0) (N := 0) rfl) f_X12_63 (Or.inr ⟨_, rfl⟩) dX12_init_160 ?_
  refine ww_bds (fun s72 => ?_)
  refine ww_aload_n hX 0 rfl dX12_init_163 rfl ?_
  refine ww_bipush (v := 60) hX rfl dX12_init_164 ?_
  refine ww_ck (fun h73 => ?_)
  refine ww_newI hX (RA.of B h73) (by decide) (by decide) (by decide) ar_i dX12_init_166 ?_
  refine ww_bds (fun s74 => ?_)
  refine ww_bdR (fun o75 => ?_)
  refine ww_putRF hX B.2.2.2.2.2.2.2.1 (cls_own (own := RX12) (T' := TX12) (N' := 127) (C := "") (T := TX0) (N := 0) rfl) f_X12_66 (Or.inr ⟨_, rfl⟩) dX12_init_168 ?_
  refine ww_bds (fun s76 => ?_)
  refine ww_aload_n hX 0 rfl dX12_init_171 rfl ?_
  refine ww_pc (b := 172) rfl ?_
  refine ww_bipush (v := 60) hX rfl dX12_init_172 ?_
  refine ww_ck (fun h77 => ?_)
  refine ww_newI hX (RA.of B h77) (by decide) (by decide) (by decide) ar_i dX12_init_174 ?_
  refine ww_bds (fun s78 => ?_)
  refine ww_bdR (fun o79 => ?_)
  refine ww_putRF hX B.2.2.2.2.2.2.2.1 (cls_own (own := RX12) (T' := TX12) (N' := 127) (C := "") (T := TX0) (N := 0) rfl) f_X12_69 (Or.inr ⟨_, rfl⟩) dX12_init_176 ?_
  refine ww_bds (fun s80 => ?_)
  refine ww_aload_n hX 0 rfl dX12_init_179 rfl ?_
  refine ww_bipush (v := 60) hX rfl dX12_init_180 ?_
  refine ww_ck (fun h81 => ?_)
  refine ww_newI hX (RA.of B h81) (by decide) (by decide) (by decide) ar_i dX12_init_182 ?_
  refine ww_bds (fun s82 => ?_)
  refine ww_bdR (fun o83 => ?_)
  refine ww_putRF hX B.2.2.2.2.2.2.2.1 (cls_own (own := RX12) (T' := TX12) (N' := 127) (C := "") (T := TX0) (N := 0) rfl) f_X12_72 (Or.inr ⟨_, rfl⟩) dX12_init_184 ?_
  refine ww_bds (fun s84 => ?_)
  refine ww_aload_n hX 0 rfl dX12_init_187 rfl ?_
  refine ww_pc (b := 188) rfl ?_
  refine ww_bipush (v := 60) hX rfl dX12_init_188 ?_
  refine ww_ck (fun h85 => ?_)
  refine ww_newI hX (RA.of B h85) (by decide) (by decide) (by decide) ar_i dX12_init_190 ?_
  refine ww_bds (fun s86 => ?_)
  refine ww_bdR (fun o87 => ?_)
  refine ww_putRF hX B.2.2.2.2.2.2.2.1 (cls_own (own := RX12) (T' := TX12) (N' := 127) (C := "") (T := TX0) (N := 0) rfl) f_X12_75 (Or.inr ⟨_, rfl⟩) dX12_init_192 ?_
  refine ww_bds (fun s88 => ?_)
  refine ww_aload_n hX 0 rfl dX12_init_195 rfl ?_
  refine ww_bipush (v := 60) hX rfl dX12_init_196 ?_
  refine ww_ck (fun h89 => ?_)
  refine ww_newI hX (RA.of B h89) (by decide) (by decide) (by decide) ar_i dX12_init_198 ?_
  refine ww_bds (fun s90 => ?_)
  refine ww_bdR (fun o91 => ?_)
  refine ww_putRF hX B.2.2.2.2.2.2.2.1 (cls_own (own := RX12) (T' := TX12) (N' := 127) (C := "") (T := TX0) (N := 0) rfl) f_X12_78 (Or.inr ⟨_, rfl⟩) dX12_init_200 ?_
  refine ww_bds (fun s92 => ?_)
  refine ww_aload_n hX 0 rfl dX12_init_203 rfl ?_
  refine ww_pc (b := 204) rfl ?_
  refine ww_bipush (v := 60) hX rfl dX12_init_204 ?_
  refine ww_ck (fun h93 => ?_)
  refine ww_newI hX (RA.of B h93) (by decide) (by decide) (by decide) ar_i dX12_init_206 ?_
  refine ww_bds (fun s94 => ?_)
  refine ww_bdR (fun o95 => ?_)
  refine ww_putRF hX B.2.2.2.2.2.2.2.1 (cls_own (own := RX12) (T' := TX12) (N' := 127) (C := "") (T := TX0) (N := 0) rfl) f_X12_81 (Or.inr ⟨_, rfl⟩) dX12_init_208 ?_
  refine ww_bds (fun s96 => ?_)
  refine ww_aload_n hX 0 rfl dX12_init_211 rfl ?_
  refine ww_bipush (v := 60) hX rfl dX12_init_212 ?_
  refine ww_ck (fun h97 => ?_)
  refine ww_newI hX (RA.of B h97) (by decide) (by decide) (by decide) ar_i dX12_init_214 ?_
  refine ww_bds (fun s98 => ?_)
  refine ww_bdR (fun o99 => ?_)
  refine ww_putRF hX B.2.2.2.2.2.2.2.1 (cls_own (own := RX12) (T' := TX12) (N' := 127) (C := "") (T := TX0) (N := 0) rfl) f_X12_84 (Or.inr ⟨_, rfl⟩) dX12_init_216 ?_
  refine ww_bds (fun s100 => ?_)
  refine ww_aload_n hX 0 rfl dX12_init_219 rfl ?_
  refine ww_pc (b := 220) rfl ?_
  refine ww_sipush (v := 3900) hX rfl dX12_init_220 ?_
  refine ww_ck (fun h101 => ?_)
  refine ww_newI hX (RA.of B h101) (by decide) (by decide) (by decide) ar_i dX12_init_223 ?_
  refine ww_bds (fun s102 => ?_)
  refine ww_bdR (fun o103 => ?_)
  refine ww_putRF hX B.2.2.2.2.2.2.2.1 (cls_own (own := RX12) (T' := TX12) (N' := 127) (C := "") (T := TX0) (N := 0) rfl) f_X12_87 (Or.inr ⟨_, rfl⟩) dX12_init_225 ?_
  refine ww_bds (fun s104 => ?_)
  refine ww_aload_n hX 0 rfl dX12_init_228 rfl ?_
  refine ww_sipush (v := 300) hX rfl dX12_init_229 ?_
  refine ww_ck (fun h105 => ?_)
  refine ww_newI hX (RA.of B h105) (by decide) (by decide) (by decide) ar_i dX12_init_232 ?_
  refine ww_bds (fun s106 => ?_)
  refine ww_bdR (fun o107 => ?_)
  refine ww_putRF hX B.2.2.2.2.2.2.2.1 (cls_own (own := RX12) (T' := TX12) (N' := 127) (C := "") (T := TX0) (N := 0) rfl) f_X12_90 (Or.inr ⟨_, rfl⟩) dX12_init_234 ?_
  refine ww_bds (fun s108 => ?_)
  refine ww_aload_n hX 0 rfl dX12_init_237 rfl ?_
  refine ww_pc (b := 238) rfl ?_
  refine ww_sipush (v := 300) hX rfl dX12_init_238 ?_
  refine ww_ck (fun h109 => ?_)
  refine ww_newI hX (RA.of B h109) (by decide) (by decide) (by decide) ar_i dX12_init_241 ?_
  refine ww_bds (fun s110 => ?_)
  refine ww_bdR (fun o111 => ?_)
  refine ww_putRF hX B.2.2.2.2.2.2.2.1 (cls_own (own := RX12) (T' := TX12) (N' := 127) (C := "") (T := TX0) (N := 0) rfl) f_X12_93 (Or.inr ⟨_, rfl⟩) dX12_init_243 ?_
  refine ww_bds (fun s112 => ?_)
  refine ww_aload_n hX 0 rfl dX12_init_246 rfl ?_
  refine ww_sipush (v := 300) hX rfl dX12_init_247 ?_
  refine ww_ck (fun h113 => ?_)
  refine ww_newI hX (RA.of B h113) (by decide) (by decide) (by decide) ar_i dX12_init_250 ?_
  refine ww_bds (fun s114 => ?_)
  refine ww_bdR (fun o115 => ?_)
  refine ww_putRF hX B.2.2.2.2.2.2.2.1 (cls_own (own := RX12) (T' := TX12) (N' := 127) (C := "") (T := TX0) (N := 0) rfl) f_X12_96 (Or.inr ⟨_, rfl⟩) dX12_init_252 ?_
  refine ww_bds (fun s116 => ?_)
  refine ww_aload_n hX 0 rfl dX12_init_255 rfl ?_
  refine ww_pc (b := 256) rfl ?_
  refine ww_bipush (v := 65) hX rfl dX12_init_256 ?_
  refine ww_ck (fun h117 => ?_)
  refine ww_newI hX (RA.of B h117) (by decide) (by decide) (by decide) ar_i dX12_init_258 ?_
  refine ww_bds (fun s118 => ?_)
  refine ww_bdR (fun o119 => ?_)
  refine ww_putRF hX B.2.2.2.2.2.2.2.1 (cls_own (own := RX12) (T' := TX12) (N' := 127) (C := "") (T := TX0) (N := 0) rfl) f_X12_99 (Or.inr ⟨_, rfl⟩) dX12_init_260 ?_
  refine ww_bds (fun s120 => ?_)
  refine ww_aload_n hX 0 rfl dX12_init_263 rfl ?_
  refine ww_bipush (v := 65) hX rfl dX12_init_264 ?_
  refine ww_ck (fun h121 => ?_)
  refine ww_newZ hX (RA.of B h121) (by decide) (by decide) (by decide) ar_z dX12_init_266 ?_
  refine ww_bds (fun s122 => ?_)
  refine ww_bdR (fun o123 => ?_)
  refine ww_putRF hX B.2.2.2.2.2.2.2.1 (cls_own (own := RX12) (T' := TX12) (N' := 127) (C := "") (T := TX0) (N := 0) rfl) f_X12_102 (Or.inr ⟨_, rfl⟩) dX12_init_268 ?_
  refine ww_bds (fun s124 => ?_)
  refine ww_aload_n hX 0 rfl dX12_init_271 rfl ?_
  refine ww_pc (b := 272) rfl ?_
  refine ww_bipush (v := 65) hX rfl dX12_init_272 ?_
  refine ww_ck (fun h125 => ?_)
  refine ww_newZ hX (RA.of B h125) (by decide) (by decide) (by decide) ar_z dX12_init_274 ?_
  refine ww_bds (fun s126 => ?_)
  refine ww_bdR (fun o127 => ?_)
  refine ww_putRF hX B.2.2.2.2.2.2.2.1 (cls_own (own := RX12) (T' := TX12) (N' := 127) (C := "") (T := TX0) (N := 0) rfl) f_X12_106 (Or.inr ⟨_, rfl⟩) dX12_init_276 ?_
  refine ww_bds (fun s128 => ?_)
  refine ww_aload_n hX 0 rfl dX12_init_279 rfl ?_
  refine ww_iconst (v := 4) hX rfl dX12_init_280 ?_
  refine ww_ck (fun h129 => ?_)
  refine ww_newI hX (RA.of B h129) (by decide) (by decide) (by decide) ar_i dX12_init_281 ?_
  refine ww_bds (fun s130 => ?_)
  refine ww_bdR (fun o131 => ?_)
  refine ww_putRF hX B.2.2.2.2.2.2.2.1 (cls_own (own := RX12) (T' := TX12) (N' := 127) (C := "") (T := TX0) (N := 0) rfl) f_X12_109 (Or.inr ⟨_, rfl⟩) dX12_init_283 ?_
  refine ww_bds (fun s132 => ?_)
  refine ww_aload_n hX 0 rfl dX12_init_286 rfl ?_
  refine ww_pc (b := 287) rfl ?_
  refine ww_iconst (v := 4) hX rfl dX12_init_287 ?_
  refine ww_ck (fun h133 => ?_)
  refine ww_newI hX (RA.of B h133) (by decide) (by decide) (by decide) ar_i dX12_init_288 ?_
  refine ww_bds (fun s134 => ?_)
  refine ww_bdR (fun o135 => ?_)
  refine ww_putRF hX B.2.2.2.2.2.2.2.1 (cls_own (own := RX12) (T' := TX12) (N' := 127) (C := "") (T := TX0) (N := 0) rfl) f_X12_112 (Or.inr ⟨_, rfl⟩) dX12_init_290 ?_
  refine ww_bds (fun s136 => ?_)
  refine ww_aload_n hX 0 rfl dX12_init_293 rfl ?_
  refine ww_iconst (v := 4) hX rfl dX12_init_294 ?_
  refine ww_ck (fun h137 => ?_)
  refine ww_newI hX (RA.of B h137) (by decide) (by decide) (by decide) ar_i dX12_init_295 ?_
  refine ww_bds (fun s138 => ?_)
  refine ww_bdR (fun o139 => ?_)
  refine ww_putRF hX B.2.2.2.2.2.2.2.1 (cls_own (own := RX12) (T' := TX12) (N' := 127) (C := "") (T := TX0) (N := 0) rfl) f_X12_115 (Or.inr ⟨_, rfl⟩) dX12_init_297 ?_
  refine ww_bds (fun s140 => ?_)
  refine ww_aload_n hX 0 rfl dX12_init_300 rfl ?_
  refine ww_pc (b := 301) rfl ?_
  refine ww_iconst (v := 4) hX rfl dX12_init_301 ?_
  refine ww_ck (fun h141 => ?_)
  refine ww_newI hX (RA.of B h141) (by decide) (by decide) (by decide) ar_i dX12_init_302 ?_
  refine ww_bds (fun s142 => ?_)
  refine ww_bdR (fun o143 => ?_)
  refine ww_putRF hX B.2.2.2.2.2.2.2.1 (cls_own (own := RX12) (T' := TX12) (N' := 127) (C := "") (T := TX0) (N := 0) rfl) f_X12_118 (Or.inr ⟨_, rfl⟩) dX12_init_304 ?_
  refine ww_bds (fun s144 => ?_)
  refine ww_aload_n hX 0 rfl dX12_init_307 rfl ?_
  refine ww_sipush (v := 260) hX rfl dX12_init_308 ?_
  refine ww_ck (fun h145 => ?_)
  refine ww_newI hX (RA.of B h145) (by decide) (by decide) (by decide) ar_i dX12_init_311 ?_
  refine ww_bds (fun s146 => ?_)
  refine ww_bdR (fun o147 => ?_)
  refine ww_putRF hX B.2.2.2.2.2.2.2.1 (cls_own (own := RX12) (T' := TX12) (N' := 127) (C := "") (T := TX0) (N := 0) rfl) f_X12_121 (Or.inr ⟨_, rfl⟩) dX12_init_313 ?_
  refine ww_bds (fun s148 => ?_)
  refine ww_aload_n hX 0 rfl dX12_init_316 rfl ?_
  refine ww_pc (b := 317) rfl ?_
  refine ww_sipush (v := 260) hX rfl dX12_init_317 ?_
  refine ww_ck (fun h149 => ?_)
  refine ww_newI hX (RA.of B h149) (by decide) (by decide) (by decide) ar_i dX12_init_320 ?_
  refine ww_bds (fun s150 => ?_)
  refine ww_bdR (fun o151 => ?_)
  refine ww_putRF hX B.2.2.2.2.2.2.2.1 (cls_own (own := RX12) (T' := TX12) (N' := 127) (C := "") (T := TX0) (N := 0) rfl) f_X12_124 (Or.inr ⟨_, rfl⟩) dX12_init_322 ?_
  refine ww_bds (fun s152 => ?_)
  refine ww_aload_n hX 0 rfl dX12_init_325 rfl ?_
  refine ww_sipush (v := 260) hX rfl dX12_init_326 ?_
  refine ww_ck (fun h153 => ?_)
  refine ww_newI hX (RA.of B h153) (by decide) (by decide) (by decide) ar_i dX12_init_329 ?_
  refine ww_bds (fun s154 => ?_)
  refine ww_bdR (fun o155 => ?_)
  refine ww_putRF hX B.2.2.2.2.2.2.2.1 (cls_own (own := RX12) (T' := TX12) (N' := 127) (C := "") (T := TX0) (N := 0) rfl) f_X12_127 (Or.inr ⟨_, rfl⟩) dX12_init_331 ?_
  refine ww_bds (fun s156 => ?_)
  refine ww_aload_n hX 0 rfl dX12_init_334 rfl ?_
  refine ww_pc (b := 335) rfl ?_
  refine ww_sipush (v := 260) hX rfl dX12_init_335 ?_
  refine ww_ck (fun h157 => ?_)
  refine ww_newI hX (RA.of B h157) (by decide) (by decide) (by decide) ar_i dX12_init_338 ?_
  refine ww_bds (fun s158 => ?_)
  refine ww_bdR (fun o159 => ?_)
  refine ww_putRF hX B.2.2.2.2.2.2.2.1 (cls_own (own := RX12) (T' := TX12) (N' := 127) (C := "") (T := TX0) (N := 0) rfl) f_X12_130 (Or.inr ⟨_, rfl⟩) dX12_init_340 ?_
  refine ww_bds (fun s160 => ?_)
  refine ww_aload_n hX 0 rfl dX12_init_343 rfl ?_
  refine ww_sipush (v := 260) hX rfl dX12_init_344 ?_
  refine ww_ck (fun h161 => ?_)
  refine ww_newI hX (RA.of B h161) (by decide) (by decide) (by decide) ar_i dX12_init_347 ?_
  refine ww_bds (fun s162 => ?_)
  refine ww_bdR (fun o163 => ?_)
  refine ww_putRF hX B.2.2.2.2.2.2.2.1 (cls_own (own := RX12) (T' := TX12) (N' := 127) (C := "") (T := TX0) (N := 0) rfl) f_X12_133 (Or.inr ⟨_, rfl⟩) dX12_init_349 ?_
  refine ww_bds (fun s164 => ?_)
  refine ww_aload_n hX 0 rfl dX12_init_352 rfl ?_
  refine ww_pc (b := 353) rfl ?_
  refine ww_bipush (v := 65) hX rfl dX12_init_353 ?_
  refine ww_ck (fun h165 => ?_)
  refine ww_newI hX (RA.of B h165) (by decide) (by decide) (by decide) ar_i dX12_init_355 ?_
  refine ww_bds (fun s166 => ?_)
  refine ww_bdR (fun o167 => ?_)
  refine ww_putRF hX B.2.2.2.2.2.2.2.1 (cls_own (own := RX12) (T' := TX12) (N' := 127) (C := "") (T := TX0) (N := 0) rfl) f_X12_136 (Or.inr ⟨_, rfl⟩) dX12_init_357 ?_
  refine ww_bds (fun s168 => ?_)
  refine ww_aload_n hX 0 rfl dX12_init_360 rfl ?_
  refine ww_sipush (v := 128) hX rfl dX12_init_361 ?_
  refine ww_ck (fun h169 => ?_)
  refine ww_newI hX (RA.of B h169) (by decide) (by decide) (by decide) ar_i dX12_init_364 ?_
  refine ww_bds (fun s170 => ?_)
  refine ww_bdR (fun o171 => ?_)
  refine ww_putRF hX B.2.2.2.2.2.2.2.1 (cls_own (own := RX12) (T' := TX12) (N' := 127) (C := "") (T := TX0) (N := 0) rfl) f_X12_139 (Or.inr ⟨_, rfl⟩) dX12_init_366 ?_
  refine ww_bds (fun s172 => ?_)
  refine ww_aload_n hX 0 rfl dX12_init_369 rfl ?_
  refine ww_pc (b := 370) rfl ?_
  refine ww_sipush (v := 128) hX rfl dX12_init_370 ?_
  refine ww_ck (fun h173 => ?_)
  refine ww_newI hX (RA.of B h173) (by decide) (by decide) (by decide) ar_i dX12_init_373 ?_
  refine ww_bds (fun s174 => ?_)
  refine ww_bdR (fun o175 => ?_)
  refine ww_putRF hX B.2.2.2.2.2.2.2.1 (cls_own (own := RX12) (T' := TX12) (N' := 127) (C := "") (T := TX0) (N := 0) rfl) f_X12_142 (Or.inr ⟨_, rfl⟩) dX12_init_375 ?_
  refine ww_bds (fun s176 => ?_)
  refine ww_aload_n hX 0 rfl dX12_init_378 rfl ?_
  refine ww_bipush (v := 8) hX rfl dX12_init_379 ?_
  refine ww_ck (fun h177 => ?_)
  refine ww_newZ hX (RA.of B h177) (by decide) (by decide) (by decide) ar_z dX12_init_381 ?_
  refine ww_bds (fun s178 => ?_)
  refine ww_bdR (fun o179 => ?_)
  refine ww_putRF hX B.2.2.2.2.2.2.2.1 (cls_own (own := RX12) (T' := TX12) (N' := 127) (C := "") (T := TX0) (N := 0) rfl) f_X12_145 (Or.inr ⟨_, rfl⟩) dX12_init_383 ?_
  refine ww_bds (fun s180 => ?_)
  refine ww_aload_n hX 0 rfl dX12_init_386 rfl ?_
  refine ww_pc (b := 387) rfl ?_
  refine ww_bipush (v := 8) hX rfl dX12_init_387 ?_
  refine ww_ck (fun h181 => ?_)
  refine ww_newI hX (RA.of B h181) (by decide) (by decide) (by decide) ar_i dX12_init_389 ?_
  refine ww_bds (fun s182 => ?_)
  refine ww_bdR (fun o183 => ?_)
  refine ww_putRF hX B.2.2.2.2.2.2.2.1 (cls_own (own := RX12) (T' := TX12) (N' := 127) (C := "") (T := TX0) (N := 0) rfl) f_X12_148 (Or.inr ⟨_, rfl⟩) dX12_init_391 ?_
  refine ww_bds (fun s184 => ?_)
  refine ww_aload_n hX 0 rfl dX12_init_394 rfl ?_
  refine ww_bipush (v := 8) hX rfl dX12_init_395 ?_
  refine ww_ck (fun h185 => ?_)
  refine ww_newI hX (RA.of B h185) (by decide) (by decide) (by decide) ar_i dX12_init_397 ?_
  refine ww_bds (fun s186 => ?_)
  refine ww_bdR (fun o187 => ?_)
  refine ww_putRF hX B.2.2.2.2.2.2.2.1 (cls_own (own := RX12) (T' := TX12) (N' := 127) (C := "") (T := TX0) (N := 0) rfl) f_X12_151 (Or.inr ⟨_, rfl⟩) dX12_init_399 ?_
  refine ww_bds (fun s188 => ?_)
  refine ww_aload_n hX 0 rfl dX12_init_402 rfl ?_
  refine ww_pc (b := 403) rfl ?_
  refine ww_bipush (v := 8) hX rfl dX12_init_403 ?_
  refine ww_ck (fun h189 => ?_)
  refine ww_newI hX (RA.of B h189) (by decide) (by decide) (by decide) ar_i dX12_init_405 ?_
  refine ww_bds (fun s190 => ?_)
  refine ww_bdR (fun o191 => ?_)
  refine ww_putRF hX B.2.2.2.2.2.2.2.1 (cls_own (own := RX12) (T' := TX12) (N' := 127) (C := "") (T := TX0) (N := 0) rfl) f_X12_154 (Or.inr ⟨_, rfl⟩) dX12_init_407 ?_
  refine ww_bds (fun s192 => ?_)
  refine ww_aload_n hX 0 rfl dX12_init_410 rfl ?_
  refine ww_bipush (v := 8) hX rfl dX12_init_411 ?_
  refine ww_ck (fun h193 => ?_)
  refine ww_newI hX (RA.of B h193) (by decide) (by decide) (by decide) ar_i dX12_init_413 ?_
  refine ww_bds (fun s194 => ?_)
  refine ww_bdR (fun o195 => ?_)
  refine ww_putRF hX B.2.2.2.2.2.2.2.1 (cls_own (own := RX12) (T' := TX12) (N' := 127) (C := "") (T := TX0) (N := 0) rfl) f_X12_157 (Or.inr ⟨_, rfl⟩) dX12_init_415 ?_
  refine ww_bds (fun s196 => ?_)
  refine ww_aload_n hX 0 rfl dX12_init_418 rfl ?_
  refine ww_pc (b := 419) rfl ?_
  refine ww_bipush (v := 8) hX rfl dX12_init_419 ?_
  refine ww_ck (fun h197 => ?_)
  refine ww_newI hX (RA.of B h197) (by decide) (by decide) (by decide) ar_i dX12_init_421 ?_
  refine ww_bds (fun s198 => ?_)
  refine ww_bdR (fun o199 => ?_)
  refine ww_putRF hX B.2.2.2.2.2.2.2.1 (cls_own (own := RX12) (T' := TX12) (N' := 127) (C := "") (T := TX0) (N := 0) rfl) f_X12_160 (Or.inr ⟨_, rfl⟩) dX12_init_423 ?_
  refine ww_bds (fun s200 => ?_)
  refine ww_aload_n hX 0 rfl dX12_init_426 rfl ?_
  refine ww_bipush (v := 8) hX rfl dX12_init_427 ?_
  refine ww_ck (fun h201 => ?_)
  refine ww_newI hX (RA.of B h201) (by decide) (by decide) (by decide) ar_i dX12_init_429 ?_
  refine ww_bds (fun s202 => ?_)
  refine ww_bdR (fun o203 => ?_)
  refine ww_putRF hX B.2.2.2.2.2.2.2.1 (cls_own (own := RX12) (T' := TX12) (N' := 127) (C := "") (T := TX0) (N := 0) rfl) f_X12_163 (Or.inr ⟨_, rfl⟩) dX12_init_431 ?_
  refine ww_bds (fun s204 => ?_)
  refine ww_aload_n hX 0 rfl dX12_init_434 rfl ?_
  refine ww_pc (b := 435) rfl ?_
  refine ww_bipush (v := 8) hX rfl dX12_init_435 ?_
  refine ww_ck (fun h205 => ?_)
  refine ww_newI hX (RA.of B h205) (by decide) (by decide) (by decide) ar_i dX12_init_437 ?_
  refine ww_bds (fun s206 => ?_)
  refine ww_bdR (fun o207 => ?_)
  refine ww_putRF hX B.2.2.2.2.2.2.2.1 (cls_own (own := RX12) (T' := TX12) (N' := 127) (C := "") (T := TX0) (N := 0) rfl) f_X12_166 (Or.inr ⟨_, rfl⟩) dX12_init_439 ?_
  refine ww_bds (fun s208 => ?_)
  refine ww_aload_n hX 0 rfl dX12_init_442 rfl ?_
  refine ww_bipush (v := 8) hX rfl dX12_init_443 ?_
  refine ww_ck (fun h209 => ?_)
  refine ww_newI hX (RA.of B h209) (by decide) (by decide) (by decide) ar_i dX12_init_445 ?_
  refine ww_bds (fun s210 => ?_)
  refine ww_bdR (fun o211 => ?_)
  refine ww_putRF hX B.2.2.2.2.2.2.2.1 (cls_own (own := RX12) (T' := TX12) (N' := 127) (C := "") (T := TX0) (N := 0) rfl) f_X12_169 (Or.inr ⟨_, rfl⟩) dX12_init_447 ?_
  refine ww_bds (fun s212 => ?_)
  refine ww_aload_n hX 0 rfl dX12_init_450 rfl ?_
  refine ww_pc (b := 451) rfl ?_
  refine ww_bipush (v := 8) hX rfl dX12_init_451 ?_
  refine ww_ck (fun h213 => ?_)
  refine ww_newI hX (RA.of B h213) (by decide) (by decide) (by decide) ar_i dX12_init_453 ?_
  refine ww_bds (fun s214 => ?_)
  refine ww_bdR (fun o215 => ?_)
  refine ww_putRF hX B.2.2.2.2.2.2.2.1 (cls_own (own := RX12) (T' := TX12) (N' := 127) (C := "") (T := TX0) (N := 0) rfl) f_X12_172 (Or.inr ⟨_, rfl⟩) dX12_init_455 ?_
  refine ww_bds (fun s216 => ?_)
  refine ww_aload_n hX 0 rfl dX12_init_458 rfl ?_
  refine ww_bipush (v := 8) hX rfl dX12_init_459 ?_
  refine ww_ck (fun h217 => ?_)
  refine ww_newI hX (RA.of B h217) (by decide) (by decide) (by decide) ar_i dX12_init_461 ?_
  refine ww_bds (fun s218 => ?_)
  refine ww_bdR (fun o219 => ?_)
  refine ww_putRF hX B.2.2.2.2.2.2.2.1 (cls_own (own := RX12) (T' := TX12) (N' := 127) (C := "") (T := TX0) (N := 0) rfl) f_X12_175 (Or.inr ⟨_, rfl⟩) dX12_init_463 ?_
  refine ww_bds (fun s220 => ?_)
  refine ww_aload_n hX 0 rfl dX12_init_466 rfl ?_
  refine ww_pc (b := 467) rfl ?_
  refine ww_bipush (v := 8) hX rfl dX12_init_467 ?_
  refine ww_ck (fun h221 => ?_)
  refine ww_newI hX (RA.of B h221) (by decide) (by decide) (by decide) ar_i dX12_init_469 ?_
  refine ww_bds (fun s222 => ?_)
  refine ww_bdR (fun o223 => ?_)
  refine ww_putRF hX B.2.2.2.2.2.2.2.1 (cls_own (own := RX12) (T' := TX12) (N' := 127) (C := "") (T := TX0) (N := 0) rfl) f_X12_178 (Or.inr ⟨_, rfl⟩) dX12_init_471 ?_
  refine ww_bds (fun s224 => ?_)
  refine ww_aload_n hX 0 rfl dX12_init_474 rfl ?_
  refine ww_bipush (v := 16) hX rfl dX12_init_475 ?_
  refine ww_ck (fun h225 => ?_)
  refine ww_newZ hX (RA.of B h225) (by decide) (by decide) (by decide) ar_z dX12_init_477 ?_
  refine ww_bds (fun s226 => ?_)
  refine ww_bdR (fun o227 => ?_)
  refine ww_putRF hX B.2.2.2.2.2.2.2.1 (cls_own (own := RX12) (T' := TX12) (N' := 127) (C := "") (T := TX0) (N := 0) rfl) f_X12_181 (Or.inr ⟨_, rfl⟩) dX12_init_479 ?_
  refine ww_bds (fun s228 => ?_)
  refine ww_aload_n hX 0 rfl dX12_init_482 rfl ?_
  refine ww_pc (b := 483) rfl ?_
  refine ww_bipush (v := 8) hX rfl dX12_init_483 ?_
  refine ww_ck (fun h229 => ?_)
  refine ww_newI hX (RA.of B h229) (by decide) (by decide) (by decide) ar_i dX12_init_485 ?_
  refine ww_bds (fun s230 => ?_)
  refine ww_bdR (fun o231 => ?_)
  refine ww_putRF hX B.2.2.2.2.2.2.2.1 (cls_own (own := RX12) (T' := TX12) (N' := 127) (C := "") (T := TX0) (N := 0) rfl) f_X12_184 (Or.inr ⟨_, rfl⟩) dX12_init_487 ?_
  refine ww_bds (fun s232 => ?_)
  refine ww_aload_n hX 0 rfl dX12_init_490 rfl ?_
  refine ww_sipush (v := 488) hX rfl dX12_init_491 ?_
  refine ww_ck (fun h233 => ?_)
  refine ww_newI hX (RA.of B h233) (by decide) (by decide) (by decide) ar_i dX12_init_494 ?_
  refine ww_bds (fun s234 => ?_)
  refine ww_bdR (fun o235 => ?_)
  refine ww_putRF hX B.2.2.2.2.2.2.2.1 (cls_own (own := RX12) (T' := TX12) (N' := 127) (C := "") (T := TX0) (N := 0) rfl) f_X12_187 (Or.inr ⟨_, rfl⟩) dX12_init_496 ?_
  refine ww_bds (fun s236 => ?_)
  refine ww_aload_n hX 0 rfl dX12_init_499 rfl ?_
  refine ww_pc (b := 500) rfl ?_
  refine ww_sipush (v := 488) hX rfl dX12_init_500 ?_
  refine ww_ck (fun h237 => ?_)
  refine ww_newL hX (RA.of B h237) (by decide) (by decide) (by decide) ar_l dX12_init_503 ?_
  refine ww_bds (fun s238 => ?_)
  refine ww_bdR (fun o239 => ?_)
  refine ww_putRF hX B.2.2.2.2.2.2.2.1 (cls_own (own := RX12) (T' := TX12) (N' := 127) (C := "") (T := TX0) (N := 0) rfl) f_X12_190 (Or.inr ⟨_, rfl⟩) dX12_init_505 ?_
  refine ww_bds (fun s240 => ?_)
  refine ww_aload_n hX 0 rfl dX12_init_508 rfl ?_
  refine ww_bipush (v := 8) hX rfl dX12_init_509 ?_
  refine ww_ck (fun h241 => ?_)
  refine ww_newI hX (RA.of B h241) (by decide) (by decide) (by decide) ar_i dX12_init_511 ?_
  refine ww_bds (fun s242 => ?_)
  refine ww_bdR (fun o243 => ?_)
  refine ww_putRF hX B.2.2.2.2.2.2.2.1 (cls_own (own := RX12) (T' := TX12) (N' := 127) (C := "") (T := TX0) (N := 0) rfl) f_X12_193 (Or.inr ⟨_, rfl⟩) dX12_init_513 ?_
  refine ww_bds (fun s244 => ?_)
  refine ww_aload_n hX 0 rfl dX12_init_516 rfl ?_
  refine ww_pc (b := 517) rfl ?_
  refine ww_bipush (v := 40) hX rfl dX12_init_517 ?_
  refine ww_ck (fun h245 => ?_)
  refine ww_newI hX (RA.of B h245) (by decide) (by decide) (by decide) ar_i dX12_init_519 ?_
  refine ww_bds (fun s246 => ?_)
  refine ww_bdR (fun o247 => ?_)
  refine ww_putRF hX B.2.2.2.2.2.2.2.1 (cls_own (own := RX12) (T' := TX12) (N' := 127) (C := "") (T := TX0) (N := 0) rfl) f_X12_196 (Or.inr ⟨_, rfl⟩) dX12_init_521 ?_
  refine ww_bds (fun s248 => ?_)
  refine ww_aload_n hX 0 rfl dX12_init_524 rfl ?_
  refine ww_bipush (v := 40) hX rfl dX12_init_525 ?_
  refine ww_ck (fun h249 => ?_)
  refine ww_newI hX (RA.of B h249) (by decide) (by decide) (by decide) ar_i dX12_init_527 ?_
  refine ww_bds (fun s250 => ?_)
  refine ww_bdR (fun o251 => ?_)
  refine ww_putRF hX B.2.2.2.2.2.2.2.1 (cls_own (own := RX12) (T' := TX12) (N' := 127) (C := "") (T := TX0) (N := 0) rfl) f_X12_199 (Or.inr ⟨_, rfl⟩) dX12_init_529 ?_
  refine ww_bds (fun s252 => ?_)
  refine ww_aload_n hX 0 rfl dX12_init_532 rfl ?_
  refine ww_pc (b := 533) rfl ?_
  refine ww_sipush (v := 1200) hX rfl dX12_init_533 ?_
  refine ww_ck (fun h253 => ?_)
  refine ww_newI hX (RA.of B h253) (by decide) (by decide) (by decide) ar_i dX12_init_536 ?_
  refine ww_bds (fun s254 => ?_)
  refine ww_bdR (fun o255 => ?_)
  refine ww_putRF hX B.2.2.2.2.2.2.2.1 (cls_own (own := RX12) (T' := TX12) (N' := 127) (C := "") (T := TX0) (N := 0) rfl) f_X12_202 (Or.inr ⟨_, rfl⟩) dX12_init_538 ?_
  refine ww_bds (fun s256 => ?_)
  refine ww_aload_n hX 0 rfl dX12_init_541 rfl ?_
  refine ww_iconst (v := 4) hX rfl dX12_init_542 ?_
  refine ww_ck (fun h257 => ?_)
  refine ww_newZ hX (RA.of B h257) (by decide) (by decide) (by decide) ar_z dX12_init_543 ?_
  refine ww_bds (fun s258 => ?_)
  refine ww_bdR (fun o259 => ?_)
  refine ww_putRF hX B.2.2.2.2.2.2.2.1 (cls_own (own := RX12) (T' := TX12) (N' := 127) (C := "") (T := TX0) (N := 0) rfl) f_X12_205 (Or.inr ⟨_, rfl⟩) dX12_init_545 ?_
  refine ww_bds (fun s260 => ?_)
  refine ww_aload_n hX 0 rfl dX12_init_548 rfl ?_
  refine ww_pc (b := 549) rfl ?_
  refine ww_bipush (v := 60) hX rfl dX12_init_549 ?_
  refine ww_ck (fun h261 => ?_)
  refine ww_newZ hX (RA.of B h261) (by decide) (by decide) (by decide) ar_z dX12_init_551 ?_
  refine ww_bds (fun s262 => ?_)
  refine ww_bdR (fun o263 => ?_)
  refine ww_putRF hX B.2.2.2.2.2.2.2.1 (cls_own (own := RX12) (T' := TX12) (N' := 127) (C := "") (T := TX0) (N := 0) rfl) f_X12_208 (Or.inr ⟨_, rfl⟩) dX12_init_553 ?_
  refine ww_bds (fun s264 => ?_)
  refine ww_aload_n hX 0 rfl dX12_init_556 rfl ?_
  refine ww_bipush (v := 60) hX rfl dX12_init_557 ?_
  refine ww_ck (fun h265 => ?_)
  refine ww_newI hX (RA.of B h265) (by decide) (by decide) (by decide) ar_i dX12_init_559 ?_
  refine ww_bds (fun s266 => ?_)
  refine ww_bdR (fun o267 => ?_)
  refine ww_putRF hX B.2.2.2.2.2.2.2.1 (cls_own (own := RX12) (T' := TX12) (N' := 127) (C := "") (T := TX0) (N := 0) rfl) f_X12_211 (Or.inr ⟨_, rfl⟩) dX12_init_561 ?_
  refine ww_bds (fun s268 => ?_)
  refine ww_aload_n hX 0 rfl dX12_init_564 rfl ?_
  refine ww_pc (b := 565) rfl ?_
  refine ww_bipush (v := 60) hX rfl dX12_init_565 ?_
  refine ww_ck (fun h269 => ?_)
  refine ww_newI hX (RA.of B h269) (by decide) (by decide) (by decide) ar_i dX12_init_567 ?_
  refine ww_bds (fun s270 => ?_)
  refine ww_bdR (fun o271 => ?_)
  refine ww_putRF hX B.2.2.2.2.2.2.2.1 (cls_own (own := RX12) (T' := TX12) (N' := 127) (C := "") (T := TX0) (N := 0) rfl) f_X12_214 (Or.inr ⟨_, rfl⟩) dX12_init_569 ?_
  refine ww_bds (fun s272 => ?_)
  refine ww_aload_n hX 0 rfl dX12_init_572 rfl ?_
  refine ww_bipush (v := 60) hX rfl dX12_init_573 ?_
  refine ww_ck (fun h273 => ?_)
  refine ww_newI hX (RA.of B h273) (by decide) (by decide) (by decide) ar_i dX12_init_575 ?_
  refine ww_bds (fun s274 => ?_)
  refine ww_bdR (fun o275 => ?_)
  refine ww_putRF hX B.2.2.2.2.2.2.2.1 (cls_own (own := RX12) (T' := TX12) (N' := 127) (C := "") (T := TX0) (N := 0) rfl) f_X12_217 (Or.inr ⟨_, rfl⟩) dX12_init_577 ?_
  refine ww_bds (fun s276 => ?_)
  refine ww_aload_n hX 0 rfl dX12_init_580 rfl ?_
  refine ww_pc (b := 581) rfl ?_
  refine ww_bipush (v := 60) hX rfl dX12_init_581 ?_
  refine ww_ck (fun h277 => ?_)
  refine ww_newI hX (RA.of B h277) (by decide) (by decide) (by decide) ar_i dX12_init_583 ?_
  refine ww_bds (fun s278 => ?_)
  refine ww_bdR (fun o279 => ?_)
  refine ww_putRF hX B.2.2.2.2.2.2.2.1 (cls_own (own := RX12) (T' := TX12) (N' := 127) (C := "") (T := TX0) (N := 0) rfl) f_X12_220 (Or.inr ⟨_, rfl⟩) dX12_init_585 ?_
  refine ww_bds (fun s280 => ?_)
  refine ww_aload_n hX 0 rfl dX12_init_588 rfl ?_
  refine ww_bipush (v := 60) hX rfl dX12_init_589 ?_
  refine ww_ck (fun h281 => ?_)
  refine ww_newI hX (RA.of B h281) (by decide) (by decide) (by decide) ar_i dX12_init_591 ?_
  refine ww_bds (fun s282 => ?_)
  refine ww_bdR (fun o283 => ?_)
  refine ww_putRF hX B.2.2.2.2.2.2.2.1 (cls_own (own := RX12) (T' := TX12) (N' := 127) (C := "") (T := TX0) (N := 0) rfl) f_X12_223 (Or.inr ⟨_, rfl⟩) dX12_init_593 ?_
  refine ww_bds (fun s284 => ?_)
  refine ww_aload_n hX 0 rfl dX12_init_596 rfl ?_
  refine ww_pc (b := 597) rfl ?_
  refine ww_bipush (v := 60) hX rfl dX12_init_597 ?_
  refine ww_ck (fun h285 => ?_)
  refine ww_newI hX (RA.of B h285) (by decide) (by decide) (by decide) ar_i dX12_init_599 ?_
  refine ww_bds (fun s286 => ?_)
  refine ww_bdR (fun o287 => ?_)
  refine ww_putRF hX B.2.2.2.2.2.2.2.1 (cls_own (own := RX12) (T' := TX12) (N' := 127) (C := "") (T := TX0) (N := 0) rfl) f_X12_226 (Or.inr ⟨_, rfl⟩) dX12_init_601 ?_
  refine ww_bds (fun s288 => ?_)
  refine ww_aload_n hX 0 rfl dX12_init_604 rfl ?_
  refine ww_bipush (v := 60) hX rfl dX12_init_605 ?_
  refine ww_ck (fun h289 => ?_)
  refine ww_newI hX (RA.of B h289) (by decide) (by decide) (by decide) ar_i dX12_init_607 ?_
  refine ww_bds (fun s290 => ?_)
  refine ww_bdR (fun o291 => ?_)
  refine ww_putRF hX B.2.2.2.2.2.2.2.1 (cls_own (own := RX12) (T' := TX12) (N' := 127) (C := "") (T := TX0) (N := 0) rfl) f_X12_229 (Or.inr ⟨_, rfl⟩) dX12_init_609 ?_
  refine ww_bds (fun s292 => ?_)
  refine ww_aload_n hX 0 rfl dX12_init_612 rfl ?_
  refine ww_pc (b := 613) rfl ?_
  refine ww_sipush (v := 300) hX rfl dX12_init_613 ?_
  refine ww_ck (fun h293 => ?_)
  refine ww_newI hX (RA.of B h293) (by decide) (by decide) (by decide) ar_i dX12_init_616 ?_
  refine ww_bds (fun s294 => ?_)
  refine ww_bdR (fun o295 => ?_)
  refine ww_putRF hX B.2.2.2.2.2.2.2.1 (cls_own (own := RX12) (T' := TX12) (N' := 127) (C := "") (T := TX0) (N := 0) rfl) f_X12_232 (Or.inr ⟨_, rfl⟩) dX12_init_618 ?_
  refine ww_bds (fun s296 => ?_)
  refine ww_aload_n hX 0 rfl dX12_init_621 rfl ?_
  refine ww_sipush (v := 300) hX rfl dX12_init_622 ?_
  refine ww_ck (fun h297 => ?_)
  refine ww_newI hX (RA.of B h297) (by decide) (by decide) (by decide) ar_i dX12_init_625 ?_
  refine ww_bds (fun s298 => ?_)
  refine ww_bdR (fun o299 => ?_)
  refine ww_putRF hX B.2.2.2.2.2.2.2.1 (cls_own (own := RX12) (T' := TX12) (N' := 127) (C := "") (T := TX0) (N := 0) rfl) f_X12_235 (Or.inr ⟨_, rfl⟩) dX12_init_627 ?_
  refine ww_bds (fun s300 => ?_)
  refine ww_aload_n hX 0 rfl dX12_init_630 rfl ?_
  refine ww_pc (b := 631) rfl ?_
  refine ww_sipush (v := 300) hX rfl dX12_init_631 ?_
  refine ww_ck (fun h301 => ?_)
  refine ww_newI hX (RA.of B h301) (by decide) (by decide) (by decide) ar_i dX12_init_634 ?_
  refine ww_bds (fun s302 => ?_)
  refine ww_bdR (fun o303 => ?_)
  refine ww_putRF hX B.2.2.2.2.2.2.2.1 (cls_own (own := RX12) (T' := TX12) (N' := 127) (C := "") (T := TX0) (N := 0) rfl) f_X12_238 (Or.inr ⟨_, rfl⟩) dX12_init_636 ?_
  refine ww_bds (fun s304 => ?_)
  refine ww_aload_n hX 0 rfl dX12_init_639 rfl ?_
  refine ww_sipush (v := 300) hX rfl dX12_init_640 ?_
  refine ww_ck (fun h305 => ?_)
  refine ww_newI hX (RA.of B h305) (by decide) (by decide) (by decide) ar_i dX12_init_643 ?_
  refine ww_bds (fun s306 => ?_)
  refine ww_bdR (fun o307 => ?_)
  refine ww_putRF hX B.2.2.2.2.2.2.2.1 (cls_own (own := RX12) (T' := TX12) (N' := 127) (C := "") (T := TX0) (N := 0) rfl) f_X12_241 (Or.inr ⟨_, rfl⟩) dX12_init_645 ?_
  refine ww_bds (fun s308 => ?_)
  refine ww_aload_n hX 0 rfl dX12_init_648 rfl ?_
  refine ww_pc (b := 649) rfl ?_
  refine ww_sipush (v := 300) hX rfl dX12_init_649 ?_
  refine ww_ck (fun h309 => ?_)
  refine ww_newZ hX (RA.of B h309) (by decide) (by decide) (by decide) ar_z dX12_init_652 ?_
  refine ww_bds (fun s310 => ?_)
  refine ww_bdR (fun o311 => ?_)
  refine ww_putRF hX B.2.2.2.2.2.2.2.1 (cls_own (own := RX12) (T' := TX12) (N' := 127) (C := "") (T := TX0) (N := 0) rfl) f_X12_244 (Or.inr ⟨_, rfl⟩) dX12_init_654 ?_
  refine ww_bds (fun s312 => ?_)
  refine ww_aload_n hX 0 rfl dX12_init_657 rfl ?_
  refine ww_sipush (v := 300) hX rfl dX12_init_658 ?_
  refine ww_ck (fun h313 => ?_)
  refine ww_newZ hX (RA.of B h313) (by decide) (by decide) (by decide) ar_z dX12_init_661 ?_
  refine ww_bds (fun s314 => ?_)
  refine ww_bdR (fun o315 => ?_)
  refine ww_putRF hX B.2.2.2.2.2.2.2.1 (cls_own (own := RX12) (T' := TX12) (N' := 127) (C := "") (T := TX0) (N := 0) rfl) f_X12_247 (Or.inr ⟨_, rfl⟩) dX12_init_663 ?_
  refine ww_bds (fun s316 => ?_)
  refine ww_aload_n hX 0 rfl dX12_init_666 rfl ?_
  refine ww_pc (b := 667) rfl ?_
  refine ww_bipush (v := 21) hX rfl dX12_init_667 ?_
  refine ww_ck (fun h317 => ?_)
  refine ww_newI hX (RA.of B h317) (by decide) (by decide) (by decide) ar_i dX12_init_669 ?_
  refine ww_bds (fun s318 => ?_)
  refine ww_bdR (fun o319 => ?_)
  refine ww_putRF hX B.2.2.2.2.2.2.2.1 (cls_own (own := RX12) (T' := TX12) (N' := 127) (C := "") (T := TX0) (N := 0) rfl) f_X12_250 (Or.inr ⟨_, rfl⟩) dX12_init_671 ?_
  refine ww_bds (fun s320 => ?_)
  refine ww_aload_n hX 0 rfl dX12_init_674 rfl ?_
  refine ww_bipush (v := 20) hX rfl dX12_init_675 ?_
  refine ww_ck (fun h321 => ?_)
  refine ww_newI hX (RA.of B h321) (by decide) (by decide) (by decide) ar_i dX12_init_677 ?_
  refine ww_bds (fun s322 => ?_)
  refine ww_bdR (fun o323 => ?_)
  refine ww_putRF hX B.2.2.2.2.2.2.2.1 (cls_own (own := RX12) (T' := TX12) (N' := 127) (C := "") (T := TX0) (N := 0) rfl) f_X12_253 (Or.inr ⟨_, rfl⟩) dX12_init_679 ?_
  refine ww_bds (fun s324 => ?_)
  refine ww_aload_n hX 0 rfl dX12_init_682 rfl ?_
  refine ww_pc (b := 683) rfl ?_
  refine ww_bipush (v := 20) hX rfl dX12_init_683 ?_
  refine ww_ck (fun h325 => ?_)
  refine ww_newI hX (RA.of B h325) (by decide) (by decide) (by decide) ar_i dX12_init_685 ?_
  refine ww_bds (fun s326 => ?_)
  refine ww_bdR (fun o327 => ?_)
  refine ww_putRF hX B.2.2.2.2.2.2.2.1 (cls_own (own := RX12) (T' := TX12) (N' := 127) (C := "") (T := TX0) (N := 0) rfl) f_X12_256 (Or.inr ⟨_, rfl⟩) dX12_init_687 ?_
  refine ww_bds (fun s328 => ?_)
  refine ww_aload_n hX 0 rfl dX12_init_690 rfl ?_
  refine ww_sipush (v := 4000) hX rfl dX12_init_691 ?_
  refine ww_ck (fun h329 => ?_)
  refine ww_newI hX (RA.of B h329) (by decide) (by decide) (by decide) ar_i dX12_init_694 ?_
  refine ww_bds (fun s330 => ?_)
  refine ww_bdR (fun o331 => ?_)
  refine ww_putRF hX B.2.2.2.2.2.2.2.1 (cls_own (own := RX12) (T' := TX12) (N' := 127) (C := "") (T := TX0) (N := 0) rfl) f_X12_259 (Or.inr ⟨_, rfl⟩) dX12_init_696 ?_
  refine ww_bds (fun s332 => ?_)
  refine ww_aload_n hX 0 rfl dX12_init_699 rfl ?_
  refine ww_pc (b := 700) rfl ?_
  refine ww_sipush (v := 4000) hX rfl dX12_init_700 ?_
  refine ww_ck (fun h333 => ?_)
  refine ww_newI hX (RA.of B h333) (by decide) (by decide) (by decide) ar_i dX12_init_703 ?_
  refine ww_bds (fun s334 => ?_)
  refine ww_bdR (fun o335 => ?_)
  refine ww_putRF hX B.2.2.2.2.2.2.2.1 (cls_own (own := RX12) (T' := TX12) (N' := 127) (C := "") (T := TX0) (N := 0) rfl) f_X12_262 (Or.inr ⟨_, rfl⟩) dX12_init_705 ?_
  refine ww_bds (fun s336 => ?_)
  refine ww_aload_n hX 0 rfl dX12_init_708 rfl ?_
  refine ww_bipush (v := 21) hX rfl dX12_init_709 ?_
  refine ww_ck (fun h337 => ?_)
  refine ww_newI hX (RA.of B h337) (by decide) (by decide) (by decide) ar_i dX12_init_711 ?_
  refine ww_bds (fun s338 => ?_)
  refine ww_bdR (fun o339 => ?_)
  refine ww_putRF hX B.2.2.2.2.2.2.2.1 (cls_own (own := RX12) (T' := TX12) (N' := 127) (C := "") (T := TX0) (N := 0) rfl) f_X12_265 (Or.inr ⟨_, rfl⟩) dX12_init_713 ?_
  refine ww_bds (fun s340 => ?_)
  refine ww_aload_n hX 0 rfl dX12_init_716 rfl ?_
  refine ww_pc (b := 717) rfl ?_
  refine ww_bipush (v := 20) hX rfl dX12_init_717 ?_
  refine ww_ck (fun h341 => ?_)
  refine ww_newI hX (RA.of B h341) (by decide) (by decide) (by decide) ar_i dX12_init_719 ?_
  refine ww_bds (fun s342 => ?_)
  refine ww_bdR (fun o343 => ?_)
  refine ww_putRF hX B.2.2.2.2.2.2.2.1 (cls_own (own := RX12) (T' := TX12) (N' := 127) (C := "") (T := TX0) (N := 0) rfl) f_X12_268 (Or.inr ⟨_, rfl⟩) dX12_init_721 ?_
  refine ww_bds (fun s344 => ?_)
  refine ww_aload_n hX 0 rfl dX12_init_724 rfl ?_
  refine ww_bipush (v := 20) hX rfl dX12_init_725 ?_
  refine ww_ck (fun h345 => ?_)
  refine ww_newI hX (RA.of B h345) (by decide) (by decide) (by decide) ar_i dX12_init_727 ?_
  refine ww_bds (fun s346 => ?_)
  refine ww_bdR (fun o347 => ?_)
  refine ww_putRF hX B.2.2.2.2.2.2.2.1 (cls_own (own := RX12) (T' := TX12) (N' := 127) (C := "") (T := TX0) (N := 0) rfl) f_X12_271 (Or.inr ⟨_, rfl⟩) dX12_init_729 ?_
  refine ww_bds (fun s348 => ?_)
  refine ww_aload_n hX 0 rfl dX12_init_732 rfl ?_
  refine ww_pc (b := 733) rfl ?_
  refine ww_sipush (v := 4000) hX rfl dX12_init_733 ?_
  refine ww_ck (fun h349 => ?_)
  refine ww_newI hX (RA.of B h349) (by decide) (by decide) (by decide) ar_i dX12_init_736 ?_
  refine ww_bds (fun s350 => ?_)
  refine ww_bdR (fun o351 => ?_)
  refine ww_putRF hX B.2.2.2.2.2.2.2.1 (cls_own (own := RX12) (T' := TX12) (N' := 127) (C := "") (T := TX0) (N := 0) rfl) f_X12_274 (Or.inr ⟨_, rfl⟩) dX12_init_738 ?_
  refine ww_bds (fun s352 => ?_)
  refine ww_aload_n hX 0 rfl dX12_init_741 rfl ?_
  refine ww_sipush (v := 4000) hX rfl dX12_init_742 ?_
  refine ww_ck (fun h353 => ?_)
  refine ww_newI hX (RA.of B h353) (by decide) (by decide) (by decide) ar_i dX12_init_745 ?_
  refine ww_bds (fun s354 => ?_)
  refine ww_bdR (fun o355 => ?_)
  refine ww_putRF hX B.2.2.2.2.2.2.2.1 (cls_own (own := RX12) (T' := TX12) (N' := 127) (C := "") (T := TX0) (N := 0) rfl) f_X12_277 (Or.inr ⟨_, rfl⟩) dX12_init_747 ?_
  refine ww_bds (fun s356 => ?_)
  refine ww_aload_n hX 0 rfl dX12_init_750 rfl ?_
  refine ww_pc (b := 751) rfl ?_
  refine ww_iconst (v := 3) hX rfl dX12_init_751 ?_
  refine ww_ck (fun h357 => ?_)
  refine ww_newL hX (RA.of B h357) (by decide) (by decide) (by decide) ar_l dX12_init_752 ?_
  refine ww_bds (fun s358 => ?_)
  refine ww_bdR (fun o359 => ?_)
  refine ww_putRF hX B.2.2.2.2.2.2.2.1 (cls_own (own := RX12) (T' := TX12) (N' := 127) (C := "") (T := TX0) (N := 0) rfl) f_X12_280 (Or.inr ⟨_, rfl⟩) dX12_init_754 ?_
  refine ww_bds (fun s360 => ?_)
  refine ww_aload_n hX 0 rfl dX12_init_757 rfl ?_
  refine ww_bipush (v := 9) hX rfl dX12_init_758 ?_
  refine ww_ck (fun h361 => ?_)
  refine ww_newL hX (RA.of B h361) (by decide) (by decide) (by decide) ar_l dX12_init_760 ?_
  refine ww_bds (fun s362 => ?_)
  refine ww_bdR (fun o363 => ?_)
  refine ww_putRF hX B.2.2.2.2.2.2.2.1 (cls_own (own := RX12) (T' := TX12) (N' := 127) (C := "") (T := TX0) (N := 0) rfl) f_X12_283 (Or.inr ⟨_, rfl⟩) dX12_init_762 ?_
  refine ww_bds (fun s364 => ?_)
  refine ww_aload_n hX 0 rfl dX12_init_765 rfl ?_
  refine ww_pc (b := 766) rfl ?_
  refine ww_iconst (v := 3) hX rfl dX12_init_766 ?_
  refine ww_ck (fun h365 => ?_)
  refine ww_newL hX (RA.of B h365) (by decide) (by decide) (by decide) ar_l dX12_init_767 ?_
  refine ww_bds (fun s366 => ?_)
  refine ww_bdR (fun o367 => ?_)
  refine ww_putRF hX B.2.2.2.2.2.2.2.1 (cls_own (own := RX12) (T' := TX12) (N' := 127) (C := "") (T := TX0) (N := 0) rfl) f_X12_286 (Or.inr ⟨_, rfl⟩) dX12_init_769 ?_
  refine ww_bds (fun s368 => ?_)
  refine ww_aload_n hX 0 rfl dX12_init_772 rfl ?_
  refine ww_iconst (v := 3) hX rfl dX12_init_773 ?_
  refine ww_ck (fun h369 => ?_)
  refine ww_newL hX (RA.of B h369) (by decide) (by decide) (by decide) ar_l dX12_init_774 ?_
  refine ww_bds (fun s370 => ?_)
  refine ww_bdR (fun o371 => ?_)
  refine ww_putRF hX B.2.2.2.2.2.2.2.1 (cls_own (own := RX12) (T' := TX12) (N' := 127) (C := "") (T := TX0) (N := 0) rfl) f_X12_289 (Or.inr ⟨_, rfl⟩) dX12_init_776 ?_
  refine ww_bds (fun s372 => ?_)
  refine ww_aload_n hX 0 rfl dX12_init_779 rfl ?_
  refine ww_pc (b := 780) rfl ?_
  refine ww_bipush (v := 9) hX rfl dX12_init_780 ?_
  refine ww_ck (fun h373 => ?_)
  refine ww_newL hX (RA.of B h373) (by decide) (by decide) (by decide) ar_l dX12_init_782 ?_
  refine ww_bds (fun s374 => ?_)
  refine ww_bdR (fun o375 => ?_)
  refine ww_putRF hX B.2.2.2.2.2.2.2.1 (cls_own (own := RX12) (T' := TX12) (N' := 127) (C := "") (T := TX0) (N := 0) rfl) f_X12_292 (Or.inr ⟨_, rfl⟩) dX12_init_784 ?_
  refine ww_bds (fun s376 => ?_)
  refine ww_aload_n hX 0 rfl dX12_init_787 rfl ?_
  refine ww_iconst (v := 3) hX rfl dX12_init_788 ?_
  refine ww_ck (fun h377 => ?_)
  refine ww_newL hX (RA.of B h377) (by decide) (by decide) (by decide) ar_l dX12_init_789 ?_
  refine ww_bds (fun s378 => ?_)
  refine ww_bdR (fun o379 => ?_)
  refine ww_putRF hX B.2.2.2.2.2.2.2.1 (cls_own (own := RX12) (T' := TX12) (N' := 127) (C := "") (T := TX0) (N := 0) rfl) f_X12_295 (Or.inr ⟨_, rfl⟩) dX12_init_791 ?_
  refine ww_bds (fun s380 => ?_)
  refine ww_aload_n hX 0 rfl dX12_init_794 rfl ?_
  refine ww_pc (b := 795) rfl ?_
  refine ww_iconst (v := 3) hX rfl dX12_init_795 ?_
  refine ww_ck (fun h381 => ?_)
  refine ww_newZ hX (RA.of B h381) (by decide) (by decide) (by decide) ar_z dX12_init_796 ?_
  refine ww_bds (fun s382 => ?_)
  refine ww_bdR (fun o383 => ?_)
  refine ww_putRF hX B.2.2.2.2.2.2.2.1 (cls_own (own := RX12) (T' := TX12) (N' := 127) (C := "") (T := TX0) (N := 0) rfl) f_X12_298 (Or.inr ⟨_, rfl⟩) dX12_init_798 ?_
  refine ww_bds (fun s384 => ?_)
  refine ww_aload_n hX 0 rfl dX12_init_801 rfl ?_
  refine ww_bipush (v := 20) hX rfl dX12_init_802 ?_
  refine ww_ck (fun h385 => ?_)
  refine ww_newI hX (RA.of B h385) (by decide) (by decide) (by decide) ar_i dX12_init_804 ?_
  refine ww_bds (fun s386 => ?_)
  refine ww_bdR (fun o387 => ?_)
  refine ww_putRF hX B.2.2.2.2.2.2.2.1 (cls_own (own := RX12) (T' := TX12) (N' := 127) (C := "") (T := TX0) (N := 0) rfl) f_X12_301 (Or.inr ⟨_, rfl⟩) dX12_init_806 ?_
  refine ww_bds (fun s388 => ?_)
  refine ww_aload_n hX 0 rfl dX12_init_809 rfl ?_
  refine ww_pc (b := 810) rfl ?_
  refine ww_bipush (v := 20) hX rfl dX12_init_810 ?_
  refine ww_ck (fun h389 => ?_)
  refine ww_newI hX (RA.of B h389) (by decide) (by decide) (by decide) ar_i dX12_init_812 ?_
  refine ww_bds (fun s390 => ?_)
  refine ww_bdR (fun o391 => ?_)
  refine ww_putRF hX B.2.2.2.2.2.2.2.1 (cls_own (own := RX12) (T' := TX12) (N' := 127) (C := "") (T := TX0) (N := 0) rfl) f_X12_304 (Or.inr ⟨_, rfl⟩) dX12_init_814 ?_
  refine ww_bds (fun s392 => ?_)
  refine ww_aload_n hX 0 rfl dX12_init_817 rfl ?_
  refine ww_bipush (v := 20) hX rfl dX12_init_818 ?_
  refine ww_ck (fun h393 => ?_)
  refine ww_newI hX (RA.of B h393) (by decide) (by decide) (by decide) ar_i dX12_init_820 ?_
  refine ww_bds (fun s394 => ?_)
  refine ww_bdR (fun o395 => ?_)
  refine ww_putRF hX B.2.2.2.2.2.2.2.1 (cls_own (own := RX12) (T' := TX12) (N' := 127) (C := "") (T := TX0) (N := 0) rfl) f_X12_307 (Or.inr ⟨_, rfl⟩) dX12_init_822 ?_
  refine ww_bds (fun s396 => ?_)
  refine ww_aload_n hX 0 rfl dX12_init_825 rfl ?_
  refine ww_pc (b := 826) rfl ?_
  refine ww_bipush (v := 20) hX rfl dX12_init_826 ?_
  refine ww_ck (fun h397 => ?_)
  refine ww_newI hX (RA.of B h397) (by decide) (by decide) (by decide) ar_i dX12_init_828 ?_
  refine ww_bds (fun s398 => ?_)
  refine ww_bdR (fun o399 => ?_)
  refine ww_putRF hX B.2.2.2.2.2.2.2.1 (cls_own (own := RX12) (T' := TX12) (N' := 127) (C := "") (T := TX0) (N := 0) rfl) f_X12_310 (Or.inr ⟨_, rfl⟩) dX12_init_830 ?_
  refine ww_bds (fun s400 => ?_)
  refine ww_aload_n hX 0 rfl dX12_init_833 rfl ?_
  refine ww_bipush (v := 11) hX rfl dX12_init_834 ?_
  refine ww_ck (fun h401 => ?_)
  refine ww_newI hX (RA.of B h401) (by decide) (by decide) (by decide) ar_i dX12_init_836 ?_
  refine ww_bds (fun s402 => ?_)
  refine ww_bdR (fun o403 => ?_)
  refine ww_putRF hX B.2.2.2.2.2.2.2.1 (cls_own (own := RX12) (T' := TX12) (N' := 127) (C := "") (T := TX0) (N := 0) rfl) f_X12_313 (Or.inr ⟨_, rfl⟩) dX12_init_838 ?_
  refine ww_bds (fun s404 => ?_)
  refine ww_aload_n hX 0 rfl dX12_init_841 rfl ?_
  refine ww_pc (b := 842) rfl ?_
  refine ww_sipush (v := 612) hX rfl dX12_init_842 ?_
  refine ww_ck (fun h405 => ?_)
  refine ww_newI hX (RA.of B h405) (by decide) (by decide) (by decide) ar_i dX12_init_845 ?_
  refine ww_bds (fun s406 => ?_)
  refine ww_bdR (fun o407 => ?_)
  refine ww_putRF hX B.2.2.2.2.2.2.2.1 (cls_own (own := RX12) (T' := TX12) (N' := 127) (C := "") (T := TX0) (N := 0) rfl) f_X12_316 (Or.inr ⟨_, rfl⟩) dX12_init_847 ?_
  refine ww_bds (fun s408 => ?_)
  refine ww_aload_n hX 0 rfl dX12_init_850 rfl ?_
  refine ww_sipush (v := 3264) hX rfl dX12_init_851 ?_
  refine ww_ck (fun h409 => ?_)
  refine ww_newI hX (RA.of B h409) (by decide) (by decide) (by decide) ar_i dX12_init_854 ?_
  refine ww_bds (fun s410 => ?_)
  refine ww_bdR (fun o411 => ?_)
  refine ww_putRF hX B.2.2.2.2.2.2.2.1 (cls_own (own := RX12) (T' := TX12) (N' := 127) (C := "") (T := TX0) (N := 0) rfl) f_X12_319 (Or.inr ⟨_, rfl⟩) dX12_init_856 ?_
  refine ww_bds (fun s412 => ?_)
  refine ww_aload_n hX 0 rfl dX12_init_859 rfl ?_
  refine ww_pc (b := 860) rfl ?_
  refine ww_sipush (v := 3264) hX rfl dX12_init_860 ?_
  refine ww_ck (fun h413 => ?_)
  refine ww_newI hX (RA.of B h413) (by decide) (by decide) (by decide) ar_i dX12_init_863 ?_
  refine ww_bds (fun s414 => ?_)
  refine ww_bdR (fun o415 => ?_)
  refine ww_putRF hX B.2.2.2.2.2.2.2.1 (cls_own (own := RX12) (T' := TX12) (N' := 127) (C := "") (T := TX0) (N := 0) rfl) f_X12_322 (Or.inr ⟨_, rfl⟩) dX12_init_865 ?_
  refine ww_bds (fun s416 => ?_)
  refine ww_aload_n hX 0 rfl dX12_init_868 rfl ?_
  refine ww_sipush (v := 3264) hX rfl dX12_init_869 ?_
  refine ww_ck (fun h417 => ?_)
  refine ww_newI hX (RA.of B h417) (by decide) (by decide) (by decide) ar_i dX12_init_872 ?_
  refine ww_bds (fun s418 => ?_)
  refine ww_bdR (fun o419 => ?_)
  refine ww_putRF hX B.2.2.2.2.2.2.2.1 (cls_own (own := RX12) (T' := TX12) (N' := 127) (C := "") (T := TX0) (N := 0) rfl) f_X12_325 (Or.inr ⟨_, rfl⟩) dX12_init_874 ?_
  refine ww_bds (fun s420 => ?_)
  refine ww_aload_n hX 0 rfl dX12_init_877 rfl ?_
  refine ww_pc (b := 878) rfl ?_
  refine ww_sipush (v := 612) hX rfl dX12_init_878 ?_
  refine ww_ck (fun h421 => ?_)
  refine ww_newI hX (RA.of B h421) (by decide) (by decide) (by decide) ar_i dX12_init_881 ?_
  refine ww_bds (fun s422 => ?_)
  refine ww_bdR (fun o423 => ?_)
  refine ww_putRF hX B.2.2.2.2.2.2.2.1 (cls_own (own := RX12) (T' := TX12) (N' := 127) (C := "") (T := TX0) (N := 0) rfl) f_X12_328 (Or.inr ⟨_, rfl⟩) dX12_init_883 ?_
  refine ww_bds (fun s424 => ?_)
  refine ww_aload_n hX 0 rfl dX12_init_886 rfl ?_
  refine ww_sipush (v := 612) hX rfl dX12_init_887 ?_
  refine ww_ck (fun h425 => ?_)
  refine ww_newI hX (RA.of B h425) (by decide) (by decide) (by decide) ar_i dX12_init_890 ?_
  refine ww_bds (fun s426 => ?_)
  refine ww_bdR (fun o427 => ?_)
  refine ww_putRF hX B.2.2.2.2.2.2.2.1 (cls_own (own := RX12) (T' := TX12) (N' := 127) (C := "") (T := TX0) (N := 0) rfl) f_X12_331 (Or.inr ⟨_, rfl⟩) dX12_init_892 ?_
  refine ww_bds (fun s428 => ?_)
  refine ww_aload_n hX 0 rfl dX12_init_895 rfl ?_
  refine ww_pc (b := 896) rfl ?_
  refine ww_bipush (v := 11) hX rfl dX12_init_896 ?_
  refine ww_ck (fun h429 => ?_)
  refine ww_newI hX (RA.of B h429) (by decide) (by decide) (by decide) ar_i dX12_init_898 ?_
  refine ww_bds (fun s430 => ?_)
  refine ww_bdR (fun o431 => ?_)
  refine ww_putRF hX B.2.2.2.2.2.2.2.1 (cls_own (own := RX12) (T' := TX12) (N' := 127) (C := "") (T := TX0) (N := 0) rfl) f_X12_334 (Or.inr ⟨_, rfl⟩) dX12_init_900 ?_
  refine ww_bds (fun s432 => ?_)
  refine ww_iconst (v := 0) hX rfl dX12_init_903 ?_
  refine ww_istore_n (lv' := [(1, .int 0), (0, .ref (x_b X + th))]) hX hL dX12_init_904 rfl (by decide) rfl ?_
  exact ww_sub [1, 0] rfl (t_X12_init_905 fu n B fu (n + 108) th 0  s432)
theorem c_X12_init (G : GX) (l : Launch) (fu n : Nat) (th : Nat) (st : St) : MC G n 108 l yX12_init cX12_init 2 3 [.ref (G.2.2.1 + th)] st (f_X12_init fu n th st) := mkC (by decide) rfl (Nat.le_of_ble_eq_true rfl) (fun X res hl hG B => by subst hl; subst hG; exact t_X12_init fu n B th st)
