/-! StageHouseModel.frees(I)V -/
def f_X12_frees (fu : Nat) (th : Nat) (p1 : Int32) (st : St) : Option (St) :=
  ck (¬ gR st th 78 = 0) <|
  ck ((kd th).1 = 12) <|
  bd (gR st th 78) fun o1 =>
  ck (isb 0) <|
  ck ((kd o1).1 = 102 ∧ inb p1 (kd o1).2) <|
  bd (sI st o1 (ix p1) 0) fun s2 =>
  ck (¬ gR s2 th 79 = 0) <|
  ck ((kd th).1 = 12) <|
  bd (gR s2 th 79) fun o3 =>
  ck ((kd o3).1 = 100 ∧ inb p1 (kd o3).2) <|
  ck (¬ gR s2 th 80 = 0) <|
  ck ((kd th).1 = 12) <|
  bd (gR s2 th 80) fun o4 =>
  ck ((kd o4).1 = 100 ∧ inb p1 (kd o4).2) <|
  ck (¬ gR s2 th 81 = 0) <|
  ck ((kd th).1 = 12) <|
  bd (gR s2 th 81) fun o5 =>
  ck ((kd o5).1 = 100 ∧ inb p1 (kd o5).2) <|
  ck ((kd th).1 = 12) <|
  cv (f_X12_mark fu th (gI s2 o3 (ix p1)) (gI s2 o4 (ix p1)) (gI s2 o5 (ix p1)) 0 s2) fun s6 =>
  some s6
set_option maxHeartbeats 4000000 in
set_option maxRecDepth 100000 in
theorem t_X12_frees {X : CX} {res : St} (B : BV X cX12_frees RX12 2 2 NN none res) (fu : Nat) (th : Nat) (p1 : Int32) (st : St) : WW X res NN 0 [(0, .ref (x_b X + th)), (1, .int p1)] [] st (f_X12_frees fu th p1 st) := by
  have hX := B.1
  have hL := B.2.1
  unfold f_X12_frees
  refine ww_aload_n hX 0 rfl dX12_frees_0 rfl ?_
  refine ww_getR hX f_X12_208 (Or.inr ⟨_, rfl⟩) dX12_frees_1 ?_
  refine ww_bdR (fun o1 => ?_)
  refine ww_iload_n hX 1 rfl dX12_frees_4 rfl ?_
  refine ww_iconst (v := 0) hX rfl dX12_frees_5 ?_
  refine ww_zastc hX k_zast dX12_frees_6 ?_
  refine ww_bds (fun s2 => ?_)
  refine ww_aload_n hX 0 rfl dX12_frees_7 rfl ?_
  refine ww_aload_n hX 0 rfl dX12_frees_8 rfl ?_
  refine ww_pc (b := 9) rfl ?_
  refine ww_getR hX f_X12_211 (Or.inr ⟨_, rfl⟩) dX12_frees_9 ?_
  refine ww_bdR (fun o3 => ?_)
  refine ww_iload_n hX 1 rfl dX12_frees_12 rfl ?_
  refine ww_ialdc hX k_iald dX12_frees_13 ?_
  refine ww_aload_n hX 0 rfl dX12_frees_14 rfl ?_
  refine ww_getR hX f_X12_214 (Or.inr ⟨_, rfl⟩) dX12_frees_15 ?_
  refine ww_bdR (fun o4 => ?_)
  refine ww_iload_n hX 1 rfl dX12_frees_18 rfl ?_
  refine ww_ialdc hX k_iald dX12_frees_19 ?_
  refine ww_aload_n hX 0 rfl dX12_frees_20 rfl ?_
  refine ww_pc (b := 21) rfl ?_
  refine ww_getR hX f_X12_217 (Or.inr ⟨_, rfl⟩) dX12_frees_21 ?_
  refine ww_bdR (fun o5 => ?_)
  refine ww_iload_n hX 1 rfl dX12_frees_24 rfl ?_
  refine ww_ialdc hX k_iald dX12_frees_25 ?_
  refine ww_iconst (v := 0) hX rfl dX12_frees_26 ?_
  refine ww_callVV (As := [.int (gI s2 o3 (ix p1)), .int (gI s2 o4 (ix p1)), .int (gI s2 o5 (ix p1)), .int 0]) (rest := []) (o := th) hX (Rk.of B.2.2.1 B.2.2.2.1 (by decide) (by decide)) g_X12_612 g_X12_612.in (fun _ => c_X12_mark (x_G X) (x_l X) fu th (gI s2 o3 (ix p1)) (gI s2 o4 (ix p1)) (gI s2 o5 (ix p1)) 0 s2) rfl rfl (Nat.le_of_ble_eq_true rfl) dX12_frees_27 (fun s6 => ?_)
  exact ww_vret B dX12_frees_30
theorem c_X12_frees (G : GX) (l : Launch) (fu : Nat) (th : Nat) (p1 : Int32) (st : St) : MV G NN l yX12_frees cX12_frees 2 none 2 [.ref (G.2.2.1 + th), .int p1] st (f_X12_frees fu th p1 st) := mkV (by decide) (Nat.le_of_ble_eq_true rfl) (fun X res hl hG B => by subst hl; subst hG; exact t_X12_frees B fu th p1 st)
/-! StageHouseModel.oneTick()V -/
def b_X12_oneTick_353 (fu : Nat) (k_320 : Nat → Int32 → St → Option (St)) (x0 : Nat) (x1 : Int32)  (st : St) : Option (St) :=
  bd (x1 + 1) fun v3 =>
  k_320 x0 v3  st
set_option maxHeartbeats 4000000 in
set_option maxRecDepth 100000 in
theorem t_X12_oneTick_353 {X : CX} {res : St} (B : BV X cX12_oneTick RX12 3 60 NN none res) (fu : Nat) (k_320 : Nat → Int32 → St → Option (St)) (h_320 : ∀ (x0 : Nat) (x1 : Int32)  (st : St), WW X res NN 320 [(0, .ref (x_b X + x0)), (1, .int x1)] [] st (k_320 x0 x1 st)) (x0 : Nat) (x1 : Int32)  (st : St) : WW X res NN 353 [(0, .ref (x_b X + x0)), (1, .int x1)] [] st (b_X12_oneTick_353 fu k_320 x0 x1 st) := by
  have hX := B.1
  have hL := B.2.1
  unfold b_X12_oneTick_353
  refine ww_iincb (lv' := fun v3 => [(1, .int v3), (0, .ref (x_b X + x0))]) (c := 1) hX hL 1 rfl dX12_oneTick_353 rfl (by decide) (fun _ => rfl) (fun v3 => ?_)
  refine ww_goto (tgt := 320) hX dX12_oneTick_356 (by decide) ?_
  exact ww_sub [1, 0] rfl (h_320 x0 v3  st)
def b_X12_oneTick_320_b (fu : Nat) (k_320 : Nat → Int32 → St → Option (St)) (x0 : Nat) (x1 : Int32)  (st : St) : Option (St) :=
  if 60 ≤ x1 then (
  some st)
  else (
  ck (¬ gR st x0 78 = 0) <|
  ck ((kd x0).1 = 12) <|
  bd (gR st x0 78) fun o2 =>
  ck ((kd o2).1 = 102 ∧ inb x1 (kd o2).2) <|
  if (gI st o2 (ix x1)) = 0 then (
  b_X12_oneTick_353 fu k_320 x0 x1  st)
  else (
  ck ((kd x0).1 = 12) <|
  ck (¬ gR st x0 82 = 0) <|
  ck ((kd x0).1 = 12) <|
  bd (gR st x0 82) fun o4 =>
  ck ((kd o4).1 = 100 ∧ inb x1 (kd o4).2) <|
  if (gI st x0 40) < (gI st o4 (ix x1)) then (
  b_X12_oneTick_353 fu k_320 x0 x1  st)
  else (
  ck ((kd x0).1 = 12) <|
  cv (f_X12_frees fu x0 x1 st) fun s5 =>
  b_X12_oneTick_353 fu k_320 x0 x1  s5)))
set_option maxHeartbeats 4000000 in
set_option maxRecDepth 100000 in
theorem t_X12_oneTick_320_b {X : CX} {res : St} (B : BV X cX12_oneTick RX12 3 60 NN none res) (fu : Nat) (k_320 : Nat → Int32 → St → Option (St)) (h_320 : ∀ (x0 : Nat) (x1 : Int32)  (st : St), WW X res NN 320 [(0, .ref (x_b X + x0)), (1, .int x1)] [] st (k_320 x0 x1 st)) (x0 : Nat) (x1 : Int32)  (st : St) : WW X res NN 320 [(0, .ref (x_b X + x0)), (1, .int x1)] [] st (b_X12_oneTick_320_b fu k_320 x0 x1 st) := by
  have hX := B.1
  have hL := B.2.1
  unfold b_X12_oneTick_320_b
  refine ww_iload_n hX 1 rfl dX12_oneTick_320 rfl ?_
  refine ww_bipush (v := 60) hX rfl dX12_oneTick_321 ?_
  refine ww_icmp_ge (tgt := 359) hX dX12_oneTick_323 (by decide) ?_ ?_
  · exact ww_vret B dX12_oneTick_359
  · refine ww_aload_n hX 0 rfl dX12_oneTick_326 rfl ?_
    refine ww_getR hX f_X12_208 (Or.inr ⟨_, rfl⟩) dX12_oneTick_327 ?_
    refine ww_bdR (fun o2 => ?_)
    refine ww_iload_n hX 1 rfl dX12_oneTick_330 rfl ?_
    refine ww_zaldc hX k_zald dX12_oneTick_331 ?_
    refine ww_if_eq (tgt := 353) hX dX12_oneTick_332 (by decide) ?_ ?_
    · exact t_X12_oneTick_353 B fu k_320 h_320 x0 x1  st
    · refine ww_aload_n hX 0 rfl dX12_oneTick_335 rfl ?_
      refine ww_getI hX f_X12_490 (Or.inl rfl) dX12_oneTick_336 ?_
      refine ww_aload_n hX 0 rfl dX12_oneTick_339 rfl ?_
      refine ww_getR hX f_X12_220 (Or.inr ⟨_, rfl⟩) dX12_oneTick_340 ?_
      refine ww_bdR (fun o4 => ?_)
      refine ww_iload_n hX 1 rfl dX12_oneTick_343 rfl ?_
      refine ww_ialdc hX k_iald dX12_oneTick_344 ?_
      refine ww_icmp_lt (tgt := 353) hX dX12_oneTick_345 (by decide) ?_ ?_
      · exact t_X12_oneTick_353 B fu k_320 h_320 x0 x1  st
      · refine ww_aload_n hX 0 rfl dX12_oneTick_348 rfl ?_
        refine ww_iload_n hX 1 rfl dX12_oneTick_349 rfl ?_
        refine ww_callVV (As := [.int x1]) (rest := []) (o := x0) hX (Rk.of B.2.2.1 B.2.2.2.1 (by decide) (by decide)) g_X12_583 g_X12_583.in (fun _ => c_X12_frees (x_G X) (x_l X) fu x0 x1 st) rfl rfl (Nat.le_of_ble_eq_true rfl) dX12_oneTick_350 (fun s5 => ?_)
        exact t_X12_oneTick_353 B fu k_320 h_320 x0 x1  s5
def b_X12_oneTick_320 (fu : Nat) : Nat → Nat → Int32 → St → Option (St)
  | 0, _, _, _ => none
  | i + 1, x0, x1, st => b_X12_oneTick_320_b fu (b_X12_oneTick_320 fu i) x0 x1 st
theorem t_X12_oneTick_320 {X : CX} {res : St} (B : BV X cX12_oneTick RX12 3 60 NN none res) (fu : Nat) : ∀ (i : Nat) (x0 : Nat) (x1 : Int32)  (st : St), WW X res NN 320 [(0, .ref (x_b X + x0)), (1, .int x1)] [] st (b_X12_oneTick_320 fu i x0 x1 st) := by
  intro i
  induction i with
  | zero => intro x0 x1 st; exact ww_none
  | succ i ih => intro x0 x1 st; exact t_X12_oneTick_320_b B fu (b_X12_oneTick_320 fu i) ih x0 x1 st
def b_X12_oneTick_312 (fu : Nat) (k_250 : Nat → Int32 → St → Option (St)) (x0 : Nat) (x1 : Int32)  (st : St) : Option (St) :=
  bd (x1 + 1) fun v7 =>
  k_250 x0 v7  st
set_option maxHeartbeats 4000000 in
set_option maxRecDepth 100000 in
theorem t_X12_oneTick_312 {X : CX} {res : St} (B : BV X cX12_oneTick RX12 3 60 NN none res) (fu : Nat) (k_250 : Nat → Int32 → St → Option (St)) (h_250 : ∀ (x0 : Nat) (x1 : Int32)  (st : St), WW X res NN 250 [(0, .ref (x_b X + x0)), (1, .int x1)] [] st (k_250 x0 x1 st)) (x0 : Nat) (x1 : Int32)  (st : St) : WW X res NN 312 [(0, .ref (x_b X + x0)), (1, .int x1)] [] st (b_X12_oneTick_312 fu k_250 x0 x1 st) := by
  have hX := B.1
  have hL := B.2.1
  unfold b_X12_oneTick_312
  refine ww_iincb (lv' := fun v7 => [(1, .int v7), (0, .ref (x_b X + x0))]) (c := 1) hX hL 1 rfl dX12_oneTick_312 rfl (by decide) (fun _ => rfl) (fun v7 => ?_)
  refine ww_goto (tgt := 250) hX dX12_oneTick_315 (by decide) ?_
  exact ww_sub [1, 0] rfl (h_250 x0 v7  st)
def b_X12_oneTick_311 (fu : Nat) (k_250 : Nat → Int32 → St → Option (St)) (x0 : Nat) (x1 : Int32) (y0 : Nat) (y1 : Int32) (y2 : Int32) (st : St) : Option (St) :=
  ck ((kd y0).1 = 100 ∧ inb y1 (kd y0).2) <|
  bd (sI st y0 (ix y1) y2) fun s14 =>
  b_X12_oneTick_312 fu k_250 x0 x1  s14
set_option maxHeartbeats 4000000 in
set_option maxRecDepth 100000 in
theorem t_X12_oneTick_311 {X : CX} {res : St} (B : BV X cX12_oneTick RX12 3 60 NN none res) (fu : Nat) (k_250 : Nat → Int32 → St → Option (St)) (h_250 : ∀ (x0 : Nat) (x1 : Int32)  (st : St), WW X res NN 250 [(0, .ref (x_b X + x0)), (1, .int x1)] [] st (k_250 x0 x1 st)) (x0 : Nat) (x1 : Int32) (y0 : Nat) (y1 : Int32) (y2 : Int32) (st : St) : WW X res NN 311 [(0, .ref (x_b X + x0)), (1, .int x1)] [.int y2, .int y1, .ref (x_b X + y0)] st (b_X12_oneTick_311 fu k_250 x0 x1 y0 y1 y2 st) := by
  have hX := B.1
  have hL := B.2.1
  unfold b_X12_oneTick_311
  refine ww_iastc hX k_iast dX12_oneTick_311 ?_
  refine ww_bds (fun s14 => ?_)
  exact t_X12_oneTick_312 B fu k_250 h_250 x0 x1  s14
def b_X12_oneTick_250_b (fu : Nat) (k_250 : Nat → Int32 → St → Option (St)) (x0 : Nat) (x1 : Int32)  (st : St) : Option (St) :=
  if 8 ≤ x1 then (
  b_X12_oneTick_320 fu fu x0 0  st)
  else (
  ck (¬ gR st x0 54 = 0) <|
  ck ((kd x0).1 = 12) <|
  bd (gR st x0 54) fun o6 =>
  ck ((kd o6).1 = 102 ∧ inb x1 (kd o6).2) <|
  if (gI st o6 (ix x1)) = 0 then (
  b_X12_oneTick_312 fu k_250 x0 x1  st)
  else (
  ck (¬ gR st x0 63 = 0) <|
  ck ((kd x0).1 = 12) <|
  bd (gR st x0 63) fun o8 =>
  ck (¬ gR st x0 62 = 0) <|
  ck ((kd x0).1 = 12) <|
  bd (gR st x0 62) fun o9 =>
  ck ((kd o9).1 = 100 ∧ inb x1 (kd o9).2) <|
  ck ((kd o8).1 = 100 ∧ inb x1 (kd o8).2) <|
  bd (sI st o8 (ix x1) (gI st o9 (ix x1))) fun s10 =>
  ck (¬ gR s10 x0 62 = 0) <|
  ck ((kd x0).1 = 12) <|
  bd (gR s10 x0 62) fun o11 =>
  ck (¬ gR s10 x0 64 = 0) <|
  ck ((kd x0).1 = 12) <|
  bd (gR s10 x0 64) fun o12 =>
  ck ((kd o12).1 = 100 ∧ inb x1 (kd o12).2) <|
  ck (¬ 2 = 0) <|
  ck (¬ 2 = 0) <|
  if (((gI s10 o12 (ix x1)) / 2) - ((gI s10 o12 (ix x1)) / 2) / 2 * 2) = 1 then (
  ck (¬ gR s10 x0 62 = 0) <|
  ck ((kd x0).1 = 12) <|
  bd (gR s10 x0 62) fun o15 =>
  ck ((kd o15).1 = 100 ∧ inb x1 (kd o15).2) <|
  b_X12_oneTick_311 fu k_250 x0 x1 o11 x1 (gI s10 o15 (ix x1)) s10)
  else (
  ck (¬ gR s10 x0 59 = 0) <|
  ck ((kd x0).1 = 12) <|
  bd (gR s10 x0 59) fun o13 =>
  ck ((kd o13).1 = 100 ∧ inb x1 (kd o13).2) <|
  b_X12_oneTick_311 fu k_250 x0 x1 o11 x1 (gI s10 o13 (ix x1)) s10)))
set_option maxHeartbeats 4000000 in
set_option maxRecDepth 100000 in
theorem t_X12_oneTick_250_b {X : CX} {res : St} (B : BV X cX12_oneTick RX12 3 60 NN none res) (fu : Nat) (k_250 : Nat → Int32 → St → Option (St)) (h_250 : ∀ (x0 : Nat) (x1 : Int32)  (st : St), WW X res NN 250 [(0, .ref (x_b X + x0)), (1, .int x1)] [] st (k_250 x0 x1 st)) (x0 : Nat) (x1 : Int32)  (st : St) : WW X res NN 250 [(0, .ref (x_b X + x0)), (1, .int x1)] [] st (b_X12_oneTick_250_b fu k_250 x0 x1 st) := by
  have hX := B.1
  have hL := B.2.1
  unfold b_X12_oneTick_250_b
  refine ww_iload_n hX 1 rfl dX12_oneTick_250 rfl ?_
  refine ww_bipush (v := 8) hX rfl dX12_oneTick_251 ?_
  refine ww_icmp_ge (tgt := 318) hX dX12_oneTick_253 (by decide) ?_ ?_
  · refine ww_iconst (v := 0) hX rfl dX12_oneTick_318 ?_
    refine ww_istore_n (lv' := [(1, .int 0), (0, .ref (x_b X + x0))]) hX hL dX12_oneTick_319 rfl (by decide) rfl ?_
    exact ww_sub [1, 0] rfl (t_X12_oneTick_320 B fu fu x0 0  st)
  · refine ww_aload_n hX 0 rfl dX12_oneTick_256 rfl ?_
    refine ww_getR hX f_X12_145 (Or.inr ⟨_, rfl⟩) dX12_oneTick_257 ?_
    refine ww_bdR (fun o6 => ?_)
    refine ww_iload_n hX 1 rfl dX12_oneTick_260 rfl ?_
    refine ww_zaldc hX k_zald dX12_oneTick_261 ?_
    refine ww_if_eq (tgt := 312) hX dX12_oneTick_262 (by decide) ?_ ?_
    · exact t_X12_oneTick_312 B fu k_250 h_250 x0 x1  st
    · refine ww_aload_n hX 0 rfl dX12_oneTick_265 rfl ?_
      refine ww_getR hX f_X12_172 (Or.inr ⟨_, rfl⟩) dX12_oneTick_266 ?_
      refine ww_bdR (fun o8 => ?_)
      refine ww_iload_n hX 1 rfl dX12_oneTick_269 rfl ?_
      refine ww_aload_n hX 0 rfl dX12_oneTick_270 rfl ?_
      refine ww_getR hX f_X12_169 (Or.inr ⟨_, rfl⟩) dX12_oneTick_271 ?_
      refine ww_bdR (fun o9 => ?_)
      refine ww_iload_n hX 1 rfl dX12_oneTick_274 rfl ?_
      refine ww_ialdc hX k_iald dX12_oneTick_275 ?_
      refine ww_pc (b := 276) rfl ?_
      refine ww_iastc hX k_iast dX12_oneTick_276 ?_
      refine ww_bds (fun s10 => ?_)
      refine ww_aload_n hX 0 rfl dX12_oneTick_277 rfl ?_
      refine ww_getR hX f_X12_169 (Or.inr ⟨_, rfl⟩) dX12_oneTick_278 ?_
      refine ww_bdR (fun o11 => ?_)
      refine ww_iload_n hX 1 rfl dX12_oneTick_281 rfl ?_
      refine ww_aload_n hX 0 rfl dX12_oneTick_282 rfl ?_
      refine ww_getR hX f_X12_175 (Or.inr ⟨_, rfl⟩) dX12_oneTick_283 ?_
      refine ww_bdR (fun o12 => ?_)
      refine ww_iload_n hX 1 rfl dX12_oneTick_286 rfl ?_
      refine ww_ialdc hX k_iald dX12_oneTick_287 ?_
      refine ww_pc (b := 288) rfl ?_
      refine ww_iconst (v := 2) hX rfl dX12_oneTick_288 ?_
      refine ww_idiv hX dX12_oneTick_289 ?_
      refine ww_iconst (v := 2) hX rfl dX12_oneTick_290 ?_
      refine ww_irem hX dX12_oneTick_291 ?_
      refine ww_iconst (v := 1) hX rfl dX12_oneTick_292 ?_
      refine ww_icmp_ne (tgt := 305) hX dX12_oneTick_293 (by decide) ?_ ?_
      · refine ww_aload_n hX 0 rfl dX12_oneTick_305 rfl ?_
        refine ww_getR hX f_X12_160 (Or.inr ⟨_, rfl⟩) dX12_oneTick_306 ?_
        refine ww_bdR (fun o13 => ?_)
        refine ww_iload_n hX 1 rfl dX12_oneTick_309 rfl ?_
        refine ww_ialdc hX k_iald dX12_oneTick_310 ?_
        exact t_X12_oneTick_311 B fu k_250 h_250 x0 x1 o11 x1 (gI s10 o13 (ix x1)) s10
      · refine ww_aload_n hX 0 rfl dX12_oneTick_296 rfl ?_
        refine ww_getR hX f_X12_169 (Or.inr ⟨_, rfl⟩) dX12_oneTick_297 ?_
        refine ww_bdR (fun o15 => ?_)
        refine ww_iload_n hX 1 rfl dX12_oneTick_300 rfl ?_
        refine ww_ialdc hX k_iald dX12_oneTick_301 ?_
        refine ww_goto (tgt := 311) hX dX12_oneTick_302 (by decide) ?_
        exact t_X12_oneTick_311 B fu k_250 h_250 x0 x1 o11 x1 (gI s10 o15 (ix x1)) s10
def b_X12_oneTick_250 (fu : Nat) : Nat → Nat → Int32 → St → Option (St)
  | 0, _, _, _ => none
  | i + 1, x0, x1, st => b_X12_oneTick_250_b fu (b_X12_oneTick_250 fu i) x0 x1 st
theorem t_X12_oneTick_250 {X : CX} {res : St} (B : BV X cX12_oneTick RX12 3 60 NN none res) (fu : Nat) : ∀ (i : Nat) (x0 : Nat) (x1 : Int32)  (st : St), WW X res NN 250 [(0, .ref (x_b X + x0)), (1, .int x1)] [] st (b_X12_oneTick_250 fu i x0 x1 st) := by
  intro i
  induction i with
  | zero => intro x0 x1 st; exact ww_none
  | succ i ih => intro x0 x1 st; exact t_X12_oneTick_250_b B fu (b_X12_oneTick_250 fu i) ih x0 x1 st
def b_X12_oneTick_242 (fu : Nat) (k_222 : Nat → Int32 → St → Option (St)) (x0 : Nat) (x1 : Int32)  (st : St) : Option (St) :=
  bd (x1 + 1) fun v17 =>
  k_222 x0 v17  st
set_option maxHeartbeats 4000000 in
set_option maxRecDepth 100000 in
theorem t_X12_oneTick_242 {X : CX} {res : St} (B : BV X cX12_oneTick RX12 3 60 NN none res) (fu : Nat) (k_222 : Nat → Int32 → St → Option (St)) (h_222 : ∀ (x0 : Nat) (x1 : Int32)  (st : St), WW X res NN 222 [(0, .ref (x_b X + x0)), (1, .int x1)] [] st (k_222 x0 x1 st)) (x0 : Nat) (x1 : Int32)  (st : St) : WW X res NN 242 [(0, .ref (x_b X + x0)), (1, .int x1)] [] st (b_X12_oneTick_242 fu k_222 x0 x1 st) := by
  have hX := B.1
  have hL := B.2.1
  unfold b_X12_oneTick_242
  refine ww_iincb (lv' := fun v17 => [(1, .int v17), (0, .ref (x_b X + x0))]) (c := 1) hX hL 1 rfl dX12_oneTick_242 rfl (by decide) (fun _ => rfl) (fun v17 => ?_)
  refine ww_goto (tgt := 222) hX dX12_oneTick_245 (by decide) ?_
  exact ww_sub [1, 0] rfl (h_222 x0 v17  st)
def b_X12_oneTick_222_b (fu : Nat) (k_222 : Nat → Int32 → St → Option (St)) (x0 : Nat) (x1 : Int32)  (st : St) : Option (St) :=
  if 8 ≤ x1 then (
  b_X12_oneTick_250 fu fu x0 0  st)
  else (
  ck (¬ gR st x0 54 = 0) <|
  ck ((kd x0).1 = 12) <|
  bd (gR st x0 54) fun o16 =>
  ck ((kd o16).1 = 102 ∧ inb x1 (kd o16).2) <|
  if (gI st o16 (ix x1)) = 0 then (
  b_X12_oneTick_242 fu k_222 x0 x1  st)
  else (
  ck ((kd x0).1 = 12) <|
  cv (f_X12_moveAxis fu x0 x1 st) fun s18 =>
  b_X12_oneTick_242 fu k_222 x0 x1  s18))
set_option maxHeartbeats 4000000 in
set_option maxRecDepth 100000 in
theorem t_X12_oneTick_222_b {X : CX} {res : St} (B : BV X cX12_oneTick RX12 3 60 NN none res) (fu : Nat) (k_222 : Nat → Int32 → St → Option (St)) (h_222 : ∀ (x0 : Nat) (x1 : Int32)  (st : St), WW X res NN 222 [(0, .ref (x_b X + x0)), (1, .int x1)] [] st (k_222 x0 x1 st)) (x0 : Nat) (x1 : Int32)  (st : St) : WW X res NN 222 [(0, .ref (x_b X + x0)), (1, .int x1)] [] st (b_X12_oneTick_222_b fu k_222 x0 x1 st) := by
  have hX := B.1
  have hL := B.2.1
  unfold b_X12_oneTick_222_b
  refine ww_iload_n hX 1 rfl dX12_oneTick_222 rfl ?_
  refine ww_bipush (v := 8) hX rfl dX12_oneTick_223 ?_
  refine ww_icmp_ge (tgt := 248) hX dX12_oneTick_225 (by decide) ?_ ?_
  · refine ww_iconst (v := 0) hX rfl dX12_oneTick_248 ?_
    refine ww_istore_n (lv' := [(1, .int 0), (0, .ref (x_b X + x0))]) hX hL dX12_oneTick_249 rfl (by decide) rfl ?_
    exact ww_sub [1, 0] rfl (t_X12_oneTick_250 B fu fu x0 0  st)
  · refine ww_aload_n hX 0 rfl dX12_oneTick_228 rfl ?_
    refine ww_getR hX f_X12_145 (Or.inr ⟨_, rfl⟩) dX12_oneTick_229 ?_
    refine ww_bdR (fun o16 => ?_)
    refine ww_iload_n hX 1 rfl dX12_oneTick_232 rfl ?_
    refine ww_zaldc hX k_zald dX12_oneTick_233 ?_
    refine ww_if_eq (tgt := 242) hX dX12_oneTick_234 (by decide) ?_ ?_
    · exact t_X12_oneTick_242 B fu k_222 h_222 x0 x1  st
    · refine ww_aload_n hX 0 rfl dX12_oneTick_237 rfl ?_
      refine ww_iload_n hX 1 rfl dX12_oneTick_238 rfl ?_
      refine ww_callVV (As := [.int x1]) (rest := []) (o := x0) hX (Rk.of B.2.2.1 B.2.2.2.1 (by decide) (by decide)) g_X12_580 g_X12_580.in (fun _ => c_X12_moveAxis (x_G X) (x_l X) fu x0 x1 st) rfl rfl (Nat.le_of_ble_eq_true rfl) dX12_oneTick_239 (fun s18 => ?_)
      exact t_X12_oneTick_242 B fu k_222 h_222 x0 x1  s18
def b_X12_oneTick_222 (fu : Nat) : Nat → Nat → Int32 → St → Option (St)
  | 0, _, _, _ => none
  | i + 1, x0, x1, st => b_X12_oneTick_222_b fu (b_X12_oneTick_222 fu i) x0 x1 st
theorem t_X12_oneTick_222 {X : CX} {res : St} (B : BV X cX12_oneTick RX12 3 60 NN none res) (fu : Nat) : ∀ (i : Nat) (x0 : Nat) (x1 : Int32)  (st : St), WW X res NN 222 [(0, .ref (x_b X + x0)), (1, .int x1)] [] st (b_X12_oneTick_222 fu i x0 x1 st) := by
  intro i
  induction i with
  | zero => intro x0 x1 st; exact ww_none
  | succ i ih => intro x0 x1 st; exact t_X12_oneTick_222_b B fu (b_X12_oneTick_222 fu i) ih x0 x1 st
def b_X12_oneTick_214 (fu : Nat) (k_174 : Nat → Int32 → St → Option (St)) (x0 : Nat) (x1 : Int32)  (st : St) : Option (St) :=
  bd (x1 + 1) fun v20 =>
  k_174 x0 v20  st
set_option maxHeartbeats 4000000 in
set_option maxRecDepth 100000 in
theorem t_X12_oneTick_214 {X : CX} {res : St} (B : BV X cX12_oneTick RX12 3 60 NN none res) (fu : Nat) (k_174 : Nat → Int32 → St → Option (St)) (h_174 : ∀ (x0 : Nat) (x1 : Int32)  (st : St), WW X res NN 174 [(0, .ref (x_b X + x0)), (1, .int x1)] [] st (k_174 x0 x1 st)) (x0 : Nat) (x1 : Int32)  (st : St) : WW X res NN 214 [(0, .ref (x_b X + x0)), (1, .int x1)] [] st (b_X12_oneTick_214 fu k_174 x0 x1 st) := by
  have hX := B.1
  have hL := B.2.1
  unfold b_X12_oneTick_214
  refine ww_iincb (lv' := fun v20 => [(1, .int v20), (0, .ref (x_b X + x0))]) (c := 1) hX hL 1 rfl dX12_oneTick_214 rfl (by decide) (fun _ => rfl) (fun v20 => ?_)
  refine ww_goto (tgt := 174) hX dX12_oneTick_217 (by decide) ?_
  exact ww_sub [1, 0] rfl (h_174 x0 v20  st)
def b_X12_oneTick_174_b (fu : Nat) (k_174 : Nat → Int32 → St → Option (St)) (x0 : Nat) (x1 : Int32)  (st : St) : Option (St) :=
  if 8 ≤ x1 then (
  b_X12_oneTick_222 fu fu x0 0  st)
  else (
  ck (¬ gR st x0 54 = 0) <|
  ck ((kd x0).1 = 12) <|
  bd (gR st x0 54) fun o19 =>
  ck ((kd o19).1 = 102 ∧ inb x1 (kd o19).2) <|
  if (gI st o19 (ix x1)) = 0 then (
  b_X12_oneTick_214 fu k_174 x0 x1  st)
  else (
  ck (¬ gR st x0 61 = 0) <|
  ck ((kd x0).1 = 12) <|
  bd (gR st x0 61) fun o21 =>
  ck ((kd o21).1 = 100 ∧ inb x1 (kd o21).2) <|
  if (gI st o21 (ix x1)) = ((-1)) then (
  b_X12_oneTick_214 fu k_174 x0 x1  st)
  else (
  ck ((kd x0).1 = 12) <|
  ca (f_X12_isTrue fu x0 x1 st) fun r22 s23 =>
  if r22 = 0 then (
  ck (¬ gR s23 x0 61 = 0) <|
  ck ((kd x0).1 = 12) <|
  bd (gR s23 x0 61) fun o24 =>
  ck ((kd o24).1 = 100 ∧ inb x1 (kd o24).2) <|
  bd (sI s23 o24 (ix x1) ((-1))) fun s25 =>
  b_X12_oneTick_214 fu k_174 x0 x1  s25)
  else (
  b_X12_oneTick_214 fu k_174 x0 x1  s23))))
set_option maxHeartbeats 4000000 in
set_option maxRecDepth 100000 in
theorem t_X12_oneTick_174_b {X : CX} {res : St} (B : BV X cX12_oneTick RX12 3 60 NN none res) (fu : Nat) (k_174 : Nat → Int32 → St → Option (St)) (h_174 : ∀ (x0 : Nat) (x1 : Int32)  (st : St), WW X res NN 174 [(0, .ref (x_b X + x0)), (1, .int x1)] [] st (k_174 x0 x1 st)) (x0 : Nat) (x1 : Int32)  (st : St) : WW X res NN 174 [(0, .ref (x_b X + x0)), (1, .int x1)] [] st (b_X12_oneTick_174_b fu k_174 x0 x1 st) := by
  have hX := B.1
  have hL := B.2.1
  unfold b_X12_oneTick_174_b
  refine ww_iload_n hX 1 rfl dX12_oneTick_174 rfl ?_
  refine ww_bipush (v := 8) hX rfl dX12_oneTick_175 ?_
  refine ww_icmp_ge (tgt := 220) hX dX12_oneTick_177 (by decide) ?_ ?_
  · refine ww_iconst (v := 0) hX rfl dX12_oneTick_220 ?_
    refine ww_istore_n (lv' := [(1, .int 0), (0, .ref (x_b X + x0))]) hX hL dX12_oneTick_221 rfl (by decide) rfl ?_
    exact ww_sub [1, 0] rfl (t_X12_oneTick_222 B fu fu x0 0  st)
  · refine ww_aload_n hX 0 rfl dX12_oneTick_180 rfl ?_
    refine ww_getR hX f_X12_145 (Or.inr ⟨_, rfl⟩) dX12_oneTick_181 ?_
    refine ww_bdR (fun o19 => ?_)
    refine ww_iload_n hX 1 rfl dX12_oneTick_184 rfl ?_
    refine ww_zaldc hX k_zald dX12_oneTick_185 ?_
    refine ww_if_eq (tgt := 214) hX dX12_oneTick_186 (by decide) ?_ ?_
    · exact t_X12_oneTick_214 B fu k_174 h_174 x0 x1  st
    · refine ww_aload_n hX 0 rfl dX12_oneTick_189 rfl ?_
      refine ww_getR hX f_X12_166 (Or.inr ⟨_, rfl⟩) dX12_oneTick_190 ?_
      refine ww_bdR (fun o21 => ?_)
      refine ww_iload_n hX 1 rfl dX12_oneTick_193 rfl ?_
      refine ww_ialdc hX k_iald dX12_oneTick_194 ?_
      refine ww_iconst (v := (-1)) hX rfl dX12_oneTick_195 ?_
      refine ww_icmp_eq (tgt := 214) hX dX12_oneTick_196 (by decide) ?_ ?_
      · exact t_X12_oneTick_214 B fu k_174 h_174 x0 x1  st
      · refine ww_aload_n hX 0 rfl dX12_oneTick_199 rfl ?_
        refine ww_iload_n hX 1 rfl dX12_oneTick_200 rfl ?_
        refine ww_callVI (As := [.int x1]) (rest := []) (o := x0) hX (Rk.of B.2.2.1 B.2.2.2.1 (by decide) (by decide)) g_X12_568 g_X12_568.in (fun _ => c_X12_isTrue (x_G X) (x_l X) fu x0 x1 st) rfl rfl (Nat.le_of_ble_eq_true rfl) dX12_oneTick_201 (fun r22 s23 => ?_)
        refine ww_if_ne (tgt := 214) hX dX12_oneTick_204 (by decide) ?_ ?_
        · exact t_X12_oneTick_214 B fu k_174 h_174 x0 x1  s23
        · refine ww_aload_n hX 0 rfl dX12_oneTick_207 rfl ?_
          refine ww_getR hX f_X12_166 (Or.inr ⟨_, rfl⟩) dX12_oneTick_208 ?_
          refine ww_bdR (fun o24 => ?_)
          refine ww_iload_n hX 1 rfl dX12_oneTick_211 rfl ?_
          refine ww_iconst (v := (-1)) hX rfl dX12_oneTick_212 ?_
          refine ww_iastc hX k_iast dX12_oneTick_213 ?_
          refine ww_bds (fun s25 => ?_)
          exact t_X12_oneTick_214 B fu k_174 h_174 x0 x1  s25
def b_X12_oneTick_174 (fu : Nat) : Nat → Nat → Int32 → St → Option (St)
  | 0, _, _, _ => none
  | i + 1, x0, x1, st => b_X12_oneTick_174_b fu (b_X12_oneTick_174 fu i) x0 x1 st
theorem t_X12_oneTick_174 {X : CX} {res : St} (B : BV X cX12_oneTick RX12 3 60 NN none res) (fu : Nat) : ∀ (i : Nat) (x0 : Nat) (x1 : Int32)  (st : St), WW X res NN 174 [(0, .ref (x_b X + x0)), (1, .int x1)] [] st (b_X12_oneTick_174 fu i x0 x1 st) := by
  intro i
  induction i with
  | zero => intro x0 x1 st; exact ww_none
  | succ i ih => intro x0 x1 st; exact t_X12_oneTick_174_b B fu (b_X12_oneTick_174 fu i) ih x0 x1 st
def b_X12_oneTick_166 (fu : Nat) (k_121 : Nat → Int32 → St → Option (St)) (x0 : Nat) (x1 : Int32)  (st : St) : Option (St) :=
  bd (x1 + 1) fun v28 =>
  k_121 x0 v28  st
set_option maxHeartbeats 4000000 in
set_option maxRecDepth 100000 in
theorem t_X12_oneTick_166 {X : CX} {res : St} (B : BV X cX12_oneTick RX12 3 60 NN none res) (fu : Nat) (k_121 : Nat → Int32 → St → Option (St)) (h_121 : ∀ (x0 : Nat) (x1 : Int32)  (st : St), WW X res NN 121 [(0, .ref (x_b X + x0)), (1, .int x1)] [] st (k_121 x0 x1 st)) (x0 : Nat) (x1 : Int32)  (st : St) : WW X res NN 166 [(0, .ref (x_b X + x0)), (1, .int x1)] [] st (b_X12_oneTick_166 fu k_121 x0 x1 st) := by
  have hX := B.1
  have hL := B.2.1
  unfold b_X12_oneTick_166
  refine ww_iincb (lv' := fun v28 => [(1, .int v28), (0, .ref (x_b X + x0))]) (c := 1) hX hL 1 rfl dX12_oneTick_166 rfl (by decide) (fun _ => rfl) (fun v28 => ?_)
  refine ww_goto (tgt := 121) hX dX12_oneTick_169 (by decide) ?_
  exact ww_sub [1, 0] rfl (h_121 x0 v28  st)
def b_X12_oneTick_121_b (fu : Nat) (k_121 : Nat → Int32 → St → Option (St)) (x0 : Nat) (x1 : Int32)  (st : St) : Option (St) :=
  if 4 ≤ x1 then (
  b_X12_oneTick_174 fu fu x0 0  st)
  else (
  ck (¬ gR st x0 42 = 0) <|
  ck ((kd x0).1 = 12) <|
  bd (gR st x0 42) fun o26 =>
  ck ((kd o26).1 = 100 ∧ inb x1 (kd o26).2) <|
  ck ((kd x0).1 = 12) <|
  if (gI st o26 (ix x1)) = (gI st x0 40) then (
  ck ((kd x0).1 = 12) <|
  cv (f_X12_begins fu x0 x1 st) fun s31 =>
  b_X12_oneTick_166 fu k_121 x0 x1  s31)
  else (
  ck (¬ gR st x0 43 = 0) <|
  ck ((kd x0).1 = 12) <|
  bd (gR st x0 43) fun o27 =>
  ck ((kd o27).1 = 100 ∧ inb x1 (kd o27).2) <|
  ck ((kd x0).1 = 12) <|
  if (gI st o27 (ix x1)) = (gI st x0 40) then (
  ck ((kd x0).1 = 12) <|
  ca (f_X12_goes fu x0 x1 st) fun r29 s30 =>
  b_X12_oneTick_166 fu k_121 x0 x1  s30)
  else (
  b_X12_oneTick_166 fu k_121 x0 x1  st)))
set_option maxHeartbeats 4000000 in
set_option maxRecDepth 100000 in
theorem t_X12_oneTick_121_b {X : CX} {res : St} (B : BV X cX12_oneTick RX12 3 60 NN none res) (fu : Nat) (k_121 : Nat → Int32 → St → Option (St)) (h_121 : ∀ (x0 : Nat) (x1 : Int32)  (st : St), WW X res NN 121 [(0, .ref (x_b X + x0)), (1, .int x1)] [] st (k_121 x0 x1 st)) (x0 : Nat) (x1 : Int32)  (st : St) : WW X res NN 121 [(0, .ref (x_b X + x0)), (1, .int x1)] [] st (b_X12_oneTick_121_b fu k_121 x0 x1 st) := by
  have hX := B.1
  have hL := B.2.1
  unfold b_X12_oneTick_121_b
  refine ww_iload_n hX 1 rfl dX12_oneTick_121 rfl ?_
  refine ww_iconst (v := 4) hX rfl dX12_oneTick_122 ?_
  refine ww_icmp_ge (tgt := 172) hX dX12_oneTick_123 (by decide) ?_ ?_
  · refine ww_iconst (v := 0) hX rfl dX12_oneTick_172 ?_
    refine ww_istore_n (lv' := [(1, .int 0), (0, .ref (x_b X + x0))]) hX hL dX12_oneTick_173 rfl (by decide) rfl ?_
    exact ww_sub [1, 0] rfl (t_X12_oneTick_174 B fu fu x0 0  st)
  · refine ww_aload_n hX 0 rfl dX12_oneTick_126 rfl ?_
    refine ww_getR hX f_X12_112 (Or.inr ⟨_, rfl⟩) dX12_oneTick_127 ?_
    refine ww_bdR (fun o26 => ?_)
    refine ww_iload_n hX 1 rfl dX12_oneTick_130 rfl ?_
    refine ww_ialdc hX k_iald dX12_oneTick_131 ?_
    refine ww_aload_n hX 0 rfl dX12_oneTick_132 rfl ?_
    refine ww_getI hX f_X12_490 (Or.inl rfl) dX12_oneTick_133 ?_
    refine ww_icmp_ne (tgt := 147) hX dX12_oneTick_136 (by decide) ?_ ?_
    · refine ww_aload_n hX 0 rfl dX12_oneTick_147 rfl ?_
      refine ww_getR hX f_X12_115 (Or.inr ⟨_, rfl⟩) dX12_oneTick_148 ?_
      refine ww_bdR (fun o27 => ?_)
      refine ww_iload_n hX 1 rfl dX12_oneTick_151 rfl ?_
      refine ww_ialdc hX k_iald dX12_oneTick_152 ?_
      refine ww_aload_n hX 0 rfl dX12_oneTick_153 rfl ?_
      refine ww_getI hX f_X12_490 (Or.inl rfl) dX12_oneTick_154 ?_
      refine ww_icmp_ne (tgt := 166) hX dX12_oneTick_157 (by decide) ?_ ?_
      · exact t_X12_oneTick_166 B fu k_121 h_121 x0 x1  st
      · refine ww_aload_n hX 0 rfl dX12_oneTick_160 rfl ?_
        refine ww_iload_n hX 1 rfl dX12_oneTick_161 rfl ?_
        refine ww_callVI (As := [.int x1]) (rest := []) (o := x0) hX (Rk.of B.2.2.1 B.2.2.2.1 (by decide) (by decide)) g_X12_513 g_X12_513.in (fun _ => c_X12_goes (x_G X) (x_l X) fu x0 x1 st) rfl rfl (Nat.le_of_ble_eq_true rfl) dX12_oneTick_162 (fun r29 s30 => ?_)
        refine ww_istore_n (lv' := [(2, .int r29), (0, .ref (x_b X + x0)), (1, .int x1)]) hX hL dX12_oneTick_165 rfl (by decide) rfl ?_
        exact ww_sub [1, 2] rfl (t_X12_oneTick_166 B fu k_121 h_121 x0 x1  s30)
    · refine ww_aload_n hX 0 rfl dX12_oneTick_139 rfl ?_
      refine ww_iload_n hX 1 rfl dX12_oneTick_140 rfl ?_
      refine ww_callVV (As := [.int x1]) (rest := []) (o := x0) hX (Rk.of B.2.2.1 B.2.2.2.1 (by decide) (by decide)) g_X12_487 g_X12_487.in (fun _ => c_X12_begins (x_G X) (x_l X) fu x0 x1 st) rfl rfl (Nat.le_of_ble_eq_true rfl) dX12_oneTick_141 (fun s31 => ?_)
      refine ww_goto (tgt := 166) hX dX12_oneTick_144 (by decide) ?_
      exact t_X12_oneTick_166 B fu k_121 h_121 x0 x1  s31
def b_X12_oneTick_121 (fu : Nat) : Nat → Nat → Int32 → St → Option (St)
  | 0, _, _, _ => none
  | i + 1, x0, x1, st => b_X12_oneTick_121_b fu (b_X12_oneTick_121 fu i) x0 x1 st
theorem t_X12_oneTick_121 {X : CX} {res : St} (B : BV X cX12_oneTick RX12 3 60 NN none res) (fu : Nat) : ∀ (i : Nat) (x0 : Nat) (x1 : Int32)  (st : St), WW X res NN 121 [(0, .ref (x_b X + x0)), (1, .int x1)] [] st (b_X12_oneTick_121 fu i x0 x1 st) := by
  intro i
  induction i with
  | zero => intro x0 x1 st; exact ww_none
  | succ i ih => intro x0 x1 st; exact t_X12_oneTick_121_b B fu (b_X12_oneTick_121 fu i) ih x0 x1 st
def b_X12_oneTick_113 (fu : Nat) (k_12 : Nat → Int32 → St → Option (St)) (x0 : Nat) (x1 : Int32)  (st : St) : Option (St) :=
  bd (x1 + 1) fun v33 =>
  k_12 x0 v33  st
set_option maxHeartbeats 4000000 in
set_option maxRecDepth 100000 in
theorem t_X12_oneTick_113 {X : CX} {res : St} (B : BV X cX12_oneTick RX12 3 60 NN none res) (fu : Nat) (k_12 : Nat → Int32 → St → Option (St)) (h_12 : ∀ (x0 : Nat) (x1 : Int32)  (st : St), WW X res NN 12 [(0, .ref (x_b X + x0)), (1, .int x1)] [] st (k_12 x0 x1 st)) (x0 : Nat) (x1 : Int32)  (st : St) : WW X res NN 113 [(0, .ref (x_b X + x0)), (1, .int x1)] [] st (b_X12_oneTick_113 fu k_12 x0 x1 st) := by
  have hX := B.1
  have hL := B.2.1
  unfold b_X12_oneTick_113
  refine ww_iincb (lv' := fun v33 => [(1, .int v33), (0, .ref (x_b X + x0))]) (c := 1) hX hL 1 rfl dX12_oneTick_113 rfl (by decide) (fun _ => rfl) (fun v33 => ?_)
  refine ww_goto (tgt := 12) hX dX12_oneTick_116 (by decide) ?_
  exact ww_sub [1, 0] rfl (h_12 x0 v33  st)
def b_X12_oneTick_12_b (fu : Nat) (k_12 : Nat → Int32 → St → Option (St)) (x0 : Nat) (x1 : Int32)  (st : St) : Option (St) :=
  if 260 ≤ x1 then (
  b_X12_oneTick_121 fu fu x0 0  st)
  else (
  ck (¬ gR st x0 49 = 0) <|
  ck ((kd x0).1 = 12) <|
  bd (gR st x0 49) fun o32 =>
  ck ((kd o32).1 = 100 ∧ inb x1 (kd o32).2) <|
  if (gI st o32 (ix x1)) ≤ 0 then (
  b_X12_oneTick_113 fu k_12 x0 x1  st)
  else (
  ck ((kd x0).1 = 12) <|
  ck (¬ gR st x0 48 = 0) <|
  ck ((kd x0).1 = 12) <|
  bd (gR st x0 48) fun o34 =>
  ck ((kd o34).1 = 100 ∧ inb x1 (kd o34).2) <|
  bd ((gI st x0 40) - (gI st o34 (ix x1))) fun v35 =>
  ck (¬ gR st x0 49 = 0) <|
  ck ((kd x0).1 = 12) <|
  bd (gR st x0 49) fun o36 =>
  ck ((kd o36).1 = 100 ∧ inb x1 (kd o36).2) <|
  if v35 < (gI st o36 (ix x1)) then (
  ck (¬ gR st x0 45 = 0) <|
  ck ((kd x0).1 = 12) <|
  bd (gR st x0 45) fun o37 =>
  ck (¬ gR st x0 47 = 0) <|
  ck ((kd x0).1 = 12) <|
  bd (gR st x0 47) fun o38 =>
  ck ((kd o38).1 = 100 ∧ inb x1 (kd o38).2) <|
  ck (¬ gR st x0 46 = 0) <|
  ck ((kd x0).1 = 12) <|
  bd (gR st x0 46) fun o39 =>
  ck ((kd o39).1 = 100 ∧ inb x1 (kd o39).2) <|
  ck (¬ gR st x0 47 = 0) <|
  ck ((kd x0).1 = 12) <|
  bd (gR st x0 47) fun o40 =>
  ck ((kd o40).1 = 100 ∧ inb x1 (kd o40).2) <|
  ck (¬ gR st x0 49 = 0) <|
  ck ((kd x0).1 = 12) <|
  bd (gR st x0 49) fun o41 =>
  ck ((kd o41).1 = 100 ∧ inb x1 (kd o41).2) <|
  ca (f_X12_nearest fu ((((gI st o39 (ix x1)) - (gI st o40 (ix x1))).toInt64) * v35.toInt64) ((gI st o41 (ix x1)).toInt64) st) fun r42 s43 =>
  ck ((kd o37).1 = 100 ∧ inb x1 (kd o37).2) <|
  bd (sI s43 o37 (ix x1) ((gI st o38 (ix x1)) + r42.toInt32)) fun s44 =>
  b_X12_oneTick_113 fu k_12 x0 x1  s44)
  else (
  ck (¬ gR st x0 45 = 0) <|
  ck ((kd x0).1 = 12) <|
  bd (gR st x0 45) fun o45 =>
  ck (¬ gR st x0 46 = 0) <|
  ck ((kd x0).1 = 12) <|
  bd (gR st x0 46) fun o46 =>
  ck ((kd o46).1 = 100 ∧ inb x1 (kd o46).2) <|
  ck ((kd o45).1 = 100 ∧ inb x1 (kd o45).2) <|
  bd (sI st o45 (ix x1) (gI st o46 (ix x1))) fun s47 =>
  ck (¬ gR s47 x0 49 = 0) <|
  ck ((kd x0).1 = 12) <|
  bd (gR s47 x0 49) fun o48 =>
  ck ((kd o48).1 = 100 ∧ inb x1 (kd o48).2) <|
  bd (sI s47 o48 (ix x1) 0) fun s49 =>
  b_X12_oneTick_113 fu k_12 x0 x1  s49)))
set_option maxHeartbeats 4000000 in
set_option maxRecDepth 100000 in
theorem t_X12_oneTick_12_b {X : CX} {res : St} (B : BV X cX12_oneTick RX12 3 60 NN none res) (fu : Nat) (k_12 : Nat → Int32 → St → Option (St)) (h_12 : ∀ (x0 : Nat) (x1 : Int32)  (st : St), WW X res NN 12 [(0, .ref (x_b X + x0)), (1, .int x1)] [] st (k_12 x0 x1 st)) (x0 : Nat) (x1 : Int32)  (st : St) : WW X res NN 12 [(0, .ref (x_b X + x0)), (1, .int x1)] [] st (b_X12_oneTick_12_b fu k_12 x0 x1 st) := by
  have hX := B.1
  have hL := B.2.1
  unfold b_X12_oneTick_12_b
  refine ww_iload_n hX 1 rfl dX12_oneTick_12 rfl ?_
  refine ww_sipush (v := 260) hX rfl dX12_oneTick_13 ?_
  refine ww_icmp_ge (tgt := 119) hX dX12_oneTick_16 (by decide) ?_ ?_
  · refine ww_iconst (v := 0) hX rfl dX12_oneTick_119 ?_
    refine ww_istore_n (lv' := [(1, .int 0), (0, .ref (x_b X + x0))]) hX hL dX12_oneTick_120 rfl (by decide) rfl ?_
    exact ww_sub [1, 0] rfl (t_X12_oneTick_121 B fu fu x0 0  st)
  · refine ww_aload_n hX 0 rfl dX12_oneTick_19 rfl ?_
    refine ww_getR hX f_X12_133 (Or.inr ⟨_, rfl⟩) dX12_oneTick_20 ?_
    refine ww_bdR (fun o32 => ?_)
    refine ww_iload_n hX 1 rfl dX12_oneTick_23 rfl ?_
    refine ww_ialdc hX k_iald dX12_oneTick_24 ?_
    refine ww_if_le (tgt := 113) hX dX12_oneTick_25 (by decide) ?_ ?_
    · exact t_X12_oneTick_113 B fu k_12 h_12 x0 x1  st
    · refine ww_aload_n hX 0 rfl dX12_oneTick_28 rfl ?_
      refine ww_getI hX f_X12_490 (Or.inl rfl) dX12_oneTick_29 ?_
      refine ww_aload_n hX 0 rfl dX12_oneTick_32 rfl ?_
      refine ww_getR hX f_X12_130 (Or.inr ⟨_, rfl⟩) dX12_oneTick_33 ?_
      refine ww_bdR (fun o34 => ?_)
      refine ww_iload_n hX 1 rfl dX12_oneTick_36 rfl ?_
      refine ww_ialdc hX k_iald dX12_oneTick_37 ?_
      refine ww_isub hX dX12_oneTick_38 ?_
      refine ww_pc (b := 39) rfl ?_
      refine ww_bdi (fun v35 => ?_)
      refine ww_istore_n (lv' := [(2, .int v35), (0, .ref (x_b X + x0)), (1, .int x1)]) hX hL dX12_oneTick_39 rfl (by decide) rfl ?_
      refine ww_iload_n hX 0 rfl dX12_oneTick_40 rfl ?_
      refine ww_aload_n hX 1 rfl dX12_oneTick_41 rfl ?_
      refine ww_getR hX f_X12_133 (Or.inr ⟨_, rfl⟩) dX12_oneTick_42 ?_
      refine ww_bdR (fun o36 => ?_)
      refine ww_iload_n hX 2 rfl dX12_oneTick_45 rfl ?_
      refine ww_ialdc hX k_iald dX12_oneTick_46 ?_
      refine ww_icmp_lt (tgt := 72) hX dX12_oneTick_47 (by decide) ?_ ?_
      · refine ww_aload_n hX 1 rfl dX12_oneTick_72 rfl ?_
        refine ww_getR hX f_X12_121 (Or.inr ⟨_, rfl⟩) dX12_oneTick_73 ?_
        refine ww_bdR (fun o37 => ?_)
        refine ww_iload_n hX 2 rfl dX12_oneTick_76 rfl ?_
        refine ww_aload_n hX 1 rfl dX12_oneTick_77 rfl ?_
        refine ww_getR hX f_X12_127 (Or.inr ⟨_, rfl⟩) dX12_oneTick_78 ?_
        refine ww_bdR (fun o38 => ?_)
        refine ww_iload_n hX 2 rfl dX12_oneTick_81 rfl ?_
        refine ww_ialdc hX k_iald dX12_oneTick_82 ?_
        refine ww_pc (b := 83) rfl ?_
        refine ww_aload_n hX 1 rfl dX12_oneTick_83 rfl ?_
        refine ww_getR hX f_X12_124 (Or.inr ⟨_, rfl⟩) dX12_oneTick_84 ?_
        refine ww_bdR (fun o39 => ?_)
        refine ww_iload_n hX 2 rfl dX12_oneTick_87 rfl ?_
        refine ww_ialdc hX k_iald dX12_oneTick_88 ?_
        refine ww_aload_n hX 1 rfl dX12_oneTick_89 rfl ?_
        refine ww_getR hX f_X12_127 (Or.inr ⟨_, rfl⟩) dX12_oneTick_90 ?_
        refine ww_bdR (fun o40 => ?_)
        refine ww_iload_n hX 2 rfl dX12_oneTick_93 rfl ?_
        refine ww_ialdc hX k_iald dX12_oneTick_94 ?_
        refine ww_pc (b := 95) rfl ?_
        refine ww_isub hX dX12_oneTick_95 ?_
        refine ww_i2l hX dX12_oneTick_96 ?_
        refine ww_iload_n hX 0 rfl dX12_oneTick_97 rfl ?_
        refine ww_i2l hX dX12_oneTick_98 ?_
        refine ww_lmul hX dX12_oneTick_99 ?_
        refine ww_aload_n hX 1 rfl dX12_oneTick_100 rfl ?_
        refine ww_getR hX f_X12_133 (Or.inr ⟨_, rfl⟩) dX12_oneTick_101 ?_
        refine ww_bdR (fun o41 => ?_)
        refine ww_iload_n hX 2 rfl dX12_oneTick_104 rfl ?_
        refine ww_pc (b := 105) rfl ?_
        refine ww_ialdc hX k_iald dX12_oneTick_105 ?_
        refine ww_i2l hX dX12_oneTick_106 ?_
        refine ww_callSL (As := [.long ((((gI st o39 (ix x1)) - (gI st o40 (ix x1))).toInt64) * v35.toInt64), .long ((gI st o41 (ix x1)).toInt64)]) (rest := [.int (gI st o38 (ix x1)), .int x1, .ref (x_b X + o37)]) hX (Rk.of B.2.2.1 B.2.2.2.1 (by decide) (by decide)) g_X12_521 (c_X12_nearest (x_G X) (x_l X) fu ((((gI st o39 (ix x1)) - (gI st o40 (ix x1))).toInt64) * v35.toInt64) ((gI st o41 (ix x1)).toInt64) st) rfl rfl (Nat.le_of_ble_eq_true rfl) dX12_oneTick_107 (fun r42 s43 => ?_)
        refine ww_l2i hX dX12_oneTick_110 ?_
        refine ww_iadd hX dX12_oneTick_111 ?_
        refine ww_iastc hX k_iast dX12_oneTick_112 ?_
        refine ww_bds (fun s44 => ?_)
        exact ww_sub [1, 2] rfl (t_X12_oneTick_113 B fu k_12 h_12 x0 x1  s44)
      · refine ww_aload_n hX 1 rfl dX12_oneTick_50 rfl ?_
        refine ww_getR hX f_X12_121 (Or.inr ⟨_, rfl⟩) dX12_oneTick_51 ?_
        refine ww_bdR (fun o45 => ?_)
        refine ww_iload_n hX 2 rfl dX12_oneTick_54 rfl ?_
        refine ww_aload_n hX 1 rfl dX12_oneTick_55 rfl ?_
        refine ww_getR hX f_X12_124 (Or.inr ⟨_, rfl⟩) dX12_oneTick_56 ?_
        refine ww_bdR (fun o46 => ?_)
        refine ww_iload_n hX 2 rfl dX12_oneTick_59 rfl ?_
        refine ww_ialdc hX k_iald dX12_oneTick_60 ?_
        refine ww_pc (b := 61) rfl ?_
        refine ww_iastc hX k_iast dX12_oneTick_61 ?_
        refine ww_bds (fun s47 => ?_)
        refine ww_aload_n hX 1 rfl dX12_oneTick_62 rfl ?_
        refine ww_getR hX f_X12_133 (Or.inr ⟨_, rfl⟩) dX12_oneTick_63 ?_
        refine ww_bdR (fun o48 => ?_)
        refine ww_iload_n hX 2 rfl dX12_oneTick_66 rfl ?_
        refine ww_iconst (v := 0) hX rfl dX12_oneTick_67 ?_
        refine ww_iastc hX k_iast dX12_oneTick_68 ?_
        refine ww_bds (fun s49 => ?_)
        refine ww_goto (tgt := 113) hX dX12_oneTick_69 (by decide) ?_
        exact ww_sub [1, 2] rfl (t_X12_oneTick_113 B fu k_12 h_12 x0 x1  s49)
def b_X12_oneTick_12 (fu : Nat) : Nat → Nat → Int32 → St → Option (St)
  | 0, _, _, _ => none
  | i + 1, x0, x1, st => b_X12_oneTick_12_b fu (b_X12_oneTick_12 fu i) x0 x1 st
theorem t_X12_oneTick_12 {X : CX} {res : St} (B : BV X cX12_oneTick RX12 3 60 NN none res) (fu : Nat) : ∀ (i : Nat) (x0 : Nat) (x1 : Int32)  (st : St), WW X res NN 12 [(0, .ref (x_b X + x0)), (1, .int x1)] [] st (b_X12_oneTick_12 fu i x0 x1 st) := by
  intro i
  induction i with
  | zero => intro x0 x1 st; exact ww_none
  | succ i ih => intro x0 x1 st; exact t_X12_oneTick_12_b B fu (b_X12_oneTick_12 fu i) ih x0 x1 st
def f_X12_oneTick (fu : Nat) (th : Nat) (st : St) : Option (St) :=
  ck ((kd th).1 = 12) <|
  ck ((kd th).1 = 12) <|
  bd (sI st th 40 ((gI st th 40) + 1)) fun s1 =>
  b_X12_oneTick_12 fu fu th 0  s1
set_option maxHeartbeats 4000000 in
set_option maxRecDepth 100000 in
theorem t_X12_oneTick {X : CX} {res : St} (B : BV X cX12_oneTick RX12 3 60 NN none res) (fu : Nat) (th : Nat) (st : St) : WW X res NN 0 [(0, .ref (x_b X + th))] [] st (f_X12_oneTick fu th st) := by
  have hX := B.1
  have hL := B.2.1
  unfold f_X12_oneTick
  refine ww_aload_n hX 0 rfl dX12_oneTick_0 rfl ?_
  refine ww_dup hX rfl dX12_oneTick_1 ?_
  refine ww_getI hX f_X12_490 (Or.inl rfl) dX12_oneTick_2 ?_
  refine ww_iconst (v := 1) hX rfl dX12_oneTick_5 ?_
  refine ww_iadd hX dX12_oneTick_6 ?_
  refine ww_putI hX f_X12_490 rfl dX12_oneTick_7 ?_
  refine ww_bds (fun s1 => ?_)
  refine ww_iconst (v := 0) hX rfl dX12_oneTick_10 ?_
  refine ww_pc (b := 11) rfl ?_
  refine ww_istore_n (lv' := [(1, .int 0), (0, .ref (x_b X + th))]) hX hL dX12_oneTick_11 rfl (by decide) rfl ?_
  exact ww_sub [1, 0] rfl (t_X12_oneTick_12 B fu fu th 0  s1)
theorem c_X12_oneTick (G : GX) (l : Launch) (fu : Nat) (th : Nat) (st : St) : MV G NN l yX12_oneTick cX12_oneTick 3 none 60 [.ref (G.2.2.1 + th)] st (f_X12_oneTick fu th st) := mkV (by decide) (Nat.le_of_ble_eq_true rfl) (fun X res hl hG B => by subst hl; subst hG; exact t_X12_oneTick B fu th st)
/-! StageHouseModel.tick(I)I -/
def b_X12_tick_11 (fu : Nat)   (st : St) : Option (Int32 × St) :=
  some ((-1), st)
set_option maxHeartbeats 4000000 in
set_option maxRecDepth 100000 in
theorem t_X12_tick_11 {X : CX} {res : Int32 × St} (B : BI X cX12_tick RX12 3 61 NN (some .int) res) (fu : Nat)   (st : St) : WW X res NN 11 [] [] st (b_X12_tick_11 fu  st) := by
  have hX := B.1
  have hL := B.2.1
  unfold b_X12_tick_11
  refine ww_iconst (v := (-1)) hX rfl dX12_tick_11 ?_
  exact ww_iret B dX12_tick_12
def b_X12_tick_15_b (fu : Nat) (k_15 : Nat → Int32 → Int32 → St → Option (Int32 × St)) (x0 : Nat) (x1 : Int32) (x2 : Int32)  (st : St) : Option (Int32 × St) :=
  if x1 ≤ x2 then (
  ck ((kd x0).1 = 12) <|
  some (gI st x0 40, st))
  else (
  ck ((kd x0).1 = 12) <|
  cv (f_X12_oneTick fu x0 st) fun s1 =>
  bd (x2 + 1) fun v2 =>
  k_15 x0 x1 v2  s1)
set_option maxHeartbeats 4000000 in
set_option maxRecDepth 100000 in
theorem t_X12_tick_15_b {X : CX} {res : Int32 × St} (B : BI X cX12_tick RX12 3 61 NN (some .int) res) (fu : Nat) (k_15 : Nat → Int32 → Int32 → St → Option (Int32 × St)) (h_15 : ∀ (x0 : Nat) (x1 : Int32) (x2 : Int32)  (st : St), WW X res NN 15 [(0, .ref (x_b X + x0)), (1, .int x1), (2, .int x2)] [] st (k_15 x0 x1 x2 st)) (x0 : Nat) (x1 : Int32) (x2 : Int32)  (st : St) : WW X res NN 15 [(0, .ref (x_b X + x0)), (1, .int x1), (2, .int x2)] [] st (b_X12_tick_15_b fu k_15 x0 x1 x2 st) := by
  have hX := B.1
  have hL := B.2.1
  unfold b_X12_tick_15_b
  refine ww_iload_n hX 2 rfl dX12_tick_15 rfl ?_
  refine ww_iload_n hX 1 rfl dX12_tick_16 rfl ?_
  refine ww_icmp_ge (tgt := 30) hX dX12_tick_17 (by decide) ?_ ?_
  · refine ww_aload_n hX 0 rfl dX12_tick_30 rfl ?_
    refine ww_getI hX f_X12_490 (Or.inl rfl) dX12_tick_31 ?_
    exact ww_iret B dX12_tick_34
  · refine ww_aload_n hX 0 rfl dX12_tick_20 rfl ?_
    refine ww_callVV (As := []) (rest := []) (o := x0) hX (Rk.of B.2.2.1 B.2.2.2.1 (by decide) (by decide)) g_X12_577 g_X12_577.in (fun _ => c_X12_oneTick (x_G X) (x_l X) fu x0 st) rfl rfl (Nat.le_of_ble_eq_true rfl) dX12_tick_21 (fun s1 => ?_)
    refine ww_iincb (lv' := fun v2 => [(2, .int v2), (0, .ref (x_b X + x0)), (1, .int x1)]) (c := 1) hX hL 2 rfl dX12_tick_24 rfl (by decide) (fun _ => rfl) (fun v2 => ?_)
    refine ww_goto (tgt := 15) hX dX12_tick_27 (by decide) ?_
    exact ww_sub [1, 2, 0] rfl (h_15 x0 x1 v2  s1)
def b_X12_tick_15 (fu : Nat) : Nat → Nat → Int32 → Int32 → St → Option (Int32 × St)
  | 0, _, _, _, _ => none
  | i + 1, x0, x1, x2, st => b_X12_tick_15_b fu (b_X12_tick_15 fu i) x0 x1 x2 st
theorem t_X12_tick_15 {X : CX} {res : Int32 × St} (B : BI X cX12_tick RX12 3 61 NN (some .int) res) (fu : Nat) : ∀ (i : Nat) (x0 : Nat) (x1 : Int32) (x2 : Int32)  (st : St), WW X res NN 15 [(0, .ref (x_b X + x0)), (1, .int x1), (2, .int x2)] [] st (b_X12_tick_15 fu i x0 x1 x2 st) := by
  intro i
  induction i with
  | zero => intro x0 x1 x2 st; exact ww_none
  | succ i ih => intro x0 x1 x2 st; exact t_X12_tick_15_b B fu (b_X12_tick_15 fu i) ih x0 x1 x2 st
def f_X12_tick (fu : Nat) (th : Nat) (p1 : Int32) (st : St) : Option (Int32 × St) :=
  if p1 < 0 then (
  b_X12_tick_11 fu   st)
  else (
  if p1 ≤ 500 then (
  b_X12_tick_15 fu fu th p1 0  st)
  else (
  b_X12_tick_11 fu   st))
set_option maxHeartbeats 4000000 in
set_option maxRecDepth 100000 in
theorem t_X12_tick {X : CX} {res : Int32 × St} (B : BI X cX12_tick RX12 3 61 NN (some .int) res) (fu : Nat) (th : Nat) (p1 : Int32) (st : St) : WW X res NN 0 [(0, .ref (x_b X + th)), (1, .int p1)] [] st (f_X12_tick fu th p1 st) := by
  have hX := B.1
  have hL := B.2.1
  unfold f_X12_tick
  refine ww_iload_n hX 1 rfl dX12_tick_0 rfl ?_
  refine ww_if_lt (tgt := 11) hX dX12_tick_1 (by decide) ?_ ?_
  · exact ww_sub [] rfl (t_X12_tick_11 B fu   st)
  · refine ww_iload_n hX 1 rfl dX12_tick_4 rfl ?_
    refine ww_sipush (v := 500) hX rfl dX12_tick_5 ?_
    refine ww_icmp_le (tgt := 13) hX dX12_tick_8 (by decide) ?_ ?_
    · refine ww_iconst (v := 0) hX rfl dX12_tick_13 ?_
      refine ww_istore_n (lv' := [(2, .int 0), (0, .ref (x_b X + th)), (1, .int p1)]) hX hL dX12_tick_14 rfl (by decide) rfl ?_
      exact ww_sub [1, 2, 0] rfl (t_X12_tick_15 B fu fu th p1 0  st)
    · exact ww_sub [] rfl (t_X12_tick_11 B fu   st)
theorem c_X12_tick (G : GX) (l : Launch) (fu : Nat) (th : Nat) (p1 : Int32) (st : St) : MI G NN l yX12_tick cX12_tick 3 (some .int) 61 [.ref (G.2.2.1 + th), .int p1] st (f_X12_tick fu th p1 st) := mkI (by decide) (Nat.le_of_ble_eq_true rfl) (fun X res hl hG B => by subst hl; subst hG; exact t_X12_tick B fu th p1 st)
/-! StageHouseModel.rules()I -/
def b_X12_rules_466_b (fu : Nat) (k_466 : Nat → Int32 → Int32 → Int32 → St → Option (Int32 × St)) (x0 : Nat) (x1 : Int32) (x2 : Int32) (x3 : Int32)  (st : St) : Option (Int32 × St) :=
  if x2 ≤ x3 then (
  some (x1, st))
  else (
  ck (¬ gR st x0 98 = 0) <|
  ck ((kd x0).1 = 12) <|
  bd (gR st x0 98) fun o3 =>
  ck (¬ gR st x0 104 = 0) <|
  ck ((kd x0).1 = 12) <|
  bd (gR st x0 104) fun o4 =>
  ck ((kd o4).1 = 100 ∧ inb x3 (kd o4).2) <|
  ck ((kd o3).1 = 100 ∧ inb x3 (kd o3).2) <|
  bd (sI st o3 (ix x3) (gI st o4 (ix x3))) fun s5 =>
  ck (¬ gR s5 x0 99 = 0) <|
  ck ((kd x0).1 = 12) <|
  bd (gR s5 x0 99) fun o6 =>
  ck (¬ gR s5 x0 105 = 0) <|
  ck ((kd x0).1 = 12) <|
  bd (gR s5 x0 105) fun o7 =>
  ck ((kd o7).1 = 100 ∧ inb x3 (kd o7).2) <|
  ck ((kd o6).1 = 100 ∧ inb x3 (kd o6).2) <|
  bd (sI s5 o6 (ix x3) (gI s5 o7 (ix x3))) fun s8 =>
  bd (x3 + 1) fun v9 =>
  k_466 x0 x1 x2 v9  s8)
set_option maxHeartbeats 4000000 in
set_option maxRecDepth 100000 in
theorem t_X12_rules_466_b {X : CX} {res : Int32 × St} (B : BI X cX12_rules RX12 7 8 NN (some .int) res) (fu : Nat) (k_466 : Nat → Int32 → Int32 → Int32 → St → Option (Int32 × St)) (h_466 : ∀ (x0 : Nat) (x1 : Int32) (x2 : Int32) (x3 : Int32)  (st : St), WW X res NN 466 [(0, .ref (x_b X + x0)), (1, .int x1), (2, .int x2), (3, .int x3)] [] st (k_466 x0 x1 x2 x3 st)) (x0 : Nat) (x1 : Int32) (x2 : Int32) (x3 : Int32)  (st : St) : WW X res NN 466 [(0, .ref (x_b X + x0)), (1, .int x1), (2, .int x2), (3, .int x3)] [] st (b_X12_rules_466_b fu k_466 x0 x1 x2 x3 st) := by
  have hX := B.1
  have hL := B.2.1
  unfold b_X12_rules_466_b
  refine ww_iload_n hX 3 rfl dX12_rules_466 rfl ?_
  refine ww_iload_n hX 2 rfl dX12_rules_467 rfl ?_
  refine ww_icmp_ge (tgt := 501) hX dX12_rules_468 (by decide) ?_ ?_
  · refine ww_iload_n hX 1 rfl dX12_rules_501 rfl ?_
    exact ww_iret B dX12_rules_502
  · refine ww_aload_n hX 0 rfl dX12_rules_471 rfl ?_
    refine ww_getR hX f_X12_259 (Or.inr ⟨_, rfl⟩) dX12_rules_472 ?_
    refine ww_bdR (fun o3 => ?_)
    refine ww_iload_n hX 3 rfl dX12_rules_475 rfl ?_
    refine ww_aload_n hX 0 rfl dX12_rules_476 rfl ?_
    refine ww_getR hX f_X12_274 (Or.inr ⟨_, rfl⟩) dX12_rules_477 ?_
    refine ww_bdR (fun o4 => ?_)
    refine ww_iload_n hX 3 rfl dX12_rules_480 rfl ?_
    refine ww_ialdc hX k_iald dX12_rules_481 ?_
    refine ww_pc (b := 482) rfl ?_
    refine ww_iastc hX k_iast dX12_rules_482 ?_
    refine ww_bds (fun s5 => ?_)
    refine ww_aload_n hX 0 rfl dX12_rules_483 rfl ?_
    refine ww_getR hX f_X12_262 (Or.inr ⟨_, rfl⟩) dX12_rules_484 ?_
    refine ww_bdR (fun o6 => ?_)
    refine ww_iload_n hX 3 rfl dX12_rules_487 rfl ?_
    refine ww_aload_n hX 0 rfl dX12_rules_488 rfl ?_
    refine ww_getR hX f_X12_277 (Or.inr ⟨_, rfl⟩) dX12_rules_489 ?_
    refine ww_bdR (fun o7 => ?_)
    refine ww_iload_n hX 3 rfl dX12_rules_492 rfl ?_
    refine ww_ialdc hX k_iald dX12_rules_493 ?_
    refine ww_pc (b := 494) rfl ?_
    refine ww_iastc hX k_iast dX12_rules_494 ?_
    refine ww_bds (fun s8 => ?_)
    refine ww_iincb (lv' := fun v9 => [(3, .int v9), (0, .ref (x_b X + x0)), (1, .int x1), (2, .int x2)]) (c := 1) hX hL 3 rfl dX12_rules_495 rfl (by decide) (fun _ => rfl) (fun v9 => ?_)
    refine ww_goto (tgt := 466) hX dX12_rules_498 (by decide) ?_
    exact ww_sub [1, 2, 3, 0] rfl (h_466 x0 x1 x2 v9  s8)
def b_X12_rules_466 (fu : Nat) : Nat → Nat → Int32 → Int32 → Int32 → St → Option (Int32 × St)
  | 0, _, _, _, _, _ => none
  | i + 1, x0, x1, x2, x3, st => b_X12_rules_466_b fu (b_X12_rules_466 fu i) x0 x1 x2 x3 st
theorem t_X12_rules_466 {X : CX} {res : Int32 × St} (B : BI X cX12_rules RX12 7 8 NN (some .int) res) (fu : Nat) : ∀ (i : Nat) (x0 : Nat) (x1 : Int32) (x2 : Int32) (x3 : Int32)  (st : St), WW X res NN 466 [(0, .ref (x_b X + x0)), (1, .int x1), (2, .int x2), (3, .int x3)] [] st (b_X12_rules_466 fu i x0 x1 x2 x3 st) := by
  intro i
  induction i with
  | zero => intro x0 x1 x2 x3 st; exact ww_none
  | succ i ih => intro x0 x1 x2 x3 st; exact t_X12_rules_466_b B fu (b_X12_rules_466 fu i) ih x0 x1 x2 x3 st
def b_X12_rules_401_b (fu : Nat) (k_401 : Nat → Int32 → Int32 → Int32 → St → Option (Int32 × St)) (x0 : Nat) (x1 : Int32) (x2 : Int32) (x3 : Int32)  (st : St) : Option (Int32 × St) :=
  if x1 ≤ x3 then (
  b_X12_rules_466 fu fu x0 x1 x2 0  st)
  else (
  ck (¬ gR st x0 95 = 0) <|
  ck ((kd x0).1 = 12) <|
  bd (gR st x0 95) fun o10 =>
  ck (¬ gR st x0 101 = 0) <|
  ck ((kd x0).1 = 12) <|
  bd (gR st x0 101) fun o11 =>
  ck ((kd o11).1 = 100 ∧ inb x3 (kd o11).2) <|
  ck ((kd o10).1 = 100 ∧ inb x3 (kd o10).2) <|
  bd (sI st o10 (ix x3) (gI st o11 (ix x3))) fun s12 =>
  ck (¬ gR s12 x0 95 = 0) <|
  ck ((kd x0).1 = 12) <|
  bd (gR s12 x0 95) fun o13 =>
  ck (¬ gR s12 x0 101 = 0) <|
  ck ((kd x0).1 = 12) <|
  bd (gR s12 x0 101) fun o14 =>
  ck ((kd o14).1 = 100 ∧ inb (x3 + 1) (kd o14).2) <|
  ck ((kd o13).1 = 100 ∧ inb (x3 + 1) (kd o13).2) <|
  bd (sI s12 o13 (ix (x3 + 1)) (gI s12 o14 (ix (x3 + 1)))) fun s15 =>
  ck (¬ gR s15 x0 96 = 0) <|
  ck ((kd x0).1 = 12) <|
  bd (gR s15 x0 96) fun o16 =>
  ck (¬ gR s15 x0 102 = 0) <|
  ck ((kd x0).1 = 12) <|
  bd (gR s15 x0 102) fun o17 =>
  ck ((kd o17).1 = 100 ∧ inb x3 (kd o17).2) <|
  ck ((kd o16).1 = 100 ∧ inb x3 (kd o16).2) <|
  bd (sI s15 o16 (ix x3) (gI s15 o17 (ix x3))) fun s18 =>
  ck (¬ gR s18 x0 97 = 0) <|
  ck ((kd x0).1 = 12) <|
  bd (gR s18 x0 97) fun o19 =>
  ck (¬ gR s18 x0 103 = 0) <|
  ck ((kd x0).1 = 12) <|
  bd (gR s18 x0 103) fun o20 =>
  ck ((kd o20).1 = 100 ∧ inb x3 (kd o20).2) <|
  ck ((kd o19).1 = 100 ∧ inb x3 (kd o19).2) <|
  bd (sI s18 o19 (ix x3) (gI s18 o20 (ix x3))) fun s21 =>
  bd (x3 + 1) fun v22 =>
  k_401 x0 x1 x2 v22  s21)
set_option maxHeartbeats 4000000 in
set_option maxRecDepth 100000 in
theorem t_X12_rules_401_b {X : CX} {res : Int32 × St} (B : BI X cX12_rules RX12 7 8 NN (some .int) res) (fu : Nat) (k_401 : Nat → Int32 → Int32 → Int32 → St → Option (Int32 × St)) (h_401 : ∀ (x0 : Nat) (x1 : Int32) (x2 : Int32) (x3 : Int32)  (st : St), WW X res NN 401 [(0, .ref (x_b X + x0)), (1, .int x1), (2, .int x2), (3, .int x3)] [] st (k_401 x0 x1 x2 x3 st)) (x0 : Nat) (x1 : Int32) (x2 : Int32) (x3 : Int32)  (st : St) : WW X res NN 401 [(0, .ref (x_b X + x0)), (1, .int x1), (2, .int x2), (3, .int x3)] [] st (b_X12_rules_401_b fu k_401 x0 x1 x2 x3 st) := by
  have hX := B.1
  have hL := B.2.1
  unfold b_X12_rules_401_b
  refine ww_iload_n hX 3 rfl dX12_rules_401 rfl ?_
  refine ww_iload_n hX 1 rfl dX12_rules_402 rfl ?_
  refine ww_icmp_ge (tgt := 464) hX dX12_rules_403 (by decide) ?_ ?_
  · refine ww_iconst (v := 0) hX rfl dX12_rules_464 ?_
    refine ww_istore_n (lv' := [(3, .int 0), (0, .ref (x_b X + x0)), (1, .int x1), (2, .int x2)]) hX hL dX12_rules_465 rfl (by decide) rfl ?_
    exact ww_sub [1, 2, 3, 0] rfl (t_X12_rules_466 B fu fu x0 x1 x2 0  st)
  · refine ww_aload_n hX 0 rfl dX12_rules_406 rfl ?_
    refine ww_getR hX f_X12_250 (Or.inr ⟨_, rfl⟩) dX12_rules_407 ?_
    refine ww_bdR (fun o10 => ?_)
    refine ww_iload_n hX 3 rfl dX12_rules_410 rfl ?_
    refine ww_aload_n hX 0 rfl dX12_rules_411 rfl ?_
    refine ww_getR hX f_X12_265 (Or.inr ⟨_, rfl⟩) dX12_rules_412 ?_
    refine ww_bdR (fun o11 => ?_)
    refine ww_iload_n hX 3 rfl dX12_rules_415 rfl ?_
    refine ww_ialdc hX k_iald dX12_rules_416 ?_
    refine ww_pc (b := 417) rfl ?_
    refine ww_iastc hX k_iast dX12_rules_417 ?_
    refine ww_bds (fun s12 => ?_)
    refine ww_aload_n hX 0 rfl dX12_rules_418 rfl ?_
    refine ww_getR hX f_X12_250 (Or.inr ⟨_, rfl⟩) dX12_rules_419 ?_
    refine ww_bdR (fun o13 => ?_)
    refine ww_iload_n hX 3 rfl dX12_rules_422 rfl ?_
    refine ww_iconst (v := 1) hX rfl dX12_rules_423 ?_
    refine ww_iadd hX dX12_rules_424 ?_
    refine ww_aload_n hX 0 rfl dX12_rules_425 rfl ?_
    refine ww_getR hX f_X12_265 (Or.inr ⟨_, rfl⟩) dX12_rules_426 ?_
    refine ww_bdR (fun o14 => ?_)
    refine ww_pc (b := 429) rfl ?_
    refine ww_iload_n hX 3 rfl dX12_rules_429 rfl ?_
    refine ww_iconst (v := 1) hX rfl dX12_rules_430 ?_
    refine ww_iadd hX dX12_rules_431 ?_
    refine ww_ialdc hX k_iald dX12_rules_432 ?_
    refine ww_iastc hX k_iast dX12_rules_433 ?_
    refine ww_bds (fun s15 => ?_)
    refine ww_aload_n hX 0 rfl dX12_rules_434 rfl ?_
    refine ww_getR hX f_X12_253 (Or.inr ⟨_, rfl⟩) dX12_rules_435 ?_
    refine ww_bdR (fun o16 => ?_)
    refine ww_iload_n hX 3 rfl dX12_rules_438 rfl ?_
    refine ww_pc (b := 439) rfl ?_
    refine ww_aload_n hX 0 rfl dX12_rules_439 rfl ?_
    refine ww_getR hX f_X12_268 (Or.inr ⟨_, rfl⟩) dX12_rules_440 ?_
    refine ww_bdR (fun o17 => ?_)
    refine ww_iload_n hX 3 rfl dX12_rules_443 rfl ?_
    refine ww_ialdc hX k_iald dX12_rules_444 ?_
    refine ww_iastc hX k_iast dX12_rules_445 ?_
    refine ww_bds (fun s18 => ?_)
    refine ww_aload_n hX 0 rfl dX12_rules_446 rfl ?_
    refine ww_getR hX f_X12_256 (Or.inr ⟨_, rfl⟩) dX12_rules_447 ?_
    refine ww_bdR (fun o19 => ?_)
    refine ww_iload_n hX 3 rfl dX12_rules_450 rfl ?_
    refine ww_pc (b := 451) rfl ?_
    refine ww_aload_n hX 0 rfl dX12_rules_451 rfl ?_
    refine ww_getR hX f_X12_271 (Or.inr ⟨_, rfl⟩) dX12_rules_452 ?_
    refine ww_bdR (fun o20 => ?_)
    refine ww_iload_n hX 3 rfl dX12_rules_455 rfl ?_
    refine ww_ialdc hX k_iald dX12_rules_456 ?_
    refine ww_iastc hX k_iast dX12_rules_457 ?_
    refine ww_bds (fun s21 => ?_)
    refine ww_iincb (lv' := fun v22 => [(3, .int v22), (0, .ref (x_b X + x0)), (1, .int x1), (2, .int x2)]) (c := 1) hX hL 3 rfl dX12_rules_458 rfl (by decide) (fun _ => rfl) (fun v22 => ?_)
    refine ww_goto (tgt := 401) hX dX12_rules_461 (by decide) ?_
    exact ww_sub [1, 2, 3, 0] rfl (h_401 x0 x1 x2 v22  s21)
def b_X12_rules_401 (fu : Nat) : Nat → Nat → Int32 → Int32 → Int32 → St → Option (Int32 × St)
  | 0, _, _, _, _, _ => none
  | i + 1, x0, x1, x2, x3, st => b_X12_rules_401_b fu (b_X12_rules_401 fu i) x0 x1 x2 x3 st
theorem t_X12_rules_401 {X : CX} {res : Int32 × St} (B : BI X cX12_rules RX12 7 8 NN (some .int) res) (fu : Nat) : ∀ (i : Nat) (x0 : Nat) (x1 : Int32) (x2 : Int32) (x3 : Int32)  (st : St), WW X res NN 401 [(0, .ref (x_b X + x0)), (1, .int x1), (2, .int x2), (3, .int x3)] [] st (b_X12_rules_401 fu i x0 x1 x2 x3 st) := by
  intro i
  induction i with
  | zero => intro x0 x1 x2 x3 st; exact ww_none
  | succ i ih => intro x0 x1 x2 x3 st; exact t_X12_rules_401_b B fu (b_X12_rules_401 fu i) ih x0 x1 x2 x3 st
def b_X12_rules_379 (fu : Nat) (x0 : Nat) (x1 : Int32) (x2 : Int32)  (st : St) : Option (Int32 × St) :=
  ck ((kd x0).1 = 12) <|
  if (gI st x0 6) = 0 then (
  ck ((kd x0).1 = 12) <|
  bd (sI st x0 94 x1) fun s2 =>
  b_X12_rules_401 fu fu x0 x1 x2 0  s2)
  else (
  ck ((kd x0).1 = 12) <|
  some (((-10)) - (gI st x0 7), st))
set_option maxHeartbeats 4000000 in
set_option maxRecDepth 100000 in
theorem t_X12_rules_379 {X : CX} {res : Int32 × St} (B : BI X cX12_rules RX12 7 8 NN (some .int) res) (fu : Nat) (x0 : Nat) (x1 : Int32) (x2 : Int32)  (st : St) : WW X res NN 379 [(0, .ref (x_b X + x0)), (1, .int x1), (2, .int x2)] [] st (b_X12_rules_379 fu x0 x1 x2 st) := by
  have hX := B.1
  have hL := B.2.1
  unfold b_X12_rules_379
  refine ww_aload_n hX 0 rfl dX12_rules_379 rfl ?_
  refine ww_getI hX f_X12_384 (Or.inl rfl) dX12_rules_380 ?_
  refine ww_if_eq (tgt := 394) hX dX12_rules_383 (by decide) ?_ ?_
  · refine ww_aload_n hX 0 rfl dX12_rules_394 rfl ?_
    refine ww_iload_n hX 1 rfl dX12_rules_395 rfl ?_
    refine ww_putI hX f_X12_594 rfl dX12_rules_396 ?_
    refine ww_bds (fun s2 => ?_)
    refine ww_iconst (v := 0) hX rfl dX12_rules_399 ?_
    refine ww_istore_n (lv' := [(3, .int 0), (0, .ref (x_b X + x0)), (1, .int x1), (2, .int x2)]) hX hL dX12_rules_400 rfl (by decide) rfl ?_
    exact ww_sub [1, 2, 3, 0] rfl (t_X12_rules_401 B fu fu x0 x1 x2 0  s2)
  · refine ww_bipush (v := (-10)) hX rfl dX12_rules_386 ?_
    refine ww_aload_n hX 0 rfl dX12_rules_388 rfl ?_
    refine ww_getI hX f_X12_387 (Or.inl rfl) dX12_rules_389 ?_
    refine ww_isub hX dX12_rules_392 ?_
    exact ww_iret B dX12_rules_393
def b_X12_rules_366 (fu : Nat) (k_8 : Nat → Int32 → Int32 → St → Option (Int32 × St)) (x0 : Nat) (x1 : Int32) (x2 : Int32) (x4 : Int32)  (st : St) : Option (Int32 × St) :=
  ck (¬ gR st x0 101 = 0) <|
  ck ((kd x0).1 = 12) <|
  bd (gR st x0 101) fun o46 =>
  ck ((kd o46).1 = 100 ∧ inb (x4 + 1) (kd o46).2) <|
  bd (sI st o46 (ix (x4 + 1)) x2) fun s47 =>
  k_8 x0 x1 x2  s47
set_option maxHeartbeats 4000000 in
set_option maxRecDepth 100000 in
theorem t_X12_rules_366 {X : CX} {res : Int32 × St} (B : BI X cX12_rules RX12 7 8 NN (some .int) res) (fu : Nat) (k_8 : Nat → Int32 → Int32 → St → Option (Int32 × St)) (h_8 : ∀ (x0 : Nat) (x1 : Int32) (x2 : Int32)  (st : St), WW X res NN 8 [(0, .ref (x_b X + x0)), (1, .int x1), (2, .int x2)] [] st (k_8 x0 x1 x2 st)) (x0 : Nat) (x1 : Int32) (x2 : Int32) (x4 : Int32)  (st : St) : WW X res NN 366 [(0, .ref (x_b X + x0)), (1, .int x1), (2, .int x2), (4, .int x4)] [] st (b_X12_rules_366 fu k_8 x0 x1 x2 x4 st) := by
  have hX := B.1
  have hL := B.2.1
  unfold b_X12_rules_366
  refine ww_aload_n hX 0 rfl dX12_rules_366 rfl ?_
  refine ww_getR hX f_X12_265 (Or.inr ⟨_, rfl⟩) dX12_rules_367 ?_
  refine ww_bdR (fun o46 => ?_)
  refine ww_iload hX 3 rfl dX12_rules_370 ?_
  refine ww_iconst (v := 1) hX rfl dX12_rules_372 ?_
  refine ww_iadd hX dX12_rules_373 ?_
  refine ww_iload_n hX 2 rfl dX12_rules_374 rfl ?_
  refine ww_iastc hX k_iast dX12_rules_375 ?_
  refine ww_bds (fun s47 => ?_)
  refine ww_pc (b := 376) rfl ?_
  refine ww_goto (tgt := 8) hX dX12_rules_376 (by decide) ?_
  exact ww_sub [0, 1, 2] rfl (h_8 x0 x1 x2  s47)
def b_X12_rules_345 (fu : Nat) (k_8 : Nat → Int32 → Int32 → St → Option (Int32 × St)) (x0 : Nat) (x1 : Int32) (x2 : Int32) (x3 : Int32) (x4 : Int32)  (st : St) : Option (Int32 × St) :=
  ck ((kd x0).1 = 12) <|
  cv (f_X12_needSign fu x0 59 st) fun s44 =>
  bd (x1 + 1) fun v45 =>
  if v45 = 21 then (
  ck ((kd x0).1 = 12) <|
  cv (f_X12_tell fu x0 2 x3 s44) fun s48 =>
  b_X12_rules_366 fu k_8 x0 v45 x2 x4  s48)
  else (
  b_X12_rules_366 fu k_8 x0 v45 x2 x4  s44)
set_option maxHeartbeats 4000000 in
set_option maxRecDepth 100000 in
theorem t_X12_rules_345 {X : CX} {res : Int32 × St} (B : BI X cX12_rules RX12 7 8 NN (some .int) res) (fu : Nat) (k_8 : Nat → Int32 → Int32 → St → Option (Int32 × St)) (h_8 : ∀ (x0 : Nat) (x1 : Int32) (x2 : Int32)  (st : St), WW X res NN 8 [(0, .ref (x_b X + x0)), (1, .int x1), (2, .int x2)] [] st (k_8 x0 x1 x2 st)) (x0 : Nat) (x1 : Int32) (x2 : Int32) (x3 : Int32) (x4 : Int32)  (st : St) : WW X res NN 345 [(0, .ref (x_b X + x0)), (1, .int x1), (2, .int x2), (3, .int x3), (4, .int x4)] [] st (b_X12_rules_345 fu k_8 x0 x1 x2 x3 x4 st) := by
  have hX := B.1
  have hL := B.2.1
  unfold b_X12_rules_345
  refine ww_aload_n hX 0 rfl dX12_rules_345 rfl ?_
  refine ww_bipush (v := 59) hX rfl dX12_rules_346 ?_
  refine ww_callVV (As := [.int 59]) (rest := []) (o := x0) hX (Rk.of B.2.2.1 B.2.2.2.1 (by decide) (by decide)) g_X12_452 g_X12_452.in (fun _ => c_X12_needSign (x_G X) (x_l X) fu x0 59 st) rfl rfl (Nat.le_of_ble_eq_true rfl) dX12_rules_348 (fun s44 => ?_)
  refine ww_iincb (lv' := fun v45 => [(1, .int v45), (0, .ref (x_b X + x0)), (2, .int x2), (3, .int x3), (4, .int x4)]) (c := 1) hX hL 1 rfl dX12_rules_351 rfl (by decide) (fun _ => rfl) (fun v45 => ?_)
  refine ww_iload_n hX 0 rfl dX12_rules_354 rfl ?_
  refine ww_bipush (v := 21) hX rfl dX12_rules_355 ?_
  refine ww_icmp_ne (tgt := 366) hX dX12_rules_357 (by decide) ?_ ?_
  · exact ww_sub [1, 0, 2, 4] rfl (t_X12_rules_366 B fu k_8 h_8 x0 v45 x2 x4  s44)
  · refine ww_aload_n hX 1 rfl dX12_rules_360 rfl ?_
    refine ww_iconst (v := 2) hX rfl dX12_rules_361 ?_
    refine ww_iload_n hX 3 rfl dX12_rules_362 rfl ?_
    refine ww_callVV (As := [.int 2, .int x3]) (rest := []) (o := x0) hX (Rk.of B.2.2.1 B.2.2.2.1 (by decide) (by decide)) g_X12_394 g_X12_394.in (fun _ => c_X12_tell (x_G X) (x_l X) fu x0 2 x3 s44) rfl rfl (Nat.le_of_ble_eq_true rfl) dX12_rules_363 (fun s48 => ?_)
    exact ww_sub [1, 0, 2, 4] rfl (t_X12_rules_366 B fu k_8 h_8 x0 v45 x2 x4  s48)
def b_X12_rules_330 (fu : Nat) (k_8 : Nat → Int32 → Int32 → St → Option (Int32 × St)) (x0 : Nat) (x1 : Int32) (x2 : Int32) (x3 : Int32) (x4 : Int32)  (st : St) : Option (Int32 × St) :=
  ck (¬ gR st x0 103 = 0) <|
  ck ((kd x0).1 = 12) <|
  bd (gR st x0 103) fun o40 =>
  ck ((kd x0).1 = 12) <|
  ca (f_X12_number fu x0 0 99999 st) fun r41 s42 =>
  ck ((kd o40).1 = 100 ∧ inb x4 (kd o40).2) <|
  bd (sI s42 o40 (ix x4) r41) fun s43 =>
  b_X12_rules_345 fu k_8 x0 x1 x2 x3 x4  s43
set_option maxHeartbeats 4000000 in
set_option maxRecDepth 100000 in
theorem t_X12_rules_330 {X : CX} {res : Int32 × St} (B : BI X cX12_rules RX12 7 8 NN (some .int) res) (fu : Nat) (k_8 : Nat → Int32 → Int32 → St → Option (Int32 × St)) (h_8 : ∀ (x0 : Nat) (x1 : Int32) (x2 : Int32)  (st : St), WW X res NN 8 [(0, .ref (x_b X + x0)), (1, .int x1), (2, .int x2)] [] st (k_8 x0 x1 x2 st)) (x0 : Nat) (x1 : Int32) (x2 : Int32) (x3 : Int32) (x4 : Int32)  (st : St) : WW X res NN 330 [(0, .ref (x_b X + x0)), (1, .int x1), (2, .int x2), (3, .int x3), (4, .int x4)] [] st (b_X12_rules_330 fu k_8 x0 x1 x2 x3 x4 st) := by
  have hX := B.1
  have hL := B.2.1
  unfold b_X12_rules_330
  refine ww_aload_n hX 0 rfl dX12_rules_330 rfl ?_
  refine ww_getR hX f_X12_271 (Or.inr ⟨_, rfl⟩) dX12_rules_331 ?_
  refine ww_bdR (fun o40 => ?_)
  refine ww_iload hX 4 rfl dX12_rules_334 ?_
  refine ww_aload_n hX 0 rfl dX12_rules_336 rfl ?_
  refine ww_iconst (v := 0) hX rfl dX12_rules_337 ?_
  refine ww_ldcw (v := 99999) hX k_X12_478 dX12_rules_338 ?_
  refine ww_callVI (As := [.int 0, .int 99999]) (rest := [.int x4, .ref (x_b X + o40)]) (o := x0) hX (Rk.of B.2.2.1 B.2.2.2.1 (by decide) (by decide)) g_X12_415 g_X12_415.in (fun _ => c_X12_number (x_G X) (x_l X) fu x0 0 99999 st) rfl rfl (Nat.le_of_ble_eq_true rfl) dX12_rules_341 (fun r41 s42 => ?_)
  refine ww_pc (b := 344) rfl ?_
  refine ww_iastc hX k_iast dX12_rules_344 ?_
  refine ww_bds (fun s43 => ?_)
  exact t_X12_rules_345 B fu k_8 h_8 x0 x1 x2 x3 x4  s43
def b_X12_rules_315 (fu : Nat) (k_8 : Nat → Int32 → Int32 → St → Option (Int32 × St)) (x0 : Nat) (x1 : Int32) (x2 : Int32) (x3 : Int32) (x4 : Int32) (y0 : Nat) (y1 : Int32) (y2 : Int32) (st : St) : Option (Int32 × St) :=
  ck ((kd y0).1 = 100 ∧ inb y1 (kd y0).2) <|
  bd (sI st y0 (ix y1) y2) fun s38 =>
  ck (¬ gR s38 x0 102 = 0) <|
  ck ((kd x0).1 = 12) <|
  bd (gR s38 x0 102) fun o39 =>
  ck ((kd o39).1 = 100 ∧ inb x4 (kd o39).2) <|
  if (gI s38 o39 (ix x4)) = 0 then (
  ck ((kd x0).1 = 12) <|
  cv (f_X12_wrong fu x0 s38) fun s49 =>
  b_X12_rules_330 fu k_8 x0 x1 x2 x3 x4  s49)
  else (
  b_X12_rules_330 fu k_8 x0 x1 x2 x3 x4  s38)
set_option maxHeartbeats 4000000 in
set_option maxRecDepth 100000 in
theorem t_X12_rules_315 {X : CX} {res : Int32 × St} (B : BI X cX12_rules RX12 7 8 NN (some .int) res) (fu : Nat) (k_8 : Nat → Int32 → Int32 → St → Option (Int32 × St)) (h_8 : ∀ (x0 : Nat) (x1 : Int32) (x2 : Int32)  (st : St), WW X res NN 8 [(0, .ref (x_b X + x0)), (1, .int x1), (2, .int x2)] [] st (k_8 x0 x1 x2 st)) (x0 : Nat) (x1 : Int32) (x2 : Int32) (x3 : Int32) (x4 : Int32) (y0 : Nat) (y1 : Int32) (y2 : Int32) (st : St) : WW X res NN 315 [(0, .ref (x_b X + x0)), (1, .int x1), (2, .int x2), (3, .int x3), (4, .int x4)] [.int y2, .int y1, .ref (x_b X + y0)] st (b_X12_rules_315 fu k_8 x0 x1 x2 x3 x4 y0 y1 y2 st) := by
  have hX := B.1
  have hL := B.2.1
  unfold b_X12_rules_315
  refine ww_iastc hX k_iast dX12_rules_315 ?_
  refine ww_bds (fun s38 => ?_)
  refine ww_aload_n hX 0 rfl dX12_rules_316 rfl ?_
  refine ww_getR hX f_X12_268 (Or.inr ⟨_, rfl⟩) dX12_rules_317 ?_
  refine ww_bdR (fun o39 => ?_)
  refine ww_iload hX 4 rfl dX12_rules_320 ?_
  refine ww_ialdc hX k_iald dX12_rules_322 ?_
  refine ww_if_ne (tgt := 330) hX dX12_rules_323 (by decide) ?_ ?_
  · exact t_X12_rules_330 B fu k_8 h_8 x0 x1 x2 x3 x4  s38
  · refine ww_aload_n hX 0 rfl dX12_rules_326 rfl ?_
    refine ww_callVV (As := []) (rest := []) (o := x0) hX (Rk.of B.2.2.1 B.2.2.2.1 (by decide) (by decide)) g_X12_409 g_X12_409.in (fun _ => c_X12_wrong (x_G X) (x_l X) fu x0 s38) rfl rfl (Nat.le_of_ble_eq_true rfl) dX12_rules_327 (fun s49 => ?_)
    exact t_X12_rules_330 B fu k_8 h_8 x0 x1 x2 x3 x4  s49
def b_X12_rules_224 (fu : Nat) (k_8 : Nat → Int32 → Int32 → St → Option (Int32 × St)) (x0 : Nat) (x1 : Int32) (x2 : Int32) (x3 : Int32) (x4 : Int32)  (st : St) : Option (Int32 × St) :=
  ck ((kd x0).1 = 12) <|
  cv (f_X12_needSign fu x0 58 st) fun s28 =>
  ck ((kd x0).1 = 12) <|
  ca (f_X12_takeSign fu x0 37 s28) fun r29 s30 =>
  if r29 = 0 then (
  ck (¬ gR s30 x0 102 = 0) <|
  ck ((kd x0).1 = 12) <|
  bd (gR s30 x0 102) fun o31 =>
  ck ((kd x0).1 = 12) <|
  ca (f_X12_takeSign fu x0 45 s30) fun r32 s33 =>
  if r32 = 0 then (
  ck ((kd x0).1 = 12) <|
  ca (f_X12_takeSign fu x0 43 s33) fun r34 s35 =>
  if r34 = 0 then (
  ck ((kd x0).1 = 12) <|
  ca (f_X12_takeSign fu x0 64 s35) fun r36 s37 =>
  if r36 = 0 then (
  b_X12_rules_315 fu k_8 x0 x1 x2 x3 x4 o31 x4 0 s37)
  else (
  b_X12_rules_315 fu k_8 x0 x1 x2 x3 x4 o31 x4 64 s37))
  else (
  b_X12_rules_315 fu k_8 x0 x1 x2 x3 x4 o31 x4 43 s35))
  else (
  b_X12_rules_315 fu k_8 x0 x1 x2 x3 x4 o31 x4 45 s33))
  else (
  ck (¬ gR s30 x0 102 = 0) <|
  ck ((kd x0).1 = 12) <|
  bd (gR s30 x0 102) fun o50 =>
  ck ((kd o50).1 = 100 ∧ inb x4 (kd o50).2) <|
  bd (sI s30 o50 (ix x4) 37) fun s51 =>
  ck (¬ gR s51 x0 103 = 0) <|
  ck ((kd x0).1 = 12) <|
  bd (gR s51 x0 103) fun o52 =>
  ck ((kd x0).1 = 12) <|
  ca (f_X12_number fu x0 0 200 s51) fun r53 s54 =>
  ck ((kd o52).1 = 100 ∧ inb x4 (kd o52).2) <|
  bd (sI s54 o52 (ix x4) r53) fun s55 =>
  b_X12_rules_345 fu k_8 x0 x1 x2 x3 x4  s55)
set_option maxHeartbeats 4000000 in
set_option maxRecDepth 100000 in
theorem t_X12_rules_224 {X : CX} {res : Int32 × St} (B : BI X cX12_rules RX12 7 8 NN (some .int) res) (fu : Nat) (k_8 : Nat → Int32 → Int32 → St → Option (Int32 × St)) (h_8 : ∀ (x0 : Nat) (x1 : Int32) (x2 : Int32)  (st : St), WW X res NN 8 [(0, .ref (x_b X + x0)), (1, .int x1), (2, .int x2)] [] st (k_8 x0 x1 x2 st)) (x0 : Nat) (x1 : Int32) (x2 : Int32) (x3 : Int32) (x4 : Int32)  (st : St) : WW X res NN 224 [(0, .ref (x_b X + x0)), (1, .int x1), (2, .int x2), (3, .int x3), (4, .int x4)] [] st (b_X12_rules_224 fu k_8 x0 x1 x2 x3 x4 st) := by
  have hX := B.1
  have hL := B.2.1
  unfold b_X12_rules_224
  refine ww_aload_n hX 0 rfl dX12_rules_224 rfl ?_
  refine ww_bipush (v := 58) hX rfl dX12_rules_225 ?_
  refine ww_callVV (As := [.int 58]) (rest := []) (o := x0) hX (Rk.of B.2.2.1 B.2.2.2.1 (by decide) (by decide)) g_X12_452 g_X12_452.in (fun _ => c_X12_needSign (x_G X) (x_l X) fu x0 58 st) rfl rfl (Nat.le_of_ble_eq_true rfl) dX12_rules_227 (fun s28 => ?_)
  refine ww_aload_n hX 0 rfl dX12_rules_230 rfl ?_
  refine ww_bipush (v := 37) hX rfl dX12_rules_231 ?_
  refine ww_callVI (As := [.int 37]) (rest := []) (o := x0) hX (Rk.of B.2.2.1 B.2.2.2.1 (by decide) (by decide)) g_X12_412 g_X12_412.in (fun _ => c_X12_takeSign (x_G X) (x_l X) fu x0 37 s28) rfl rfl (Nat.le_of_ble_eq_true rfl) dX12_rules_233 (fun r29 s30 => ?_)
  refine ww_if_eq (tgt := 266) hX dX12_rules_236 (by decide) ?_ ?_
  · refine ww_aload_n hX 0 rfl dX12_rules_266 rfl ?_
    refine ww_getR hX f_X12_268 (Or.inr ⟨_, rfl⟩) dX12_rules_267 ?_
    refine ww_bdR (fun o31 => ?_)
    refine ww_iload hX 4 rfl dX12_rules_270 ?_
    refine ww_aload_n hX 0 rfl dX12_rules_272 rfl ?_
    refine ww_bipush (v := 45) hX rfl dX12_rules_273 ?_
    refine ww_callVI (As := [.int 45]) (rest := [.int x4, .ref (x_b X + o31)]) (o := x0) hX (Rk.of B.2.2.1 B.2.2.2.1 (by decide) (by decide)) g_X12_412 g_X12_412.in (fun _ => c_X12_takeSign (x_G X) (x_l X) fu x0 45 s30) rfl rfl (Nat.le_of_ble_eq_true rfl) dX12_rules_275 (fun r32 s33 => ?_)
    refine ww_if_eq (tgt := 286) hX dX12_rules_278 (by decide) ?_ ?_
    · refine ww_aload_n hX 0 rfl dX12_rules_286 rfl ?_
      refine ww_bipush (v := 43) hX rfl dX12_rules_287 ?_
      refine ww_callVI (As := [.int 43]) (rest := [.int x4, .ref (x_b X + o31)]) (o := x0) hX (Rk.of B.2.2.1 B.2.2.2.1 (by decide) (by decide)) g_X12_412 g_X12_412.in (fun _ => c_X12_takeSign (x_G X) (x_l X) fu x0 43 s33) rfl rfl (Nat.le_of_ble_eq_true rfl) dX12_rules_289 (fun r34 s35 => ?_)
      refine ww_if_eq (tgt := 300) hX dX12_rules_292 (by decide) ?_ ?_
      · refine ww_aload_n hX 0 rfl dX12_rules_300 rfl ?_
        refine ww_bipush (v := 64) hX rfl dX12_rules_301 ?_
        refine ww_callVI (As := [.int 64]) (rest := [.int x4, .ref (x_b X + o31)]) (o := x0) hX (Rk.of B.2.2.1 B.2.2.2.1 (by decide) (by decide)) g_X12_412 g_X12_412.in (fun _ => c_X12_takeSign (x_G X) (x_l X) fu x0 64 s35) rfl rfl (Nat.le_of_ble_eq_true rfl) dX12_rules_303 (fun r36 s37 => ?_)
        refine ww_if_eq (tgt := 314) hX dX12_rules_306 (by decide) ?_ ?_
        · refine ww_iconst (v := 0) hX rfl dX12_rules_314 ?_
          exact t_X12_rules_315 B fu k_8 h_8 x0 x1 x2 x3 x4 o31 x4 0 s37
        · refine ww_bipush (v := 64) hX rfl dX12_rules_309 ?_
          refine ww_goto (tgt := 315) hX dX12_rules_311 (by decide) ?_
          exact t_X12_rules_315 B fu k_8 h_8 x0 x1 x2 x3 x4 o31 x4 64 s37
      · refine ww_bipush (v := 43) hX rfl dX12_rules_295 ?_
        refine ww_goto (tgt := 315) hX dX12_rules_297 (by decide) ?_
        exact t_X12_rules_315 B fu k_8 h_8 x0 x1 x2 x3 x4 o31 x4 43 s35
    · refine ww_bipush (v := 45) hX rfl dX12_rules_281 ?_
      refine ww_goto (tgt := 315) hX dX12_rules_283 (by decide) ?_
      exact t_X12_rules_315 B fu k_8 h_8 x0 x1 x2 x3 x4 o31 x4 45 s33
  · refine ww_aload_n hX 0 rfl dX12_rules_239 rfl ?_
    refine ww_getR hX f_X12_268 (Or.inr ⟨_, rfl⟩) dX12_rules_240 ?_
    refine ww_bdR (fun o50 => ?_)
    refine ww_iload hX 4 rfl dX12_rules_243 ?_
    refine ww_bipush (v := 37) hX rfl dX12_rules_245 ?_
    refine ww_iastc hX k_iast dX12_rules_247 ?_
    refine ww_bds (fun s51 => ?_)
    refine ww_aload_n hX 0 rfl dX12_rules_248 rfl ?_
    refine ww_getR hX f_X12_271 (Or.inr ⟨_, rfl⟩) dX12_rules_249 ?_
    refine ww_bdR (fun o52 => ?_)
    refine ww_pc (b := 252) rfl ?_
    refine ww_iload hX 4 rfl dX12_rules_252 ?_
    refine ww_aload_n hX 0 rfl dX12_rules_254 rfl ?_
    refine ww_iconst (v := 0) hX rfl dX12_rules_255 ?_
    refine ww_sipush (v := 200) hX rfl dX12_rules_256 ?_
    refine ww_callVI (As := [.int 0, .int 200]) (rest := [.int x4, .ref (x_b X + o52)]) (o := x0) hX (Rk.of B.2.2.1 B.2.2.2.1 (by decide) (by decide)) g_X12_415 g_X12_415.in (fun _ => c_X12_number (x_G X) (x_l X) fu x0 0 200 s51) rfl rfl (Nat.le_of_ble_eq_true rfl) dX12_rules_259 (fun r53 s54 => ?_)
    refine ww_iastc hX k_iast dX12_rules_262 ?_
    refine ww_bds (fun s55 => ?_)
    refine ww_goto (tgt := 345) hX dX12_rules_263 (by decide) ?_
    exact t_X12_rules_345 B fu k_8 h_8 x0 x1 x2 x3 x4  s55
def b_X12_rules_209 (fu : Nat) (k_8 : Nat → Int32 → Int32 → St → Option (Int32 × St)) (k_62 : Nat → Int32 → Int32 → Int32 → Int32 → Int32 → St → Option (Int32 × St)) (x0 : Nat) (x1 : Int32) (x2 : Int32) (x3 : Int32) (x4 : Int32) (y0 : Nat) (y1 : Int32) (y2 : Int32) (st : St) : Option (Int32 × St) :=
  ck ((kd y0).1 = 100 ∧ inb y1 (kd y0).2) <|
  bd (sI st y0 (ix y1) y2) fun s69 =>
  bd (x2 + 1) fun v70 =>
  ck ((kd x0).1 = 12) <|
  ca (f_X12_takeSign fu x0 44 s69) fun r71 s72 =>
  k_62 x0 x1 v70 x3 x4 r71  s72
set_option maxHeartbeats 4000000 in
set_option maxRecDepth 100000 in
theorem t_X12_rules_209 {X : CX} {res : Int32 × St} (B : BI X cX12_rules RX12 7 8 NN (some .int) res) (fu : Nat) (k_8 : Nat → Int32 → Int32 → St → Option (Int32 × St)) (k_62 : Nat → Int32 → Int32 → Int32 → Int32 → Int32 → St → Option (Int32 × St)) (h_8 : ∀ (x0 : Nat) (x1 : Int32) (x2 : Int32)  (st : St), WW X res NN 8 [(0, .ref (x_b X + x0)), (1, .int x1), (2, .int x2)] [] st (k_8 x0 x1 x2 st)) (h_62 : ∀ (x0 : Nat) (x1 : Int32) (x2 : Int32) (x3 : Int32) (x4 : Int32) (x5 : Int32)  (st : St), WW X res NN 62 [(0, .ref (x_b X + x0)), (1, .int x1), (2, .int x2), (3, .int x3), (4, .int x4), (5, .int x5)] [] st (k_62 x0 x1 x2 x3 x4 x5 st)) (x0 : Nat) (x1 : Int32) (x2 : Int32) (x3 : Int32) (x4 : Int32) (y0 : Nat) (y1 : Int32) (y2 : Int32) (st : St) : WW X res NN 209 [(0, .ref (x_b X + x0)), (1, .int x1), (2, .int x2), (3, .int x3), (4, .int x4)] [.int y2, .int y1, .ref (x_b X + y0)] st (b_X12_rules_209 fu k_8 k_62 x0 x1 x2 x3 x4 y0 y1 y2 st) := by
  have hX := B.1
  have hL := B.2.1
  unfold b_X12_rules_209
  refine ww_iastc hX k_iast dX12_rules_209 ?_
  refine ww_bds (fun s69 => ?_)
  refine ww_iincb (lv' := fun v70 => [(2, .int v70), (0, .ref (x_b X + x0)), (1, .int x1), (3, .int x3), (4, .int x4)]) (c := 1) hX hL 2 rfl dX12_rules_210 rfl (by decide) (fun _ => rfl) (fun v70 => ?_)
  refine ww_aload_n hX 1 rfl dX12_rules_213 rfl ?_
  refine ww_bipush (v := 44) hX rfl dX12_rules_214 ?_
  refine ww_callVI (As := [.int 44]) (rest := []) (o := x0) hX (Rk.of B.2.2.1 B.2.2.2.1 (by decide) (by decide)) g_X12_412 g_X12_412.in (fun _ => c_X12_takeSign (x_G X) (x_l X) fu x0 44 s69) rfl rfl (Nat.le_of_ble_eq_true rfl) dX12_rules_216 (fun r71 s72 => ?_)
  refine ww_istore (lv' := [(5, .int r71), (2, .int v70), (0, .ref (x_b X + x0)), (1, .int x1), (3, .int x3), (4, .int x4)]) hX hL dX12_rules_219 (by decide) rfl ?_
  refine ww_goto (tgt := 62) hX dX12_rules_221 (by decide) ?_
  exact ww_sub [2, 3, 1, 4, 5, 0] rfl (h_62 x0 x1 v70 x3 x4 r71  s72)
def b_X12_rules_142 (fu : Nat) (k_8 : Nat → Int32 → Int32 → St → Option (Int32 × St)) (k_62 : Nat → Int32 → Int32 → Int32 → Int32 → Int32 → St → Option (Int32 × St)) (x0 : Nat) (x1 : Int32) (x2 : Int32) (x3 : Int32) (x4 : Int32) (x6 : Int32)  (st : St) : Option (Int32 × St) :=
  ck (¬ gR st x0 104 = 0) <|
  ck ((kd x0).1 = 12) <|
  bd (gR st x0 104) fun o64 =>
  ck ((kd o64).1 = 100 ∧ inb x2 (kd o64).2) <|
  bd (sI st o64 (ix x2) x6) fun s65 =>
  ck (¬ gR s65 x0 105 = 0) <|
  ck ((kd x0).1 = 12) <|
  bd (gR s65 x0 105) fun o66 =>
  if x6 = 1 then (
  ck ((kd x0).1 = 12) <|
  ca (f_X12_number fu x0 1 10 s65) fun r77 s78 =>
  b_X12_rules_209 fu k_8 k_62 x0 x1 x2 x3 x4 o66 x2 r77 s78)
  else (
  if x6 = 2 then (
  ck ((kd x0).1 = 12) <|
  ca (f_X12_number fu x0 0 3 s65) fun r75 s76 =>
  b_X12_rules_209 fu k_8 k_62 x0 x1 x2 x3 x4 o66 x2 r75 s76)
  else (
  if x6 = 3 then (
  ck ((kd x0).1 = 12) <|
  ca (f_X12_number fu x0 0 6 s65) fun r73 s74 =>
  b_X12_rules_209 fu k_8 k_62 x0 x1 x2 x3 x4 o66 x2 r73 s74)
  else (
  ck ((kd x0).1 = 12) <|
  ca (f_X12_number fu x0 0 7 s65) fun r67 s68 =>
  b_X12_rules_209 fu k_8 k_62 x0 x1 x2 x3 x4 o66 x2 r67 s68)))
set_option maxHeartbeats 4000000 in
set_option maxRecDepth 100000 in
theorem t_X12_rules_142 {X : CX} {res : Int32 × St} (B : BI X cX12_rules RX12 7 8 NN (some .int) res) (fu : Nat) (k_8 : Nat → Int32 → Int32 → St → Option (Int32 × St)) (k_62 : Nat → Int32 → Int32 → Int32 → Int32 → Int32 → St → Option (Int32 × St)) (h_8 : ∀ (x0 : Nat) (x1 : Int32) (x2 : Int32)  (st : St), WW X res NN 8 [(0, .ref (x_b X + x0)), (1, .int x1), (2, .int x2)] [] st (k_8 x0 x1 x2 st)) (h_62 : ∀ (x0 : Nat) (x1 : Int32) (x2 : Int32) (x3 : Int32) (x4 : Int32) (x5 : Int32)  (st : St), WW X res NN 62 [(0, .ref (x_b X + x0)), (1, .int x1), (2, .int x2), (3, .int x3), (4, .int x4), (5, .int x5)] [] st (k_62 x0 x1 x2 x3 x4 x5 st)) (x0 : Nat) (x1 : Int32) (x2 : Int32) (x3 : Int32) (x4 : Int32) (x6 : Int32)  (st : St) : WW X res NN 142 [(0, .ref (x_b X + x0)), (1, .int x1), (2, .int x2), (3, .int x3), (4, .int x4), (6, .int x6)] [] st (b_X12_rules_142 fu k_8 k_62 x0 x1 x2 x3 x4 x6 st) := by
  have hX := B.1
  have hL := B.2.1
  unfold b_X12_rules_142
  refine ww_aload_n hX 0 rfl dX12_rules_142 rfl ?_
  refine ww_getR hX f_X12_274 (Or.inr ⟨_, rfl⟩) dX12_rules_143 ?_
  refine ww_bdR (fun o64 => ?_)
  refine ww_iload_n hX 2 rfl dX12_rules_146 rfl ?_
  refine ww_iload hX 5 rfl dX12_rules_147 ?_
  refine ww_iastc hX k_iast dX12_rules_149 ?_
  refine ww_bds (fun s65 => ?_)
  refine ww_aload_n hX 0 rfl dX12_rules_150 rfl ?_
  refine ww_getR hX f_X12_277 (Or.inr ⟨_, rfl⟩) dX12_rules_151 ?_
  refine ww_bdR (fun o66 => ?_)
  refine ww_pc (b := 154) rfl ?_
  refine ww_iload_n hX 2 rfl dX12_rules_154 rfl ?_
  refine ww_iload hX 5 rfl dX12_rules_155 ?_
  refine ww_iconst (v := 1) hX rfl dX12_rules_157 ?_
  refine ww_icmp_ne (tgt := 171) hX dX12_rules_158 (by decide) ?_ ?_
  · refine ww_iload hX 5 rfl dX12_rules_171 ?_
    refine ww_iconst (v := 2) hX rfl dX12_rules_173 ?_
    refine ww_icmp_ne (tgt := 186) hX dX12_rules_174 (by decide) ?_ ?_
    · refine ww_iload hX 5 rfl dX12_rules_186 ?_
      refine ww_iconst (v := 3) hX rfl dX12_rules_188 ?_
      refine ww_icmp_ne (tgt := 202) hX dX12_rules_189 (by decide) ?_ ?_
      · refine ww_aload_n hX 0 rfl dX12_rules_202 rfl ?_
        refine ww_iconst (v := 0) hX rfl dX12_rules_203 ?_
        refine ww_bipush (v := 7) hX rfl dX12_rules_204 ?_
        refine ww_callVI (As := [.int 0, .int 7]) (rest := [.int x2, .ref (x_b X + o66)]) (o := x0) hX (Rk.of B.2.2.1 B.2.2.2.1 (by decide) (by decide)) g_X12_415 g_X12_415.in (fun _ => c_X12_number (x_G X) (x_l X) fu x0 0 7 s65) rfl rfl (Nat.le_of_ble_eq_true rfl) dX12_rules_206 (fun r67 s68 => ?_)
        exact ww_sub [0, 1, 2, 3, 4] rfl (t_X12_rules_209 B fu k_8 k_62 h_8 h_62 x0 x1 x2 x3 x4 o66 x2 r67 s68)
      · refine ww_aload_n hX 0 rfl dX12_rules_192 rfl ?_
        refine ww_iconst (v := 0) hX rfl dX12_rules_193 ?_
        refine ww_bipush (v := 6) hX rfl dX12_rules_194 ?_
        refine ww_callVI (As := [.int 0, .int 6]) (rest := [.int x2, .ref (x_b X + o66)]) (o := x0) hX (Rk.of B.2.2.1 B.2.2.2.1 (by decide) (by decide)) g_X12_415 g_X12_415.in (fun _ => c_X12_number (x_G X) (x_l X) fu x0 0 6 s65) rfl rfl (Nat.le_of_ble_eq_true rfl) dX12_rules_196 (fun r73 s74 => ?_)
        refine ww_goto (tgt := 209) hX dX12_rules_199 (by decide) ?_
        exact ww_sub [0, 1, 2, 3, 4] rfl (t_X12_rules_209 B fu k_8 k_62 h_8 h_62 x0 x1 x2 x3 x4 o66 x2 r73 s74)
    · refine ww_aload_n hX 0 rfl dX12_rules_177 rfl ?_
      refine ww_iconst (v := 0) hX rfl dX12_rules_178 ?_
      refine ww_iconst (v := 3) hX rfl dX12_rules_179 ?_
      refine ww_callVI (As := [.int 0, .int 3]) (rest := [.int x2, .ref (x_b X + o66)]) (o := x0) hX (Rk.of B.2.2.1 B.2.2.2.1 (by decide) (by decide)) g_X12_415 g_X12_415.in (fun _ => c_X12_number (x_G X) (x_l X) fu x0 0 3 s65) rfl rfl (Nat.le_of_ble_eq_true rfl) dX12_rules_180 (fun r75 s76 => ?_)
      refine ww_goto (tgt := 209) hX dX12_rules_183 (by decide) ?_
      exact ww_sub [0, 1, 2, 3, 4] rfl (t_X12_rules_209 B fu k_8 k_62 h_8 h_62 x0 x1 x2 x3 x4 o66 x2 r75 s76)
  · refine ww_aload_n hX 0 rfl dX12_rules_161 rfl ?_
    refine ww_iconst (v := 1) hX rfl dX12_rules_162 ?_
    refine ww_bipush (v := 10) hX rfl dX12_rules_163 ?_
    refine ww_callVI (As := [.int 1, .int 10]) (rest := [.int x2, .ref (x_b X + o66)]) (o := x0) hX (Rk.of B.2.2.1 B.2.2.2.1 (by decide) (by decide)) g_X12_415 g_X12_415.in (fun _ => c_X12_number (x_G X) (x_l X) fu x0 1 10 s65) rfl rfl (Nat.le_of_ble_eq_true rfl) dX12_rules_165 (fun r77 s78 => ?_)
    refine ww_goto (tgt := 209) hX dX12_rules_168 (by decide) ?_
    exact ww_sub [0, 1, 2, 3, 4] rfl (t_X12_rules_209 B fu k_8 k_62 h_8 h_62 x0 x1 x2 x3 x4 o66 x2 r77 s78)
def b_X12_rules_131 (fu : Nat) (k_8 : Nat → Int32 → Int32 → St → Option (Int32 × St)) (k_62 : Nat → Int32 → Int32 → Int32 → Int32 → Int32 → St → Option (Int32 × St)) (x0 : Nat) (x1 : Int32) (x2 : Int32) (x3 : Int32) (x4 : Int32) (y0 : Int32) (st : St) : Option (Int32 × St) :=
  if y0 = 0 then (
  ck ((kd x0).1 = 12) <|
  cv (f_X12_wrong fu x0 st) fun s79 =>
  b_X12_rules_142 fu k_8 k_62 x0 x1 x2 x3 x4 y0  s79)
  else (
  b_X12_rules_142 fu k_8 k_62 x0 x1 x2 x3 x4 y0  st)
set_option maxHeartbeats 4000000 in
set_option maxRecDepth 100000 in
theorem t_X12_rules_131 {X : CX} {res : Int32 × St} (B : BI X cX12_rules RX12 7 8 NN (some .int) res) (fu : Nat) (k_8 : Nat → Int32 → Int32 → St → Option (Int32 × St)) (k_62 : Nat → Int32 → Int32 → Int32 → Int32 → Int32 → St → Option (Int32 × St)) (h_8 : ∀ (x0 : Nat) (x1 : Int32) (x2 : Int32)  (st : St), WW X res NN 8 [(0, .ref (x_b X + x0)), (1, .int x1), (2, .int x2)] [] st (k_8 x0 x1 x2 st)) (h_62 : ∀ (x0 : Nat) (x1 : Int32) (x2 : Int32) (x3 : Int32) (x4 : Int32) (x5 : Int32)  (st : St), WW X res NN 62 [(0, .ref (x_b X + x0)), (1, .int x1), (2, .int x2), (3, .int x3), (4, .int x4), (5, .int x5)] [] st (k_62 x0 x1 x2 x3 x4 x5 st)) (x0 : Nat) (x1 : Int32) (x2 : Int32) (x3 : Int32) (x4 : Int32) (y0 : Int32) (st : St) : WW X res NN 131 [(0, .ref (x_b X + x0)), (1, .int x1), (2, .int x2), (3, .int x3), (4, .int x4)] [.int y0] st (b_X12_rules_131 fu k_8 k_62 x0 x1 x2 x3 x4 y0 st) := by
  have hX := B.1
  have hL := B.2.1
  unfold b_X12_rules_131
  refine ww_istore (lv' := [(6, .int y0), (0, .ref (x_b X + x0)), (1, .int x1), (2, .int x2), (3, .int x3), (4, .int x4)]) hX hL dX12_rules_131 (by decide) rfl ?_
  refine ww_iload hX 0 rfl dX12_rules_133 ?_
  refine ww_if_ne (tgt := 142) hX dX12_rules_135 (by decide) ?_ ?_
  · exact ww_sub [1, 2, 3, 4, 5, 0] rfl (t_X12_rules_142 B fu k_8 k_62 h_8 h_62 x0 x1 x2 x3 x4 y0  st)
  · refine ww_aload_n hX 1 rfl dX12_rules_138 rfl ?_
    refine ww_callVV (As := []) (rest := []) (o := x0) hX (Rk.of B.2.2.1 B.2.2.2.1 (by decide) (by decide)) g_X12_409 g_X12_409.in (fun _ => c_X12_wrong (x_G X) (x_l X) fu x0 st) rfl rfl (Nat.le_of_ble_eq_true rfl) dX12_rules_139 (fun s79 => ?_)
    exact ww_sub [1, 2, 3, 4, 5, 0] rfl (t_X12_rules_142 B fu k_8 k_62 h_8 h_62 x0 x1 x2 x3 x4 y0  s79)
def b_X12_rules_62_b (fu : Nat) (k_8 : Nat → Int32 → Int32 → St → Option (Int32 × St)) (k_62 : Nat → Int32 → Int32 → Int32 → Int32 → Int32 → St → Option (Int32 × St)) (x0 : Nat) (x1 : Int32) (x2 : Int32) (x3 : Int32) (x4 : Int32) (x5 : Int32)  (st : St) : Option (Int32 × St) :=
  if x5 = 0 then (
  b_X12_rules_224 fu k_8 x0 x1 x2 x3 x4  st)
  else (
  ck ((kd x0).1 = 12) <|
  if (gI st x0 8) = 0 then (
  ck ((kd x0).1 = 12) <|
  ca (f_X12_takeWord fu x0 18 st) fun r56 s57 =>
  if r56 = 0 then (
  ck ((kd x0).1 = 12) <|
  ca (f_X12_takeWord fu x0 19 s57) fun r58 s59 =>
  if r58 = 0 then (
  ck ((kd x0).1 = 12) <|
  ca (f_X12_takeWord fu x0 20 s59) fun r60 s61 =>
  if r60 = 0 then (
  ck ((kd x0).1 = 12) <|
  ca (f_X12_takeWord fu x0 21 s61) fun r62 s63 =>
  if r62 = 0 then (
  b_X12_rules_131 fu k_8 k_62 x0 x1 x2 x3 x4 0 s63)
  else (
  b_X12_rules_131 fu k_8 k_62 x0 x1 x2 x3 x4 4 s63))
  else (
  b_X12_rules_131 fu k_8 k_62 x0 x1 x2 x3 x4 3 s61))
  else (
  b_X12_rules_131 fu k_8 k_62 x0 x1 x2 x3 x4 2 s59))
  else (
  b_X12_rules_131 fu k_8 k_62 x0 x1 x2 x3 x4 1 s57))
  else (
  b_X12_rules_224 fu k_8 x0 x1 x2 x3 x4  st))
set_option maxHeartbeats 4000000 in
set_option maxRecDepth 100000 in
theorem t_X12_rules_62_b {X : CX} {res : Int32 × St} (B : BI X cX12_rules RX12 7 8 NN (some .int) res) (fu : Nat) (k_8 : Nat → Int32 → Int32 → St → Option (Int32 × St)) (k_62 : Nat → Int32 → Int32 → Int32 → Int32 → Int32 → St → Option (Int32 × St)) (h_8 : ∀ (x0 : Nat) (x1 : Int32) (x2 : Int32)  (st : St), WW X res NN 8 [(0, .ref (x_b X + x0)), (1, .int x1), (2, .int x2)] [] st (k_8 x0 x1 x2 st)) (h_62 : ∀ (x0 : Nat) (x1 : Int32) (x2 : Int32) (x3 : Int32) (x4 : Int32) (x5 : Int32)  (st : St), WW X res NN 62 [(0, .ref (x_b X + x0)), (1, .int x1), (2, .int x2), (3, .int x3), (4, .int x4), (5, .int x5)] [] st (k_62 x0 x1 x2 x3 x4 x5 st)) (x0 : Nat) (x1 : Int32) (x2 : Int32) (x3 : Int32) (x4 : Int32) (x5 : Int32)  (st : St) : WW X res NN 62 [(0, .ref (x_b X + x0)), (1, .int x1), (2, .int x2), (3, .int x3), (4, .int x4), (5, .int x5)] [] st (b_X12_rules_62_b fu k_8 k_62 x0 x1 x2 x3 x4 x5 st) := by
  have hX := B.1
  have hL := B.2.1
  unfold b_X12_rules_62_b
  refine ww_iload hX 5 rfl dX12_rules_62 ?_
  refine ww_if_eq (tgt := 224) hX dX12_rules_64 (by decide) ?_ ?_
  · exact ww_sub [0, 1, 2, 3, 4] rfl (t_X12_rules_224 B fu k_8 h_8 x0 x1 x2 x3 x4  st)
  · refine ww_aload_n hX 0 rfl dX12_rules_67 rfl ?_
    refine ww_getI hX f_X12_390 (Or.inr rfl) dX12_rules_68 ?_
    refine ww_if_ne (tgt := 224) hX dX12_rules_71 (by decide) ?_ ?_
    · exact ww_sub [0, 1, 2, 3, 4] rfl (t_X12_rules_224 B fu k_8 h_8 x0 x1 x2 x3 x4  st)
    · refine ww_aload_n hX 0 rfl dX12_rules_74 rfl ?_
      refine ww_ldcwS (q := 42) hX rfl dX12_rules_75 ?_
      refine ww_callVI (As := [.ref ((x_K X).1 18)]) (rest := []) (o := x0) hX (Rk.of B.2.2.1 B.2.2.2.1 (by decide) (by decide)) g_X12_406 g_X12_406.in (fun _ => c_X12_takeWord (x_G X) (x_l X) fu x0 18 st) rfl rfl (Nat.le_of_ble_eq_true rfl) dX12_rules_78 (fun r56 s57 => ?_)
      refine ww_if_eq (tgt := 88) hX dX12_rules_81 (by decide) ?_ ?_
      · refine ww_aload_n hX 0 rfl dX12_rules_88 rfl ?_
        refine ww_ldcwS (q := 43) hX rfl dX12_rules_89 ?_
        refine ww_callVI (As := [.ref ((x_K X).1 19)]) (rest := []) (o := x0) hX (Rk.of B.2.2.1 B.2.2.2.1 (by decide) (by decide)) g_X12_406 g_X12_406.in (fun _ => c_X12_takeWord (x_G X) (x_l X) fu x0 19 s57) rfl rfl (Nat.le_of_ble_eq_true rfl) dX12_rules_92 (fun r58 s59 => ?_)
        refine ww_if_eq (tgt := 102) hX dX12_rules_95 (by decide) ?_ ?_
        · refine ww_aload_n hX 0 rfl dX12_rules_102 rfl ?_
          refine ww_ldcwS (q := 44) hX rfl dX12_rules_103 ?_
          refine ww_callVI (As := [.ref ((x_K X).1 20)]) (rest := []) (o := x0) hX (Rk.of B.2.2.1 B.2.2.2.1 (by decide) (by decide)) g_X12_406 g_X12_406.in (fun _ => c_X12_takeWord (x_G X) (x_l X) fu x0 20 s59) rfl rfl (Nat.le_of_ble_eq_true rfl) dX12_rules_106 (fun r60 s61 => ?_)
          refine ww_if_eq (tgt := 116) hX dX12_rules_109 (by decide) ?_ ?_
          · refine ww_aload_n hX 0 rfl dX12_rules_116 rfl ?_
            refine ww_ldcwS (q := 45) hX rfl dX12_rules_117 ?_
            refine ww_callVI (As := [.ref ((x_K X).1 21)]) (rest := []) (o := x0) hX (Rk.of B.2.2.1 B.2.2.2.1 (by decide) (by decide)) g_X12_406 g_X12_406.in (fun _ => c_X12_takeWord (x_G X) (x_l X) fu x0 21 s61) rfl rfl (Nat.le_of_ble_eq_true rfl) dX12_rules_120 (fun r62 s63 => ?_)
            refine ww_if_eq (tgt := 130) hX dX12_rules_123 (by decide) ?_ ?_
            · refine ww_iconst (v := 0) hX rfl dX12_rules_130 ?_
              exact ww_sub [0, 1, 2, 3, 4] rfl (t_X12_rules_131 B fu k_8 k_62 h_8 h_62 x0 x1 x2 x3 x4 0 s63)
            · refine ww_iconst (v := 4) hX rfl dX12_rules_126 ?_
              refine ww_goto (tgt := 131) hX dX12_rules_127 (by decide) ?_
              exact ww_sub [0, 1, 2, 3, 4] rfl (t_X12_rules_131 B fu k_8 k_62 h_8 h_62 x0 x1 x2 x3 x4 4 s63)
          · refine ww_iconst (v := 3) hX rfl dX12_rules_112 ?_
            refine ww_goto (tgt := 131) hX dX12_rules_113 (by decide) ?_
            exact ww_sub [0, 1, 2, 3, 4] rfl (t_X12_rules_131 B fu k_8 k_62 h_8 h_62 x0 x1 x2 x3 x4 3 s61)
        · refine ww_iconst (v := 2) hX rfl dX12_rules_98 ?_
          refine ww_goto (tgt := 131) hX dX12_rules_99 (by decide) ?_
          exact ww_sub [0, 1, 2, 3, 4] rfl (t_X12_rules_131 B fu k_8 k_62 h_8 h_62 x0 x1 x2 x3 x4 2 s59)
      · refine ww_iconst (v := 1) hX rfl dX12_rules_84 ?_
        refine ww_goto (tgt := 131) hX dX12_rules_85 (by decide) ?_
        exact ww_sub [0, 1, 2, 3, 4] rfl (t_X12_rules_131 B fu k_8 k_62 h_8 h_62 x0 x1 x2 x3 x4 1 s57)
def b_X12_rules_62 (fu : Nat) (k_8 : Nat → Int32 → Int32 → St → Option (Int32 × St)) : Nat → Nat → Int32 → Int32 → Int32 → Int32 → Int32 → St → Option (Int32 × St)
  | 0, _, _, _, _, _, _, _ => none
  | i + 1, x0, x1, x2, x3, x4, x5, st => b_X12_rules_62_b fu k_8 (b_X12_rules_62 fu k_8 i) x0 x1 x2 x3 x4 x5 st
theorem t_X12_rules_62 {X : CX} {res : Int32 × St} (B : BI X cX12_rules RX12 7 8 NN (some .int) res) (fu : Nat) (k_8 : Nat → Int32 → Int32 → St → Option (Int32 × St)) (h_8 : ∀ (x0 : Nat) (x1 : Int32) (x2 : Int32)  (st : St), WW X res NN 8 [(0, .ref (x_b X + x0)), (1, .int x1), (2, .int x2)] [] st (k_8 x0 x1 x2 st)) : ∀ (i : Nat) (x0 : Nat) (x1 : Int32) (x2 : Int32) (x3 : Int32) (x4 : Int32) (x5 : Int32)  (st : St), WW X res NN 62 [(0, .ref (x_b X + x0)), (1, .int x1), (2, .int x2), (3, .int x3), (4, .int x4), (5, .int x5)] [] st (b_X12_rules_62 fu k_8 i x0 x1 x2 x3 x4 x5 st) := by
  intro i
  induction i with
  | zero => intro x0 x1 x2 x3 x4 x5 st; exact ww_none
  | succ i ih => intro x0 x1 x2 x3 x4 x5 st; exact t_X12_rules_62_b B fu k_8 (b_X12_rules_62 fu k_8 i) h_8 ih x0 x1 x2 x3 x4 x5 st
def b_X12_rules_49 (fu : Nat) (k_8 : Nat → Int32 → Int32 → St → Option (Int32 × St)) (x0 : Nat) (x1 : Int32) (x2 : Int32) (x3 : Int32) (y0 : Int32) (st : St) : Option (Int32 × St) :=
  ck (¬ gR st x0 101 = 0) <|
  ck ((kd x0).1 = 12) <|
  bd (gR st x0 101) fun o26 =>
  ck ((kd o26).1 = 100 ∧ inb y0 (kd o26).2) <|
  bd (sI st o26 (ix y0) x2) fun s27 =>
  b_X12_rules_62 fu k_8 fu x0 x1 x2 x3 y0 1  s27
set_option maxHeartbeats 4000000 in
set_option maxRecDepth 100000 in
theorem t_X12_rules_49 {X : CX} {res : Int32 × St} (B : BI X cX12_rules RX12 7 8 NN (some .int) res) (fu : Nat) (k_8 : Nat → Int32 → Int32 → St → Option (Int32 × St)) (h_8 : ∀ (x0 : Nat) (x1 : Int32) (x2 : Int32)  (st : St), WW X res NN 8 [(0, .ref (x_b X + x0)), (1, .int x1), (2, .int x2)] [] st (k_8 x0 x1 x2 st)) (x0 : Nat) (x1 : Int32) (x2 : Int32) (x3 : Int32) (y0 : Int32) (st : St) : WW X res NN 49 [(0, .ref (x_b X + x0)), (1, .int x1), (2, .int x2), (3, .int x3)] [.int y0] st (b_X12_rules_49 fu k_8 x0 x1 x2 x3 y0 st) := by
  have hX := B.1
  have hL := B.2.1
  unfold b_X12_rules_49
  refine ww_istore (lv' := [(4, .int y0), (0, .ref (x_b X + x0)), (1, .int x1), (2, .int x2), (3, .int x3)]) hX hL dX12_rules_49 (by decide) rfl ?_
  refine ww_aload_n hX 1 rfl dX12_rules_51 rfl ?_
  refine ww_getR hX f_X12_265 (Or.inr ⟨_, rfl⟩) dX12_rules_52 ?_
  refine ww_bdR (fun o26 => ?_)
  refine ww_iload hX 0 rfl dX12_rules_55 ?_
  refine ww_iload_n hX 3 rfl dX12_rules_57 rfl ?_
  refine ww_iastc hX k_iast dX12_rules_58 ?_
  refine ww_bds (fun s27 => ?_)
  refine ww_iconst (v := 1) hX rfl dX12_rules_59 ?_
  refine ww_pc (b := 60) rfl ?_
  refine ww_istore (lv' := [(5, .int 1), (4, .int y0), (0, .ref (x_b X + x0)), (1, .int x1), (2, .int x2), (3, .int x3)]) hX hL dX12_rules_60 (by decide) rfl ?_
  exact ww_sub [2, 3, 4, 5, 1, 0] rfl (t_X12_rules_62 B fu k_8 h_8 fu x0 x1 x2 x3 y0 1  s27)
def b_X12_rules_8_b (fu : Nat) (k_8 : Nat → Int32 → Int32 → St → Option (Int32 × St)) (x0 : Nat) (x1 : Int32) (x2 : Int32)  (st : St) : Option (Int32 × St) :=
  ck ((kd x0).1 = 12) <|
  if (gI st x0 8) = 0 then (
  ck (¬ gR st x0 2 = 0) <|
  ck ((kd x0).1 = 12) <|
  bd (gR st x0 2) fun o23 =>
  ck ((kd x0).1 = 12) <|
  ck ((kd o23).1 = 100 ∧ inb (gI st x0 5) (kd o23).2) <|
  if (gI st o23 (ix (gI st x0 5))) = 0 then (
  b_X12_rules_379 fu x0 x1 x2  st)
  else (
  ck (¬ gR st x0 4 = 0) <|
  ck ((kd x0).1 = 12) <|
  bd (gR st x0 4) fun o24 =>
  ck ((kd x0).1 = 12) <|
  ck ((kd o24).1 = 100 ∧ inb (gI st x0 5) (kd o24).2) <|
  bd (gI st o24 (ix (gI st x0 5))) fun v25 =>
  if 20 ≤ x1 then (
  b_X12_rules_49 fu k_8 x0 x1 x2 v25 19 st)
  else (
  b_X12_rules_49 fu k_8 x0 x1 x2 v25 x1 st)))
  else (
  b_X12_rules_379 fu x0 x1 x2  st)
set_option maxHeartbeats 4000000 in
set_option maxRecDepth 100000 in
theorem t_X12_rules_8_b {X : CX} {res : Int32 × St} (B : BI X cX12_rules RX12 7 8 NN (some .int) res) (fu : Nat) (k_8 : Nat → Int32 → Int32 → St → Option (Int32 × St)) (h_8 : ∀ (x0 : Nat) (x1 : Int32) (x2 : Int32)  (st : St), WW X res NN 8 [(0, .ref (x_b X + x0)), (1, .int x1), (2, .int x2)] [] st (k_8 x0 x1 x2 st)) (x0 : Nat) (x1 : Int32) (x2 : Int32)  (st : St) : WW X res NN 8 [(0, .ref (x_b X + x0)), (1, .int x1), (2, .int x2)] [] st (b_X12_rules_8_b fu k_8 x0 x1 x2 st) := by
  have hX := B.1
  have hL := B.2.1
  unfold b_X12_rules_8_b
  refine ww_aload_n hX 0 rfl dX12_rules_8 rfl ?_
  refine ww_getI hX f_X12_390 (Or.inr rfl) dX12_rules_9 ?_
  refine ww_if_ne (tgt := 379) hX dX12_rules_12 (by decide) ?_ ?_
  · exact t_X12_rules_379 B fu x0 x1 x2  st
  · refine ww_aload_n hX 0 rfl dX12_rules_15 rfl ?_
    refine ww_getR hX f_X12_13 (Or.inr ⟨_, rfl⟩) dX12_rules_16 ?_
    refine ww_bdR (fun o23 => ?_)
    refine ww_aload_n hX 0 rfl dX12_rules_19 rfl ?_
    refine ww_getI hX f_X12_381 (Or.inl rfl) dX12_rules_20 ?_
    refine ww_ialdc hX k_iald dX12_rules_23 ?_
    refine ww_if_eq (tgt := 379) hX dX12_rules_24 (by decide) ?_ ?_
    · exact t_X12_rules_379 B fu x0 x1 x2  st
    · refine ww_aload_n hX 0 rfl dX12_rules_27 rfl ?_
      refine ww_getR hX f_X12_21 (Or.inr ⟨_, rfl⟩) dX12_rules_28 ?_
      refine ww_bdR (fun o24 => ?_)
      refine ww_aload_n hX 0 rfl dX12_rules_31 rfl ?_
      refine ww_getI hX f_X12_381 (Or.inl rfl) dX12_rules_32 ?_
      refine ww_ialdc hX k_iald dX12_rules_35 ?_
      refine ww_bdi (fun v25 => ?_)
      refine ww_istore_n (lv' := [(3, .int v25), (0, .ref (x_b X + x0)), (1, .int x1), (2, .int x2)]) hX hL dX12_rules_36 rfl (by decide) rfl ?_
      refine ww_iload_n hX 2 rfl dX12_rules_37 rfl ?_
      refine ww_pc (b := 38) rfl ?_
      refine ww_bipush (v := 20) hX rfl dX12_rules_38 ?_
      refine ww_icmp_ge (tgt := 47) hX dX12_rules_40 (by decide) ?_ ?_
      · refine ww_bipush (v := 19) hX rfl dX12_rules_47 ?_
        exact ww_sub [1, 2, 3, 0] rfl (t_X12_rules_49 B fu k_8 h_8 x0 x1 x2 v25 19 st)
      · refine ww_iload_n hX 2 rfl dX12_rules_43 rfl ?_
        refine ww_goto (tgt := 49) hX dX12_rules_44 (by decide) ?_
        exact ww_sub [1, 2, 3, 0] rfl (t_X12_rules_49 B fu k_8 h_8 x0 x1 x2 v25 x1 st)
def b_X12_rules_8 (fu : Nat) : Nat → Nat → Int32 → Int32 → St → Option (Int32 × St)
  | 0, _, _, _, _ => none
  | i + 1, x0, x1, x2, st => b_X12_rules_8_b fu (b_X12_rules_8 fu i) x0 x1 x2 st
theorem t_X12_rules_8 {X : CX} {res : Int32 × St} (B : BI X cX12_rules RX12 7 8 NN (some .int) res) (fu : Nat) : ∀ (i : Nat) (x0 : Nat) (x1 : Int32) (x2 : Int32)  (st : St), WW X res NN 8 [(0, .ref (x_b X + x0)), (1, .int x1), (2, .int x2)] [] st (b_X12_rules_8 fu i x0 x1 x2 st) := by
  intro i
  induction i with
  | zero => intro x0 x1 x2 st; exact ww_none
  | succ i ih => intro x0 x1 x2 st; exact t_X12_rules_8_b B fu (b_X12_rules_8 fu i) ih x0 x1 x2 st
def f_X12_rules (fu : Nat) (th : Nat) (st : St) : Option (Int32 × St) :=
  ck ((kd th).1 = 12) <|
  cv (f_X12_read fu th st) fun s1 =>
  b_X12_rules_8 fu fu th 0 0  s1
set_option maxHeartbeats 4000000 in
set_option maxRecDepth 100000 in
theorem t_X12_rules {X : CX} {res : Int32 × St} (B : BI X cX12_rules RX12 7 8 NN (some .int) res) (fu : Nat) (th : Nat) (st : St) : WW X res NN 0 [(0, .ref (x_b X + th))] [] st (f_X12_rules fu th st) := by
  have hX := B.1
  have hL := B.2.1
  unfold f_X12_rules
  refine ww_aload_n hX 0 rfl dX12_rules_0 rfl ?_
  refine ww_callVV (As := []) (rest := []) (o := th) hX (Rk.of B.2.2.1 B.2.2.2.1 (by decide) (by decide)) g_X12_426 g_X12_426.in (fun _ => c_X12_read (x_G X) (x_l X) fu th st) rfl rfl (Nat.le_of_ble_eq_true rfl) dX12_rules_1 (fun s1 => ?_)
  refine ww_iconst (v := 0) hX rfl dX12_rules_4 ?_
  refine ww_istore_n (lv' := [(1, .int 0), (0, .ref (x_b X + th))]) hX hL dX12_rules_5 rfl (by decide) rfl ?_
  refine ww_iconst (v := 0) hX rfl dX12_rules_6 ?_
  refine ww_istore_n (lv' := [(2, .int 0), (1, .int 0), (0, .ref (x_b X + th))]) hX hL dX12_rules_7 rfl (by decide) rfl ?_
  exact ww_sub [2, 1, 0] rfl (t_X12_rules_8 B fu fu th 0 0  s1)
theorem c_X12_rules (G : GX) (l : Launch) (fu : Nat) (th : Nat) (st : St) : MI G NN l yX12_rules cX12_rules 7 (some .int) 8 [.ref (G.2.2.1 + th)] st (f_X12_rules fu th st) := mkI (by decide) (Nat.le_of_ble_eq_true rfl) (fun X res hl hG B => by subst hl; subst hG; exact t_X12_rules B fu th st)
/-! StageHouseModel.capped(J)J -/
def b_X12_capped_15 (fu : Nat)  (y0 : Int64) (st : St) : Option (Int64 × St) :=
  some (y0, st)
set_option maxHeartbeats 4000000 in
set_option maxRecDepth 100000 in
theorem t_X12_capped_15 {X : CX} {res : Int64 × St} (B : BL X cX12_capped RX12 2 1 NN (some .long) res) (fu : Nat)  (y0 : Int64) (st : St) : WW X res NN 15 [] [.long y0] st (b_X12_capped_15 fu y0 st) := by
  have hX := B.1
  have hL := B.2.1
  unfold b_X12_capped_15
  exact ww_lret B dX12_capped_15
def f_X12_capped (fu : Nat) (p0 : Int64) (st : St) : Option (Int64 × St) :=
  if (lg_cmp p0 1000000) ≤ 0 then (
  b_X12_capped_15 fu  p0 st)
  else (
  b_X12_capped_15 fu  1000000 st)
set_option maxHeartbeats 4000000 in
set_option maxRecDepth 100000 in
theorem t_X12_capped {X : CX} {res : Int64 × St} (B : BL X cX12_capped RX12 2 1 NN (some .long) res) (fu : Nat) (p0 : Int64) (st : St) : WW X res NN 0 [(0, .long p0)] [] st (f_X12_capped fu p0 st) := by
  have hX := B.1
  have hL := B.2.1
  unfold f_X12_capped
  refine ww_lload_n hX 0 rfl dX12_capped_0 rfl ?_
  refine ww_ldc2 (v := 1000000) hX k_X12_597 dX12_capped_1 ?_
  refine ww_lcmp hX dX12_capped_4 ?_
  refine ww_if_le (tgt := 14) hX dX12_capped_5 (by decide) ?_ ?_
  · refine ww_lload_n hX 0 rfl dX12_capped_14 rfl ?_
    exact ww_sub [] rfl (t_X12_capped_15 B fu  p0 st)
  · refine ww_ldc2 (v := 1000000) hX k_X12_597 dX12_capped_8 ?_
    refine ww_goto (tgt := 15) hX dX12_capped_11 (by decide) ?_
    exact ww_sub [] rfl (t_X12_capped_15 B fu  1000000 st)
theorem c_X12_capped (G : GX) (l : Launch) (fu : Nat) (p0 : Int64) (st : St) : ML G NN l yX12_capped cX12_capped 2 (some .long) 1 [.long p0] st (f_X12_capped fu p0 st) := mkL (by decide) (Nat.le_of_ble_eq_true rfl) (fun X res hl hG B => by subst hl; subst hG; exact t_X12_capped B fu p0 st)
/-! StageHouseModel.priceOf(IIII)J -/
def b_X12_priceOf_250 (fu : Nat) (k_18 : Nat → Int32 → Int32 → Int32 → Int32 → Int64 → Int32 → St → Option (Int64 × St)) (x0 : Nat) (x1 : Int32) (x2 : Int32) (x3 : Int32) (x4 : Int32) (x5 : Int64) (x7 : Int32)  (st : St) : Option (Int64 × St) :=
  bd (x7 + 1) fun v7 =>
  k_18 x0 x1 x2 x3 x4 x5 v7  st
set_option maxHeartbeats 4000000 in
set_option maxRecDepth 100000 in
theorem t_X12_priceOf_250 {X : CX} {res : Int64 × St} (B : BL X cX12_priceOf RX12 12 2 NN (some .long) res) (fu : Nat) (k_18 : Nat → Int32 → Int32 → Int32 → Int32 → Int64 → Int32 → St → Option (Int64 × St)) (h_18 : ∀ (x0 : Nat) (x1 : Int32) (x2 : Int32) (x3 : Int32) (x4 : Int32) (x5 : Int64) (x7 : Int32)  (st : St), WW X res NN 18 [(0, .ref (x_b X + x0)), (1, .int x1), (2, .int x2), (3, .int x3), (4, .int x4), (5, .long x5), (7, .int x7)] [] st (k_18 x0 x1 x2 x3 x4 x5 x7 st)) (x0 : Nat) (x1 : Int32) (x2 : Int32) (x3 : Int32) (x4 : Int32) (x5 : Int64) (x7 : Int32)  (st : St) : WW X res NN 250 [(0, .ref (x_b X + x0)), (1, .int x1), (2, .int x2), (3, .int x3), (4, .int x4), (5, .long x5), (7, .int x7)] [] st (b_X12_priceOf_250 fu k_18 x0 x1 x2 x3 x4 x5 x7 st) := by
  have hX := B.1
  have hL := B.2.1
  unfold b_X12_priceOf_250
  refine ww_iincb (lv' := fun v7 => [(7, .int v7), (0, .ref (x_b X + x0)), (1, .int x1), (2, .int x2), (3, .int x3), (4, .int x4), (5, .long x5)]) (c := 1) hX hL 6 rfl dX12_priceOf_250 rfl (by decide) (fun _ => rfl) (fun v7 => ?_)
  refine ww_goto (tgt := 18) hX dX12_priceOf_253 (by decide) ?_
  exact ww_sub [1, 2, 3, 4, 5, 6, 0] rfl (h_18 x0 x1 x2 x3 x4 x5 v7  st)
def b_X12_priceOf_245 (fu : Nat) (k_18 : Nat → Int32 → Int32 → Int32 → Int32 → Int64 → Int32 → St → Option (Int64 × St)) (x0 : Nat) (x1 : Int32) (x2 : Int32) (x3 : Int32) (x4 : Int32) (x7 : Int32) (y0 : Int64) (st : St) : Option (Int64 × St) :=
  ca (f_X12_capped fu y0 st) fun r13 s14 =>
  b_X12_priceOf_250 fu k_18 x0 x1 x2 x3 x4 r13 x7  s14
set_option maxHeartbeats 4000000 in
set_option maxRecDepth 100000 in
theorem t_X12_priceOf_245 {X : CX} {res : Int64 × St} (B : BL X cX12_priceOf RX12 12 2 NN (some .long) res) (fu : Nat) (k_18 : Nat → Int32 → Int32 → Int32 → Int32 → Int64 → Int32 → St → Option (Int64 × St)) (h_18 : ∀ (x0 : Nat) (x1 : Int32) (x2 : Int32) (x3 : Int32) (x4 : Int32) (x5 : Int64) (x7 : Int32)  (st : St), WW X res NN 18 [(0, .ref (x_b X + x0)), (1, .int x1), (2, .int x2), (3, .int x3), (4, .int x4), (5, .long x5), (7, .int x7)] [] st (k_18 x0 x1 x2 x3 x4 x5 x7 st)) (x0 : Nat) (x1 : Int32) (x2 : Int32) (x3 : Int32) (x4 : Int32) (x7 : Int32) (y0 : Int64) (st : St) : WW X res NN 245 [(0, .ref (x_b X + x0)), (1, .int x1), (2, .int x2), (3, .int x3), (4, .int x4), (7, .int x7)] [.long y0] st (b_X12_priceOf_245 fu k_18 x0 x1 x2 x3 x4 x7 y0 st) := by
  have hX := B.1
  have hL := B.2.1
  unfold b_X12_priceOf_245
  refine ww_callSL (As := [.long y0]) (rest := []) hX (Rk.of B.2.2.1 B.2.2.2.1 (by decide) (by decide)) g_X12_599 (c_X12_capped (x_G X) (x_l X) fu y0 st) rfl rfl (Nat.le_of_ble_eq_true rfl) dX12_priceOf_245 (fun r13 s14 => ?_)
  refine ww_lstore (lv' := [(5, .long r13), (0, .ref (x_b X + x0)), (1, .int x1), (2, .int x2), (3, .int x3), (4, .int x4), (7, .int x7)]) hX hL dX12_priceOf_248 (by decide) rfl ?_
  exact ww_sub [1, 2, 3, 4, 5, 0, 6] rfl (t_X12_priceOf_250 B fu k_18 h_18 x0 x1 x2 x3 x4 r13 x7  s14)
def b_X12_priceOf_230 (fu : Nat) (k_18 : Nat → Int32 → Int32 → Int32 → Int32 → Int64 → Int32 → St → Option (Int64 × St)) (x0 : Nat) (x1 : Int32) (x2 : Int32) (x3 : Int32) (x4 : Int32) (x7 : Int32) (y0 : Int64) (st : St) : Option (Int64 × St) :=
  if 0 ≤ (lg_cmp y0 0) then (
  b_X12_priceOf_245 fu k_18 x0 x1 x2 x3 x4 x7 y0 st)
  else (
  b_X12_priceOf_245 fu k_18 x0 x1 x2 x3 x4 x7 0 st)
set_option maxHeartbeats 4000000 in
set_option maxRecDepth 100000 in
theorem t_X12_priceOf_230 {X : CX} {res : Int64 × St} (B : BL X cX12_priceOf RX12 12 2 NN (some .long) res) (fu : Nat) (k_18 : Nat → Int32 → Int32 → Int32 → Int32 → Int64 → Int32 → St → Option (Int64 × St)) (h_18 : ∀ (x0 : Nat) (x1 : Int32) (x2 : Int32) (x3 : Int32) (x4 : Int32) (x5 : Int64) (x7 : Int32)  (st : St), WW X res NN 18 [(0, .ref (x_b X + x0)), (1, .int x1), (2, .int x2), (3, .int x3), (4, .int x4), (5, .long x5), (7, .int x7)] [] st (k_18 x0 x1 x2 x3 x4 x5 x7 st)) (x0 : Nat) (x1 : Int32) (x2 : Int32) (x3 : Int32) (x4 : Int32) (x7 : Int32) (y0 : Int64) (st : St) : WW X res NN 230 [(0, .ref (x_b X + x0)), (1, .int x1), (2, .int x2), (3, .int x3), (4, .int x4), (7, .int x7)] [.long y0] st (b_X12_priceOf_230 fu k_18 x0 x1 x2 x3 x4 x7 y0 st) := by
  have hX := B.1
  have hL := B.2.1
  unfold b_X12_priceOf_230
  refine ww_lstore (lv' := [(5, .long y0), (0, .ref (x_b X + x0)), (1, .int x1), (2, .int x2), (3, .int x3), (4, .int x4), (7, .int x7)]) hX hL dX12_priceOf_230 (by decide) rfl ?_
  refine ww_lload hX 0 rfl dX12_priceOf_232 ?_
  refine ww_lconst (v := 0) hX rfl dX12_priceOf_234 ?_
  refine ww_lcmp hX dX12_priceOf_235 ?_
  refine ww_if_ge (tgt := 243) hX dX12_priceOf_236 (by decide) ?_ ?_
  · refine ww_lload hX 0 rfl dX12_priceOf_243 ?_
    exact ww_sub [1, 2, 3, 4, 5, 6] rfl (t_X12_priceOf_245 B fu k_18 h_18 x0 x1 x2 x3 x4 x7 y0 st)
  · refine ww_lconst (v := 0) hX rfl dX12_priceOf_239 ?_
    refine ww_goto (tgt := 245) hX dX12_priceOf_240 (by decide) ?_
    exact ww_sub [1, 2, 3, 4, 5, 6] rfl (t_X12_priceOf_245 B fu k_18 h_18 x0 x1 x2 x3 x4 x7 0 st)
def b_X12_priceOf_133 (fu : Nat) (k_18 : Nat → Int32 → Int32 → Int32 → Int32 → Int64 → Int32 → St → Option (Int64 × St)) (k_39 : Nat → Int32 → Int32 → Int32 → Int32 → Int64 → Int32 → Int32 → Int32 → St → Option (Int64 × St)) (x0 : Nat) (x1 : Int32) (x2 : Int32) (x3 : Int32) (x4 : Int32) (x5 : Int64) (x7 : Int32) (x9 : Int32) (y0 : Int32) (st : St) : Option (Int64 × St) :=
  bd (x9 + 1) fun v21 =>
  k_39 x0 x1 x2 x3 x4 x5 x7 y0 v21  st
set_option maxHeartbeats 4000000 in
set_option maxRecDepth 100000 in
theorem t_X12_priceOf_133 {X : CX} {res : Int64 × St} (B : BL X cX12_priceOf RX12 12 2 NN (some .long) res) (fu : Nat) (k_18 : Nat → Int32 → Int32 → Int32 → Int32 → Int64 → Int32 → St → Option (Int64 × St)) (k_39 : Nat → Int32 → Int32 → Int32 → Int32 → Int64 → Int32 → Int32 → Int32 → St → Option (Int64 × St)) (h_18 : ∀ (x0 : Nat) (x1 : Int32) (x2 : Int32) (x3 : Int32) (x4 : Int32) (x5 : Int64) (x7 : Int32)  (st : St), WW X res NN 18 [(0, .ref (x_b X + x0)), (1, .int x1), (2, .int x2), (3, .int x3), (4, .int x4), (5, .long x5), (7, .int x7)] [] st (k_18 x0 x1 x2 x3 x4 x5 x7 st)) (h_39 : ∀ (x0 : Nat) (x1 : Int32) (x2 : Int32) (x3 : Int32) (x4 : Int32) (x5 : Int64) (x7 : Int32) (x8 : Int32) (x9 : Int32)  (st : St), WW X res NN 39 [(0, .ref (x_b X + x0)), (1, .int x1), (2, .int x2), (3, .int x3), (4, .int x4), (5, .long x5), (7, .int x7), (8, .int x8), (9, .int x9)] [] st (k_39 x0 x1 x2 x3 x4 x5 x7 x8 x9 st)) (x0 : Nat) (x1 : Int32) (x2 : Int32) (x3 : Int32) (x4 : Int32) (x5 : Int64) (x7 : Int32) (x9 : Int32) (y0 : Int32) (st : St) : WW X res NN 133 [(0, .ref (x_b X + x0)), (1, .int x1), (2, .int x2), (3, .int x3), (4, .int x4), (5, .long x5), (7, .int x7), (9, .int x9)] [.int y0] st (b_X12_priceOf_133 fu k_18 k_39 x0 x1 x2 x3 x4 x5 x7 x9 y0 st) := by
  have hX := B.1
  have hL := B.2.1
  unfold b_X12_priceOf_133
  refine ww_istore (lv' := [(8, .int y0), (0, .ref (x_b X + x0)), (1, .int x1), (2, .int x2), (3, .int x3), (4, .int x4), (5, .long x5), (7, .int x7), (9, .int x9)]) hX hL dX12_priceOf_133 (by decide) rfl ?_
  refine ww_iincb (lv' := fun v21 => [(9, .int v21), (8, .int y0), (0, .ref (x_b X + x0)), (1, .int x1), (2, .int x2), (3, .int x3), (4, .int x4), (5, .long x5), (7, .int x7)]) (c := 1) hX hL 8 rfl dX12_priceOf_135 rfl (by decide) (fun _ => rfl) (fun v21 => ?_)
  refine ww_goto (tgt := 39) hX dX12_priceOf_138 (by decide) ?_
  exact ww_sub [2, 3, 4, 5, 6, 7, 8, 1, 0] rfl (h_39 x0 x1 x2 x3 x4 x5 x7 y0 v21  st)
def b_X12_priceOf_132 (fu : Nat) (k_18 : Nat → Int32 → Int32 → Int32 → Int32 → Int64 → Int32 → St → Option (Int64 × St)) (k_39 : Nat → Int32 → Int32 → Int32 → Int32 → Int64 → Int32 → Int32 → Int32 → St → Option (Int64 × St)) (x0 : Nat) (x1 : Int32) (x2 : Int32) (x3 : Int32) (x4 : Int32) (x5 : Int64) (x7 : Int32) (x9 : Int32)  (st : St) : Option (Int64 × St) :=
  b_X12_priceOf_133 fu k_18 k_39 x0 x1 x2 x3 x4 x5 x7 x9 0 st
set_option maxHeartbeats 4000000 in
set_option maxRecDepth 100000 in
theorem t_X12_priceOf_132 {X : CX} {res : Int64 × St} (B : BL X cX12_priceOf RX12 12 2 NN (some .long) res) (fu : Nat) (k_18 : Nat → Int32 → Int32 → Int32 → Int32 → Int64 → Int32 → St → Option (Int64 × St)) (k_39 : Nat → Int32 → Int32 → Int32 → Int32 → Int64 → Int32 → Int32 → Int32 → St → Option (Int64 × St)) (h_18 : ∀ (x0 : Nat) (x1 : Int32) (x2 : Int32) (x3 : Int32) (x4 : Int32) (x5 : Int64) (x7 : Int32)  (st : St), WW X res NN 18 [(0, .ref (x_b X + x0)), (1, .int x1), (2, .int x2), (3, .int x3), (4, .int x4), (5, .long x5), (7, .int x7)] [] st (k_18 x0 x1 x2 x3 x4 x5 x7 st)) (h_39 : ∀ (x0 : Nat) (x1 : Int32) (x2 : Int32) (x3 : Int32) (x4 : Int32) (x5 : Int64) (x7 : Int32) (x8 : Int32) (x9 : Int32)  (st : St), WW X res NN 39 [(0, .ref (x_b X + x0)), (1, .int x1), (2, .int x2), (3, .int x3), (4, .int x4), (5, .long x5), (7, .int x7), (8, .int x8), (9, .int x9)] [] st (k_39 x0 x1 x2 x3 x4 x5 x7 x8 x9 st)) (x0 : Nat) (x1 : Int32) (x2 : Int32) (x3 : Int32) (x4 : Int32) (x5 : Int64) (x7 : Int32) (x9 : Int32)  (st : St) : WW X res NN 132 [(0, .ref (x_b X + x0)), (1, .int x1), (2, .int x2), (3, .int x3), (4, .int x4), (5, .long x5), (7, .int x7), (9, .int x9)] [] st (b_X12_priceOf_132 fu k_18 k_39 x0 x1 x2 x3 x4 x5 x7 x9 st) := by
  have hX := B.1
  have hL := B.2.1
  unfold b_X12_priceOf_132
  refine ww_iconst (v := 0) hX rfl dX12_priceOf_132 ?_
  exact t_X12_priceOf_133 B fu k_18 k_39 h_18 h_39 x0 x1 x2 x3 x4 x5 x7 x9 0 st
def b_X12_priceOf_128 (fu : Nat) (k_18 : Nat → Int32 → Int32 → Int32 → Int32 → Int64 → Int32 → St → Option (Int64 × St)) (k_39 : Nat → Int32 → Int32 → Int32 → Int32 → Int64 → Int32 → Int32 → Int32 → St → Option (Int64 × St)) (x0 : Nat) (x1 : Int32) (x2 : Int32) (x3 : Int32) (x4 : Int32) (x5 : Int64) (x7 : Int32) (x9 : Int32)  (st : St) : Option (Int64 × St) :=
  b_X12_priceOf_133 fu k_18 k_39 x0 x1 x2 x3 x4 x5 x7 x9 1 st
set_option maxHeartbeats 4000000 in
set_option maxRecDepth 100000 in
theorem t_X12_priceOf_128 {X : CX} {res : Int64 × St} (B : BL X cX12_priceOf RX12 12 2 NN (some .long) res) (fu : Nat) (k_18 : Nat → Int32 → Int32 → Int32 → Int32 → Int64 → Int32 → St → Option (Int64 × St)) (k_39 : Nat → Int32 → Int32 → Int32 → Int32 → Int64 → Int32 → Int32 → Int32 → St → Option (Int64 × St)) (h_18 : ∀ (x0 : Nat) (x1 : Int32) (x2 : Int32) (x3 : Int32) (x4 : Int32) (x5 : Int64) (x7 : Int32)  (st : St), WW X res NN 18 [(0, .ref (x_b X + x0)), (1, .int x1), (2, .int x2), (3, .int x3), (4, .int x4), (5, .long x5), (7, .int x7)] [] st (k_18 x0 x1 x2 x3 x4 x5 x7 st)) (h_39 : ∀ (x0 : Nat) (x1 : Int32) (x2 : Int32) (x3 : Int32) (x4 : Int32) (x5 : Int64) (x7 : Int32) (x8 : Int32) (x9 : Int32)  (st : St), WW X res NN 39 [(0, .ref (x_b X + x0)), (1, .int x1), (2, .int x2), (3, .int x3), (4, .int x4), (5, .long x5), (7, .int x7), (8, .int x8), (9, .int x9)] [] st (k_39 x0 x1 x2 x3 x4 x5 x7 x8 x9 st)) (x0 : Nat) (x1 : Int32) (x2 : Int32) (x3 : Int32) (x4 : Int32) (x5 : Int64) (x7 : Int32) (x9 : Int32)  (st : St) : WW X res NN 128 [(0, .ref (x_b X + x0)), (1, .int x1), (2, .int x2), (3, .int x3), (4, .int x4), (5, .long x5), (7, .int x7), (9, .int x9)] [] st (b_X12_priceOf_128 fu k_18 k_39 x0 x1 x2 x3 x4 x5 x7 x9 st) := by
  have hX := B.1
  have hL := B.2.1
  unfold b_X12_priceOf_128
  refine ww_iconst (v := 1) hX rfl dX12_priceOf_128 ?_
  refine ww_goto (tgt := 133) hX dX12_priceOf_129 (by decide) ?_
  exact t_X12_priceOf_133 B fu k_18 k_39 h_18 h_39 x0 x1 x2 x3 x4 x5 x7 x9 1 st
def b_X12_priceOf_39_b (fu : Nat) (k_18 : Nat → Int32 → Int32 → Int32 → Int32 → Int64 → Int32 → St → Option (Int64 × St)) (k_39 : Nat → Int32 → Int32 → Int32 → Int32 → Int64 → Int32 → Int32 → Int32 → St → Option (Int64 × St)) (x0 : Nat) (x1 : Int32) (x2 : Int32) (x3 : Int32) (x4 : Int32) (x5 : Int64) (x7 : Int32) (x8 : Int32) (x9 : Int32)  (st : St) : Option (Int64 × St) :=
  ck (¬ gR st x0 95 = 0) <|
  ck ((kd x0).1 = 12) <|
  bd (gR st x0 95) fun o6 =>
  ck ((kd o6).1 = 100 ∧ inb (x7 + 1) (kd o6).2) <|
  if (gI st o6 (ix (x7 + 1))) ≤ x9 then (
  if x8 = 0 then (
  b_X12_priceOf_250 fu k_18 x0 x1 x2 x3 x4 x5 x7  st)
  else (
  ck (¬ gR st x0 97 = 0) <|
  ck ((kd x0).1 = 12) <|
  bd (gR st x0 97) fun o8 =>
  ck ((kd o8).1 = 100 ∧ inb x7 (kd o8).2) <|
  bd (gI st o8 (ix x7)) fun v9 =>
  ck (¬ gR st x0 96 = 0) <|
  ck ((kd x0).1 = 12) <|
  bd (gR st x0 96) fun o10 =>
  ck ((kd o10).1 = 100 ∧ inb x7 (kd o10).2) <|
  if (gI st o10 (ix x7)) = 37 then (
  ca (f_X12_nearest fu (x5 * v9.toInt64) 100 st) fun r15 s16 =>
  b_X12_priceOf_230 fu k_18 x0 x1 x2 x3 x4 x7 r15 s16)
  else (
  ck (¬ gR st x0 96 = 0) <|
  ck ((kd x0).1 = 12) <|
  bd (gR st x0 96) fun o11 =>
  ck ((kd o11).1 = 100 ∧ inb x7 (kd o11).2) <|
  if (gI st o11 (ix x7)) = 45 then (
  b_X12_priceOf_230 fu k_18 x0 x1 x2 x3 x4 x7 (x5 - v9.toInt64) st)
  else (
  ck (¬ gR st x0 96 = 0) <|
  ck ((kd x0).1 = 12) <|
  bd (gR st x0 96) fun o12 =>
  ck ((kd o12).1 = 100 ∧ inb x7 (kd o12).2) <|
  if (gI st o12 (ix x7)) = 43 then (
  b_X12_priceOf_230 fu k_18 x0 x1 x2 x3 x4 x7 (x5 + v9.toInt64) st)
  else (
  b_X12_priceOf_230 fu k_18 x0 x1 x2 x3 x4 x7 (v9.toInt64 * x2.toInt64) st)))))
  else (
  ck (¬ gR st x0 99 = 0) <|
  ck ((kd x0).1 = 12) <|
  bd (gR st x0 99) fun o17 =>
  ck ((kd o17).1 = 100 ∧ inb x9 (kd o17).2) <|
  bd (gI st o17 (ix x9)) fun v18 =>
  ck (¬ gR st x0 98 = 0) <|
  ck ((kd x0).1 = 12) <|
  bd (gR st x0 98) fun o19 =>
  ck ((kd o19).1 = 100 ∧ inb x9 (kd o19).2) <|
  bd (gI st o19 (ix x9)) fun v20 =>
  if x8 = 0 then (
  b_X12_priceOf_132 fu k_18 k_39 x0 x1 x2 x3 x4 x5 x7 x9  st)
  else (
  if v20 = 1 then (
  if x2 < v18 then (
  b_X12_priceOf_132 fu k_18 k_39 x0 x1 x2 x3 x4 x5 x7 x9  st)
  else (
  b_X12_priceOf_128 fu k_18 k_39 x0 x1 x2 x3 x4 x5 x7 x9  st))
  else (
  if v20 = 2 then (
  if x3 = v18 then (
  b_X12_priceOf_128 fu k_18 k_39 x0 x1 x2 x3 x4 x5 x7 x9  st)
  else (
  b_X12_priceOf_132 fu k_18 k_39 x0 x1 x2 x3 x4 x5 x7 x9  st))
  else (
  if v20 = 3 then (
  if x4 = v18 then (
  b_X12_priceOf_128 fu k_18 k_39 x0 x1 x2 x3 x4 x5 x7 x9  st)
  else (
  b_X12_priceOf_132 fu k_18 k_39 x0 x1 x2 x3 x4 x5 x7 x9  st))
  else (
  if x1 = v18 then (
  b_X12_priceOf_128 fu k_18 k_39 x0 x1 x2 x3 x4 x5 x7 x9  st)
  else (
  b_X12_priceOf_132 fu k_18 k_39 x0 x1 x2 x3 x4 x5 x7 x9  st))))))
set_option maxHeartbeats 4000000 in
set_option maxRecDepth 100000 in
theorem t_X12_priceOf_39_b {X : CX} {res : Int64 × St} (B : BL X cX12_priceOf RX12 12 2 NN (some .long) res) (fu : Nat) (k_18 : Nat → Int32 → Int32 → Int32 → Int32 → Int64 → Int32 → St → Option (Int64 × St)) (k_39 : Nat → Int32 → Int32 → Int32 → Int32 → Int64 → Int32 → Int32 → Int32 → St → Option (Int64 × St)) (h_18 : ∀ (x0 : Nat) (x1 : Int32) (x2 : Int32) (x3 : Int32) (x4 : Int32) (x5 : Int64) (x7 : Int32)  (st : St), WW X res NN 18 [(0, .ref (x_b X + x0)), (1, .int x1), (2, .int x2), (3, .int x3), (4, .int x4), (5, .long x5), (7, .int x7)] [] st (k_18 x0 x1 x2 x3 x4 x5 x7 st)) (h_39 : ∀ (x0 : Nat) (x1 : Int32) (x2 : Int32) (x3 : Int32) (x4 : Int32) (x5 : Int64) (x7 : Int32) (x8 : Int32) (x9 : Int32)  (st : St), WW X res NN 39 [(0, .ref (x_b X + x0)), (1, .int x1), (2, .int x2), (3, .int x3), (4, .int x4), (5, .long x5), (7, .int x7), (8, .int x8), (9, .int x9)] [] st (k_39 x0 x1 x2 x3 x4 x5 x7 x8 x9 st)) (x0 : Nat) (x1 : Int32) (x2 : Int32) (x3 : Int32) (x4 : Int32) (x5 : Int64) (x7 : Int32) (x8 : Int32) (x9 : Int32)  (st : St) : WW X res NN 39 [(0, .ref (x_b X + x0)), (1, .int x1), (2, .int x2), (3, .int x3), (4, .int x4), (5, .long x5), (7, .int x7), (8, .int x8), (9, .int x9)] [] st (b_X12_priceOf_39_b fu k_18 k_39 x0 x1 x2 x3 x4 x5 x7 x8 x9 st) := by
  have hX := B.1
  have hL := B.2.1
  unfold b_X12_priceOf_39_b
  refine ww_iload hX 8 rfl dX12_priceOf_39 ?_
  refine ww_aload_n hX 0 rfl dX12_priceOf_41 rfl ?_
  refine ww_getR hX f_X12_250 (Or.inr ⟨_, rfl⟩) dX12_priceOf_42 ?_
  refine ww_bdR (fun o6 => ?_)
  refine ww_iload hX 6 rfl dX12_priceOf_45 ?_
  refine ww_iconst (v := 1) hX rfl dX12_priceOf_47 ?_
  refine ww_iadd hX dX12_priceOf_48 ?_
  refine ww_ialdc hX k_iald dX12_priceOf_49 ?_
  refine ww_pc (b := 50) rfl ?_
  refine ww_icmp_ge (tgt := 141) hX dX12_priceOf_50 (by decide) ?_ ?_
  · refine ww_iload hX 7 rfl dX12_priceOf_141 ?_
    refine ww_if_eq (tgt := 250) hX dX12_priceOf_143 (by decide) ?_ ?_
    · exact ww_sub [0, 1, 2, 3, 4, 5, 6] rfl (t_X12_priceOf_250 B fu k_18 h_18 x0 x1 x2 x3 x4 x5 x7  st)
    · refine ww_aload_n hX 0 rfl dX12_priceOf_146 rfl ?_
      refine ww_getR hX f_X12_256 (Or.inr ⟨_, rfl⟩) dX12_priceOf_147 ?_
      refine ww_bdR (fun o8 => ?_)
      refine ww_iload hX 6 rfl dX12_priceOf_150 ?_
      refine ww_ialdc hX k_iald dX12_priceOf_152 ?_
      refine ww_bdi (fun v9 => ?_)
      refine ww_istore (lv' := [(9, .int v9), (0, .ref (x_b X + x0)), (1, .int x1), (2, .int x2), (3, .int x3), (4, .int x4), (5, .long x5), (7, .int x7), (8, .int x8)]) hX hL dX12_priceOf_153 (by decide) rfl ?_
      refine ww_aload_n hX 1 rfl dX12_priceOf_155 rfl ?_
      refine ww_getR hX f_X12_253 (Or.inr ⟨_, rfl⟩) dX12_priceOf_156 ?_
      refine ww_bdR (fun o10 => ?_)
      refine ww_pc (b := 159) rfl ?_
      refine ww_iload hX 7 rfl dX12_priceOf_159 ?_
      refine ww_ialdc hX k_iald dX12_priceOf_161 ?_
      refine ww_bipush (v := 37) hX rfl dX12_priceOf_162 ?_
      refine ww_icmp_ne (tgt := 182) hX dX12_priceOf_164 (by decide) ?_ ?_
      · refine ww_aload_n hX 1 rfl dX12_priceOf_182 rfl ?_
        refine ww_getR hX f_X12_253 (Or.inr ⟨_, rfl⟩) dX12_priceOf_183 ?_
        refine ww_bdR (fun o11 => ?_)
        refine ww_iload hX 7 rfl dX12_priceOf_186 ?_
        refine ww_ialdc hX k_iald dX12_priceOf_188 ?_
        refine ww_bipush (v := 45) hX rfl dX12_priceOf_189 ?_
        refine ww_icmp_ne (tgt := 203) hX dX12_priceOf_191 (by decide) ?_ ?_
        · refine ww_aload_n hX 1 rfl dX12_priceOf_203 rfl ?_
          refine ww_getR hX f_X12_253 (Or.inr ⟨_, rfl⟩) dX12_priceOf_204 ?_
          refine ww_bdR (fun o12 => ?_)
          refine ww_iload hX 7 rfl dX12_priceOf_207 ?_
          refine ww_ialdc hX k_iald dX12_priceOf_209 ?_
          refine ww_bipush (v := 43) hX rfl dX12_priceOf_210 ?_
          refine ww_icmp_ne (tgt := 224) hX dX12_priceOf_212 (by decide) ?_ ?_
          · refine ww_iload hX 0 rfl dX12_priceOf_224 ?_
            refine ww_i2l hX dX12_priceOf_226 ?_
            refine ww_iload_n hX 3 rfl dX12_priceOf_227 rfl ?_
            refine ww_i2l hX dX12_priceOf_228 ?_
            refine ww_lmul hX dX12_priceOf_229 ?_
            exact ww_sub [1, 2, 3, 4, 5, 7] rfl (t_X12_priceOf_230 B fu k_18 h_18 x0 x1 x2 x3 x4 x7 (v9.toInt64 * x2.toInt64) st)
          · refine ww_lload hX 6 rfl dX12_priceOf_215 ?_
            refine ww_iload hX 0 rfl dX12_priceOf_217 ?_
            refine ww_i2l hX dX12_priceOf_219 ?_
            refine ww_ladd hX dX12_priceOf_220 ?_
            refine ww_goto (tgt := 230) hX dX12_priceOf_221 (by decide) ?_
            exact ww_sub [1, 2, 3, 4, 5, 7] rfl (t_X12_priceOf_230 B fu k_18 h_18 x0 x1 x2 x3 x4 x7 (x5 + v9.toInt64) st)
        · refine ww_lload hX 6 rfl dX12_priceOf_194 ?_
          refine ww_iload hX 0 rfl dX12_priceOf_196 ?_
          refine ww_i2l hX dX12_priceOf_198 ?_
          refine ww_lsub hX dX12_priceOf_199 ?_
          refine ww_goto (tgt := 230) hX dX12_priceOf_200 (by decide) ?_
          exact ww_sub [1, 2, 3, 4, 5, 7] rfl (t_X12_priceOf_230 B fu k_18 h_18 x0 x1 x2 x3 x4 x7 (x5 - v9.toInt64) st)
      · refine ww_lload hX 6 rfl dX12_priceOf_167 ?_
        refine ww_iload hX 0 rfl dX12_priceOf_169 ?_
        refine ww_i2l hX dX12_priceOf_171 ?_
        refine ww_lmul hX dX12_priceOf_172 ?_
        refine ww_ldc2 (v := 100) hX k_X12_603 dX12_priceOf_173 ?_
        refine ww_callSL (As := [.long (x5 * v9.toInt64), .long 100]) (rest := []) hX (Rk.of B.2.2.1 B.2.2.2.1 (by decide) (by decide)) g_X12_521 (c_X12_nearest (x_G X) (x_l X) fu (x5 * v9.toInt64) 100 st) rfl rfl (Nat.le_of_ble_eq_true rfl) dX12_priceOf_176 (fun r15 s16 => ?_)
        refine ww_goto (tgt := 230) hX dX12_priceOf_179 (by decide) ?_
        exact ww_sub [1, 2, 3, 4, 5, 7] rfl (t_X12_priceOf_230 B fu k_18 h_18 x0 x1 x2 x3 x4 x7 r15 s16)
  · refine ww_aload_n hX 0 rfl dX12_priceOf_53 rfl ?_
    refine ww_getR hX f_X12_262 (Or.inr ⟨_, rfl⟩) dX12_priceOf_54 ?_
    refine ww_bdR (fun o17 => ?_)
    refine ww_iload hX 8 rfl dX12_priceOf_57 ?_
    refine ww_ialdc hX k_iald dX12_priceOf_59 ?_
    refine ww_bdi (fun v18 => ?_)
    refine ww_istore (lv' := [(10, .int v18), (0, .ref (x_b X + x0)), (1, .int x1), (2, .int x2), (3, .int x3), (4, .int x4), (5, .long x5), (7, .int x7), (8, .int x8), (9, .int x9)]) hX hL dX12_priceOf_60 (by decide) rfl ?_
    refine ww_aload_n hX 1 rfl dX12_priceOf_62 rfl ?_
    refine ww_getR hX f_X12_259 (Or.inr ⟨_, rfl⟩) dX12_priceOf_63 ?_
    refine ww_bdR (fun o19 => ?_)
    refine ww_pc (b := 66) rfl ?_
    refine ww_iload hX 9 rfl dX12_priceOf_66 ?_
    refine ww_ialdc hX k_iald dX12_priceOf_68 ?_
    refine ww_bdi (fun v20 => ?_)
    refine ww_istore (lv' := [(11, .int v20), (10, .int v18), (0, .ref (x_b X + x0)), (1, .int x1), (2, .int x2), (3, .int x3), (4, .int x4), (5, .long x5), (7, .int x7), (8, .int x8), (9, .int x9)]) hX hL dX12_priceOf_69 (by decide) rfl ?_
    refine ww_iload hX 9 rfl dX12_priceOf_71 ?_
    refine ww_if_eq (tgt := 132) hX dX12_priceOf_73 (by decide) ?_ ?_
    · exact ww_sub [2, 3, 4, 5, 6, 7, 8, 10] rfl (t_X12_priceOf_132 B fu k_18 k_39 h_18 h_39 x0 x1 x2 x3 x4 x5 x7 x9  st)
    · refine ww_iload hX 0 rfl dX12_priceOf_76 ?_
      refine ww_iconst (v := 1) hX rfl dX12_priceOf_78 ?_
      refine ww_icmp_ne (tgt := 91) hX dX12_priceOf_79 (by decide) ?_ ?_
      · refine ww_iload hX 0 rfl dX12_priceOf_91 ?_
        refine ww_iconst (v := 2) hX rfl dX12_priceOf_93 ?_
        refine ww_icmp_ne (tgt := 106) hX dX12_priceOf_94 (by decide) ?_ ?_
        · refine ww_iload hX 0 rfl dX12_priceOf_106 ?_
          refine ww_iconst (v := 3) hX rfl dX12_priceOf_108 ?_
          refine ww_icmp_ne (tgt := 122) hX dX12_priceOf_109 (by decide) ?_ ?_
          · refine ww_iload_n hX 3 rfl dX12_priceOf_122 rfl ?_
            refine ww_iload hX 1 rfl dX12_priceOf_123 ?_
            refine ww_icmp_ne (tgt := 132) hX dX12_priceOf_125 (by decide) ?_ ?_
            · exact ww_sub [2, 3, 4, 5, 6, 7, 8, 10] rfl (t_X12_priceOf_132 B fu k_18 k_39 h_18 h_39 x0 x1 x2 x3 x4 x5 x7 x9  st)
            · exact ww_sub [2, 3, 4, 5, 6, 7, 8, 10] rfl (t_X12_priceOf_128 B fu k_18 k_39 h_18 h_39 x0 x1 x2 x3 x4 x5 x7 x9  st)
          · refine ww_iload hX 6 rfl dX12_priceOf_112 ?_
            refine ww_iload hX 1 rfl dX12_priceOf_114 ?_
            refine ww_icmp_ne (tgt := 132) hX dX12_priceOf_116 (by decide) ?_ ?_
            · exact ww_sub [2, 3, 4, 5, 6, 7, 8, 10] rfl (t_X12_priceOf_132 B fu k_18 k_39 h_18 h_39 x0 x1 x2 x3 x4 x5 x7 x9  st)
            · refine ww_goto (tgt := 128) hX dX12_priceOf_119 (by decide) ?_
              exact ww_sub [2, 3, 4, 5, 6, 7, 8, 10] rfl (t_X12_priceOf_128 B fu k_18 k_39 h_18 h_39 x0 x1 x2 x3 x4 x5 x7 x9  st)
        · refine ww_iload_n hX 5 rfl dX12_priceOf_97 rfl ?_
          refine ww_iload hX 1 rfl dX12_priceOf_98 ?_
          refine ww_icmp_ne (tgt := 132) hX dX12_priceOf_100 (by decide) ?_ ?_
          · exact ww_sub [2, 3, 4, 5, 6, 7, 8, 10] rfl (t_X12_priceOf_132 B fu k_18 k_39 h_18 h_39 x0 x1 x2 x3 x4 x5 x7 x9  st)
          · refine ww_goto (tgt := 128) hX dX12_priceOf_103 (by decide) ?_
            exact ww_sub [2, 3, 4, 5, 6, 7, 8, 10] rfl (t_X12_priceOf_128 B fu k_18 k_39 h_18 h_39 x0 x1 x2 x3 x4 x5 x7 x9  st)
      · refine ww_iload_n hX 4 rfl dX12_priceOf_82 rfl ?_
        refine ww_iload hX 1 rfl dX12_priceOf_83 ?_
        refine ww_icmp_lt (tgt := 132) hX dX12_priceOf_85 (by decide) ?_ ?_
        · exact ww_sub [2, 3, 4, 5, 6, 7, 8, 10] rfl (t_X12_priceOf_132 B fu k_18 k_39 h_18 h_39 x0 x1 x2 x3 x4 x5 x7 x9  st)
        · refine ww_goto (tgt := 128) hX dX12_priceOf_88 (by decide) ?_
          exact ww_sub [2, 3, 4, 5, 6, 7, 8, 10] rfl (t_X12_priceOf_128 B fu k_18 k_39 h_18 h_39 x0 x1 x2 x3 x4 x5 x7 x9  st)
def b_X12_priceOf_39 (fu : Nat) (k_18 : Nat → Int32 → Int32 → Int32 → Int32 → Int64 → Int32 → St → Option (Int64 × St)) : Nat → Nat → Int32 → Int32 → Int32 → Int32 → Int64 → Int32 → Int32 → Int32 → St → Option (Int64 × St)
  | 0, _, _, _, _, _, _, _, _, _, _ => none
  | i + 1, x0, x1, x2, x3, x4, x5, x7, x8, x9, st => b_X12_priceOf_39_b fu k_18 (b_X12_priceOf_39 fu k_18 i) x0 x1 x2 x3 x4 x5 x7 x8 x9 st
theorem t_X12_priceOf_39 {X : CX} {res : Int64 × St} (B : BL X cX12_priceOf RX12 12 2 NN (some .long) res) (fu : Nat) (k_18 : Nat → Int32 → Int32 → Int32 → Int32 → Int64 → Int32 → St → Option (Int64 × St)) (h_18 : ∀ (x0 : Nat) (x1 : Int32) (x2 : Int32) (x3 : Int32) (x4 : Int32) (x5 : Int64) (x7 : Int32)  (st : St), WW X res NN 18 [(0, .ref (x_b X + x0)), (1, .int x1), (2, .int x2), (3, .int x3), (4, .int x4), (5, .long x5), (7, .int x7)] [] st (k_18 x0 x1 x2 x3 x4 x5 x7 st)) : ∀ (i : Nat) (x0 : Nat) (x1 : Int32) (x2 : Int32) (x3 : Int32) (x4 : Int32) (x5 : Int64) (x7 : Int32) (x8 : Int32) (x9 : Int32)  (st : St), WW X res NN 39 [(0, .ref (x_b X + x0)), (1, .int x1), (2, .int x2), (3, .int x3), (4, .int x4), (5, .long x5), (7, .int x7), (8, .int x8), (9, .int x9)] [] st (b_X12_priceOf_39 fu k_18 i x0 x1 x2 x3 x4 x5 x7 x8 x9 st) := by
  intro i
  induction i with
  | zero => intro x0 x1 x2 x3 x4 x5 x7 x8 x9 st; exact ww_none
  | succ i ih => intro x0 x1 x2 x3 x4 x5 x7 x8 x9 st; exact t_X12_priceOf_39_b B fu k_18 (b_X12_priceOf_39 fu k_18 i) h_18 ih x0 x1 x2 x3 x4 x5 x7 x8 x9 st
def b_X12_priceOf_18_b (fu : Nat) (k_18 : Nat → Int32 → Int32 → Int32 → Int32 → Int64 → Int32 → St → Option (Int64 × St)) (x0 : Nat) (x1 : Int32) (x2 : Int32) (x3 : Int32) (x4 : Int32) (x5 : Int64) (x7 : Int32)  (st : St) : Option (Int64 × St) :=
  ck ((kd x0).1 = 12) <|
  if (gI st x0 94) ≤ x7 then (
  some (x5, st))
  else (
  ck (¬ gR st x0 95 = 0) <|
  ck ((kd x0).1 = 12) <|
  bd (gR st x0 95) fun o4 =>
  ck ((kd o4).1 = 100 ∧ inb x7 (kd o4).2) <|
  bd (gI st o4 (ix x7)) fun v5 =>
  b_X12_priceOf_39 fu k_18 fu x0 x1 x2 x3 x4 x5 x7 1 v5  st)
set_option maxHeartbeats 4000000 in
set_option maxRecDepth 100000 in
theorem t_X12_priceOf_18_b {X : CX} {res : Int64 × St} (B : BL X cX12_priceOf RX12 12 2 NN (some .long) res) (fu : Nat) (k_18 : Nat → Int32 → Int32 → Int32 → Int32 → Int64 → Int32 → St → Option (Int64 × St)) (h_18 : ∀ (x0 : Nat) (x1 : Int32) (x2 : Int32) (x3 : Int32) (x4 : Int32) (x5 : Int64) (x7 : Int32)  (st : St), WW X res NN 18 [(0, .ref (x_b X + x0)), (1, .int x1), (2, .int x2), (3, .int x3), (4, .int x4), (5, .long x5), (7, .int x7)] [] st (k_18 x0 x1 x2 x3 x4 x5 x7 st)) (x0 : Nat) (x1 : Int32) (x2 : Int32) (x3 : Int32) (x4 : Int32) (x5 : Int64) (x7 : Int32)  (st : St) : WW X res NN 18 [(0, .ref (x_b X + x0)), (1, .int x1), (2, .int x2), (3, .int x3), (4, .int x4), (5, .long x5), (7, .int x7)] [] st (b_X12_priceOf_18_b fu k_18 x0 x1 x2 x3 x4 x5 x7 st) := by
  have hX := B.1
  have hL := B.2.1
  unfold b_X12_priceOf_18_b
  refine ww_iload hX 6 rfl dX12_priceOf_18 ?_
  refine ww_aload_n hX 0 rfl dX12_priceOf_20 rfl ?_
  refine ww_getI hX f_X12_594 (Or.inl rfl) dX12_priceOf_21 ?_
  refine ww_icmp_ge (tgt := 256) hX dX12_priceOf_24 (by decide) ?_ ?_
  · refine ww_lload hX 5 rfl dX12_priceOf_256 ?_
    exact ww_lret B dX12_priceOf_258
  · refine ww_iconst (v := 1) hX rfl dX12_priceOf_27 ?_
    refine ww_istore (lv' := [(8, .int 1), (0, .ref (x_b X + x0)), (1, .int x1), (2, .int x2), (3, .int x3), (4, .int x4), (5, .long x5), (7, .int x7)]) hX hL dX12_priceOf_28 (by decide) rfl ?_
    refine ww_aload_n hX 1 rfl dX12_priceOf_30 rfl ?_
    refine ww_getR hX f_X12_250 (Or.inr ⟨_, rfl⟩) dX12_priceOf_31 ?_
    refine ww_bdR (fun o4 => ?_)
    refine ww_iload hX 7 rfl dX12_priceOf_34 ?_
    refine ww_ialdc hX k_iald dX12_priceOf_36 ?_
    refine ww_bdi (fun v5 => ?_)
    refine ww_istore (lv' := [(9, .int v5), (8, .int 1), (0, .ref (x_b X + x0)), (1, .int x1), (2, .int x2), (3, .int x3), (4, .int x4), (5, .long x5), (7, .int x7)]) hX hL dX12_priceOf_37 (by decide) rfl ?_
    exact ww_sub [2, 3, 4, 5, 6, 7, 8, 1, 0] rfl (t_X12_priceOf_39 B fu k_18 h_18 fu x0 x1 x2 x3 x4 x5 x7 1 v5  st)
def b_X12_priceOf_18 (fu : Nat) : Nat → Nat → Int32 → Int32 → Int32 → Int32 → Int64 → Int32 → St → Option (Int64 × St)
  | 0, _, _, _, _, _, _, _, _ => none
  | i + 1, x0, x1, x2, x3, x4, x5, x7, st => b_X12_priceOf_18_b fu (b_X12_priceOf_18 fu i) x0 x1 x2 x3 x4 x5 x7 st
theorem t_X12_priceOf_18 {X : CX} {res : Int64 × St} (B : BL X cX12_priceOf RX12 12 2 NN (some .long) res) (fu : Nat) : ∀ (i : Nat) (x0 : Nat) (x1 : Int32) (x2 : Int32) (x3 : Int32) (x4 : Int32) (x5 : Int64) (x7 : Int32)  (st : St), WW X res NN 18 [(0, .ref (x_b X + x0)), (1, .int x1), (2, .int x2), (3, .int x3), (4, .int x4), (5, .long x5), (7, .int x7)] [] st (b_X12_priceOf_18 fu i x0 x1 x2 x3 x4 x5 x7 st) := by
  intro i
  induction i with
  | zero => intro x0 x1 x2 x3 x4 x5 x7 st; exact ww_none
  | succ i ih => intro x0 x1 x2 x3 x4 x5 x7 st; exact t_X12_priceOf_18_b B fu (b_X12_priceOf_18 fu i) ih x0 x1 x2 x3 x4 x5 x7 st
def f_X12_priceOf (fu : Nat) (th : Nat) (p1 : Int32) (p2 : Int32) (p3 : Int32) (p4 : Int32) (st : St) : Option (Int64 × St) :=
  ck (¬ gR st th 73 = 0) <|
  ck ((kd th).1 = 12) <|
  bd (gR st th 73) fun o1 =>
  ck ((kd o1).1 = 100 ∧ inb p1 (kd o1).2) <|
  ca (f_X12_capped fu (p2.toInt64 * ((gI st o1 (ix p1)).toInt64)) st) fun r2 s3 =>
  b_X12_priceOf_18 fu fu th p1 p2 p3 p4 r2 0  s3
set_option maxHeartbeats 4000000 in
set_option maxRecDepth 100000 in
theorem t_X12_priceOf {X : CX} {res : Int64 × St} (B : BL X cX12_priceOf RX12 12 2 NN (some .long) res) (fu : Nat) (th : Nat) (p1 : Int32) (p2 : Int32) (p3 : Int32) (p4 : Int32) (st : St) : WW X res NN 0 [(0, .ref (x_b X + th)), (1, .int p1), (2, .int p2), (3, .int p3), (4, .int p4)] [] st (f_X12_priceOf fu th p1 p2 p3 p4 st) := by
  have hX := B.1
  have hL := B.2.1
  unfold f_X12_priceOf
  refine ww_iload_n hX 2 rfl dX12_priceOf_0 rfl ?_
  refine ww_i2l hX dX12_priceOf_1 ?_
  refine ww_aload_n hX 0 rfl dX12_priceOf_2 rfl ?_
  refine ww_getR hX f_X12_193 (Or.inr ⟨_, rfl⟩) dX12_priceOf_3 ?_
  refine ww_bdR (fun o1 => ?_)
  refine ww_iload_n hX 1 rfl dX12_priceOf_6 rfl ?_
  refine ww_ialdc hX k_iald dX12_priceOf_7 ?_
  refine ww_i2l hX dX12_priceOf_8 ?_
  refine ww_pc (b := 9) rfl ?_
  refine ww_lmul hX dX12_priceOf_9 ?_
  refine ww_callSL (As := [.long (p2.toInt64 * ((gI st o1 (ix p1)).toInt64))]) (rest := []) hX (Rk.of B.2.2.1 B.2.2.2.1 (by decide) (by decide)) g_X12_599 (c_X12_capped (x_G X) (x_l X) fu (p2.toInt64 * ((gI st o1 (ix p1)).toInt64)) st) rfl rfl (Nat.le_of_ble_eq_true rfl) dX12_priceOf_10 (fun r2 s3 => ?_)
  refine ww_lstore (lv' := [(5, .long r2), (0, .ref (x_b X + th)), (1, .int p1), (2, .int p2), (3, .int p3), (4, .int p4)]) hX hL dX12_priceOf_13 (by decide) rfl ?_
  refine ww_iconst (v := 0) hX rfl dX12_priceOf_15 ?_
  refine ww_istore (lv' := [(7, .int 0), (5, .long r2), (0, .ref (x_b X + th)), (1, .int p1), (2, .int p2), (3, .int p3), (4, .int p4)]) hX hL dX12_priceOf_16 (by decide) rfl ?_
  exact ww_sub [2, 3, 4, 5, 6, 1, 0] rfl (t_X12_priceOf_18 B fu fu th p1 p2 p3 p4 r2 0  s3)
theorem c_X12_priceOf (G : GX) (l : Launch) (fu : Nat) (th : Nat) (p1 : Int32) (p2 : Int32) (p3 : Int32) (p4 : Int32) (st : St) : ML G NN l yX12_priceOf cX12_priceOf 12 (some .long) 2 [.ref (G.2.2.1 + th), .int p1, .int p2, .int p3, .int p4] st (f_X12_priceOf fu th p1 p2 p3 p4 st) := mkL (by decide) (Nat.le_of_ble_eq_true rfl) (fun X res hl hG B => by subst hl; subst hG; exact t_X12_priceOf B fu th p1 p2 p3 p4 st)
/-! StageHouseModel.section(II)Z -/
def b_X12_section_21 (fu : Nat)   (st : St) : Option (Int32 × St) :=
  ck (isb 0) (some (0, st))
set_option maxHeartbeats 4000000 in
set_option maxRecDepth 100000 in
theorem t_X12_section_21 {X : CX} {res : Int32 × St} (B : BI X cX12_section RX12 3 1 NN (some .boolean) res) (fu : Nat)   (st : St) : WW X res NN 21 [] [] st (b_X12_section_21 fu  st) := by
  have hX := B.1
  have hL := B.2.1
  unfold b_X12_section_21
  refine ww_iconst (v := 0) hX rfl dX12_section_21 ?_
  exact ww_zret B dX12_section_22
def f_X12_section (fu : Nat) (th : Nat) (p1 : Int32) (p2 : Int32) (st : St) : Option (Int32 × St) :=
  if p1 < 0 then (
  b_X12_section_21 fu   st)
  else (
  if 7 < p1 then (
  b_X12_section_21 fu   st)
  else (
  if p2 < 0 then (
  b_X12_section_21 fu   st)
  else (
  if p2 ≤ 99999 then (
  ck (¬ gR st th 73 = 0) <|
  ck ((kd th).1 = 12) <|
  bd (gR st th 73) fun o1 =>
  ck ((kd o1).1 = 100 ∧ inb p1 (kd o1).2) <|
  bd (sI st o1 (ix p1) p2) fun s2 =>
  ck (isb 1) (some (1, s2)))
  else (
  b_X12_section_21 fu   st))))
set_option maxHeartbeats 4000000 in
set_option maxRecDepth 100000 in
theorem t_X12_section {X : CX} {res : Int32 × St} (B : BI X cX12_section RX12 3 1 NN (some .boolean) res) (fu : Nat) (th : Nat) (p1 : Int32) (p2 : Int32) (st : St) : WW X res NN 0 [(0, .ref (x_b X + th)), (1, .int p1), (2, .int p2)] [] st (f_X12_section fu th p1 p2 st) := by
  have hX := B.1
  have hL := B.2.1
  unfold f_X12_section
  refine ww_iload_n hX 1 rfl dX12_section_0 rfl ?_
  refine ww_if_lt (tgt := 21) hX dX12_section_1 (by decide) ?_ ?_
  · exact ww_sub [] rfl (t_X12_section_21 B fu   st)
  · refine ww_iload_n hX 1 rfl dX12_section_4 rfl ?_
    refine ww_bipush (v := 7) hX rfl dX12_section_5 ?_
    refine ww_icmp_gt (tgt := 21) hX dX12_section_7 (by decide) ?_ ?_
    · exact ww_sub [] rfl (t_X12_section_21 B fu   st)
    · refine ww_iload_n hX 2 rfl dX12_section_10 rfl ?_
      refine ww_if_lt (tgt := 21) hX dX12_section_11 (by decide) ?_ ?_
      · exact ww_sub [] rfl (t_X12_section_21 B fu   st)
      · refine ww_iload_n hX 2 rfl dX12_section_14 rfl ?_
        refine ww_ldcw (v := 99999) hX k_X12_478 dX12_section_15 ?_
        refine ww_icmp_le (tgt := 23) hX dX12_section_18 (by decide) ?_ ?_
        · refine ww_aload_n hX 0 rfl dX12_section_23 rfl ?_
          refine ww_getR hX f_X12_193 (Or.inr ⟨_, rfl⟩) dX12_section_24 ?_
          refine ww_bdR (fun o1 => ?_)
          refine ww_iload_n hX 1 rfl dX12_section_27 rfl ?_
          refine ww_iload_n hX 2 rfl dX12_section_28 rfl ?_
          refine ww_iastc hX k_iast dX12_section_29 ?_
          refine ww_bds (fun s2 => ?_)
          refine ww_iconst (v := 1) hX rfl dX12_section_30 ?_
          exact ww_zret B dX12_section_31
        · exact ww_sub [] rfl (t_X12_section_21 B fu   st)
theorem c_X12_section (G : GX) (l : Launch) (fu : Nat) (th : Nat) (p1 : Int32) (p2 : Int32) (st : St) : MI G NN l yX12_section cX12_section 3 (some .boolean) 1 [.ref (G.2.2.1 + th), .int p1, .int p2] st (f_X12_section fu th p1 p2 st) := mkI (by decide) (Nat.le_of_ble_eq_true rfl) (fun X res hl hG B => by subst hl; subst hG; exact t_X12_section B fu th p1 p2 st)
/-! StageHouseModel.row(III)Z -/
def b_X12_row_31 (fu : Nat)   (st : St) : Option (Int32 × St) :=
  ck (isb 0) (some (0, st))
set_option maxHeartbeats 4000000 in
set_option maxRecDepth 100000 in
theorem t_X12_row_31 {X : CX} {res : Int32 × St} (B : BI X cX12_row RX12 5 1 NN (some .boolean) res) (fu : Nat)   (st : St) : WW X res NN 31 [] [] st (b_X12_row_31 fu  st) := by
  have hX := B.1
  have hL := B.2.1
  unfold b_X12_row_31
  refine ww_iconst (v := 0) hX rfl dX12_row_31 ?_
  exact ww_zret B dX12_row_32
def b_X12_row_36_b (fu : Nat) (k_36 : Nat → Int32 → Int32 → Int32 → Int32 → St → Option (Int32 × St)) (x0 : Nat) (x1 : Int32) (x2 : Int32) (x3 : Int32) (x4 : Int32)  (st : St) : Option (Int32 × St) :=
  if 30 ≤ x4 then (
  ck (¬ gR st x0 74 = 0) <|
  ck ((kd x0).1 = 12) <|
  bd (gR st x0 74) fun o1 =>
  ck ((kd o1).1 = 100 ∧ inb x1 (kd o1).2) <|
  bd (sI st o1 (ix x1) x2) fun s2 =>
  ck (¬ gR s2 x0 75 = 0) <|
  ck ((kd x0).1 = 12) <|
  bd (gR s2 x0 75) fun o3 =>
  ck ((kd o3).1 = 100 ∧ inb x1 (kd o3).2) <|
  bd (sI s2 o3 (ix x1) x3) fun s4 =>
  ck (isb 1) (some (1, s4)))
  else (
  ck (¬ gR st x0 76 = 0) <|
  ck ((kd x0).1 = 12) <|
  bd (gR st x0 76) fun o5 =>
  ck ((kd o5).1 = 100 ∧ inb ((30 * x1) + x4) (kd o5).2) <|
  if (gI st o5 (ix ((30 * x1) + x4))) = 0 then (
  bd (x4 + 1) fun v6 =>
  k_36 x0 x1 x2 x3 v6  st)
  else (
  ck (isb 0) (some (0, st))))
set_option maxHeartbeats 4000000 in
set_option maxRecDepth 100000 in
theorem t_X12_row_36_b {X : CX} {res : Int32 × St} (B : BI X cX12_row RX12 5 1 NN (some .boolean) res) (fu : Nat) (k_36 : Nat → Int32 → Int32 → Int32 → Int32 → St → Option (Int32 × St)) (h_36 : ∀ (x0 : Nat) (x1 : Int32) (x2 : Int32) (x3 : Int32) (x4 : Int32)  (st : St), WW X res NN 36 [(0, .ref (x_b X + x0)), (1, .int x1), (2, .int x2), (3, .int x3), (4, .int x4)] [] st (k_36 x0 x1 x2 x3 x4 st)) (x0 : Nat) (x1 : Int32) (x2 : Int32) (x3 : Int32) (x4 : Int32)  (st : St) : WW X res NN 36 [(0, .ref (x_b X + x0)), (1, .int x1), (2, .int x2), (3, .int x3), (4, .int x4)] [] st (b_X12_row_36_b fu k_36 x0 x1 x2 x3 x4 st) := by
  have hX := B.1
  have hL := B.2.1
  unfold b_X12_row_36_b
  refine ww_iload hX 4 rfl dX12_row_36 ?_
  refine ww_bipush (v := 30) hX rfl dX12_row_38 ?_
  refine ww_icmp_ge (tgt := 66) hX dX12_row_40 (by decide) ?_ ?_
  · refine ww_aload_n hX 0 rfl dX12_row_66 rfl ?_
    refine ww_getR hX f_X12_196 (Or.inr ⟨_, rfl⟩) dX12_row_67 ?_
    refine ww_bdR (fun o1 => ?_)
    refine ww_iload_n hX 1 rfl dX12_row_70 rfl ?_
    refine ww_iload_n hX 2 rfl dX12_row_71 rfl ?_
    refine ww_iastc hX k_iast dX12_row_72 ?_
    refine ww_bds (fun s2 => ?_)
    refine ww_aload_n hX 0 rfl dX12_row_73 rfl ?_
    refine ww_getR hX f_X12_199 (Or.inr ⟨_, rfl⟩) dX12_row_74 ?_
    refine ww_bdR (fun o3 => ?_)
    refine ww_pc (b := 77) rfl ?_
    refine ww_iload_n hX 1 rfl dX12_row_77 rfl ?_
    refine ww_iload_n hX 3 rfl dX12_row_78 rfl ?_
    refine ww_iastc hX k_iast dX12_row_79 ?_
    refine ww_bds (fun s4 => ?_)
    refine ww_iconst (v := 1) hX rfl dX12_row_80 ?_
    exact ww_zret B dX12_row_81
  · refine ww_aload_n hX 0 rfl dX12_row_43 rfl ?_
    refine ww_getR hX f_X12_202 (Or.inr ⟨_, rfl⟩) dX12_row_44 ?_
    refine ww_bdR (fun o5 => ?_)
    refine ww_bipush (v := 30) hX rfl dX12_row_47 ?_
    refine ww_iload_n hX 1 rfl dX12_row_49 rfl ?_
    refine ww_imul hX dX12_row_50 ?_
    refine ww_iload hX 4 rfl dX12_row_51 ?_
    refine ww_iadd hX dX12_row_53 ?_
    refine ww_pc (b := 54) rfl ?_
    refine ww_ialdc hX k_iald dX12_row_54 ?_
    refine ww_if_eq (tgt := 60) hX dX12_row_55 (by decide) ?_ ?_
    · refine ww_iincb (lv' := fun v6 => [(4, .int v6), (0, .ref (x_b X + x0)), (1, .int x1), (2, .int x2), (3, .int x3)]) (c := 1) hX hL 4 rfl dX12_row_60 rfl (by decide) (fun _ => rfl) (fun v6 => ?_)
      refine ww_goto (tgt := 36) hX dX12_row_63 (by decide) ?_
      exact ww_sub [1, 2, 3, 4, 0] rfl (h_36 x0 x1 x2 x3 v6  st)
    · refine ww_iconst (v := 0) hX rfl dX12_row_58 ?_
      exact ww_zret B dX12_row_59
def b_X12_row_36 (fu : Nat) : Nat → Nat → Int32 → Int32 → Int32 → Int32 → St → Option (Int32 × St)
  | 0, _, _, _, _, _, _ => none
  | i + 1, x0, x1, x2, x3, x4, st => b_X12_row_36_b fu (b_X12_row_36 fu i) x0 x1 x2 x3 x4 st
theorem t_X12_row_36 {X : CX} {res : Int32 × St} (B : BI X cX12_row RX12 5 1 NN (some .boolean) res) (fu : Nat) : ∀ (i : Nat) (x0 : Nat) (x1 : Int32) (x2 : Int32) (x3 : Int32) (x4 : Int32)  (st : St), WW X res NN 36 [(0, .ref (x_b X + x0)), (1, .int x1), (2, .int x2), (3, .int x3), (4, .int x4)] [] st (b_X12_row_36 fu i x0 x1 x2 x3 x4 st) := by
  intro i
  induction i with
  | zero => intro x0 x1 x2 x3 x4 st; exact ww_none
  | succ i ih => intro x0 x1 x2 x3 x4 st; exact t_X12_row_36_b B fu (b_X12_row_36 fu i) ih x0 x1 x2 x3 x4 st
def f_X12_row (fu : Nat) (th : Nat) (p1 : Int32) (p2 : Int32) (p3 : Int32) (st : St) : Option (Int32 × St) :=
  if p1 < 0 then (
  b_X12_row_31 fu   st)
  else (
  if 39 < p1 then (
  b_X12_row_31 fu   st)
  else (
  if p2 < 0 then (
  b_X12_row_31 fu   st)
  else (
  if 7 < p2 then (
  b_X12_row_31 fu   st)
  else (
  if p3 < 1 then (
  b_X12_row_31 fu   st)
  else (
  if p3 ≤ 30 then (
  b_X12_row_36 fu fu th p1 p2 p3 0  st)
  else (
  b_X12_row_31 fu   st))))))
set_option maxHeartbeats 4000000 in
set_option maxRecDepth 100000 in
theorem t_X12_row {X : CX} {res : Int32 × St} (B : BI X cX12_row RX12 5 1 NN (some .boolean) res) (fu : Nat) (th : Nat) (p1 : Int32) (p2 : Int32) (p3 : Int32) (st : St) : WW X res NN 0 [(0, .ref (x_b X + th)), (1, .int p1), (2, .int p2), (3, .int p3)] [] st (f_X12_row fu th p1 p2 p3 st) := by
  have hX := B.1
  have hL := B.2.1
  unfold f_X12_row
  refine ww_iload_n hX 1 rfl dX12_row_0 rfl ?_
  refine ww_if_lt (tgt := 31) hX dX12_row_1 (by decide) ?_ ?_
  · exact ww_sub [] rfl (t_X12_row_31 B fu   st)
  · refine ww_iload_n hX 1 rfl dX12_row_4 rfl ?_
    refine ww_bipush (v := 39) hX rfl dX12_row_5 ?_
    refine ww_icmp_gt (tgt := 31) hX dX12_row_7 (by decide) ?_ ?_
    · exact ww_sub [] rfl (t_X12_row_31 B fu   st)
    · refine ww_iload_n hX 2 rfl dX12_row_10 rfl ?_
      refine ww_if_lt (tgt := 31) hX dX12_row_11 (by decide) ?_ ?_
      · exact ww_sub [] rfl (t_X12_row_31 B fu   st)
      · refine ww_iload_n hX 2 rfl dX12_row_14 rfl ?_
        refine ww_bipush (v := 7) hX rfl dX12_row_15 ?_
        refine ww_icmp_gt (tgt := 31) hX dX12_row_17 (by decide) ?_ ?_
        · exact ww_sub [] rfl (t_X12_row_31 B fu   st)
        · refine ww_iload_n hX 3 rfl dX12_row_20 rfl ?_
          refine ww_iconst (v := 1) hX rfl dX12_row_21 ?_
          refine ww_icmp_lt (tgt := 31) hX dX12_row_22 (by decide) ?_ ?_
          · exact ww_sub [] rfl (t_X12_row_31 B fu   st)
          · refine ww_iload_n hX 3 rfl dX12_row_25 rfl ?_
            refine ww_bipush (v := 30) hX rfl dX12_row_26 ?_
            refine ww_icmp_le (tgt := 33) hX dX12_row_28 (by decide) ?_ ?_
            · refine ww_iconst (v := 0) hX rfl dX12_row_33 ?_
              refine ww_istore (lv' := [(4, .int 0), (0, .ref (x_b X + th)), (1, .int p1), (2, .int p2), (3, .int p3)]) hX hL dX12_row_34 (by decide) rfl ?_
              exact ww_sub [1, 2, 3, 4, 0] rfl (t_X12_row_36 B fu fu th p1 p2 p3 0  st)
            · exact ww_sub [] rfl (t_X12_row_31 B fu   st)
theorem c_X12_row (G : GX) (l : Launch) (fu : Nat) (th : Nat) (p1 : Int32) (p2 : Int32) (p3 : Int32) (st : St) : MI G NN l yX12_row cX12_row 5 (some .boolean) 1 [.ref (G.2.2.1 + th), .int p1, .int p2, .int p3] st (f_X12_row fu th p1 p2 p3 st) := mkI (by decide) (Nat.le_of_ble_eq_true rfl) (fun X res hl hG B => by subst hl; subst hG; exact t_X12_row B fu th p1 p2 p3 st)
/-! StageHouseModel.line(IZ)Z -/
def b_X12_line_9 (fu : Nat)   (st : St) : Option (Int32 × St) :=
  ck (isb 0) (some (0, st))
set_option maxHeartbeats 4000000 in
set_option maxRecDepth 100000 in
theorem t_X12_line_9 {X : CX} {res : Int32 × St} (B : BI X cX12_line RX12 3 1 NN (some .boolean) res) (fu : Nat)   (st : St) : WW X res NN 9 [] [] st (b_X12_line_9 fu  st) := by
  have hX := B.1
  have hL := B.2.1
  unfold b_X12_line_9
  refine ww_iconst (v := 0) hX rfl dX12_line_9 ?_
  exact ww_zret B dX12_line_10
def f_X12_line (fu : Nat) (th : Nat) (p1 : Int32) (p2 : Int32) (st : St) : Option (Int32 × St) :=
  if p1 < 0 then (
  b_X12_line_9 fu   st)
  else (
  if p1 ≤ 3 then (
  ck (¬ gR st th 77 = 0) <|
  ck ((kd th).1 = 12) <|
  bd (gR st th 77) fun o1 =>
  ck (isb p2) <|
  ck ((kd o1).1 = 102 ∧ inb p1 (kd o1).2) <|
  bd (sI st o1 (ix p1) p2) fun s2 =>
  ck (isb 1) (some (1, s2)))
  else (
  b_X12_line_9 fu   st))
set_option maxHeartbeats 4000000 in
set_option maxRecDepth 100000 in
theorem t_X12_line {X : CX} {res : Int32 × St} (B : BI X cX12_line RX12 3 1 NN (some .boolean) res) (fu : Nat) (th : Nat) (p1 : Int32) (p2 : Int32) (st : St) : WW X res NN 0 [(0, .ref (x_b X + th)), (1, .int p1), (2, .int p2)] [] st (f_X12_line fu th p1 p2 st) := by
  have hX := B.1
  have hL := B.2.1
  unfold f_X12_line
  refine ww_iload_n hX 1 rfl dX12_line_0 rfl ?_
  refine ww_if_lt (tgt := 9) hX dX12_line_1 (by decide) ?_ ?_
  · exact ww_sub [] rfl (t_X12_line_9 B fu   st)
  · refine ww_iload_n hX 1 rfl dX12_line_4 rfl ?_
    refine ww_iconst (v := 3) hX rfl dX12_line_5 ?_
    refine ww_icmp_le (tgt := 11) hX dX12_line_6 (by decide) ?_ ?_
    · refine ww_aload_n hX 0 rfl dX12_line_11 rfl ?_
      refine ww_getR hX f_X12_205 (Or.inr ⟨_, rfl⟩) dX12_line_12 ?_
      refine ww_bdR (fun o1 => ?_)
      refine ww_iload_n hX 1 rfl dX12_line_15 rfl ?_
      refine ww_iload_n hX 2 rfl dX12_line_16 rfl ?_
      refine ww_zastc hX k_zast dX12_line_17 ?_
      refine ww_bds (fun s2 => ?_)
      refine ww_iconst (v := 1) hX rfl dX12_line_18 ?_
      exact ww_zret B dX12_line_19
    · exact ww_sub [] rfl (t_X12_line_9 B fu   st)
theorem c_X12_line (G : GX) (l : Launch) (fu : Nat) (th : Nat) (p1 : Int32) (p2 : Int32) (st : St) : MI G NN l yX12_line cX12_line 3 (some .boolean) 1 [.ref (G.2.2.1 + th), .int p1, .int p2] st (f_X12_line fu th p1 p2 st) := mkI (by decide) (Nat.le_of_ble_eq_true rfl) (fun X res hl hG B => by subst hl; subst hG; exact t_X12_line B fu th p1 p2 st)
/-! StageHouseModel.isFree(II)Z -/
def b_X12_isFree_33 (fu : Nat)  (y0 : Int32) (st : St) : Option (Int32 × St) :=
  ck (isb y0) (some (y0, st))
set_option maxHeartbeats 4000000 in
set_option maxRecDepth 100000 in
theorem t_X12_isFree_33 {X : CX} {res : Int32 × St} (B : BI X cX12_isFree RX12 3 1 NN (some .boolean) res) (fu : Nat)  (y0 : Int32) (st : St) : WW X res NN 33 [] [.int y0] st (b_X12_isFree_33 fu y0 st) := by
  have hX := B.1
  have hL := B.2.1
  unfold b_X12_isFree_33
  exact ww_zret B dX12_isFree_33
def b_X12_isFree_32 (fu : Nat)   (st : St) : Option (Int32 × St) :=
  b_X12_isFree_33 fu  0 st
set_option maxHeartbeats 4000000 in
set_option maxRecDepth 100000 in
theorem t_X12_isFree_32 {X : CX} {res : Int32 × St} (B : BI X cX12_isFree RX12 3 1 NN (some .boolean) res) (fu : Nat)   (st : St) : WW X res NN 32 [] [] st (b_X12_isFree_32 fu  st) := by
  have hX := B.1
  have hL := B.2.1
  unfold b_X12_isFree_32
  refine ww_iconst (v := 0) hX rfl dX12_isFree_32 ?_
  exact t_X12_isFree_33 B fu  0 st
def f_X12_isFree (fu : Nat) (th : Nat) (p1 : Int32) (p2 : Int32) (st : St) : Option (Int32 × St) :=
  if p2 < 0 then (
  b_X12_isFree_32 fu   st)
  else (
  ck (¬ gR st th 75 = 0) <|
  ck ((kd th).1 = 12) <|
  bd (gR st th 75) fun o1 =>
  ck ((kd o1).1 = 100 ∧ inb p1 (kd o1).2) <|
  if (gI st o1 (ix p1)) ≤ p2 then (
  b_X12_isFree_32 fu   st)
  else (
  ck (¬ gR st th 76 = 0) <|
  ck ((kd th).1 = 12) <|
  bd (gR st th 76) fun o2 =>
  ck ((kd o2).1 = 100 ∧ inb ((30 * p1) + p2) (kd o2).2) <|
  if (gI st o2 (ix ((30 * p1) + p2))) = 0 then (
  b_X12_isFree_33 fu  1 st)
  else (
  b_X12_isFree_32 fu   st)))
set_option maxHeartbeats 4000000 in
set_option maxRecDepth 100000 in
theorem t_X12_isFree {X : CX} {res : Int32 × St} (B : BI X cX12_isFree RX12 3 1 NN (some .boolean) res) (fu : Nat) (th : Nat) (p1 : Int32) (p2 : Int32) (st : St) : WW X res NN 0 [(0, .ref (x_b X + th)), (1, .int p1), (2, .int p2)] [] st (f_X12_isFree fu th p1 p2 st) := by
  have hX := B.1
  have hL := B.2.1
  unfold f_X12_isFree
  refine ww_iload_n hX 2 rfl dX12_isFree_0 rfl ?_
  refine ww_if_lt (tgt := 32) hX dX12_isFree_1 (by decide) ?_ ?_
  · exact ww_sub [] rfl (t_X12_isFree_32 B fu   st)
  · refine ww_iload_n hX 2 rfl dX12_isFree_4 rfl ?_
    refine ww_aload_n hX 0 rfl dX12_isFree_5 rfl ?_
    refine ww_getR hX f_X12_199 (Or.inr ⟨_, rfl⟩) dX12_isFree_6 ?_
    refine ww_bdR (fun o1 => ?_)
    refine ww_iload_n hX 1 rfl dX12_isFree_9 rfl ?_
    refine ww_ialdc hX k_iald dX12_isFree_10 ?_
    refine ww_icmp_ge (tgt := 32) hX dX12_isFree_11 (by decide) ?_ ?_
    · exact ww_sub [] rfl (t_X12_isFree_32 B fu   st)
    · refine ww_aload_n hX 0 rfl dX12_isFree_14 rfl ?_
      refine ww_getR hX f_X12_202 (Or.inr ⟨_, rfl⟩) dX12_isFree_15 ?_
      refine ww_bdR (fun o2 => ?_)
      refine ww_bipush (v := 30) hX rfl dX12_isFree_18 ?_
      refine ww_iload_n hX 1 rfl dX12_isFree_20 rfl ?_
      refine ww_imul hX dX12_isFree_21 ?_
      refine ww_iload_n hX 2 rfl dX12_isFree_22 rfl ?_
      refine ww_iadd hX dX12_isFree_23 ?_
      refine ww_pc (b := 24) rfl ?_
      refine ww_ialdc hX k_iald dX12_isFree_24 ?_
      refine ww_if_ne (tgt := 32) hX dX12_isFree_25 (by decide) ?_ ?_
      · exact ww_sub [] rfl (t_X12_isFree_32 B fu   st)
      · refine ww_iconst (v := 1) hX rfl dX12_isFree_28 ?_
        refine ww_goto (tgt := 33) hX dX12_isFree_29 (by decide) ?_
        exact ww_sub [] rfl (t_X12_isFree_33 B fu  1 st)
theorem c_X12_isFree (G : GX) (l : Launch) (fu : Nat) (th : Nat) (p1 : Int32) (p2 : Int32) (st : St) : MI G NN l yX12_isFree cX12_isFree 3 (some .boolean) 1 [.ref (G.2.2.1 + th), .int p1, .int p2] st (f_X12_isFree fu th p1 p2 st) := mkI (by decide) (Nat.le_of_ble_eq_true rfl) (fun X res hl hG B => by subst hl; subst hG; exact t_X12_isFree B fu th p1 p2 st)
/-! StageHouseModel.mayTake(III)Z -/
def b_X12_mayTake_37 (fu : Nat)  (y0 : Int32) (st : St) : Option (Int32 × St) :=
  ck (isb y0) (some (y0, st))
set_option maxHeartbeats 4000000 in
set_option maxRecDepth 100000 in
theorem t_X12_mayTake_37 {X : CX} {res : Int32 × St} (B : BI X cX12_mayTake RX12 5 1 NN (some .boolean) res) (fu : Nat)  (y0 : Int32) (st : St) : WW X res NN 37 [] [.int y0] st (b_X12_mayTake_37 fu y0 st) := by
  have hX := B.1
  have hL := B.2.1
  unfold b_X12_mayTake_37
  exact ww_zret B dX12_mayTake_37
def b_X12_mayTake_32 (fu : Nat)   (st : St) : Option (Int32 × St) :=
  b_X12_mayTake_37 fu  1 st
set_option maxHeartbeats 4000000 in
set_option maxRecDepth 100000 in
theorem t_X12_mayTake_32 {X : CX} {res : Int32 × St} (B : BI X cX12_mayTake RX12 5 1 NN (some .boolean) res) (fu : Nat)   (st : St) : WW X res NN 32 [] [] st (b_X12_mayTake_32 fu  st) := by
  have hX := B.1
  have hL := B.2.1
  unfold b_X12_mayTake_32
  refine ww_iconst (v := 1) hX rfl dX12_mayTake_32 ?_
  refine ww_goto (tgt := 37) hX dX12_mayTake_33 (by decide) ?_
  exact t_X12_mayTake_37 B fu  1 st
def b_X12_mayTake_36 (fu : Nat)   (st : St) : Option (Int32 × St) :=
  b_X12_mayTake_37 fu  0 st
set_option maxHeartbeats 4000000 in
set_option maxRecDepth 100000 in
theorem t_X12_mayTake_36 {X : CX} {res : Int32 × St} (B : BI X cX12_mayTake RX12 5 1 NN (some .boolean) res) (fu : Nat)   (st : St) : WW X res NN 36 [] [] st (b_X12_mayTake_36 fu  st) := by
  have hX := B.1
  have hL := B.2.1
  unfold b_X12_mayTake_36
  refine ww_iconst (v := 0) hX rfl dX12_mayTake_36 ?_
  exact t_X12_mayTake_37 B fu  0 st
def f_X12_mayTake (fu : Nat) (th : Nat) (p1 : Int32) (p2 : Int32) (p3 : Int32) (st : St) : Option (Int32 × St) :=
  ck (¬ 4 = 0) <|
  bd ((p2 + p3) - (p2 + p3) / 4 * 4) fun v1 =>
  if v1 = p1 then (
  b_X12_mayTake_32 fu   st)
  else (
  ck (¬ gR st th 77 = 0) <|
  ck ((kd th).1 = 12) <|
  bd (gR st th 77) fun o2 =>
  ck ((kd o2).1 = 102 ∧ inb p1 (kd o2).2) <|
  if (gI st o2 (ix p1)) = 0 then (
  b_X12_mayTake_36 fu   st)
  else (
  ck (¬ gR st th 77 = 0) <|
  ck ((kd th).1 = 12) <|
  bd (gR st th 77) fun o3 =>
  ck ((kd o3).1 = 102 ∧ inb v1 (kd o3).2) <|
  if (gI st o3 (ix v1)) = 0 then (
  b_X12_mayTake_36 fu   st)
  else (
  b_X12_mayTake_32 fu   st)))
set_option maxHeartbeats 4000000 in
set_option maxRecDepth 100000 in
theorem t_X12_mayTake {X : CX} {res : Int32 × St} (B : BI X cX12_mayTake RX12 5 1 NN (some .boolean) res) (fu : Nat) (th : Nat) (p1 : Int32) (p2 : Int32) (p3 : Int32) (st : St) : WW X res NN 0 [(0, .ref (x_b X + th)), (1, .int p1), (2, .int p2), (3, .int p3)] [] st (f_X12_mayTake fu th p1 p2 p3 st) := by
  have hX := B.1
  have hL := B.2.1
  unfold f_X12_mayTake
  refine ww_iload_n hX 2 rfl dX12_mayTake_0 rfl ?_
  refine ww_iload_n hX 3 rfl dX12_mayTake_1 rfl ?_
  refine ww_iadd hX dX12_mayTake_2 ?_
  refine ww_iconst (v := 4) hX rfl dX12_mayTake_3 ?_
  refine ww_irem hX dX12_mayTake_4 ?_
  refine ww_bdi (fun v1 => ?_)
  refine ww_istore (lv' := [(4, .int v1), (0, .ref (x_b X + th)), (1, .int p1), (2, .int p2), (3, .int p3)]) hX hL dX12_mayTake_5 (by decide) rfl ?_
  refine ww_iload hX 0 rfl dX12_mayTake_7 ?_
  refine ww_pc (b := 9) rfl ?_
  refine ww_iload_n hX 2 rfl dX12_mayTake_9 rfl ?_
  refine ww_icmp_eq (tgt := 32) hX dX12_mayTake_10 (by decide) ?_ ?_
  · exact ww_sub [] rfl (t_X12_mayTake_32 B fu   st)
  · refine ww_aload_n hX 1 rfl dX12_mayTake_13 rfl ?_
    refine ww_getR hX f_X12_205 (Or.inr ⟨_, rfl⟩) dX12_mayTake_14 ?_
    refine ww_bdR (fun o2 => ?_)
    refine ww_iload_n hX 2 rfl dX12_mayTake_17 rfl ?_
    refine ww_zaldc hX k_zald dX12_mayTake_18 ?_
    refine ww_if_eq (tgt := 36) hX dX12_mayTake_19 (by decide) ?_ ?_
    · exact ww_sub [] rfl (t_X12_mayTake_36 B fu   st)
    · refine ww_aload_n hX 1 rfl dX12_mayTake_22 rfl ?_
      refine ww_getR hX f_X12_205 (Or.inr ⟨_, rfl⟩) dX12_mayTake_23 ?_
      refine ww_bdR (fun o3 => ?_)
      refine ww_iload hX 0 rfl dX12_mayTake_26 ?_
      refine ww_zaldc hX k_zald dX12_mayTake_28 ?_
      refine ww_if_eq (tgt := 36) hX dX12_mayTake_29 (by decide) ?_ ?_
      · exact ww_sub [] rfl (t_X12_mayTake_36 B fu   st)
      · exact ww_sub [] rfl (t_X12_mayTake_32 B fu   st)
theorem c_X12_mayTake (G : GX) (l : Launch) (fu : Nat) (th : Nat) (p1 : Int32) (p2 : Int32) (p3 : Int32) (st : St) : MI G NN l yX12_mayTake cX12_mayTake 5 (some .boolean) 1 [.ref (G.2.2.1 + th), .int p1, .int p2, .int p3] st (f_X12_mayTake fu th p1 p2 p3 st) := mkI (by decide) (Nat.le_of_ble_eq_true rfl) (fun X res hl hG B => by subst hl; subst hG; exact t_X12_mayTake B fu th p1 p2 p3 st)
/-! StageHouseModel.ask(IIIIII)I -/
def b_X12_ask_53 (fu : Nat)   (st : St) : Option (Int32 × St) :=
  some ((-1), st)
set_option maxHeartbeats 4000000 in
set_option maxRecDepth 100000 in
theorem t_X12_ask_53 {X : CX} {res : Int32 × St} (B : BI X cX12_ask RX12 18 2 NN (some .int) res) (fu : Nat)   (st : St) : WW X res NN 53 [] [] st (b_X12_ask_53 fu  st) := by
  have hX := B.1
  have hL := B.2.1
  unfold b_X12_ask_53
  refine ww_iconst (v := (-1)) hX rfl dX12_ask_53 ?_
  exact ww_iret B dX12_ask_54
def b_X12_ask_97 (fu : Nat)   (st : St) : Option (Int32 × St) :=
  some ((-1), st)
set_option maxHeartbeats 4000000 in
set_option maxRecDepth 100000 in
theorem t_X12_ask_97 {X : CX} {res : Int32 × St} (B : BI X cX12_ask RX12 18 2 NN (some .int) res) (fu : Nat)   (st : St) : WW X res NN 97 [] [] st (b_X12_ask_97 fu  st) := by
  have hX := B.1
  have hL := B.2.1
  unfold b_X12_ask_97
  refine ww_iconst (v := (-1)) hX rfl dX12_ask_97 ?_
  exact ww_iret B dX12_ask_98
def b_X12_ask_367 (fu : Nat) (k_114 : Nat → Int32 → Int32 → Int32 → Int32 → Int32 → Int32 → Int32 → Int32 → Int32 → Int32 → Int32 → Int32 → St → Option (Int32 × St)) (x0 : Nat) (x1 : Int32) (x2 : Int32) (x3 : Int32) (x4 : Int32) (x5 : Int32) (x6 : Int32) (x7 : Int32) (x8 : Int32) (x9 : Int32) (x10 : Int32) (x11 : Int32) (x12 : Int32)  (st : St) : Option (Int32 × St) :=
  bd (x12 + 1) fun v21 =>
  k_114 x0 x1 x2 x3 x4 x5 x6 x7 x8 x9 x10 x11 v21  st
set_option maxHeartbeats 4000000 in
set_option maxRecDepth 100000 in
theorem t_X12_ask_367 {X : CX} {res : Int32 × St} (B : BI X cX12_ask RX12 18 2 NN (some .int) res) (fu : Nat) (k_114 : Nat → Int32 → Int32 → Int32 → Int32 → Int32 → Int32 → Int32 → Int32 → Int32 → Int32 → Int32 → Int32 → St → Option (Int32 × St)) (h_114 : ∀ (x0 : Nat) (x1 : Int32) (x2 : Int32) (x3 : Int32) (x4 : Int32) (x5 : Int32) (x6 : Int32) (x7 : Int32) (x8 : Int32) (x9 : Int32) (x10 : Int32) (x11 : Int32) (x12 : Int32)  (st : St), WW X res NN 114 [(0, .ref (x_b X + x0)), (1, .int x1), (2, .int x2), (3, .int x3), (4, .int x4), (5, .int x5), (6, .int x6), (7, .int x7), (8, .int x8), (9, .int x9), (10, .int x10), (11, .int x11), (12, .int x12)] [] st (k_114 x0 x1 x2 x3 x4 x5 x6 x7 x8 x9 x10 x11 x12 st)) (x0 : Nat) (x1 : Int32) (x2 : Int32) (x3 : Int32) (x4 : Int32) (x5 : Int32) (x6 : Int32) (x7 : Int32) (x8 : Int32) (x9 : Int32) (x10 : Int32) (x11 : Int32) (x12 : Int32)  (st : St) : WW X res NN 367 [(0, .ref (x_b X + x0)), (1, .int x1), (2, .int x2), (3, .int x3), (4, .int x4), (5, .int x5), (6, .int x6), (7, .int x7), (8, .int x8), (9, .int x9), (10, .int x10), (11, .int x11), (12, .int x12)] [] st (b_X12_ask_367 fu k_114 x0 x1 x2 x3 x4 x5 x6 x7 x8 x9 x10 x11 x12 st) := by
  have hX := B.1
  have hL := B.2.1
  unfold b_X12_ask_367
  refine ww_iincb (lv' := fun v21 => [(12, .int v21), (0, .ref (x_b X + x0)), (1, .int x1), (2, .int x2), (3, .int x3), (4, .int x4), (5, .int x5), (6, .int x6), (7, .int x7), (8, .int x8), (9, .int x9), (10, .int x10), (11, .int x11)]) (c := 1) hX hL 12 rfl dX12_ask_367 rfl (by decide) (fun _ => rfl) (fun v21 => ?_)
  refine ww_goto (tgt := 114) hX dX12_ask_370 (by decide) ?_
  exact ww_sub [1, 2, 3, 4, 5, 6, 7, 8, 9, 10, 11, 12, 0] rfl (h_114 x0 x1 x2 x3 x4 x5 x6 x7 x8 x9 x10 x11 v21  st)
def b_X12_ask_361 (fu : Nat) (k_114 : Nat → Int32 → Int32 → Int32 → Int32 → Int32 → Int32 → Int32 → Int32 → Int32 → Int32 → Int32 → Int32 → St → Option (Int32 × St)) (k_124 : Nat → Int32 → Int32 → Int32 → Int32 → Int32 → Int32 → Int32 → Int32 → Int32 → Int32 → Int32 → Int32 → Int32 → St → Option (Int32 × St)) (x0 : Nat) (x1 : Int32) (x2 : Int32) (x3 : Int32) (x4 : Int32) (x5 : Int32) (x6 : Int32) (x7 : Int32) (x8 : Int32) (x9 : Int32) (x10 : Int32) (x11 : Int32) (x12 : Int32) (x13 : Int32)  (st : St) : Option (Int32 × St) :=
  bd (x13 + 1) fun v23 =>
  k_124 x0 x1 x2 x3 x4 x5 x6 x7 x8 x9 x10 x11 x12 v23  st
set_option maxHeartbeats 4000000 in
set_option maxRecDepth 100000 in
theorem t_X12_ask_361 {X : CX} {res : Int32 × St} (B : BI X cX12_ask RX12 18 2 NN (some .int) res) (fu : Nat) (k_114 : Nat → Int32 → Int32 → Int32 → Int32 → Int32 → Int32 → Int32 → Int32 → Int32 → Int32 → Int32 → Int32 → St → Option (Int32 × St)) (k_124 : Nat → Int32 → Int32 → Int32 → Int32 → Int32 → Int32 → Int32 → Int32 → Int32 → Int32 → Int32 → Int32 → Int32 → St → Option (Int32 × St)) (h_114 : ∀ (x0 : Nat) (x1 : Int32) (x2 : Int32) (x3 : Int32) (x4 : Int32) (x5 : Int32) (x6 : Int32) (x7 : Int32) (x8 : Int32) (x9 : Int32) (x10 : Int32) (x11 : Int32) (x12 : Int32)  (st : St), WW X res NN 114 [(0, .ref (x_b X + x0)), (1, .int x1), (2, .int x2), (3, .int x3), (4, .int x4), (5, .int x5), (6, .int x6), (7, .int x7), (8, .int x8), (9, .int x9), (10, .int x10), (11, .int x11), (12, .int x12)] [] st (k_114 x0 x1 x2 x3 x4 x5 x6 x7 x8 x9 x10 x11 x12 st)) (h_124 : ∀ (x0 : Nat) (x1 : Int32) (x2 : Int32) (x3 : Int32) (x4 : Int32) (x5 : Int32) (x6 : Int32) (x7 : Int32) (x8 : Int32) (x9 : Int32) (x10 : Int32) (x11 : Int32) (x12 : Int32) (x13 : Int32)  (st : St), WW X res NN 124 [(0, .ref (x_b X + x0)), (1, .int x1), (2, .int x2), (3, .int x3), (4, .int x4), (5, .int x5), (6, .int x6), (7, .int x7), (8, .int x8), (9, .int x9), (10, .int x10), (11, .int x11), (12, .int x12), (13, .int x13)] [] st (k_124 x0 x1 x2 x3 x4 x5 x6 x7 x8 x9 x10 x11 x12 x13 st)) (x0 : Nat) (x1 : Int32) (x2 : Int32) (x3 : Int32) (x4 : Int32) (x5 : Int32) (x6 : Int32) (x7 : Int32) (x8 : Int32) (x9 : Int32) (x10 : Int32) (x11 : Int32) (x12 : Int32) (x13 : Int32)  (st : St) : WW X res NN 361 [(0, .ref (x_b X + x0)), (1, .int x1), (2, .int x2), (3, .int x3), (4, .int x4), (5, .int x5), (6, .int x6), (7, .int x7), (8, .int x8), (9, .int x9), (10, .int x10), (11, .int x11), (12, .int x12), (13, .int x13)] [] st (b_X12_ask_361 fu k_114 k_124 x0 x1 x2 x3 x4 x5 x6 x7 x8 x9 x10 x11 x12 x13 st) := by
  have hX := B.1
  have hL := B.2.1
  unfold b_X12_ask_361
  refine ww_iincb (lv' := fun v23 => [(13, .int v23), (0, .ref (x_b X + x0)), (1, .int x1), (2, .int x2), (3, .int x3), (4, .int x4), (5, .int x5), (6, .int x6), (7, .int x7), (8, .int x8), (9, .int x9), (10, .int x10), (11, .int x11), (12, .int x12)]) (c := 1) hX hL 13 rfl dX12_ask_361 rfl (by decide) (fun _ => rfl) (fun v23 => ?_)
  refine ww_goto (tgt := 124) hX dX12_ask_364 (by decide) ?_
  exact ww_sub [1, 2, 3, 4, 5, 6, 7, 8, 9, 10, 11, 12, 13, 0] rfl (h_124 x0 x1 x2 x3 x4 x5 x6 x7 x8 x9 x10 x11 x12 v23  st)
def b_X12_ask_345 (fu : Nat) (k_114 : Nat → Int32 → Int32 → Int32 → Int32 → Int32 → Int32 → Int32 → Int32 → Int32 → Int32 → Int32 → Int32 → St → Option (Int32 × St)) (k_124 : Nat → Int32 → Int32 → Int32 → Int32 → Int32 → Int32 → Int32 → Int32 → Int32 → Int32 → Int32 → Int32 → Int32 → St → Option (Int32 × St)) (x0 : Nat) (x1 : Int32) (x2 : Int32) (x3 : Int32) (x4 : Int32) (x5 : Int32) (x6 : Int32) (x7 : Int32) (x12 : Int32) (x13 : Int32) (x15 : Int32) (x17 : Int32)  (st : St) : Option (Int32 × St) :=
  b_X12_ask_361 fu k_114 k_124 x0 x1 x2 x3 x4 x5 x6 x7 x12 x13 x15 x17 x12 x13  st
set_option maxHeartbeats 4000000 in
set_option maxRecDepth 100000 in
theorem t_X12_ask_345 {X : CX} {res : Int32 × St} (B : BI X cX12_ask RX12 18 2 NN (some .int) res) (fu : Nat) (k_114 : Nat → Int32 → Int32 → Int32 → Int32 → Int32 → Int32 → Int32 → Int32 → Int32 → Int32 → Int32 → Int32 → St → Option (Int32 × St)) (k_124 : Nat → Int32 → Int32 → Int32 → Int32 → Int32 → Int32 → Int32 → Int32 → Int32 → Int32 → Int32 → Int32 → Int32 → St → Option (Int32 × St)) (h_114 : ∀ (x0 : Nat) (x1 : Int32) (x2 : Int32) (x3 : Int32) (x4 : Int32) (x5 : Int32) (x6 : Int32) (x7 : Int32) (x8 : Int32) (x9 : Int32) (x10 : Int32) (x11 : Int32) (x12 : Int32)  (st : St), WW X res NN 114 [(0, .ref (x_b X + x0)), (1, .int x1), (2, .int x2), (3, .int x3), (4, .int x4), (5, .int x5), (6, .int x6), (7, .int x7), (8, .int x8), (9, .int x9), (10, .int x10), (11, .int x11), (12, .int x12)] [] st (k_114 x0 x1 x2 x3 x4 x5 x6 x7 x8 x9 x10 x11 x12 st)) (h_124 : ∀ (x0 : Nat) (x1 : Int32) (x2 : Int32) (x3 : Int32) (x4 : Int32) (x5 : Int32) (x6 : Int32) (x7 : Int32) (x8 : Int32) (x9 : Int32) (x10 : Int32) (x11 : Int32) (x12 : Int32) (x13 : Int32)  (st : St), WW X res NN 124 [(0, .ref (x_b X + x0)), (1, .int x1), (2, .int x2), (3, .int x3), (4, .int x4), (5, .int x5), (6, .int x6), (7, .int x7), (8, .int x8), (9, .int x9), (10, .int x10), (11, .int x11), (12, .int x12), (13, .int x13)] [] st (k_124 x0 x1 x2 x3 x4 x5 x6 x7 x8 x9 x10 x11 x12 x13 st)) (x0 : Nat) (x1 : Int32) (x2 : Int32) (x3 : Int32) (x4 : Int32) (x5 : Int32) (x6 : Int32) (x7 : Int32) (x12 : Int32) (x13 : Int32) (x15 : Int32) (x17 : Int32)  (st : St) : WW X res NN 345 [(0, .ref (x_b X + x0)), (1, .int x1), (2, .int x2), (3, .int x3), (4, .int x4), (5, .int x5), (6, .int x6), (7, .int x7), (12, .int x12), (13, .int x13), (15, .int x15), (17, .int x17)] [] st (b_X12_ask_345 fu k_114 k_124 x0 x1 x2 x3 x4 x5 x6 x7 x12 x13 x15 x17 st) := by
  have hX := B.1
  have hL := B.2.1
  unfold b_X12_ask_345
  refine ww_iload hX 8 rfl dX12_ask_345 ?_
  refine ww_istore (lv' := [(8, .int x12), (0, .ref (x_b X + x0)), (1, .int x1), (2, .int x2), (3, .int x3), (4, .int x4), (5, .int x5), (6, .int x6), (7, .int x7), (12, .int x12), (13, .int x13), (15, .int x15), (17, .int x17)]) hX hL dX12_ask_347 (by decide) rfl ?_
  refine ww_iload hX 10 rfl dX12_ask_349 ?_
  refine ww_istore (lv' := [(9, .int x13), (8, .int x12), (0, .ref (x_b X + x0)), (1, .int x1), (2, .int x2), (3, .int x3), (4, .int x4), (5, .int x5), (6, .int x6), (7, .int x7), (12, .int x12), (13, .int x13), (15, .int x15), (17, .int x17)]) hX hL dX12_ask_351 (by decide) rfl ?_
  refine ww_iload hX 12 rfl dX12_ask_353 ?_
  refine ww_istore (lv' := [(10, .int x15), (9, .int x13), (8, .int x12), (0, .ref (x_b X + x0)), (1, .int x1), (2, .int x2), (3, .int x3), (4, .int x4), (5, .int x5), (6, .int x6), (7, .int x7), (12, .int x12), (13, .int x13), (15, .int x15), (17, .int x17)]) hX hL dX12_ask_355 (by decide) rfl ?_
  refine ww_iload hX 14 rfl dX12_ask_357 ?_
  refine ww_pc (b := 359) rfl ?_
  refine ww_istore (lv' := [(11, .int x17), (10, .int x15), (9, .int x13), (8, .int x12), (0, .ref (x_b X + x0)), (1, .int x1), (2, .int x2), (3, .int x3), (4, .int x4), (5, .int x5), (6, .int x6), (7, .int x7), (12, .int x12), (13, .int x13), (15, .int x15), (17, .int x17)]) hX hL dX12_ask_359 (by decide) rfl ?_
  exact ww_sub [4, 5, 6, 7, 8, 9, 10, 11, 3, 2, 1, 0, 12, 13] rfl (t_X12_ask_361 B fu k_114 k_124 h_114 h_124 x0 x1 x2 x3 x4 x5 x6 x7 x12 x13 x15 x17 x12 x13  st)
def b_X12_ask_315 (fu : Nat) (k_114 : Nat → Int32 → Int32 → Int32 → Int32 → Int32 → Int32 → Int32 → Int32 → Int32 → Int32 → Int32 → Int32 → St → Option (Int32 × St)) (k_124 : Nat → Int32 → Int32 → Int32 → Int32 → Int32 → Int32 → Int32 → Int32 → Int32 → Int32 → Int32 → Int32 → Int32 → St → Option (Int32 × St)) (x0 : Nat) (x1 : Int32) (x2 : Int32) (x3 : Int32) (x4 : Int32) (x5 : Int32) (x6 : Int32) (x7 : Int32) (x8 : Int32) (x9 : Int32) (x10 : Int32) (x11 : Int32) (x12 : Int32) (x13 : Int32) (x15 : Int32) (y0 : Int32) (y1 : Int32) (st : St) : Option (Int32 × St) :=
  bd (y0 + y1) fun v31 =>
  if x8 = ((-1)) then (
  b_X12_ask_345 fu k_114 k_124 x0 x1 x2 x3 x4 x5 x6 x7 x12 x13 x15 v31  st)
  else (
  if x15 < x10 then (
  b_X12_ask_345 fu k_114 k_124 x0 x1 x2 x3 x4 x5 x6 x7 x12 x13 x15 v31  st)
  else (
  if x15 = x10 then (
  if x11 ≤ v31 then (
  b_X12_ask_361 fu k_114 k_124 x0 x1 x2 x3 x4 x5 x6 x7 x8 x9 x10 x11 x12 x13  st)
  else (
  b_X12_ask_345 fu k_114 k_124 x0 x1 x2 x3 x4 x5 x6 x7 x12 x13 x15 v31  st))
  else (
  b_X12_ask_361 fu k_114 k_124 x0 x1 x2 x3 x4 x5 x6 x7 x8 x9 x10 x11 x12 x13  st)))
set_option maxHeartbeats 4000000 in
set_option maxRecDepth 100000 in
theorem t_X12_ask_315 {X : CX} {res : Int32 × St} (B : BI X cX12_ask RX12 18 2 NN (some .int) res) (fu : Nat) (k_114 : Nat → Int32 → Int32 → Int32 → Int32 → Int32 → Int32 → Int32 → Int32 → Int32 → Int32 → Int32 → Int32 → St → Option (Int32 × St)) (k_124 : Nat → Int32 → Int32 → Int32 → Int32 → Int32 → Int32 → Int32 → Int32 → Int32 → Int32 → Int32 → Int32 → Int32 → St → Option (Int32 × St)) (h_114 : ∀ (x0 : Nat) (x1 : Int32) (x2 : Int32) (x3 : Int32) (x4 : Int32) (x5 : Int32) (x6 : Int32) (x7 : Int32) (x8 : Int32) (x9 : Int32) (x10 : Int32) (x11 : Int32) (x12 : Int32)  (st : St), WW X res NN 114 [(0, .ref (x_b X + x0)), (1, .int x1), (2, .int x2), (3, .int x3), (4, .int x4), (5, .int x5), (6, .int x6), (7, .int x7), (8, .int x8), (9, .int x9), (10, .int x10), (11, .int x11), (12, .int x12)] [] st (k_114 x0 x1 x2 x3 x4 x5 x6 x7 x8 x9 x10 x11 x12 st)) (h_124 : ∀ (x0 : Nat) (x1 : Int32) (x2 : Int32) (x3 : Int32) (x4 : Int32) (x5 : Int32) (x6 : Int32) (x7 : Int32) (x8 : Int32) (x9 : Int32) (x10 : Int32) (x11 : Int32) (x12 : Int32) (x13 : Int32)  (st : St), WW X res NN 124 [(0, .ref (x_b X + x0)), (1, .int x1), (2, .int x2), (3, .int x3), (4, .int x4), (5, .int x5), (6, .int x6), (7, .int x7), (8, .int x8), (9, .int x9), (10, .int x10), (11, .int x11), (12, .int x12), (13, .int x13)] [] st (k_124 x0 x1 x2 x3 x4 x5 x6 x7 x8 x9 x10 x11 x12 x13 st)) (x0 : Nat) (x1 : Int32) (x2 : Int32) (x3 : Int32) (x4 : Int32) (x5 : Int32) (x6 : Int32) (x7 : Int32) (x8 : Int32) (x9 : Int32) (x10 : Int32) (x11 : Int32) (x12 : Int32) (x13 : Int32) (x15 : Int32) (y0 : Int32) (y1 : Int32) (st : St) : WW X res NN 315 [(0, .ref (x_b X + x0)), (1, .int x1), (2, .int x2), (3, .int x3), (4, .int x4), (5, .int x5), (6, .int x6), (7, .int x7), (8, .int x8), (9, .int x9), (10, .int x10), (11, .int x11), (12, .int x12), (13, .int x13), (15, .int x15)] [.int y1, .int y0] st (b_X12_ask_315 fu k_114 k_124 x0 x1 x2 x3 x4 x5 x6 x7 x8 x9 x10 x11 x12 x13 x15 y0 y1 st) := by
  have hX := B.1
  have hL := B.2.1
  unfold b_X12_ask_315
  refine ww_iadd hX dX12_ask_315 ?_
  refine ww_bdi (fun v31 => ?_)
  refine ww_istore (lv' := [(17, .int v31), (0, .ref (x_b X + x0)), (1, .int x1), (2, .int x2), (3, .int x3), (4, .int x4), (5, .int x5), (6, .int x6), (7, .int x7), (8, .int x8), (9, .int x9), (10, .int x10), (11, .int x11), (12, .int x12), (13, .int x13), (15, .int x15)]) hX hL dX12_ask_316 (by decide) rfl ?_
  refine ww_iload hX 9 rfl dX12_ask_318 ?_
  refine ww_iconst (v := (-1)) hX rfl dX12_ask_320 ?_
  refine ww_icmp_eq (tgt := 345) hX dX12_ask_321 (by decide) ?_ ?_
  · exact ww_sub [1, 2, 3, 4, 5, 6, 7, 8, 13, 14, 15, 0] rfl (t_X12_ask_345 B fu k_114 k_124 h_114 h_124 x0 x1 x2 x3 x4 x5 x6 x7 x12 x13 x15 v31  st)
  · refine ww_iload hX 15 rfl dX12_ask_324 ?_
    refine ww_iload hX 11 rfl dX12_ask_326 ?_
    refine ww_icmp_lt (tgt := 345) hX dX12_ask_328 (by decide) ?_ ?_
    · exact ww_sub [1, 2, 3, 4, 5, 6, 7, 8, 13, 14, 15, 0] rfl (t_X12_ask_345 B fu k_114 k_124 h_114 h_124 x0 x1 x2 x3 x4 x5 x6 x7 x12 x13 x15 v31  st)
    · refine ww_iload hX 15 rfl dX12_ask_331 ?_
      refine ww_iload hX 11 rfl dX12_ask_333 ?_
      refine ww_icmp_ne (tgt := 361) hX dX12_ask_335 (by decide) ?_ ?_
      · exact ww_sub [1, 2, 3, 4, 5, 6, 7, 8, 9, 10, 11, 12, 13, 14] rfl (t_X12_ask_361 B fu k_114 k_124 h_114 h_124 x0 x1 x2 x3 x4 x5 x6 x7 x8 x9 x10 x11 x12 x13  st)
      · refine ww_iload hX 0 rfl dX12_ask_338 ?_
        refine ww_iload hX 12 rfl dX12_ask_340 ?_
        refine ww_icmp_ge (tgt := 361) hX dX12_ask_342 (by decide) ?_ ?_
        · exact ww_sub [1, 2, 3, 4, 5, 6, 7, 8, 9, 10, 11, 12, 13, 14] rfl (t_X12_ask_361 B fu k_114 k_124 h_114 h_124 x0 x1 x2 x3 x4 x5 x6 x7 x8 x9 x10 x11 x12 x13  st)
        · exact ww_sub [1, 2, 3, 4, 5, 6, 7, 8, 13, 14, 15, 0] rfl (t_X12_ask_345 B fu k_114 k_124 h_114 h_124 x0 x1 x2 x3 x4 x5 x6 x7 x12 x13 x15 v31  st)
def b_X12_ask_275 (fu : Nat) (k_114 : Nat → Int32 → Int32 → Int32 → Int32 → Int32 → Int32 → Int32 → Int32 → Int32 → Int32 → Int32 → Int32 → St → Option (Int32 × St)) (k_124 : Nat → Int32 → Int32 → Int32 → Int32 → Int32 → Int32 → Int32 → Int32 → Int32 → Int32 → Int32 → Int32 → Int32 → St → Option (Int32 × St)) (x0 : Nat) (x1 : Int32) (x2 : Int32) (x3 : Int32) (x4 : Int32) (x5 : Int32) (x6 : Int32) (x7 : Int32) (x8 : Int32) (x9 : Int32) (x10 : Int32) (x11 : Int32) (x12 : Int32) (x13 : Int32) (y0 : Int32) (y1 : Int32) (st : St) : Option (Int32 × St) :=
  bd (y0 + y1) fun v28 =>
  ck (¬ gR st x0 75 = 0) <|
  ck ((kd x0).1 = 12) <|
  bd (gR st x0 75) fun o29 =>
  ck ((kd o29).1 = 100 ∧ inb x12 (kd o29).2) <|
  bd ((((2 * x13) + x3) - 1) - ((gI st o29 (ix x12)) - 1)) fun v30 =>
  if 0 ≤ v30 then (
  b_X12_ask_315 fu k_114 k_124 x0 x1 x2 x3 x4 x5 x6 x7 x8 x9 x10 x11 x12 x13 v28 (3 * x12) v30 st)
  else (
  b_X12_ask_315 fu k_114 k_124 x0 x1 x2 x3 x4 x5 x6 x7 x8 x9 x10 x11 x12 x13 v28 (3 * x12) (-v30) st)
set_option maxHeartbeats 4000000 in
set_option maxRecDepth 100000 in
theorem t_X12_ask_275 {X : CX} {res : Int32 × St} (B : BI X cX12_ask RX12 18 2 NN (some .int) res) (fu : Nat) (k_114 : Nat → Int32 → Int32 → Int32 → Int32 → Int32 → Int32 → Int32 → Int32 → Int32 → Int32 → Int32 → Int32 → St → Option (Int32 × St)) (k_124 : Nat → Int32 → Int32 → Int32 → Int32 → Int32 → Int32 → Int32 → Int32 → Int32 → Int32 → Int32 → Int32 → Int32 → St → Option (Int32 × St)) (h_114 : ∀ (x0 : Nat) (x1 : Int32) (x2 : Int32) (x3 : Int32) (x4 : Int32) (x5 : Int32) (x6 : Int32) (x7 : Int32) (x8 : Int32) (x9 : Int32) (x10 : Int32) (x11 : Int32) (x12 : Int32)  (st : St), WW X res NN 114 [(0, .ref (x_b X + x0)), (1, .int x1), (2, .int x2), (3, .int x3), (4, .int x4), (5, .int x5), (6, .int x6), (7, .int x7), (8, .int x8), (9, .int x9), (10, .int x10), (11, .int x11), (12, .int x12)] [] st (k_114 x0 x1 x2 x3 x4 x5 x6 x7 x8 x9 x10 x11 x12 st)) (h_124 : ∀ (x0 : Nat) (x1 : Int32) (x2 : Int32) (x3 : Int32) (x4 : Int32) (x5 : Int32) (x6 : Int32) (x7 : Int32) (x8 : Int32) (x9 : Int32) (x10 : Int32) (x11 : Int32) (x12 : Int32) (x13 : Int32)  (st : St), WW X res NN 124 [(0, .ref (x_b X + x0)), (1, .int x1), (2, .int x2), (3, .int x3), (4, .int x4), (5, .int x5), (6, .int x6), (7, .int x7), (8, .int x8), (9, .int x9), (10, .int x10), (11, .int x11), (12, .int x12), (13, .int x13)] [] st (k_124 x0 x1 x2 x3 x4 x5 x6 x7 x8 x9 x10 x11 x12 x13 st)) (x0 : Nat) (x1 : Int32) (x2 : Int32) (x3 : Int32) (x4 : Int32) (x5 : Int32) (x6 : Int32) (x7 : Int32) (x8 : Int32) (x9 : Int32) (x10 : Int32) (x11 : Int32) (x12 : Int32) (x13 : Int32) (y0 : Int32) (y1 : Int32) (st : St) : WW X res NN 275 [(0, .ref (x_b X + x0)), (1, .int x1), (2, .int x2), (3, .int x3), (4, .int x4), (5, .int x5), (6, .int x6), (7, .int x7), (8, .int x8), (9, .int x9), (10, .int x10), (11, .int x11), (12, .int x12), (13, .int x13)] [.int y1, .int y0] st (b_X12_ask_275 fu k_114 k_124 x0 x1 x2 x3 x4 x5 x6 x7 x8 x9 x10 x11 x12 x13 y0 y1 st) := by
  have hX := B.1
  have hL := B.2.1
  unfold b_X12_ask_275
  refine ww_iadd hX dX12_ask_275 ?_
  refine ww_bdi (fun v28 => ?_)
  refine ww_istore (lv' := [(15, .int v28), (0, .ref (x_b X + x0)), (1, .int x1), (2, .int x2), (3, .int x3), (4, .int x4), (5, .int x5), (6, .int x6), (7, .int x7), (8, .int x8), (9, .int x9), (10, .int x10), (11, .int x11), (12, .int x12), (13, .int x13)]) hX hL dX12_ask_276 (by decide) rfl ?_
  refine ww_iconst (v := 2) hX rfl dX12_ask_278 ?_
  refine ww_iload hX 14 rfl dX12_ask_279 ?_
  refine ww_imul hX dX12_ask_281 ?_
  refine ww_iload_n hX 4 rfl dX12_ask_282 rfl ?_
  refine ww_iadd hX dX12_ask_283 ?_
  refine ww_pc (b := 284) rfl ?_
  refine ww_iconst (v := 1) hX rfl dX12_ask_284 ?_
  refine ww_isub hX dX12_ask_285 ?_
  refine ww_aload_n hX 1 rfl dX12_ask_286 rfl ?_
  refine ww_getR hX f_X12_199 (Or.inr ⟨_, rfl⟩) dX12_ask_287 ?_
  refine ww_bdR (fun o29 => ?_)
  refine ww_iload hX 13 rfl dX12_ask_290 ?_
  refine ww_ialdc hX k_iald dX12_ask_292 ?_
  refine ww_iconst (v := 1) hX rfl dX12_ask_293 ?_
  refine ww_isub hX dX12_ask_294 ?_
  refine ww_pc (b := 295) rfl ?_
  refine ww_isub hX dX12_ask_295 ?_
  refine ww_bdi (fun v30 => ?_)
  refine ww_istore (lv' := [(16, .int v30), (15, .int v28), (0, .ref (x_b X + x0)), (1, .int x1), (2, .int x2), (3, .int x3), (4, .int x4), (5, .int x5), (6, .int x6), (7, .int x7), (8, .int x8), (9, .int x9), (10, .int x10), (11, .int x11), (12, .int x12), (13, .int x13)]) hX hL dX12_ask_296 (by decide) rfl ?_
  refine ww_iconst (v := 3) hX rfl dX12_ask_298 ?_
  refine ww_iload hX 14 rfl dX12_ask_299 ?_
  refine ww_imul hX dX12_ask_301 ?_
  refine ww_iload hX 0 rfl dX12_ask_302 ?_
  refine ww_if_ge (tgt := 313) hX dX12_ask_304 (by decide) ?_ ?_
  · refine ww_iload hX 0 rfl dX12_ask_313 ?_
    exact ww_sub [2, 3, 4, 5, 6, 7, 8, 9, 10, 11, 12, 13, 14, 15, 1] rfl (t_X12_ask_315 B fu k_114 k_124 h_114 h_124 x0 x1 x2 x3 x4 x5 x6 x7 x8 x9 x10 x11 x12 x13 v28 (3 * x12) v30 st)
  · refine ww_iload hX 0 rfl dX12_ask_307 ?_
    refine ww_ineg hX dX12_ask_309 ?_
    refine ww_goto (tgt := 315) hX dX12_ask_310 (by decide) ?_
    exact ww_sub [2, 3, 4, 5, 6, 7, 8, 9, 10, 11, 12, 13, 14, 15, 1] rfl (t_X12_ask_315 B fu k_114 k_124 h_114 h_124 x0 x1 x2 x3 x4 x5 x6 x7 x8 x9 x10 x11 x12 x13 v28 (3 * x12) (-v30) st)
def b_X12_ask_274 (fu : Nat) (k_114 : Nat → Int32 → Int32 → Int32 → Int32 → Int32 → Int32 → Int32 → Int32 → Int32 → Int32 → Int32 → Int32 → St → Option (Int32 × St)) (k_124 : Nat → Int32 → Int32 → Int32 → Int32 → Int32 → Int32 → Int32 → Int32 → Int32 → Int32 → Int32 → Int32 → Int32 → St → Option (Int32 × St)) (x0 : Nat) (x1 : Int32) (x2 : Int32) (x3 : Int32) (x4 : Int32) (x5 : Int32) (x6 : Int32) (x7 : Int32) (x8 : Int32) (x9 : Int32) (x10 : Int32) (x11 : Int32) (x12 : Int32) (x13 : Int32) (y0 : Int32) (st : St) : Option (Int32 × St) :=
  b_X12_ask_275 fu k_114 k_124 x0 x1 x2 x3 x4 x5 x6 x7 x8 x9 x10 x11 x12 x13 y0 0 st
set_option maxHeartbeats 4000000 in
set_option maxRecDepth 100000 in
theorem t_X12_ask_274 {X : CX} {res : Int32 × St} (B : BI X cX12_ask RX12 18 2 NN (some .int) res) (fu : Nat) (k_114 : Nat → Int32 → Int32 → Int32 → Int32 → Int32 → Int32 → Int32 → Int32 → Int32 → Int32 → Int32 → Int32 → St → Option (Int32 × St)) (k_124 : Nat → Int32 → Int32 → Int32 → Int32 → Int32 → Int32 → Int32 → Int32 → Int32 → Int32 → Int32 → Int32 → Int32 → St → Option (Int32 × St)) (h_114 : ∀ (x0 : Nat) (x1 : Int32) (x2 : Int32) (x3 : Int32) (x4 : Int32) (x5 : Int32) (x6 : Int32) (x7 : Int32) (x8 : Int32) (x9 : Int32) (x10 : Int32) (x11 : Int32) (x12 : Int32)  (st : St), WW X res NN 114 [(0, .ref (x_b X + x0)), (1, .int x1), (2, .int x2), (3, .int x3), (4, .int x4), (5, .int x5), (6, .int x6), (7, .int x7), (8, .int x8), (9, .int x9), (10, .int x10), (11, .int x11), (12, .int x12)] [] st (k_114 x0 x1 x2 x3 x4 x5 x6 x7 x8 x9 x10 x11 x12 st)) (h_124 : ∀ (x0 : Nat) (x1 : Int32) (x2 : Int32) (x3 : Int32) (x4 : Int32) (x5 : Int32) (x6 : Int32) (x7 : Int32) (x8 : Int32) (x9 : Int32) (x10 : Int32) (x11 : Int32) (x12 : Int32) (x13 : Int32)  (st : St), WW X res NN 124 [(0, .ref (x_b X + x0)), (1, .int x1), (2, .int x2), (3, .int x3), (4, .int x4), (5, .int x5), (6, .int x6), (7, .int x7), (8, .int x8), (9, .int x9), (10, .int x10), (11, .int x11), (12, .int x12), (13, .int x13)] [] st (k_124 x0 x1 x2 x3 x4 x5 x6 x7 x8 x9 x10 x11 x12 x13 st)) (x0 : Nat) (x1 : Int32) (x2 : Int32) (x3 : Int32) (x4 : Int32) (x5 : Int32) (x6 : Int32) (x7 : Int32) (x8 : Int32) (x9 : Int32) (x10 : Int32) (x11 : Int32) (x12 : Int32) (x13 : Int32) (y0 : Int32) (st : St) : WW X res NN 274 [(0, .ref (x_b X + x0)), (1, .int x1), (2, .int x2), (3, .int x3), (4, .int x4), (5, .int x5), (6, .int x6), (7, .int x7), (8, .int x8), (9, .int x9), (10, .int x10), (11, .int x11), (12, .int x12), (13, .int x13)] [.int y0] st (b_X12_ask_274 fu k_114 k_124 x0 x1 x2 x3 x4 x5 x6 x7 x8 x9 x10 x11 x12 x13 y0 st) := by
  have hX := B.1
  have hL := B.2.1
  unfold b_X12_ask_274
  refine ww_iconst (v := 0) hX rfl dX12_ask_274 ?_
  exact t_X12_ask_275 B fu k_114 k_124 h_114 h_124 x0 x1 x2 x3 x4 x5 x6 x7 x8 x9 x10 x11 x12 x13 y0 0 st
def b_X12_ask_242 (fu : Nat) (k_114 : Nat → Int32 → Int32 → Int32 → Int32 → Int32 → Int32 → Int32 → Int32 → Int32 → Int32 → Int32 → Int32 → St → Option (Int32 × St)) (k_124 : Nat → Int32 → Int32 → Int32 → Int32 → Int32 → Int32 → Int32 → Int32 → Int32 → Int32 → Int32 → Int32 → Int32 → St → Option (Int32 × St)) (x0 : Nat) (x1 : Int32) (x2 : Int32) (x3 : Int32) (x4 : Int32) (x5 : Int32) (x6 : Int32) (x7 : Int32) (x8 : Int32) (x9 : Int32) (x10 : Int32) (x11 : Int32) (x12 : Int32) (x13 : Int32) (y0 : Int32) (st : St) : Option (Int32 × St) :=
  ck ((kd x0).1 = 12) <|
  ca (f_X12_isFree fu x0 x12 (x13 + x3) st) fun r26 s27 =>
  if r26 = 0 then (
  b_X12_ask_274 fu k_114 k_124 x0 x1 x2 x3 x4 x5 x6 x7 x8 x9 x10 x11 x12 x13 y0 s27)
  else (
  ck ((kd x0).1 = 12) <|
  ca (f_X12_isFree fu x0 x12 ((x13 + x3) + 1) s27) fun r32 s33 =>
  if r32 = 0 then (
  b_X12_ask_275 fu k_114 k_124 x0 x1 x2 x3 x4 x5 x6 x7 x8 x9 x10 x11 x12 x13 y0 1 s33)
  else (
  b_X12_ask_274 fu k_114 k_124 x0 x1 x2 x3 x4 x5 x6 x7 x8 x9 x10 x11 x12 x13 y0 s33))
set_option maxHeartbeats 4000000 in
set_option maxRecDepth 100000 in
theorem t_X12_ask_242 {X : CX} {res : Int32 × St} (B : BI X cX12_ask RX12 18 2 NN (some .int) res) (fu : Nat) (k_114 : Nat → Int32 → Int32 → Int32 → Int32 → Int32 → Int32 → Int32 → Int32 → Int32 → Int32 → Int32 → Int32 → St → Option (Int32 × St)) (k_124 : Nat → Int32 → Int32 → Int32 → Int32 → Int32 → Int32 → Int32 → Int32 → Int32 → Int32 → Int32 → Int32 → Int32 → St → Option (Int32 × St)) (h_114 : ∀ (x0 : Nat) (x1 : Int32) (x2 : Int32) (x3 : Int32) (x4 : Int32) (x5 : Int32) (x6 : Int32) (x7 : Int32) (x8 : Int32) (x9 : Int32) (x10 : Int32) (x11 : Int32) (x12 : Int32)  (st : St), WW X res NN 114 [(0, .ref (x_b X + x0)), (1, .int x1), (2, .int x2), (3, .int x3), (4, .int x4), (5, .int x5), (6, .int x6), (7, .int x7), (8, .int x8), (9, .int x9), (10, .int x10), (11, .int x11), (12, .int x12)] [] st (k_114 x0 x1 x2 x3 x4 x5 x6 x7 x8 x9 x10 x11 x12 st)) (h_124 : ∀ (x0 : Nat) (x1 : Int32) (x2 : Int32) (x3 : Int32) (x4 : Int32) (x5 : Int32) (x6 : Int32) (x7 : Int32) (x8 : Int32) (x9 : Int32) (x10 : Int32) (x11 : Int32) (x12 : Int32) (x13 : Int32)  (st : St), WW X res NN 124 [(0, .ref (x_b X + x0)), (1, .int x1), (2, .int x2), (3, .int x3), (4, .int x4), (5, .int x5), (6, .int x6), (7, .int x7), (8, .int x8), (9, .int x9), (10, .int x10), (11, .int x11), (12, .int x12), (13, .int x13)] [] st (k_124 x0 x1 x2 x3 x4 x5 x6 x7 x8 x9 x10 x11 x12 x13 st)) (x0 : Nat) (x1 : Int32) (x2 : Int32) (x3 : Int32) (x4 : Int32) (x5 : Int32) (x6 : Int32) (x7 : Int32) (x8 : Int32) (x9 : Int32) (x10 : Int32) (x11 : Int32) (x12 : Int32) (x13 : Int32) (y0 : Int32) (st : St) : WW X res NN 242 [(0, .ref (x_b X + x0)), (1, .int x1), (2, .int x2), (3, .int x3), (4, .int x4), (5, .int x5), (6, .int x6), (7, .int x7), (8, .int x8), (9, .int x9), (10, .int x10), (11, .int x11), (12, .int x12), (13, .int x13)] [.int y0] st (b_X12_ask_242 fu k_114 k_124 x0 x1 x2 x3 x4 x5 x6 x7 x8 x9 x10 x11 x12 x13 y0 st) := by
  have hX := B.1
  have hL := B.2.1
  unfold b_X12_ask_242
  refine ww_aload_n hX 0 rfl dX12_ask_242 rfl ?_
  refine ww_iload hX 12 rfl dX12_ask_243 ?_
  refine ww_iload hX 13 rfl dX12_ask_245 ?_
  refine ww_iload_n hX 3 rfl dX12_ask_247 rfl ?_
  refine ww_iadd hX dX12_ask_248 ?_
  refine ww_callVI (As := [.int x12, .int (x13 + x3)]) (rest := [.int y0]) (o := x0) hX (Rk.of B.2.2.1 B.2.2.2.1 (by decide) (by decide)) g_X12_605 g_X12_605.in (fun _ => c_X12_isFree (x_G X) (x_l X) fu x0 x12 (x13 + x3) st) rfl rfl (Nat.le_of_ble_eq_true rfl) dX12_ask_249 (fun r26 s27 => ?_)
  refine ww_if_eq (tgt := 274) hX dX12_ask_252 (by decide) ?_ ?_
  · exact t_X12_ask_274 B fu k_114 k_124 h_114 h_124 x0 x1 x2 x3 x4 x5 x6 x7 x8 x9 x10 x11 x12 x13 y0 s27
  · refine ww_aload_n hX 0 rfl dX12_ask_255 rfl ?_
    refine ww_iload hX 12 rfl dX12_ask_256 ?_
    refine ww_iload hX 13 rfl dX12_ask_258 ?_
    refine ww_iload_n hX 3 rfl dX12_ask_260 rfl ?_
    refine ww_iadd hX dX12_ask_261 ?_
    refine ww_iconst (v := 1) hX rfl dX12_ask_262 ?_
    refine ww_iadd hX dX12_ask_263 ?_
    refine ww_pc (b := 264) rfl ?_
    refine ww_callVI (As := [.int x12, .int ((x13 + x3) + 1)]) (rest := [.int y0]) (o := x0) hX (Rk.of B.2.2.1 B.2.2.2.1 (by decide) (by decide)) g_X12_605 g_X12_605.in (fun _ => c_X12_isFree (x_G X) (x_l X) fu x0 x12 ((x13 + x3) + 1) s27) rfl rfl (Nat.le_of_ble_eq_true rfl) dX12_ask_264 (fun r32 s33 => ?_)
    refine ww_if_ne (tgt := 274) hX dX12_ask_267 (by decide) ?_ ?_
    · exact t_X12_ask_274 B fu k_114 k_124 h_114 h_124 x0 x1 x2 x3 x4 x5 x6 x7 x8 x9 x10 x11 x12 x13 y0 s33
    · refine ww_iconst (v := 1) hX rfl dX12_ask_270 ?_
      refine ww_goto (tgt := 275) hX dX12_ask_271 (by decide) ?_
      exact t_X12_ask_275 B fu k_114 k_124 h_114 h_124 x0 x1 x2 x3 x4 x5 x6 x7 x8 x9 x10 x11 x12 x13 y0 1 s33
def b_X12_ask_241 (fu : Nat) (k_114 : Nat → Int32 → Int32 → Int32 → Int32 → Int32 → Int32 → Int32 → Int32 → Int32 → Int32 → Int32 → Int32 → St → Option (Int32 × St)) (k_124 : Nat → Int32 → Int32 → Int32 → Int32 → Int32 → Int32 → Int32 → Int32 → Int32 → Int32 → Int32 → Int32 → Int32 → St → Option (Int32 × St)) (x0 : Nat) (x1 : Int32) (x2 : Int32) (x3 : Int32) (x4 : Int32) (x5 : Int32) (x6 : Int32) (x7 : Int32) (x8 : Int32) (x9 : Int32) (x10 : Int32) (x11 : Int32) (x12 : Int32) (x13 : Int32)  (st : St) : Option (Int32 × St) :=
  b_X12_ask_242 fu k_114 k_124 x0 x1 x2 x3 x4 x5 x6 x7 x8 x9 x10 x11 x12 x13 0 st
set_option maxHeartbeats 4000000 in
set_option maxRecDepth 100000 in
theorem t_X12_ask_241 {X : CX} {res : Int32 × St} (B : BI X cX12_ask RX12 18 2 NN (some .int) res) (fu : Nat) (k_114 : Nat → Int32 → Int32 → Int32 → Int32 → Int32 → Int32 → Int32 → Int32 → Int32 → Int32 → Int32 → Int32 → St → Option (Int32 × St)) (k_124 : Nat → Int32 → Int32 → Int32 → Int32 → Int32 → Int32 → Int32 → Int32 → Int32 → Int32 → Int32 → Int32 → Int32 → St → Option (Int32 × St)) (h_114 : ∀ (x0 : Nat) (x1 : Int32) (x2 : Int32) (x3 : Int32) (x4 : Int32) (x5 : Int32) (x6 : Int32) (x7 : Int32) (x8 : Int32) (x9 : Int32) (x10 : Int32) (x11 : Int32) (x12 : Int32)  (st : St), WW X res NN 114 [(0, .ref (x_b X + x0)), (1, .int x1), (2, .int x2), (3, .int x3), (4, .int x4), (5, .int x5), (6, .int x6), (7, .int x7), (8, .int x8), (9, .int x9), (10, .int x10), (11, .int x11), (12, .int x12)] [] st (k_114 x0 x1 x2 x3 x4 x5 x6 x7 x8 x9 x10 x11 x12 st)) (h_124 : ∀ (x0 : Nat) (x1 : Int32) (x2 : Int32) (x3 : Int32) (x4 : Int32) (x5 : Int32) (x6 : Int32) (x7 : Int32) (x8 : Int32) (x9 : Int32) (x10 : Int32) (x11 : Int32) (x12 : Int32) (x13 : Int32)  (st : St), WW X res NN 124 [(0, .ref (x_b X + x0)), (1, .int x1), (2, .int x2), (3, .int x3), (4, .int x4), (5, .int x5), (6, .int x6), (7, .int x7), (8, .int x8), (9, .int x9), (10, .int x10), (11, .int x11), (12, .int x12), (13, .int x13)] [] st (k_124 x0 x1 x2 x3 x4 x5 x6 x7 x8 x9 x10 x11 x12 x13 st)) (x0 : Nat) (x1 : Int32) (x2 : Int32) (x3 : Int32) (x4 : Int32) (x5 : Int32) (x6 : Int32) (x7 : Int32) (x8 : Int32) (x9 : Int32) (x10 : Int32) (x11 : Int32) (x12 : Int32) (x13 : Int32)  (st : St) : WW X res NN 241 [(0, .ref (x_b X + x0)), (1, .int x1), (2, .int x2), (3, .int x3), (4, .int x4), (5, .int x5), (6, .int x6), (7, .int x7), (8, .int x8), (9, .int x9), (10, .int x10), (11, .int x11), (12, .int x12), (13, .int x13)] [] st (b_X12_ask_241 fu k_114 k_124 x0 x1 x2 x3 x4 x5 x6 x7 x8 x9 x10 x11 x12 x13 st) := by
  have hX := B.1
  have hL := B.2.1
  unfold b_X12_ask_241
  refine ww_iconst (v := 0) hX rfl dX12_ask_241 ?_
  exact t_X12_ask_242 B fu k_114 k_124 h_114 h_124 x0 x1 x2 x3 x4 x5 x6 x7 x8 x9 x10 x11 x12 x13 0 st
def b_X12_ask_198 (fu : Nat) (k_114 : Nat → Int32 → Int32 → Int32 → Int32 → Int32 → Int32 → Int32 → Int32 → Int32 → Int32 → Int32 → Int32 → St → Option (Int32 × St)) (k_124 : Nat → Int32 → Int32 → Int32 → Int32 → Int32 → Int32 → Int32 → Int32 → Int32 → Int32 → Int32 → Int32 → Int32 → St → Option (Int32 × St)) (k_156 : Nat → Int32 → Int32 → Int32 → Int32 → Int32 → Int32 → Int32 → Int32 → Int32 → Int32 → Int32 → Int32 → Int32 → Int32 → Int32 → St → Option (Int32 × St)) (x0 : Nat) (x1 : Int32) (x2 : Int32) (x3 : Int32) (x4 : Int32) (x5 : Int32) (x6 : Int32) (x7 : Int32) (x8 : Int32) (x9 : Int32) (x10 : Int32) (x11 : Int32) (x12 : Int32) (x13 : Int32) (x15 : Int32) (y0 : Int32) (st : St) : Option (Int32 × St) :=
  bd (x15 + 1) fun v36 =>
  k_156 x0 x1 x2 x3 x4 x5 x6 x7 x8 x9 x10 x11 x12 x13 y0 v36  st
set_option maxHeartbeats 4000000 in
set_option maxRecDepth 100000 in
theorem t_X12_ask_198 {X : CX} {res : Int32 × St} (B : BI X cX12_ask RX12 18 2 NN (some .int) res) (fu : Nat) (k_114 : Nat → Int32 → Int32 → Int32 → Int32 → Int32 → Int32 → Int32 → Int32 → Int32 → Int32 → Int32 → Int32 → St → Option (Int32 × St)) (k_124 : Nat → Int32 → Int32 → Int32 → Int32 → Int32 → Int32 → Int32 → Int32 → Int32 → Int32 → Int32 → Int32 → Int32 → St → Option (Int32 × St)) (k_156 : Nat → Int32 → Int32 → Int32 → Int32 → Int32 → Int32 → Int32 → Int32 → Int32 → Int32 → Int32 → Int32 → Int32 → Int32 → Int32 → St → Option (Int32 × St)) (h_114 : ∀ (x0 : Nat) (x1 : Int32) (x2 : Int32) (x3 : Int32) (x4 : Int32) (x5 : Int32) (x6 : Int32) (x7 : Int32) (x8 : Int32) (x9 : Int32) (x10 : Int32) (x11 : Int32) (x12 : Int32)  (st : St), WW X res NN 114 [(0, .ref (x_b X + x0)), (1, .int x1), (2, .int x2), (3, .int x3), (4, .int x4), (5, .int x5), (6, .int x6), (7, .int x7), (8, .int x8), (9, .int x9), (10, .int x10), (11, .int x11), (12, .int x12)] [] st (k_114 x0 x1 x2 x3 x4 x5 x6 x7 x8 x9 x10 x11 x12 st)) (h_124 : ∀ (x0 : Nat) (x1 : Int32) (x2 : Int32) (x3 : Int32) (x4 : Int32) (x5 : Int32) (x6 : Int32) (x7 : Int32) (x8 : Int32) (x9 : Int32) (x10 : Int32) (x11 : Int32) (x12 : Int32) (x13 : Int32)  (st : St), WW X res NN 124 [(0, .ref (x_b X + x0)), (1, .int x1), (2, .int x2), (3, .int x3), (4, .int x4), (5, .int x5), (6, .int x6), (7, .int x7), (8, .int x8), (9, .int x9), (10, .int x10), (11, .int x11), (12, .int x12), (13, .int x13)] [] st (k_124 x0 x1 x2 x3 x4 x5 x6 x7 x8 x9 x10 x11 x12 x13 st)) (h_156 : ∀ (x0 : Nat) (x1 : Int32) (x2 : Int32) (x3 : Int32) (x4 : Int32) (x5 : Int32) (x6 : Int32) (x7 : Int32) (x8 : Int32) (x9 : Int32) (x10 : Int32) (x11 : Int32) (x12 : Int32) (x13 : Int32) (x14 : Int32) (x15 : Int32)  (st : St), WW X res NN 156 [(0, .ref (x_b X + x0)), (1, .int x1), (2, .int x2), (3, .int x3), (4, .int x4), (5, .int x5), (6, .int x6), (7, .int x7), (8, .int x8), (9, .int x9), (10, .int x10), (11, .int x11), (12, .int x12), (13, .int x13), (14, .int x14), (15, .int x15)] [] st (k_156 x0 x1 x2 x3 x4 x5 x6 x7 x8 x9 x10 x11 x12 x13 x14 x15 st)) (x0 : Nat) (x1 : Int32) (x2 : Int32) (x3 : Int32) (x4 : Int32) (x5 : Int32) (x6 : Int32) (x7 : Int32) (x8 : Int32) (x9 : Int32) (x10 : Int32) (x11 : Int32) (x12 : Int32) (x13 : Int32) (x15 : Int32) (y0 : Int32) (st : St) : WW X res NN 198 [(0, .ref (x_b X + x0)), (1, .int x1), (2, .int x2), (3, .int x3), (4, .int x4), (5, .int x5), (6, .int x6), (7, .int x7), (8, .int x8), (9, .int x9), (10, .int x10), (11, .int x11), (12, .int x12), (13, .int x13), (15, .int x15)] [.int y0] st (b_X12_ask_198 fu k_114 k_124 k_156 x0 x1 x2 x3 x4 x5 x6 x7 x8 x9 x10 x11 x12 x13 x15 y0 st) := by
  have hX := B.1
  have hL := B.2.1
  unfold b_X12_ask_198
  refine ww_istore (lv' := [(14, .int y0), (0, .ref (x_b X + x0)), (1, .int x1), (2, .int x2), (3, .int x3), (4, .int x4), (5, .int x5), (6, .int x6), (7, .int x7), (8, .int x8), (9, .int x9), (10, .int x10), (11, .int x11), (12, .int x12), (13, .int x13), (15, .int x15)]) hX hL dX12_ask_198 (by decide) rfl ?_
  refine ww_iincb (lv' := fun v36 => [(15, .int v36), (14, .int y0), (0, .ref (x_b X + x0)), (1, .int x1), (2, .int x2), (3, .int x3), (4, .int x4), (5, .int x5), (6, .int x6), (7, .int x7), (8, .int x8), (9, .int x9), (10, .int x10), (11, .int x11), (12, .int x12), (13, .int x13)]) (c := 1) hX hL 15 rfl dX12_ask_200 rfl (by decide) (fun _ => rfl) (fun v36 => ?_)
  refine ww_goto (tgt := 156) hX dX12_ask_203 (by decide) ?_
  exact ww_sub [2, 3, 4, 5, 6, 7, 8, 9, 10, 11, 12, 13, 14, 15, 1, 0] rfl (h_156 x0 x1 x2 x3 x4 x5 x6 x7 x8 x9 x10 x11 x12 x13 y0 v36  st)
def b_X12_ask_197 (fu : Nat) (k_114 : Nat → Int32 → Int32 → Int32 → Int32 → Int32 → Int32 → Int32 → Int32 → Int32 → Int32 → Int32 → Int32 → St → Option (Int32 × St)) (k_124 : Nat → Int32 → Int32 → Int32 → Int32 → Int32 → Int32 → Int32 → Int32 → Int32 → Int32 → Int32 → Int32 → Int32 → St → Option (Int32 × St)) (k_156 : Nat → Int32 → Int32 → Int32 → Int32 → Int32 → Int32 → Int32 → Int32 → Int32 → Int32 → Int32 → Int32 → Int32 → Int32 → Int32 → St → Option (Int32 × St)) (x0 : Nat) (x1 : Int32) (x2 : Int32) (x3 : Int32) (x4 : Int32) (x5 : Int32) (x6 : Int32) (x7 : Int32) (x8 : Int32) (x9 : Int32) (x10 : Int32) (x11 : Int32) (x12 : Int32) (x13 : Int32) (x15 : Int32)  (st : St) : Option (Int32 × St) :=
  b_X12_ask_198 fu k_114 k_124 k_156 x0 x1 x2 x3 x4 x5 x6 x7 x8 x9 x10 x11 x12 x13 x15 0 st
set_option maxHeartbeats 4000000 in
set_option maxRecDepth 100000 in
theorem t_X12_ask_197 {X : CX} {res : Int32 × St} (B : BI X cX12_ask RX12 18 2 NN (some .int) res) (fu : Nat) (k_114 : Nat → Int32 → Int32 → Int32 → Int32 → Int32 → Int32 → Int32 → Int32 → Int32 → Int32 → Int32 → Int32 → St → Option (Int32 × St)) (k_124 : Nat → Int32 → Int32 → Int32 → Int32 → Int32 → Int32 → Int32 → Int32 → Int32 → Int32 → Int32 → Int32 → Int32 → St → Option (Int32 × St)) (k_156 : Nat → Int32 → Int32 → Int32 → Int32 → Int32 → Int32 → Int32 → Int32 → Int32 → Int32 → Int32 → Int32 → Int32 → Int32 → Int32 → St → Option (Int32 × St)) (h_114 : ∀ (x0 : Nat) (x1 : Int32) (x2 : Int32) (x3 : Int32) (x4 : Int32) (x5 : Int32) (x6 : Int32) (x7 : Int32) (x8 : Int32) (x9 : Int32) (x10 : Int32) (x11 : Int32) (x12 : Int32)  (st : St), WW X res NN 114 [(0, .ref (x_b X + x0)), (1, .int x1), (2, .int x2), (3, .int x3), (4, .int x4), (5, .int x5), (6, .int x6), (7, .int x7), (8, .int x8), (9, .int x9), (10, .int x10), (11, .int x11), (12, .int x12)] [] st (k_114 x0 x1 x2 x3 x4 x5 x6 x7 x8 x9 x10 x11 x12 st)) (h_124 : ∀ (x0 : Nat) (x1 : Int32) (x2 : Int32) (x3 : Int32) (x4 : Int32) (x5 : Int32) (x6 : Int32) (x7 : Int32) (x8 : Int32) (x9 : Int32) (x10 : Int32) (x11 : Int32) (x12 : Int32) (x13 : Int32)  (st : St), WW X res NN 124 [(0, .ref (x_b X + x0)), (1, .int x1), (2, .int x2), (3, .int x3), (4, .int x4), (5, .int x5), (6, .int x6), (7, .int x7), (8, .int x8), (9, .int x9), (10, .int x10), (11, .int x11), (12, .int x12), (13, .int x13)] [] st (k_124 x0 x1 x2 x3 x4 x5 x6 x7 x8 x9 x10 x11 x12 x13 st)) (h_156 : ∀ (x0 : Nat) (x1 : Int32) (x2 : Int32) (x3 : Int32) (x4 : Int32) (x5 : Int32) (x6 : Int32) (x7 : Int32) (x8 : Int32) (x9 : Int32) (x10 : Int32) (x11 : Int32) (x12 : Int32) (x13 : Int32) (x14 : Int32) (x15 : Int32)  (st : St), WW X res NN 156 [(0, .ref (x_b X + x0)), (1, .int x1), (2, .int x2), (3, .int x3), (4, .int x4), (5, .int x5), (6, .int x6), (7, .int x7), (8, .int x8), (9, .int x9), (10, .int x10), (11, .int x11), (12, .int x12), (13, .int x13), (14, .int x14), (15, .int x15)] [] st (k_156 x0 x1 x2 x3 x4 x5 x6 x7 x8 x9 x10 x11 x12 x13 x14 x15 st)) (x0 : Nat) (x1 : Int32) (x2 : Int32) (x3 : Int32) (x4 : Int32) (x5 : Int32) (x6 : Int32) (x7 : Int32) (x8 : Int32) (x9 : Int32) (x10 : Int32) (x11 : Int32) (x12 : Int32) (x13 : Int32) (x15 : Int32)  (st : St) : WW X res NN 197 [(0, .ref (x_b X + x0)), (1, .int x1), (2, .int x2), (3, .int x3), (4, .int x4), (5, .int x5), (6, .int x6), (7, .int x7), (8, .int x8), (9, .int x9), (10, .int x10), (11, .int x11), (12, .int x12), (13, .int x13), (15, .int x15)] [] st (b_X12_ask_197 fu k_114 k_124 k_156 x0 x1 x2 x3 x4 x5 x6 x7 x8 x9 x10 x11 x12 x13 x15 st) := by
  have hX := B.1
  have hL := B.2.1
  unfold b_X12_ask_197
  refine ww_iconst (v := 0) hX rfl dX12_ask_197 ?_
  exact t_X12_ask_198 B fu k_114 k_124 k_156 h_114 h_124 h_156 x0 x1 x2 x3 x4 x5 x6 x7 x8 x9 x10 x11 x12 x13 x15 0 st
def b_X12_ask_156_b (fu : Nat) (k_114 : Nat → Int32 → Int32 → Int32 → Int32 → Int32 → Int32 → Int32 → Int32 → Int32 → Int32 → Int32 → Int32 → St → Option (Int32 × St)) (k_124 : Nat → Int32 → Int32 → Int32 → Int32 → Int32 → Int32 → Int32 → Int32 → Int32 → Int32 → Int32 → Int32 → Int32 → St → Option (Int32 × St)) (k_156 : Nat → Int32 → Int32 → Int32 → Int32 → Int32 → Int32 → Int32 → Int32 → Int32 → Int32 → Int32 → Int32 → Int32 → Int32 → Int32 → St → Option (Int32 × St)) (x0 : Nat) (x1 : Int32) (x2 : Int32) (x3 : Int32) (x4 : Int32) (x5 : Int32) (x6 : Int32) (x7 : Int32) (x8 : Int32) (x9 : Int32) (x10 : Int32) (x11 : Int32) (x12 : Int32) (x13 : Int32) (x14 : Int32) (x15 : Int32)  (st : St) : Option (Int32 × St) :=
  if (x13 + x3) ≤ x15 then (
  if x14 = 0 then (
  b_X12_ask_361 fu k_114 k_124 x0 x1 x2 x3 x4 x5 x6 x7 x8 x9 x10 x11 x12 x13  st)
  else (
  ck ((kd x0).1 = 12) <|
  ca (f_X12_isFree fu x0 x12 (x13 - 1) st) fun r24 s25 =>
  if r24 = 0 then (
  b_X12_ask_241 fu k_114 k_124 x0 x1 x2 x3 x4 x5 x6 x7 x8 x9 x10 x11 x12 x13  s25)
  else (
  ck ((kd x0).1 = 12) <|
  ca (f_X12_isFree fu x0 x12 (x13 - 2) s25) fun r34 s35 =>
  if r34 = 0 then (
  b_X12_ask_242 fu k_114 k_124 x0 x1 x2 x3 x4 x5 x6 x7 x8 x9 x10 x11 x12 x13 1 s35)
  else (
  b_X12_ask_241 fu k_114 k_124 x0 x1 x2 x3 x4 x5 x6 x7 x8 x9 x10 x11 x12 x13  s35))))
  else (
  if x14 = 0 then (
  b_X12_ask_197 fu k_114 k_124 k_156 x0 x1 x2 x3 x4 x5 x6 x7 x8 x9 x10 x11 x12 x13 x15  st)
  else (
  ck ((kd x0).1 = 12) <|
  ca (f_X12_isFree fu x0 x12 x15 st) fun r37 s38 =>
  if r37 = 0 then (
  b_X12_ask_197 fu k_114 k_124 k_156 x0 x1 x2 x3 x4 x5 x6 x7 x8 x9 x10 x11 x12 x13 x15  s38)
  else (
  ck ((kd x0).1 = 12) <|
  ca (f_X12_mayTake fu x0 x1 x12 x15 s38) fun r39 s40 =>
  if r39 = 0 then (
  b_X12_ask_197 fu k_114 k_124 k_156 x0 x1 x2 x3 x4 x5 x6 x7 x8 x9 x10 x11 x12 x13 x15  s40)
  else (
  b_X12_ask_198 fu k_114 k_124 k_156 x0 x1 x2 x3 x4 x5 x6 x7 x8 x9 x10 x11 x12 x13 x15 1 s40))))
set_option maxHeartbeats 4000000 in
set_option maxRecDepth 100000 in
theorem t_X12_ask_156_b {X : CX} {res : Int32 × St} (B : BI X cX12_ask RX12 18 2 NN (some .int) res) (fu : Nat) (k_114 : Nat → Int32 → Int32 → Int32 → Int32 → Int32 → Int32 → Int32 → Int32 → Int32 → Int32 → Int32 → Int32 → St → Option (Int32 × St)) (k_124 : Nat → Int32 → Int32 → Int32 → Int32 → Int32 → Int32 → Int32 → Int32 → Int32 → Int32 → Int32 → Int32 → Int32 → St → Option (Int32 × St)) (k_156 : Nat → Int32 → Int32 → Int32 → Int32 → Int32 → Int32 → Int32 → Int32 → Int32 → Int32 → Int32 → Int32 → Int32 → Int32 → Int32 → St → Option (Int32 × St)) (h_114 : ∀ (x0 : Nat) (x1 : Int32) (x2 : Int32) (x3 : Int32) (x4 : Int32) (x5 : Int32) (x6 : Int32) (x7 : Int32) (x8 : Int32) (x9 : Int32) (x10 : Int32) (x11 : Int32) (x12 : Int32)  (st : St), WW X res NN 114 [(0, .ref (x_b X + x0)), (1, .int x1), (2, .int x2), (3, .int x3), (4, .int x4), (5, .int x5), (6, .int x6), (7, .int x7), (8, .int x8), (9, .int x9), (10, .int x10), (11, .int x11), (12, .int x12)] [] st (k_114 x0 x1 x2 x3 x4 x5 x6 x7 x8 x9 x10 x11 x12 st)) (h_124 : ∀ (x0 : Nat) (x1 : Int32) (x2 : Int32) (x3 : Int32) (x4 : Int32) (x5 : Int32) (x6 : Int32) (x7 : Int32) (x8 : Int32) (x9 : Int32) (x10 : Int32) (x11 : Int32) (x12 : Int32) (x13 : Int32)  (st : St), WW X res NN 124 [(0, .ref (x_b X + x0)), (1, .int x1), (2, .int x2), (3, .int x3), (4, .int x4), (5, .int x5), (6, .int x6), (7, .int x7), (8, .int x8), (9, .int x9), (10, .int x10), (11, .int x11), (12, .int x12), (13, .int x13)] [] st (k_124 x0 x1 x2 x3 x4 x5 x6 x7 x8 x9 x10 x11 x12 x13 st)) (h_156 : ∀ (x0 : Nat) (x1 : Int32) (x2 : Int32) (x3 : Int32) (x4 : Int32) (x5 : Int32) (x6 : Int32) (x7 : Int32) (x8 : Int32) (x9 : Int32) (x10 : Int32) (x11 : Int32) (x12 : Int32) (x13 : Int32) (x14 : Int32) (x15 : Int32)  (st : St), WW X res NN 156 [(0, .ref (x_b X + x0)), (1, .int x1), (2, .int x2), (3, .int x3), (4, .int x4), (5, .int x5), (6, .int x6), (7, .int x7), (8, .int x8), (9, .int x9), (10, .int x10), (11, .int x11), (12, .int x12), (13, .int x13), (14, .int x14), (15, .int x15)] [] st (k_156 x0 x1 x2 x3 x4 x5 x6 x7 x8 x9 x10 x11 x12 x13 x14 x15 st)) (x0 : Nat) (x1 : Int32) (x2 : Int32) (x3 : Int32) (x4 : Int32) (x5 : Int32) (x6 : Int32) (x7 : Int32) (x8 : Int32) (x9 : Int32) (x10 : Int32) (x11 : Int32) (x12 : Int32) (x13 : Int32) (x14 : Int32) (x15 : Int32)  (st : St) : WW X res NN 156 [(0, .ref (x_b X + x0)), (1, .int x1), (2, .int x2), (3, .int x3), (4, .int x4), (5, .int x5), (6, .int x6), (7, .int x7), (8, .int x8), (9, .int x9), (10, .int x10), (11, .int x11), (12, .int x12), (13, .int x13), (14, .int x14), (15, .int x15)] [] st (b_X12_ask_156_b fu k_114 k_124 k_156 x0 x1 x2 x3 x4 x5 x6 x7 x8 x9 x10 x11 x12 x13 x14 x15 st) := by
  have hX := B.1
  have hL := B.2.1
  unfold b_X12_ask_156_b
  refine ww_iload hX 15 rfl dX12_ask_156 ?_
  refine ww_iload hX 13 rfl dX12_ask_158 ?_
  refine ww_iload_n hX 3 rfl dX12_ask_160 rfl ?_
  refine ww_iadd hX dX12_ask_161 ?_
  refine ww_icmp_ge (tgt := 206) hX dX12_ask_162 (by decide) ?_ ?_
  · refine ww_iload hX 14 rfl dX12_ask_206 ?_
    refine ww_if_eq (tgt := 361) hX dX12_ask_208 (by decide) ?_ ?_
    · exact ww_sub [0, 1, 2, 3, 4, 5, 6, 7, 8, 9, 10, 11, 12, 13] rfl (t_X12_ask_361 B fu k_114 k_124 h_114 h_124 x0 x1 x2 x3 x4 x5 x6 x7 x8 x9 x10 x11 x12 x13  st)
    · refine ww_aload_n hX 0 rfl dX12_ask_211 rfl ?_
      refine ww_iload hX 12 rfl dX12_ask_212 ?_
      refine ww_iload hX 13 rfl dX12_ask_214 ?_
      refine ww_iconst (v := 1) hX rfl dX12_ask_216 ?_
      refine ww_isub hX dX12_ask_217 ?_
      refine ww_callVI (As := [.int x12, .int (x13 - 1)]) (rest := []) (o := x0) hX (Rk.of B.2.2.1 B.2.2.2.1 (by decide) (by decide)) g_X12_605 g_X12_605.in (fun _ => c_X12_isFree (x_G X) (x_l X) fu x0 x12 (x13 - 1) st) rfl rfl (Nat.le_of_ble_eq_true rfl) dX12_ask_218 (fun r24 s25 => ?_)
      refine ww_if_eq (tgt := 241) hX dX12_ask_221 (by decide) ?_ ?_
      · exact ww_sub [0, 1, 2, 3, 4, 5, 6, 7, 8, 9, 10, 11, 12, 13] rfl (t_X12_ask_241 B fu k_114 k_124 h_114 h_124 x0 x1 x2 x3 x4 x5 x6 x7 x8 x9 x10 x11 x12 x13  s25)
      · refine ww_aload_n hX 0 rfl dX12_ask_224 rfl ?_
        refine ww_iload hX 12 rfl dX12_ask_225 ?_
        refine ww_iload hX 13 rfl dX12_ask_227 ?_
        refine ww_iconst (v := 2) hX rfl dX12_ask_229 ?_
        refine ww_isub hX dX12_ask_230 ?_
        refine ww_callVI (As := [.int x12, .int (x13 - 2)]) (rest := []) (o := x0) hX (Rk.of B.2.2.1 B.2.2.2.1 (by decide) (by decide)) g_X12_605 g_X12_605.in (fun _ => c_X12_isFree (x_G X) (x_l X) fu x0 x12 (x13 - 2) s25) rfl rfl (Nat.le_of_ble_eq_true rfl) dX12_ask_231 (fun r34 s35 => ?_)
        refine ww_if_ne (tgt := 241) hX dX12_ask_234 (by decide) ?_ ?_
        · exact ww_sub [0, 1, 2, 3, 4, 5, 6, 7, 8, 9, 10, 11, 12, 13] rfl (t_X12_ask_241 B fu k_114 k_124 h_114 h_124 x0 x1 x2 x3 x4 x5 x6 x7 x8 x9 x10 x11 x12 x13  s35)
        · refine ww_iconst (v := 1) hX rfl dX12_ask_237 ?_
          refine ww_goto (tgt := 242) hX dX12_ask_238 (by decide) ?_
          exact ww_sub [0, 1, 2, 3, 4, 5, 6, 7, 8, 9, 10, 11, 12, 13] rfl (t_X12_ask_242 B fu k_114 k_124 h_114 h_124 x0 x1 x2 x3 x4 x5 x6 x7 x8 x9 x10 x11 x12 x13 1 s35)
  · refine ww_iload hX 14 rfl dX12_ask_165 ?_
    refine ww_if_eq (tgt := 197) hX dX12_ask_167 (by decide) ?_ ?_
    · exact ww_sub [0, 1, 2, 3, 4, 5, 6, 7, 8, 9, 10, 11, 12, 13, 15] rfl (t_X12_ask_197 B fu k_114 k_124 k_156 h_114 h_124 h_156 x0 x1 x2 x3 x4 x5 x6 x7 x8 x9 x10 x11 x12 x13 x15  st)
    · refine ww_aload_n hX 0 rfl dX12_ask_170 rfl ?_
      refine ww_iload hX 12 rfl dX12_ask_171 ?_
      refine ww_iload hX 15 rfl dX12_ask_173 ?_
      refine ww_callVI (As := [.int x12, .int x15]) (rest := []) (o := x0) hX (Rk.of B.2.2.1 B.2.2.2.1 (by decide) (by decide)) g_X12_605 g_X12_605.in (fun _ => c_X12_isFree (x_G X) (x_l X) fu x0 x12 x15 st) rfl rfl (Nat.le_of_ble_eq_true rfl) dX12_ask_175 (fun r37 s38 => ?_)
      refine ww_if_eq (tgt := 197) hX dX12_ask_178 (by decide) ?_ ?_
      · exact ww_sub [0, 1, 2, 3, 4, 5, 6, 7, 8, 9, 10, 11, 12, 13, 15] rfl (t_X12_ask_197 B fu k_114 k_124 k_156 h_114 h_124 h_156 x0 x1 x2 x3 x4 x5 x6 x7 x8 x9 x10 x11 x12 x13 x15  s38)
      · refine ww_aload_n hX 0 rfl dX12_ask_181 rfl ?_
        refine ww_iload_n hX 1 rfl dX12_ask_182 rfl ?_
        refine ww_iload hX 12 rfl dX12_ask_183 ?_
        refine ww_iload hX 15 rfl dX12_ask_185 ?_
        refine ww_callVI (As := [.int x1, .int x12, .int x15]) (rest := []) (o := x0) hX (Rk.of B.2.2.1 B.2.2.2.1 (by decide) (by decide)) g_X12_608 g_X12_608.in (fun _ => c_X12_mayTake (x_G X) (x_l X) fu x0 x1 x12 x15 s38) rfl rfl (Nat.le_of_ble_eq_true rfl) dX12_ask_187 (fun r39 s40 => ?_)
        refine ww_if_eq (tgt := 197) hX dX12_ask_190 (by decide) ?_ ?_
        · exact ww_sub [0, 1, 2, 3, 4, 5, 6, 7, 8, 9, 10, 11, 12, 13, 15] rfl (t_X12_ask_197 B fu k_114 k_124 k_156 h_114 h_124 h_156 x0 x1 x2 x3 x4 x5 x6 x7 x8 x9 x10 x11 x12 x13 x15  s40)
        · refine ww_iconst (v := 1) hX rfl dX12_ask_193 ?_
          refine ww_goto (tgt := 198) hX dX12_ask_194 (by decide) ?_
          exact ww_sub [0, 1, 2, 3, 4, 5, 6, 7, 8, 9, 10, 11, 12, 13, 15] rfl (t_X12_ask_198 B fu k_114 k_124 k_156 h_114 h_124 h_156 x0 x1 x2 x3 x4 x5 x6 x7 x8 x9 x10 x11 x12 x13 x15 1 s40)
def b_X12_ask_156 (fu : Nat) (k_114 : Nat → Int32 → Int32 → Int32 → Int32 → Int32 → Int32 → Int32 → Int32 → Int32 → Int32 → Int32 → Int32 → St → Option (Int32 × St)) (k_124 : Nat → Int32 → Int32 → Int32 → Int32 → Int32 → Int32 → Int32 → Int32 → Int32 → Int32 → Int32 → Int32 → Int32 → St → Option (Int32 × St)) : Nat → Nat → Int32 → Int32 → Int32 → Int32 → Int32 → Int32 → Int32 → Int32 → Int32 → Int32 → Int32 → Int32 → Int32 → Int32 → Int32 → St → Option (Int32 × St)
  | 0, _, _, _, _, _, _, _, _, _, _, _, _, _, _, _, _, _ => none
  | i + 1, x0, x1, x2, x3, x4, x5, x6, x7, x8, x9, x10, x11, x12, x13, x14, x15, st => b_X12_ask_156_b fu k_114 k_124 (b_X12_ask_156 fu k_114 k_124 i) x0 x1 x2 x3 x4 x5 x6 x7 x8 x9 x10 x11 x12 x13 x14 x15 st
theorem t_X12_ask_156 {X : CX} {res : Int32 × St} (B : BI X cX12_ask RX12 18 2 NN (some .int) res) (fu : Nat) (k_114 : Nat → Int32 → Int32 → Int32 → Int32 → Int32 → Int32 → Int32 → Int32 → Int32 → Int32 → Int32 → Int32 → St → Option (Int32 × St)) (k_124 : Nat → Int32 → Int32 → Int32 → Int32 → Int32 → Int32 → Int32 → Int32 → Int32 → Int32 → Int32 → Int32 → Int32 → St → Option (Int32 × St)) (h_114 : ∀ (x0 : Nat) (x1 : Int32) (x2 : Int32) (x3 : Int32) (x4 : Int32) (x5 : Int32) (x6 : Int32) (x7 : Int32) (x8 : Int32) (x9 : Int32) (x10 : Int32) (x11 : Int32) (x12 : Int32)  (st : St), WW X res NN 114 [(0, .ref (x_b X + x0)), (1, .int x1), (2, .int x2), (3, .int x3), (4, .int x4), (5, .int x5), (6, .int x6), (7, .int x7), (8, .int x8), (9, .int x9), (10, .int x10), (11, .int x11), (12, .int x12)] [] st (k_114 x0 x1 x2 x3 x4 x5 x6 x7 x8 x9 x10 x11 x12 st)) (h_124 : ∀ (x0 : Nat) (x1 : Int32) (x2 : Int32) (x3 : Int32) (x4 : Int32) (x5 : Int32) (x6 : Int32) (x7 : Int32) (x8 : Int32) (x9 : Int32) (x10 : Int32) (x11 : Int32) (x12 : Int32) (x13 : Int32)  (st : St), WW X res NN 124 [(0, .ref (x_b X + x0)), (1, .int x1), (2, .int x2), (3, .int x3), (4, .int x4), (5, .int x5), (6, .int x6), (7, .int x7), (8, .int x8), (9, .int x9), (10, .int x10), (11, .int x11), (12, .int x12), (13, .int x13)] [] st (k_124 x0 x1 x2 x3 x4 x5 x6 x7 x8 x9 x10 x11 x12 x13 st)) : ∀ (i : Nat) (x0 : Nat) (x1 : Int32) (x2 : Int32) (x3 : Int32) (x4 : Int32) (x5 : Int32) (x6 : Int32) (x7 : Int32) (x8 : Int32) (x9 : Int32) (x10 : Int32) (x11 : Int32) (x12 : Int32) (x13 : Int32) (x14 : Int32) (x15 : Int32)  (st : St), WW X res NN 156 [(0, .ref (x_b X + x0)), (1, .int x1), (2, .int x2), (3, .int x3), (4, .int x4), (5, .int x5), (6, .int x6), (7, .int x7), (8, .int x8), (9, .int x9), (10, .int x10), (11, .int x11), (12, .int x12), (13, .int x13), (14, .int x14), (15, .int x15)] [] st (b_X12_ask_156 fu k_114 k_124 i x0 x1 x2 x3 x4 x5 x6 x7 x8 x9 x10 x11 x12 x13 x14 x15 st) := by
  intro i
  induction i with
  | zero => intro x0 x1 x2 x3 x4 x5 x6 x7 x8 x9 x10 x11 x12 x13 x14 x15 st; exact ww_none
  | succ i ih => intro x0 x1 x2 x3 x4 x5 x6 x7 x8 x9 x10 x11 x12 x13 x14 x15 st; exact t_X12_ask_156_b B fu k_114 k_124 (b_X12_ask_156 fu k_114 k_124 i) h_114 h_124 ih x0 x1 x2 x3 x4 x5 x6 x7 x8 x9 x10 x11 x12 x13 x14 x15 st
def b_X12_ask_124_b (fu : Nat) (k_114 : Nat → Int32 → Int32 → Int32 → Int32 → Int32 → Int32 → Int32 → Int32 → Int32 → Int32 → Int32 → Int32 → St → Option (Int32 × St)) (k_124 : Nat → Int32 → Int32 → Int32 → Int32 → Int32 → Int32 → Int32 → Int32 → Int32 → Int32 → Int32 → Int32 → Int32 → St → Option (Int32 × St)) (x0 : Nat) (x1 : Int32) (x2 : Int32) (x3 : Int32) (x4 : Int32) (x5 : Int32) (x6 : Int32) (x7 : Int32) (x8 : Int32) (x9 : Int32) (x10 : Int32) (x11 : Int32) (x12 : Int32) (x13 : Int32)  (st : St) : Option (Int32 × St) :=
  ck (¬ gR st x0 74 = 0) <|
  ck ((kd x0).1 = 12) <|
  bd (gR st x0 74) fun o20 =>
  ck ((kd o20).1 = 100 ∧ inb x12 (kd o20).2) <|
  if (gI st o20 (ix x12)) = x2 then (
  ck (¬ gR st x0 75 = 0) <|
  ck ((kd x0).1 = 12) <|
  bd (gR st x0 75) fun o22 =>
  ck ((kd o22).1 = 100 ∧ inb x12 (kd o22).2) <|
  if (gI st o22 (ix x12)) < (x13 + x3) then (
  b_X12_ask_367 fu k_114 x0 x1 x2 x3 x4 x5 x6 x7 x8 x9 x10 x11 x12  st)
  else (
  b_X12_ask_156 fu k_114 k_124 fu x0 x1 x2 x3 x4 x5 x6 x7 x8 x9 x10 x11 x12 x13 1 x13  st))
  else (
  b_X12_ask_367 fu k_114 x0 x1 x2 x3 x4 x5 x6 x7 x8 x9 x10 x11 x12  st)
set_option maxHeartbeats 4000000 in
set_option maxRecDepth 100000 in
theorem t_X12_ask_124_b {X : CX} {res : Int32 × St} (B : BI X cX12_ask RX12 18 2 NN (some .int) res) (fu : Nat) (k_114 : Nat → Int32 → Int32 → Int32 → Int32 → Int32 → Int32 → Int32 → Int32 → Int32 → Int32 → Int32 → Int32 → St → Option (Int32 × St)) (k_124 : Nat → Int32 → Int32 → Int32 → Int32 → Int32 → Int32 → Int32 → Int32 → Int32 → Int32 → Int32 → Int32 → Int32 → St → Option (Int32 × St)) (h_114 : ∀ (x0 : Nat) (x1 : Int32) (x2 : Int32) (x3 : Int32) (x4 : Int32) (x5 : Int32) (x6 : Int32) (x7 : Int32) (x8 : Int32) (x9 : Int32) (x10 : Int32) (x11 : Int32) (x12 : Int32)  (st : St), WW X res NN 114 [(0, .ref (x_b X + x0)), (1, .int x1), (2, .int x2), (3, .int x3), (4, .int x4), (5, .int x5), (6, .int x6), (7, .int x7), (8, .int x8), (9, .int x9), (10, .int x10), (11, .int x11), (12, .int x12)] [] st (k_114 x0 x1 x2 x3 x4 x5 x6 x7 x8 x9 x10 x11 x12 st)) (h_124 : ∀ (x0 : Nat) (x1 : Int32) (x2 : Int32) (x3 : Int32) (x4 : Int32) (x5 : Int32) (x6 : Int32) (x7 : Int32) (x8 : Int32) (x9 : Int32) (x10 : Int32) (x11 : Int32) (x12 : Int32) (x13 : Int32)  (st : St), WW X res NN 124 [(0, .ref (x_b X + x0)), (1, .int x1), (2, .int x2), (3, .int x3), (4, .int x4), (5, .int x5), (6, .int x6), (7, .int x7), (8, .int x8), (9, .int x9), (10, .int x10), (11, .int x11), (12, .int x12), (13, .int x13)] [] st (k_124 x0 x1 x2 x3 x4 x5 x6 x7 x8 x9 x10 x11 x12 x13 st)) (x0 : Nat) (x1 : Int32) (x2 : Int32) (x3 : Int32) (x4 : Int32) (x5 : Int32) (x6 : Int32) (x7 : Int32) (x8 : Int32) (x9 : Int32) (x10 : Int32) (x11 : Int32) (x12 : Int32) (x13 : Int32)  (st : St) : WW X res NN 124 [(0, .ref (x_b X + x0)), (1, .int x1), (2, .int x2), (3, .int x3), (4, .int x4), (5, .int x5), (6, .int x6), (7, .int x7), (8, .int x8), (9, .int x9), (10, .int x10), (11, .int x11), (12, .int x12), (13, .int x13)] [] st (b_X12_ask_124_b fu k_114 k_124 x0 x1 x2 x3 x4 x5 x6 x7 x8 x9 x10 x11 x12 x13 st) := by
  have hX := B.1
  have hL := B.2.1
  unfold b_X12_ask_124_b
  refine ww_aload_n hX 0 rfl dX12_ask_124 rfl ?_
  refine ww_getR hX f_X12_196 (Or.inr ⟨_, rfl⟩) dX12_ask_125 ?_
  refine ww_bdR (fun o20 => ?_)
  refine ww_iload hX 12 rfl dX12_ask_128 ?_
  refine ww_ialdc hX k_iald dX12_ask_130 ?_
  refine ww_iload_n hX 2 rfl dX12_ask_131 rfl ?_
  refine ww_icmp_ne (tgt := 367) hX dX12_ask_132 (by decide) ?_ ?_
  · exact ww_sub [0, 1, 2, 3, 4, 5, 6, 7, 8, 9, 10, 11, 12] rfl (t_X12_ask_367 B fu k_114 h_114 x0 x1 x2 x3 x4 x5 x6 x7 x8 x9 x10 x11 x12  st)
  · refine ww_iload hX 13 rfl dX12_ask_135 ?_
    refine ww_iload_n hX 3 rfl dX12_ask_137 rfl ?_
    refine ww_iadd hX dX12_ask_138 ?_
    refine ww_aload_n hX 0 rfl dX12_ask_139 rfl ?_
    refine ww_getR hX f_X12_199 (Or.inr ⟨_, rfl⟩) dX12_ask_140 ?_
    refine ww_bdR (fun o22 => ?_)
    refine ww_iload hX 12 rfl dX12_ask_143 ?_
    refine ww_ialdc hX k_iald dX12_ask_145 ?_
    refine ww_pc (b := 146) rfl ?_
    refine ww_icmp_gt (tgt := 367) hX dX12_ask_146 (by decide) ?_ ?_
    · exact ww_sub [0, 1, 2, 3, 4, 5, 6, 7, 8, 9, 10, 11, 12] rfl (t_X12_ask_367 B fu k_114 h_114 x0 x1 x2 x3 x4 x5 x6 x7 x8 x9 x10 x11 x12  st)
    · refine ww_iconst (v := 1) hX rfl dX12_ask_149 ?_
      refine ww_istore (lv' := [(14, .int 1), (0, .ref (x_b X + x0)), (1, .int x1), (2, .int x2), (3, .int x3), (4, .int x4), (5, .int x5), (6, .int x6), (7, .int x7), (8, .int x8), (9, .int x9), (10, .int x10), (11, .int x11), (12, .int x12), (13, .int x13)]) hX hL dX12_ask_150 (by decide) rfl ?_
      refine ww_iload hX 14 rfl dX12_ask_152 ?_
      refine ww_istore (lv' := [(15, .int x13), (14, .int 1), (0, .ref (x_b X + x0)), (1, .int x1), (2, .int x2), (3, .int x3), (4, .int x4), (5, .int x5), (6, .int x6), (7, .int x7), (8, .int x8), (9, .int x9), (10, .int x10), (11, .int x11), (12, .int x12), (13, .int x13)]) hX hL dX12_ask_154 (by decide) rfl ?_
      exact ww_sub [2, 3, 4, 5, 6, 7, 8, 9, 10, 11, 12, 13, 14, 15, 1, 0] rfl (t_X12_ask_156 B fu k_114 k_124 h_114 h_124 fu x0 x1 x2 x3 x4 x5 x6 x7 x8 x9 x10 x11 x12 x13 1 x13  st)
def b_X12_ask_124 (fu : Nat) (k_114 : Nat → Int32 → Int32 → Int32 → Int32 → Int32 → Int32 → Int32 → Int32 → Int32 → Int32 → Int32 → Int32 → St → Option (Int32 × St)) : Nat → Nat → Int32 → Int32 → Int32 → Int32 → Int32 → Int32 → Int32 → Int32 → Int32 → Int32 → Int32 → Int32 → Int32 → St → Option (Int32 × St)
  | 0, _, _, _, _, _, _, _, _, _, _, _, _, _, _, _ => none
  | i + 1, x0, x1, x2, x3, x4, x5, x6, x7, x8, x9, x10, x11, x12, x13, st => b_X12_ask_124_b fu k_114 (b_X12_ask_124 fu k_114 i) x0 x1 x2 x3 x4 x5 x6 x7 x8 x9 x10 x11 x12 x13 st
theorem t_X12_ask_124 {X : CX} {res : Int32 × St} (B : BI X cX12_ask RX12 18 2 NN (some .int) res) (fu : Nat) (k_114 : Nat → Int32 → Int32 → Int32 → Int32 → Int32 → Int32 → Int32 → Int32 → Int32 → Int32 → Int32 → Int32 → St → Option (Int32 × St)) (h_114 : ∀ (x0 : Nat) (x1 : Int32) (x2 : Int32) (x3 : Int32) (x4 : Int32) (x5 : Int32) (x6 : Int32) (x7 : Int32) (x8 : Int32) (x9 : Int32) (x10 : Int32) (x11 : Int32) (x12 : Int32)  (st : St), WW X res NN 114 [(0, .ref (x_b X + x0)), (1, .int x1), (2, .int x2), (3, .int x3), (4, .int x4), (5, .int x5), (6, .int x6), (7, .int x7), (8, .int x8), (9, .int x9), (10, .int x10), (11, .int x11), (12, .int x12)] [] st (k_114 x0 x1 x2 x3 x4 x5 x6 x7 x8 x9 x10 x11 x12 st)) : ∀ (i : Nat) (x0 : Nat) (x1 : Int32) (x2 : Int32) (x3 : Int32) (x4 : Int32) (x5 : Int32) (x6 : Int32) (x7 : Int32) (x8 : Int32) (x9 : Int32) (x10 : Int32) (x11 : Int32) (x12 : Int32) (x13 : Int32)  (st : St), WW X res NN 124 [(0, .ref (x_b X + x0)), (1, .int x1), (2, .int x2), (3, .int x3), (4, .int x4), (5, .int x5), (6, .int x6), (7, .int x7), (8, .int x8), (9, .int x9), (10, .int x10), (11, .int x11), (12, .int x12), (13, .int x13)] [] st (b_X12_ask_124 fu k_114 i x0 x1 x2 x3 x4 x5 x6 x7 x8 x9 x10 x11 x12 x13 st) := by
  intro i
  induction i with
  | zero => intro x0 x1 x2 x3 x4 x5 x6 x7 x8 x9 x10 x11 x12 x13 st; exact ww_none
  | succ i ih => intro x0 x1 x2 x3 x4 x5 x6 x7 x8 x9 x10 x11 x12 x13 st; exact t_X12_ask_124_b B fu k_114 (b_X12_ask_124 fu k_114 i) h_114 ih x0 x1 x2 x3 x4 x5 x6 x7 x8 x9 x10 x11 x12 x13 st
def b_X12_ask_114_b (fu : Nat) (k_114 : Nat → Int32 → Int32 → Int32 → Int32 → Int32 → Int32 → Int32 → Int32 → Int32 → Int32 → Int32 → Int32 → St → Option (Int32 × St)) (x0 : Nat) (x1 : Int32) (x2 : Int32) (x3 : Int32) (x4 : Int32) (x5 : Int32) (x6 : Int32) (x7 : Int32) (x8 : Int32) (x9 : Int32) (x10 : Int32) (x11 : Int32) (x12 : Int32)  (st : St) : Option (Int32 × St) :=
  if 40 ≤ x12 then (
  if x8 = ((-1)) then (
  some ((-1), st))
  else (
  ck (¬ gR st x0 78 = 0) <|
  ck ((kd x0).1 = 12) <|
  bd (gR st x0 78) fun o3 =>
  ck (isb 1) <|
  ck ((kd o3).1 = 102 ∧ inb x7 (kd o3).2) <|
  bd (sI st o3 (ix x7) 1) fun s4 =>
  ck (¬ gR s4 x0 79 = 0) <|
  ck ((kd x0).1 = 12) <|
  bd (gR s4 x0 79) fun o5 =>
  ck ((kd o5).1 = 100 ∧ inb x7 (kd o5).2) <|
  bd (sI s4 o5 (ix x7) x8) fun s6 =>
  ck (¬ gR s6 x0 80 = 0) <|
  ck ((kd x0).1 = 12) <|
  bd (gR s6 x0 80) fun o7 =>
  ck ((kd o7).1 = 100 ∧ inb x7 (kd o7).2) <|
  bd (sI s6 o7 (ix x7) x9) fun s8 =>
  ck (¬ gR s8 x0 81 = 0) <|
  ck ((kd x0).1 = 12) <|
  bd (gR s8 x0 81) fun o9 =>
  ck ((kd o9).1 = 100 ∧ inb x7 (kd o9).2) <|
  bd (sI s8 o9 (ix x7) x3) fun s10 =>
  ck (¬ gR s10 x0 82 = 0) <|
  ck ((kd x0).1 = 12) <|
  bd (gR s10 x0 82) fun o11 =>
  ck ((kd o11).1 = 100 ∧ inb x7 (kd o11).2) <|
  bd (sI s10 o11 (ix x7) x6) fun s12 =>
  ck (¬ gR s12 x0 83 = 0) <|
  ck ((kd x0).1 = 12) <|
  bd (gR s12 x0 83) fun o13 =>
  ck ((kd o13).1 = 100 ∧ inb x7 (kd o13).2) <|
  bd (sI s12 o13 (ix x7) x2) fun s14 =>
  ck (¬ gR s14 x0 84 = 0) <|
  ck ((kd x0).1 = 12) <|
  bd (gR s14 x0 84) fun o15 =>
  ck ((kd o15).1 = 100 ∧ inb x7 (kd o15).2) <|
  bd (sI s14 o15 (ix x7) x4) fun s16 =>
  ck (¬ gR s16 x0 85 = 0) <|
  ck ((kd x0).1 = 12) <|
  bd (gR s16 x0 85) fun o17 =>
  ck ((kd o17).1 = 100 ∧ inb x7 (kd o17).2) <|
  bd (sI s16 o17 (ix x7) x5) fun s18 =>
  ck ((kd x0).1 = 12) <|
  cv (f_X12_mark fu x0 x8 x9 x3 1 s18) fun s19 =>
  some (x7, s19)))
  else (
  b_X12_ask_124 fu k_114 fu x0 x1 x2 x3 x4 x5 x6 x7 x8 x9 x10 x11 x12 0  st)
set_option maxHeartbeats 4000000 in
set_option maxRecDepth 100000 in
theorem t_X12_ask_114_b {X : CX} {res : Int32 × St} (B : BI X cX12_ask RX12 18 2 NN (some .int) res) (fu : Nat) (k_114 : Nat → Int32 → Int32 → Int32 → Int32 → Int32 → Int32 → Int32 → Int32 → Int32 → Int32 → Int32 → Int32 → St → Option (Int32 × St)) (h_114 : ∀ (x0 : Nat) (x1 : Int32) (x2 : Int32) (x3 : Int32) (x4 : Int32) (x5 : Int32) (x6 : Int32) (x7 : Int32) (x8 : Int32) (x9 : Int32) (x10 : Int32) (x11 : Int32) (x12 : Int32)  (st : St), WW X res NN 114 [(0, .ref (x_b X + x0)), (1, .int x1), (2, .int x2), (3, .int x3), (4, .int x4), (5, .int x5), (6, .int x6), (7, .int x7), (8, .int x8), (9, .int x9), (10, .int x10), (11, .int x11), (12, .int x12)] [] st (k_114 x0 x1 x2 x3 x4 x5 x6 x7 x8 x9 x10 x11 x12 st)) (x0 : Nat) (x1 : Int32) (x2 : Int32) (x3 : Int32) (x4 : Int32) (x5 : Int32) (x6 : Int32) (x7 : Int32) (x8 : Int32) (x9 : Int32) (x10 : Int32) (x11 : Int32) (x12 : Int32)  (st : St) : WW X res NN 114 [(0, .ref (x_b X + x0)), (1, .int x1), (2, .int x2), (3, .int x3), (4, .int x4), (5, .int x5), (6, .int x6), (7, .int x7), (8, .int x8), (9, .int x9), (10, .int x10), (11, .int x11), (12, .int x12)] [] st (b_X12_ask_114_b fu k_114 x0 x1 x2 x3 x4 x5 x6 x7 x8 x9 x10 x11 x12 st) := by
  have hX := B.1
  have hL := B.2.1
  unfold b_X12_ask_114_b
  refine ww_iload hX 12 rfl dX12_ask_114 ?_
  refine ww_bipush (v := 40) hX rfl dX12_ask_116 ?_
  refine ww_icmp_ge (tgt := 373) hX dX12_ask_118 (by decide) ?_ ?_
  · refine ww_iload hX 8 rfl dX12_ask_373 ?_
    refine ww_iconst (v := (-1)) hX rfl dX12_ask_375 ?_
    refine ww_icmp_ne (tgt := 381) hX dX12_ask_376 (by decide) ?_ ?_
    · refine ww_aload_n hX 0 rfl dX12_ask_381 rfl ?_
      refine ww_getR hX f_X12_208 (Or.inr ⟨_, rfl⟩) dX12_ask_382 ?_
      refine ww_bdR (fun o3 => ?_)
      refine ww_iload hX 7 rfl dX12_ask_385 ?_
      refine ww_iconst (v := 1) hX rfl dX12_ask_387 ?_
      refine ww_zastc hX k_zast dX12_ask_388 ?_
      refine ww_bds (fun s4 => ?_)
      refine ww_aload_n hX 0 rfl dX12_ask_389 rfl ?_
      refine ww_getR hX f_X12_211 (Or.inr ⟨_, rfl⟩) dX12_ask_390 ?_
      refine ww_bdR (fun o5 => ?_)
      refine ww_pc (b := 393) rfl ?_
      refine ww_iload hX 7 rfl dX12_ask_393 ?_
      refine ww_iload hX 8 rfl dX12_ask_395 ?_
      refine ww_iastc hX k_iast dX12_ask_397 ?_
      refine ww_bds (fun s6 => ?_)
      refine ww_aload_n hX 0 rfl dX12_ask_398 rfl ?_
      refine ww_getR hX f_X12_214 (Or.inr ⟨_, rfl⟩) dX12_ask_399 ?_
      refine ww_bdR (fun o7 => ?_)
      refine ww_iload hX 7 rfl dX12_ask_402 ?_
      refine ww_iload hX 9 rfl dX12_ask_404 ?_
      refine ww_iastc hX k_iast dX12_ask_406 ?_
      refine ww_bds (fun s8 => ?_)
      refine ww_pc (b := 407) rfl ?_
      refine ww_aload_n hX 0 rfl dX12_ask_407 rfl ?_
      refine ww_getR hX f_X12_217 (Or.inr ⟨_, rfl⟩) dX12_ask_408 ?_
      refine ww_bdR (fun o9 => ?_)
      refine ww_iload hX 7 rfl dX12_ask_411 ?_
      refine ww_iload_n hX 3 rfl dX12_ask_413 rfl ?_
      refine ww_iastc hX k_iast dX12_ask_414 ?_
      refine ww_bds (fun s10 => ?_)
      refine ww_aload_n hX 0 rfl dX12_ask_415 rfl ?_
      refine ww_getR hX f_X12_220 (Or.inr ⟨_, rfl⟩) dX12_ask_416 ?_
      refine ww_bdR (fun o11 => ?_)
      refine ww_iload hX 7 rfl dX12_ask_419 ?_
      refine ww_pc (b := 421) rfl ?_
      refine ww_iload hX 6 rfl dX12_ask_421 ?_
      refine ww_iastc hX k_iast dX12_ask_423 ?_
      refine ww_bds (fun s12 => ?_)
      refine ww_aload_n hX 0 rfl dX12_ask_424 rfl ?_
      refine ww_getR hX f_X12_223 (Or.inr ⟨_, rfl⟩) dX12_ask_425 ?_
      refine ww_bdR (fun o13 => ?_)
      refine ww_iload hX 7 rfl dX12_ask_428 ?_
      refine ww_iload_n hX 2 rfl dX12_ask_430 rfl ?_
      refine ww_iastc hX k_iast dX12_ask_431 ?_
      refine ww_bds (fun s14 => ?_)
      refine ww_aload_n hX 0 rfl dX12_ask_432 rfl ?_
      refine ww_pc (b := 433) rfl ?_
      refine ww_getR hX f_X12_226 (Or.inr ⟨_, rfl⟩) dX12_ask_433 ?_
      refine ww_bdR (fun o15 => ?_)
      refine ww_iload hX 7 rfl dX12_ask_436 ?_
      refine ww_iload hX 4 rfl dX12_ask_438 ?_
      refine ww_iastc hX k_iast dX12_ask_440 ?_
      refine ww_bds (fun s16 => ?_)
      refine ww_aload_n hX 0 rfl dX12_ask_441 rfl ?_
      refine ww_getR hX f_X12_229 (Or.inr ⟨_, rfl⟩) dX12_ask_442 ?_
      refine ww_bdR (fun o17 => ?_)
      refine ww_iload hX 7 rfl dX12_ask_445 ?_
      refine ww_iload hX 5 rfl dX12_ask_447 ?_
      refine ww_pc (b := 449) rfl ?_
      refine ww_iastc hX k_iast dX12_ask_449 ?_
      refine ww_bds (fun s18 => ?_)
      refine ww_aload_n hX 0 rfl dX12_ask_450 rfl ?_
      refine ww_iload hX 8 rfl dX12_ask_451 ?_
      refine ww_iload hX 9 rfl dX12_ask_453 ?_
      refine ww_iload_n hX 3 rfl dX12_ask_455 rfl ?_
      refine ww_iconst (v := 1) hX rfl dX12_ask_456 ?_
      refine ww_callVV (As := [.int x8, .int x9, .int x3, .int 1]) (rest := []) (o := x0) hX (Rk.of B.2.2.1 B.2.2.2.1 (by decide) (by decide)) g_X12_612 g_X12_612.in (fun _ => c_X12_mark (x_G X) (x_l X) fu x0 x8 x9 x3 1 s18) rfl rfl (Nat.le_of_ble_eq_true rfl) dX12_ask_457 (fun s19 => ?_)
      refine ww_iload hX 7 rfl dX12_ask_460 ?_
      refine ww_pc (b := 462) rfl ?_
      exact ww_iret B dX12_ask_462
    · refine ww_iconst (v := (-1)) hX rfl dX12_ask_379 ?_
      exact ww_iret B dX12_ask_380
  · refine ww_iconst (v := 0) hX rfl dX12_ask_121 ?_
    refine ww_istore (lv' := [(13, .int 0), (0, .ref (x_b X + x0)), (1, .int x1), (2, .int x2), (3, .int x3), (4, .int x4), (5, .int x5), (6, .int x6), (7, .int x7), (8, .int x8), (9, .int x9), (10, .int x10), (11, .int x11), (12, .int x12)]) hX hL dX12_ask_122 (by decide) rfl ?_
    exact ww_sub [1, 2, 3, 4, 5, 6, 7, 8, 9, 10, 11, 12, 13, 0] rfl (t_X12_ask_124 B fu k_114 h_114 fu x0 x1 x2 x3 x4 x5 x6 x7 x8 x9 x10 x11 x12 0  st)
def b_X12_ask_114 (fu : Nat) : Nat → Nat → Int32 → Int32 → Int32 → Int32 → Int32 → Int32 → Int32 → Int32 → Int32 → Int32 → Int32 → Int32 → St → Option (Int32 × St)
  | 0, _, _, _, _, _, _, _, _, _, _, _, _, _, _ => none
  | i + 1, x0, x1, x2, x3, x4, x5, x6, x7, x8, x9, x10, x11, x12, st => b_X12_ask_114_b fu (b_X12_ask_114 fu i) x0 x1 x2 x3 x4 x5 x6 x7 x8 x9 x10 x11 x12 st
theorem t_X12_ask_114 {X : CX} {res : Int32 × St} (B : BI X cX12_ask RX12 18 2 NN (some .int) res) (fu : Nat) : ∀ (i : Nat) (x0 : Nat) (x1 : Int32) (x2 : Int32) (x3 : Int32) (x4 : Int32) (x5 : Int32) (x6 : Int32) (x7 : Int32) (x8 : Int32) (x9 : Int32) (x10 : Int32) (x11 : Int32) (x12 : Int32)  (st : St), WW X res NN 114 [(0, .ref (x_b X + x0)), (1, .int x1), (2, .int x2), (3, .int x3), (4, .int x4), (5, .int x5), (6, .int x6), (7, .int x7), (8, .int x8), (9, .int x9), (10, .int x10), (11, .int x11), (12, .int x12)] [] st (b_X12_ask_114 fu i x0 x1 x2 x3 x4 x5 x6 x7 x8 x9 x10 x11 x12 st) := by
  intro i
  induction i with
  | zero => intro x0 x1 x2 x3 x4 x5 x6 x7 x8 x9 x10 x11 x12 st; exact ww_none
  | succ i ih => intro x0 x1 x2 x3 x4 x5 x6 x7 x8 x9 x10 x11 x12 st; exact t_X12_ask_114_b B fu (b_X12_ask_114 fu i) ih x0 x1 x2 x3 x4 x5 x6 x7 x8 x9 x10 x11 x12 st
def b_X12_ask_81 (fu : Nat) (x0 : Nat) (x1 : Int32) (x2 : Int32) (x3 : Int32) (x4 : Int32) (x5 : Int32) (x6 : Int32) (x7 : Int32)  (st : St) : Option (Int32 × St) :=
  ck ((kd x0).1 = 12) <|
  if x6 ≤ (gI st x0 40) then (
  b_X12_ask_97 fu   st)
  else (
  if x7 = 60 then (
  b_X12_ask_97 fu   st)
  else (
  bd ((-1)) fun v1 =>
  bd ((-1)) fun v2 =>
  b_X12_ask_114 fu fu x0 x1 x2 x3 x4 x5 x6 x7 v1 v2 0 0 0  st))
set_option maxHeartbeats 4000000 in
set_option maxRecDepth 100000 in
theorem t_X12_ask_81 {X : CX} {res : Int32 × St} (B : BI X cX12_ask RX12 18 2 NN (some .int) res) (fu : Nat) (x0 : Nat) (x1 : Int32) (x2 : Int32) (x3 : Int32) (x4 : Int32) (x5 : Int32) (x6 : Int32) (x7 : Int32)  (st : St) : WW X res NN 81 [(0, .ref (x_b X + x0)), (1, .int x1), (2, .int x2), (3, .int x3), (4, .int x4), (5, .int x5), (6, .int x6), (7, .int x7)] [] st (b_X12_ask_81 fu x0 x1 x2 x3 x4 x5 x6 x7 st) := by
  have hX := B.1
  have hL := B.2.1
  unfold b_X12_ask_81
  refine ww_iload hX 6 rfl dX12_ask_81 ?_
  refine ww_aload_n hX 0 rfl dX12_ask_83 rfl ?_
  refine ww_getI hX f_X12_490 (Or.inl rfl) dX12_ask_84 ?_
  refine ww_icmp_le (tgt := 97) hX dX12_ask_87 (by decide) ?_ ?_
  · exact ww_sub [] rfl (t_X12_ask_97 B fu   st)
  · refine ww_iload hX 7 rfl dX12_ask_90 ?_
    refine ww_bipush (v := 60) hX rfl dX12_ask_92 ?_
    refine ww_icmp_ne (tgt := 99) hX dX12_ask_94 (by decide) ?_ ?_
    · refine ww_iconst (v := (-1)) hX rfl dX12_ask_99 ?_
      refine ww_bdi (fun v1 => ?_)
      refine ww_istore (lv' := [(8, .int v1), (0, .ref (x_b X + x0)), (1, .int x1), (2, .int x2), (3, .int x3), (4, .int x4), (5, .int x5), (6, .int x6), (7, .int x7)]) hX hL dX12_ask_100 (by decide) rfl ?_
      refine ww_iconst (v := (-1)) hX rfl dX12_ask_102 ?_
      refine ww_bdi (fun v2 => ?_)
      refine ww_istore (lv' := [(9, .int v2), (8, .int v1), (0, .ref (x_b X + x0)), (1, .int x1), (2, .int x2), (3, .int x3), (4, .int x4), (5, .int x5), (6, .int x6), (7, .int x7)]) hX hL dX12_ask_103 (by decide) rfl ?_
      refine ww_iconst (v := 0) hX rfl dX12_ask_105 ?_
      refine ww_istore (lv' := [(10, .int 0), (9, .int v2), (8, .int v1), (0, .ref (x_b X + x0)), (1, .int x1), (2, .int x2), (3, .int x3), (4, .int x4), (5, .int x5), (6, .int x6), (7, .int x7)]) hX hL dX12_ask_106 (by decide) rfl ?_
      refine ww_iconst (v := 0) hX rfl dX12_ask_108 ?_
      refine ww_pc (b := 109) rfl ?_
      refine ww_istore (lv' := [(11, .int 0), (10, .int 0), (9, .int v2), (8, .int v1), (0, .ref (x_b X + x0)), (1, .int x1), (2, .int x2), (3, .int x3), (4, .int x4), (5, .int x5), (6, .int x6), (7, .int x7)]) hX hL dX12_ask_109 (by decide) rfl ?_
      refine ww_iconst (v := 0) hX rfl dX12_ask_111 ?_
      refine ww_istore (lv' := [(12, .int 0), (11, .int 0), (10, .int 0), (9, .int v2), (8, .int v1), (0, .ref (x_b X + x0)), (1, .int x1), (2, .int x2), (3, .int x3), (4, .int x4), (5, .int x5), (6, .int x6), (7, .int x7)]) hX hL dX12_ask_112 (by decide) rfl ?_
      exact ww_sub [5, 6, 7, 8, 9, 10, 11, 12, 4, 3, 2, 1, 0] rfl (t_X12_ask_114 B fu fu x0 x1 x2 x3 x4 x5 x6 x7 v1 v2 0 0 0  st)
    · exact ww_sub [] rfl (t_X12_ask_97 B fu   st)
def b_X12_ask_58_b (fu : Nat) (k_58 : Nat → Int32 → Int32 → Int32 → Int32 → Int32 → Int32 → Int32 → St → Option (Int32 × St)) (x0 : Nat) (x1 : Int32) (x2 : Int32) (x3 : Int32) (x4 : Int32) (x5 : Int32) (x6 : Int32) (x7 : Int32)  (st : St) : Option (Int32 × St) :=
  if 60 ≤ x7 then (
  b_X12_ask_81 fu x0 x1 x2 x3 x4 x5 x6 x7  st)
  else (
  ck (¬ gR st x0 78 = 0) <|
  ck ((kd x0).1 = 12) <|
  bd (gR st x0 78) fun o41 =>
  ck ((kd o41).1 = 102 ∧ inb x7 (kd o41).2) <|
  if (gI st o41 (ix x7)) = 0 then (
  b_X12_ask_81 fu x0 x1 x2 x3 x4 x5 x6 x7  st)
  else (
  bd (x7 + 1) fun v42 =>
  k_58 x0 x1 x2 x3 x4 x5 x6 v42  st))
set_option maxHeartbeats 4000000 in
set_option maxRecDepth 100000 in
theorem t_X12_ask_58_b {X : CX} {res : Int32 × St} (B : BI X cX12_ask RX12 18 2 NN (some .int) res) (fu : Nat) (k_58 : Nat → Int32 → Int32 → Int32 → Int32 → Int32 → Int32 → Int32 → St → Option (Int32 × St)) (h_58 : ∀ (x0 : Nat) (x1 : Int32) (x2 : Int32) (x3 : Int32) (x4 : Int32) (x5 : Int32) (x6 : Int32) (x7 : Int32)  (st : St), WW X res NN 58 [(0, .ref (x_b X + x0)), (1, .int x1), (2, .int x2), (3, .int x3), (4, .int x4), (5, .int x5), (6, .int x6), (7, .int x7)] [] st (k_58 x0 x1 x2 x3 x4 x5 x6 x7 st)) (x0 : Nat) (x1 : Int32) (x2 : Int32) (x3 : Int32) (x4 : Int32) (x5 : Int32) (x6 : Int32) (x7 : Int32)  (st : St) : WW X res NN 58 [(0, .ref (x_b X + x0)), (1, .int x1), (2, .int x2), (3, .int x3), (4, .int x4), (5, .int x5), (6, .int x6), (7, .int x7)] [] st (b_X12_ask_58_b fu k_58 x0 x1 x2 x3 x4 x5 x6 x7 st) := by
  have hX := B.1
  have hL := B.2.1
  unfold b_X12_ask_58_b
  refine ww_iload hX 7 rfl dX12_ask_58 ?_
  refine ww_bipush (v := 60) hX rfl dX12_ask_60 ?_
  refine ww_icmp_ge (tgt := 81) hX dX12_ask_62 (by decide) ?_ ?_
  · exact t_X12_ask_81 B fu x0 x1 x2 x3 x4 x5 x6 x7  st
  · refine ww_aload_n hX 0 rfl dX12_ask_65 rfl ?_
    refine ww_getR hX f_X12_208 (Or.inr ⟨_, rfl⟩) dX12_ask_66 ?_
    refine ww_bdR (fun o41 => ?_)
    refine ww_iload hX 7 rfl dX12_ask_69 ?_
    refine ww_zaldc hX k_zald dX12_ask_71 ?_
    refine ww_if_eq (tgt := 81) hX dX12_ask_72 (by decide) ?_ ?_
    · exact t_X12_ask_81 B fu x0 x1 x2 x3 x4 x5 x6 x7  st
    · refine ww_iincb (lv' := fun v42 => [(7, .int v42), (0, .ref (x_b X + x0)), (1, .int x1), (2, .int x2), (3, .int x3), (4, .int x4), (5, .int x5), (6, .int x6)]) (c := 1) hX hL 7 rfl dX12_ask_75 rfl (by decide) (fun _ => rfl) (fun v42 => ?_)
      refine ww_goto (tgt := 58) hX dX12_ask_78 (by decide) ?_
      exact ww_sub [1, 2, 3, 4, 5, 6, 7, 0] rfl (h_58 x0 x1 x2 x3 x4 x5 x6 v42  st)
def b_X12_ask_58 (fu : Nat) : Nat → Nat → Int32 → Int32 → Int32 → Int32 → Int32 → Int32 → Int32 → St → Option (Int32 × St)
  | 0, _, _, _, _, _, _, _, _, _ => none
  | i + 1, x0, x1, x2, x3, x4, x5, x6, x7, st => b_X12_ask_58_b fu (b_X12_ask_58 fu i) x0 x1 x2 x3 x4 x5 x6 x7 st
theorem t_X12_ask_58 {X : CX} {res : Int32 × St} (B : BI X cX12_ask RX12 18 2 NN (some .int) res) (fu : Nat) : ∀ (i : Nat) (x0 : Nat) (x1 : Int32) (x2 : Int32) (x3 : Int32) (x4 : Int32) (x5 : Int32) (x6 : Int32) (x7 : Int32)  (st : St), WW X res NN 58 [(0, .ref (x_b X + x0)), (1, .int x1), (2, .int x2), (3, .int x3), (4, .int x4), (5, .int x5), (6, .int x6), (7, .int x7)] [] st (b_X12_ask_58 fu i x0 x1 x2 x3 x4 x5 x6 x7 st) := by
  intro i
  induction i with
  | zero => intro x0 x1 x2 x3 x4 x5 x6 x7 st; exact ww_none
  | succ i ih => intro x0 x1 x2 x3 x4 x5 x6 x7 st; exact t_X12_ask_58_b B fu (b_X12_ask_58 fu i) ih x0 x1 x2 x3 x4 x5 x6 x7 st
def f_X12_ask (fu : Nat) (th : Nat) (p1 : Int32) (p2 : Int32) (p3 : Int32) (p4 : Int32) (p5 : Int32) (p6 : Int32) (st : St) : Option (Int32 × St) :=
  if p1 < 0 then (
  b_X12_ask_53 fu   st)
  else (
  if 3 < p1 then (
  b_X12_ask_53 fu   st)
  else (
  if p2 < 0 then (
  b_X12_ask_53 fu   st)
  else (
  if 7 < p2 then (
  b_X12_ask_53 fu   st)
  else (
  if p3 < 1 then (
  b_X12_ask_53 fu   st)
  else (
  if 10 < p3 then (
  b_X12_ask_53 fu   st)
  else (
  if p4 < 0 then (
  b_X12_ask_53 fu   st)
  else (
  if 3 < p4 then (
  b_X12_ask_53 fu   st)
  else (
  if p5 < 0 then (
  b_X12_ask_53 fu   st)
  else (
  if p5 ≤ 6 then (
  b_X12_ask_58 fu fu th p1 p2 p3 p4 p5 p6 0  st)
  else (
  b_X12_ask_53 fu   st))))))))))
set_option maxHeartbeats 4000000 in
set_option maxRecDepth 100000 in
theorem t_X12_ask {X : CX} {res : Int32 × St} (B : BI X cX12_ask RX12 18 2 NN (some .int) res) (fu : Nat) (th : Nat) (p1 : Int32) (p2 : Int32) (p3 : Int32) (p4 : Int32) (p5 : Int32) (p6 : Int32) (st : St) : WW X res NN 0 [(0, .ref (x_b X + th)), (1, .int p1), (2, .int p2), (3, .int p3), (4, .int p4), (5, .int p5), (6, .int p6)] [] st (f_X12_ask fu th p1 p2 p3 p4 p5 p6 st) := by
  have hX := B.1
  have hL := B.2.1
  unfold f_X12_ask
  refine ww_iload_n hX 1 rfl dX12_ask_0 rfl ?_
  refine ww_if_lt (tgt := 53) hX dX12_ask_1 (by decide) ?_ ?_
  · exact ww_sub [] rfl (t_X12_ask_53 B fu   st)
  · refine ww_iload_n hX 1 rfl dX12_ask_4 rfl ?_
    refine ww_iconst (v := 3) hX rfl dX12_ask_5 ?_
    refine ww_icmp_gt (tgt := 53) hX dX12_ask_6 (by decide) ?_ ?_
    · exact ww_sub [] rfl (t_X12_ask_53 B fu   st)
    · refine ww_iload_n hX 2 rfl dX12_ask_9 rfl ?_
      refine ww_if_lt (tgt := 53) hX dX12_ask_10 (by decide) ?_ ?_
      · exact ww_sub [] rfl (t_X12_ask_53 B fu   st)
      · refine ww_iload_n hX 2 rfl dX12_ask_13 rfl ?_
        refine ww_bipush (v := 7) hX rfl dX12_ask_14 ?_
        refine ww_icmp_gt (tgt := 53) hX dX12_ask_16 (by decide) ?_ ?_
        · exact ww_sub [] rfl (t_X12_ask_53 B fu   st)
        · refine ww_iload_n hX 3 rfl dX12_ask_19 rfl ?_
          refine ww_iconst (v := 1) hX rfl dX12_ask_20 ?_
          refine ww_icmp_lt (tgt := 53) hX dX12_ask_21 (by decide) ?_ ?_
          · exact ww_sub [] rfl (t_X12_ask_53 B fu   st)
          · refine ww_iload_n hX 3 rfl dX12_ask_24 rfl ?_
            refine ww_bipush (v := 10) hX rfl dX12_ask_25 ?_
            refine ww_icmp_gt (tgt := 53) hX dX12_ask_27 (by decide) ?_ ?_
            · exact ww_sub [] rfl (t_X12_ask_53 B fu   st)
            · refine ww_iload hX 4 rfl dX12_ask_30 ?_
              refine ww_if_lt (tgt := 53) hX dX12_ask_32 (by decide) ?_ ?_
              · exact ww_sub [] rfl (t_X12_ask_53 B fu   st)
              · refine ww_iload hX 4 rfl dX12_ask_35 ?_
                refine ww_iconst (v := 3) hX rfl dX12_ask_37 ?_
                refine ww_icmp_gt (tgt := 53) hX dX12_ask_38 (by decide) ?_ ?_
                · exact ww_sub [] rfl (t_X12_ask_53 B fu   st)
                · refine ww_iload hX 5 rfl dX12_ask_41 ?_
                  refine ww_if_lt (tgt := 53) hX dX12_ask_43 (by decide) ?_ ?_
                  · exact ww_sub [] rfl (t_X12_ask_53 B fu   st)
                  · refine ww_iload hX 5 rfl dX12_ask_46 ?_
                    refine ww_bipush (v := 6) hX rfl dX12_ask_48 ?_
                    refine ww_icmp_le (tgt := 55) hX dX12_ask_50 (by decide) ?_ ?_
                    · refine ww_iconst (v := 0) hX rfl dX12_ask_55 ?_
                      refine ww_istore (lv' := [(7, .int 0), (0, .ref (x_b X + th)), (1, .int p1), (2, .int p2), (3, .int p3), (4, .int p4), (5, .int p5), (6, .int p6)]) hX hL dX12_ask_56 (by decide) rfl ?_
                      exact ww_sub [1, 2, 3, 4, 5, 6, 7, 0] rfl (t_X12_ask_58 B fu fu th p1 p2 p3 p4 p5 p6 0  st)
                    · exact ww_sub [] rfl (t_X12_ask_53 B fu   st)
theorem c_X12_ask (G : GX) (l : Launch) (fu : Nat) (th : Nat) (p1 : Int32) (p2 : Int32) (p3 : Int32) (p4 : Int32) (p5 : Int32) (p6 : Int32) (st : St) : MI G NN l yX12_ask cX12_ask 18 (some .int) 2 [.ref (G.2.2.1 + th), .int p1, .int p2, .int p3, .int p4, .int p5, .int p6] st (f_X12_ask fu th p1 p2 p3 p4 p5 p6 st) := mkI (by decide) (Nat.le_of_ble_eq_true rfl) (fun X res hl hG B => by subst hl; subst hG; exact t_X12_ask B fu th p1 p2 p3 p4 p5 p6 st)
