/-! StageHouseModel.way(IIII)I -/
def b_X12_way_58 (fu : Nat)   (st : St) : Option (Int32 × St) :=
  some ((-1), st)
set_option maxHeartbeats 4000000 in
set_option maxRecDepth 100000 in
theorem t_X12_way_58 {X : CX} {res : Int32 × St} (B : BI X cX12_way RX12 5 1 NN (some .int) res) (fu : Nat)   (st : St) : WW X res NN 58 [] [] st (b_X12_way_58 fu  st) := by
  have hX := B.1
  have hL := B.2.1
  unfold b_X12_way_58
  refine ww_iconst (v := (-1)) hX rfl dX12_way_58 ?_
  exact ww_iret B dX12_way_59
def f_X12_way (fu : Nat) (th : Nat) (p1 : Int32) (p2 : Int32) (p3 : Int32) (p4 : Int32) (st : St) : Option (Int32 × St) :=
  if p1 < 0 then (
  b_X12_way_58 fu   st)
  else (
  if 11 < p1 then (
  b_X12_way_58 fu   st)
  else (
  if p2 < 0 then (
  b_X12_way_58 fu   st)
  else (
  if 11 < p2 then (
  b_X12_way_58 fu   st)
  else (
  if p1 = p2 then (
  b_X12_way_58 fu   st)
  else (
  if p3 < 1 then (
  b_X12_way_58 fu   st)
  else (
  if 50 < p3 then (
  b_X12_way_58 fu   st)
  else (
  if p4 < 1 then (
  b_X12_way_58 fu   st)
  else (
  if 20 < p4 then (
  b_X12_way_58 fu   st)
  else (
  ck ((kd th).1 = 12) <|
  if (gI st th 113) = 20 then (
  b_X12_way_58 fu   st)
  else (
  ck (¬ gR st th 114 = 0) <|
  ck ((kd th).1 = 12) <|
  bd (gR st th 114) fun o1 =>
  ck ((kd th).1 = 12) <|
  ck ((kd o1).1 = 100 ∧ inb (gI st th 113) (kd o1).2) <|
  bd (sI st o1 (ix (gI st th 113)) p1) fun s2 =>
  ck (¬ gR s2 th 115 = 0) <|
  ck ((kd th).1 = 12) <|
  bd (gR s2 th 115) fun o3 =>
  ck ((kd th).1 = 12) <|
  ck ((kd o3).1 = 100 ∧ inb (gI s2 th 113) (kd o3).2) <|
  bd (sI s2 o3 (ix (gI s2 th 113)) p2) fun s4 =>
  ck (¬ gR s4 th 116 = 0) <|
  ck ((kd th).1 = 12) <|
  bd (gR s4 th 116) fun o5 =>
  ck ((kd th).1 = 12) <|
  ck ((kd o5).1 = 100 ∧ inb (gI s4 th 113) (kd o5).2) <|
  bd (sI s4 o5 (ix (gI s4 th 113)) p3) fun s6 =>
  ck (¬ gR s6 th 117 = 0) <|
  ck ((kd th).1 = 12) <|
  bd (gR s6 th 117) fun o7 =>
  ck ((kd th).1 = 12) <|
  ck ((kd o7).1 = 100 ∧ inb (gI s6 th 113) (kd o7).2) <|
  bd (sI s6 o7 (ix (gI s6 th 113)) p4) fun s8 =>
  ck ((kd th).1 = 12) <|
  ck ((kd th).1 = 12) <|
  bd (sI s8 th 113 ((gI s8 th 113) + 1)) fun s9 =>
  ck ((kd th).1 = 12) <|
  some ((gI s9 th 113) - 1, s9)))))))))))
set_option maxHeartbeats 4000000 in
set_option maxRecDepth 100000 in
theorem t_X12_way {X : CX} {res : Int32 × St} (B : BI X cX12_way RX12 5 1 NN (some .int) res) (fu : Nat) (th : Nat) (p1 : Int32) (p2 : Int32) (p3 : Int32) (p4 : Int32) (st : St) : WW X res NN 0 [(0, .ref (x_b X + th)), (1, .int p1), (2, .int p2), (3, .int p3), (4, .int p4)] [] st (f_X12_way fu th p1 p2 p3 p4 st) := by
  have hX := B.1
  have hL := B.2.1
  unfold f_X12_way
  refine ww_iload_n hX 1 rfl dX12_way_0 rfl ?_
  refine ww_if_lt (tgt := 58) hX dX12_way_1 (by decide) ?_ ?_
  · exact ww_sub [] rfl (t_X12_way_58 B fu   st)
  · refine ww_iload_n hX 1 rfl dX12_way_4 rfl ?_
    refine ww_bipush (v := 11) hX rfl dX12_way_5 ?_
    refine ww_icmp_gt (tgt := 58) hX dX12_way_7 (by decide) ?_ ?_
    · exact ww_sub [] rfl (t_X12_way_58 B fu   st)
    · refine ww_iload_n hX 2 rfl dX12_way_10 rfl ?_
      refine ww_if_lt (tgt := 58) hX dX12_way_11 (by decide) ?_ ?_
      · exact ww_sub [] rfl (t_X12_way_58 B fu   st)
      · refine ww_iload_n hX 2 rfl dX12_way_14 rfl ?_
        refine ww_bipush (v := 11) hX rfl dX12_way_15 ?_
        refine ww_icmp_gt (tgt := 58) hX dX12_way_17 (by decide) ?_ ?_
        · exact ww_sub [] rfl (t_X12_way_58 B fu   st)
        · refine ww_iload_n hX 1 rfl dX12_way_20 rfl ?_
          refine ww_iload_n hX 2 rfl dX12_way_21 rfl ?_
          refine ww_icmp_eq (tgt := 58) hX dX12_way_22 (by decide) ?_ ?_
          · exact ww_sub [] rfl (t_X12_way_58 B fu   st)
          · refine ww_iload_n hX 3 rfl dX12_way_25 rfl ?_
            refine ww_iconst (v := 1) hX rfl dX12_way_26 ?_
            refine ww_icmp_lt (tgt := 58) hX dX12_way_27 (by decide) ?_ ?_
            · exact ww_sub [] rfl (t_X12_way_58 B fu   st)
            · refine ww_iload_n hX 3 rfl dX12_way_30 rfl ?_
              refine ww_bipush (v := 50) hX rfl dX12_way_31 ?_
              refine ww_icmp_gt (tgt := 58) hX dX12_way_33 (by decide) ?_ ?_
              · exact ww_sub [] rfl (t_X12_way_58 B fu   st)
              · refine ww_iload hX 4 rfl dX12_way_36 ?_
                refine ww_iconst (v := 1) hX rfl dX12_way_38 ?_
                refine ww_icmp_lt (tgt := 58) hX dX12_way_39 (by decide) ?_ ?_
                · exact ww_sub [] rfl (t_X12_way_58 B fu   st)
                · refine ww_iload hX 4 rfl dX12_way_42 ?_
                  refine ww_bipush (v := 20) hX rfl dX12_way_44 ?_
                  refine ww_icmp_gt (tgt := 58) hX dX12_way_46 (by decide) ?_ ?_
                  · exact ww_sub [] rfl (t_X12_way_58 B fu   st)
                  · refine ww_aload_n hX 0 rfl dX12_way_49 rfl ?_
                    refine ww_getI hX f_X12_651 (Or.inl rfl) dX12_way_50 ?_
                    refine ww_bipush (v := 20) hX rfl dX12_way_53 ?_
                    refine ww_icmp_ne (tgt := 60) hX dX12_way_55 (by decide) ?_ ?_
                    · refine ww_aload_n hX 0 rfl dX12_way_60 rfl ?_
                      refine ww_getR hX f_X12_301 (Or.inr ⟨_, rfl⟩) dX12_way_61 ?_
                      refine ww_bdR (fun o1 => ?_)
                      refine ww_aload_n hX 0 rfl dX12_way_64 rfl ?_
                      refine ww_getI hX f_X12_651 (Or.inl rfl) dX12_way_65 ?_
                      refine ww_iload_n hX 1 rfl dX12_way_68 rfl ?_
                      refine ww_iastc hX k_iast dX12_way_69 ?_
                      refine ww_bds (fun s2 => ?_)
                      refine ww_aload_n hX 0 rfl dX12_way_70 rfl ?_
                      refine ww_pc (b := 71) rfl ?_
                      refine ww_getR hX f_X12_304 (Or.inr ⟨_, rfl⟩) dX12_way_71 ?_
                      refine ww_bdR (fun o3 => ?_)
                      refine ww_aload_n hX 0 rfl dX12_way_74 rfl ?_
                      refine ww_getI hX f_X12_651 (Or.inl rfl) dX12_way_75 ?_
                      refine ww_iload_n hX 2 rfl dX12_way_78 rfl ?_
                      refine ww_iastc hX k_iast dX12_way_79 ?_
                      refine ww_bds (fun s4 => ?_)
                      refine ww_aload_n hX 0 rfl dX12_way_80 rfl ?_
                      refine ww_getR hX f_X12_307 (Or.inr ⟨_, rfl⟩) dX12_way_81 ?_
                      refine ww_bdR (fun o5 => ?_)
                      refine ww_aload_n hX 0 rfl dX12_way_84 rfl ?_
                      refine ww_pc (b := 85) rfl ?_
                      refine ww_getI hX f_X12_651 (Or.inl rfl) dX12_way_85 ?_
                      refine ww_iload_n hX 3 rfl dX12_way_88 rfl ?_
                      refine ww_iastc hX k_iast dX12_way_89 ?_
                      refine ww_bds (fun s6 => ?_)
                      refine ww_aload_n hX 0 rfl dX12_way_90 rfl ?_
                      refine ww_getR hX f_X12_310 (Or.inr ⟨_, rfl⟩) dX12_way_91 ?_
                      refine ww_bdR (fun o7 => ?_)
                      refine ww_aload_n hX 0 rfl dX12_way_94 rfl ?_
                      refine ww_getI hX f_X12_651 (Or.inl rfl) dX12_way_95 ?_
                      refine ww_iload hX 4 rfl dX12_way_98 ?_
                      refine ww_pc (b := 100) rfl ?_
                      refine ww_iastc hX k_iast dX12_way_100 ?_
                      refine ww_bds (fun s8 => ?_)
                      refine ww_aload_n hX 0 rfl dX12_way_101 rfl ?_
                      refine ww_dup hX rfl dX12_way_102 ?_
                      refine ww_getI hX f_X12_651 (Or.inl rfl) dX12_way_103 ?_
                      refine ww_iconst (v := 1) hX rfl dX12_way_106 ?_
                      refine ww_iadd hX dX12_way_107 ?_
                      refine ww_putI hX f_X12_651 rfl dX12_way_108 ?_
                      refine ww_bds (fun s9 => ?_)
                      refine ww_aload_n hX 0 rfl dX12_way_111 rfl ?_
                      refine ww_pc (b := 112) rfl ?_
                      refine ww_getI hX f_X12_651 (Or.inl rfl) dX12_way_112 ?_
                      refine ww_iconst (v := 1) hX rfl dX12_way_115 ?_
                      refine ww_isub hX dX12_way_116 ?_
                      exact ww_iret B dX12_way_117
                    · exact ww_sub [] rfl (t_X12_way_58 B fu   st)
theorem c_X12_way (G : GX) (l : Launch) (fu : Nat) (th : Nat) (p1 : Int32) (p2 : Int32) (p3 : Int32) (p4 : Int32) (st : St) : MI G NN l yX12_way cX12_way 5 (some .int) 1 [.ref (G.2.2.1 + th), .int p1, .int p2, .int p3, .int p4] st (f_X12_way fu th p1 p2 p3 p4 st) := mkI (by decide) (Nat.le_of_ble_eq_true rfl) (fun X res hl hG B => by subst hl; subst hG; exact t_X12_way B fu th p1 p2 p3 p4 st)
/-! StageHouseModel.crowd(II)Z -/
def b_X12_crowd_20 (fu : Nat)   (st : St) : Option (Int32 × St) :=
  ck (isb 0) (some (0, st))
set_option maxHeartbeats 4000000 in
set_option maxRecDepth 100000 in
theorem t_X12_crowd_20 {X : CX} {res : Int32 × St} (B : BI X cX12_crowd RX12 3 1 NN (some .boolean) res) (fu : Nat)   (st : St) : WW X res NN 20 [] [] st (b_X12_crowd_20 fu  st) := by
  have hX := B.1
  have hL := B.2.1
  unfold b_X12_crowd_20
  refine ww_iconst (v := 0) hX rfl dX12_crowd_20 ?_
  exact ww_zret B dX12_crowd_21
def f_X12_crowd (fu : Nat) (th : Nat) (p1 : Int32) (p2 : Int32) (st : St) : Option (Int32 × St) :=
  if p1 < 0 then (
  b_X12_crowd_20 fu   st)
  else (
  if 10 < p1 then (
  b_X12_crowd_20 fu   st)
  else (
  if p2 < 0 then (
  b_X12_crowd_20 fu   st)
  else (
  if p2 ≤ 60 then (
  ck (¬ gR st th 118 = 0) <|
  ck ((kd th).1 = 12) <|
  bd (gR st th 118) fun o1 =>
  ck ((kd o1).1 = 100 ∧ inb p1 (kd o1).2) <|
  bd (sI st o1 (ix p1) p2) fun s2 =>
  ck (isb 1) (some (1, s2)))
  else (
  b_X12_crowd_20 fu   st))))
set_option maxHeartbeats 4000000 in
set_option maxRecDepth 100000 in
theorem t_X12_crowd {X : CX} {res : Int32 × St} (B : BI X cX12_crowd RX12 3 1 NN (some .boolean) res) (fu : Nat) (th : Nat) (p1 : Int32) (p2 : Int32) (st : St) : WW X res NN 0 [(0, .ref (x_b X + th)), (1, .int p1), (2, .int p2)] [] st (f_X12_crowd fu th p1 p2 st) := by
  have hX := B.1
  have hL := B.2.1
  unfold f_X12_crowd
  refine ww_iload_n hX 1 rfl dX12_crowd_0 rfl ?_
  refine ww_if_lt (tgt := 20) hX dX12_crowd_1 (by decide) ?_ ?_
  · exact ww_sub [] rfl (t_X12_crowd_20 B fu   st)
  · refine ww_iload_n hX 1 rfl dX12_crowd_4 rfl ?_
    refine ww_bipush (v := 10) hX rfl dX12_crowd_5 ?_
    refine ww_icmp_gt (tgt := 20) hX dX12_crowd_7 (by decide) ?_ ?_
    · exact ww_sub [] rfl (t_X12_crowd_20 B fu   st)
    · refine ww_iload_n hX 2 rfl dX12_crowd_10 rfl ?_
      refine ww_if_lt (tgt := 20) hX dX12_crowd_11 (by decide) ?_ ?_
      · exact ww_sub [] rfl (t_X12_crowd_20 B fu   st)
      · refine ww_iload_n hX 2 rfl dX12_crowd_14 rfl ?_
        refine ww_bipush (v := 60) hX rfl dX12_crowd_15 ?_
        refine ww_icmp_le (tgt := 22) hX dX12_crowd_17 (by decide) ?_ ?_
        · refine ww_aload_n hX 0 rfl dX12_crowd_22 rfl ?_
          refine ww_getR hX f_X12_313 (Or.inr ⟨_, rfl⟩) dX12_crowd_23 ?_
          refine ww_bdR (fun o1 => ?_)
          refine ww_iload_n hX 1 rfl dX12_crowd_26 rfl ?_
          refine ww_iload_n hX 2 rfl dX12_crowd_27 rfl ?_
          refine ww_iastc hX k_iast dX12_crowd_28 ?_
          refine ww_bds (fun s2 => ?_)
          refine ww_iconst (v := 1) hX rfl dX12_crowd_29 ?_
          exact ww_zret B dX12_crowd_30
        · exact ww_sub [] rfl (t_X12_crowd_20 B fu   st)
theorem c_X12_crowd (G : GX) (l : Launch) (fu : Nat) (th : Nat) (p1 : Int32) (p2 : Int32) (st : St) : MI G NN l yX12_crowd cX12_crowd 3 (some .boolean) 1 [.ref (G.2.2.1 + th), .int p1, .int p2] st (f_X12_crowd fu th p1 p2 st) := mkI (by decide) (Nat.le_of_ble_eq_true rfl) (fun X res hl hG B => by subst hl; subst hG; exact t_X12_crowd B fu th p1 p2 st)
/-! StageHouseModel.clearWays()V -/
def b_X12_clearWays_7_b (fu : Nat) (k_7 : Nat → Int32 → St → Option (St)) (x0 : Nat) (x1 : Int32)  (st : St) : Option (St) :=
  if 11 ≤ x1 then (
  some st)
  else (
  ck (¬ gR st x0 118 = 0) <|
  ck ((kd x0).1 = 12) <|
  bd (gR st x0 118) fun o2 =>
  ck ((kd o2).1 = 100 ∧ inb x1 (kd o2).2) <|
  bd (sI st o2 (ix x1) 0) fun s3 =>
  bd (x1 + 1) fun v4 =>
  k_7 x0 v4  s3)
set_option maxHeartbeats 4000000 in
set_option maxRecDepth 100000 in
theorem t_X12_clearWays_7_b {X : CX} {res : St} (B : BV X cX12_clearWays RX12 2 1 NN none res) (fu : Nat) (k_7 : Nat → Int32 → St → Option (St)) (h_7 : ∀ (x0 : Nat) (x1 : Int32)  (st : St), WW X res NN 7 [(0, .ref (x_b X + x0)), (1, .int x1)] [] st (k_7 x0 x1 st)) (x0 : Nat) (x1 : Int32)  (st : St) : WW X res NN 7 [(0, .ref (x_b X + x0)), (1, .int x1)] [] st (b_X12_clearWays_7_b fu k_7 x0 x1 st) := by
  have hX := B.1
  have hL := B.2.1
  unfold b_X12_clearWays_7_b
  refine ww_iload_n hX 1 rfl dX12_clearWays_7 rfl ?_
  refine ww_bipush (v := 11) hX rfl dX12_clearWays_8 ?_
  refine ww_icmp_ge (tgt := 26) hX dX12_clearWays_10 (by decide) ?_ ?_
  · exact ww_vret B dX12_clearWays_26
  · refine ww_aload_n hX 0 rfl dX12_clearWays_13 rfl ?_
    refine ww_getR hX f_X12_313 (Or.inr ⟨_, rfl⟩) dX12_clearWays_14 ?_
    refine ww_bdR (fun o2 => ?_)
    refine ww_iload_n hX 1 rfl dX12_clearWays_17 rfl ?_
    refine ww_iconst (v := 0) hX rfl dX12_clearWays_18 ?_
    refine ww_iastc hX k_iast dX12_clearWays_19 ?_
    refine ww_bds (fun s3 => ?_)
    refine ww_iincb (lv' := fun v4 => [(1, .int v4), (0, .ref (x_b X + x0))]) (c := 1) hX hL 1 rfl dX12_clearWays_20 rfl (by decide) (fun _ => rfl) (fun v4 => ?_)
    refine ww_goto (tgt := 7) hX dX12_clearWays_23 (by decide) ?_
    exact ww_sub [1, 0] rfl (h_7 x0 v4  s3)
def b_X12_clearWays_7 (fu : Nat) : Nat → Nat → Int32 → St → Option (St)
  | 0, _, _, _ => none
  | i + 1, x0, x1, st => b_X12_clearWays_7_b fu (b_X12_clearWays_7 fu i) x0 x1 st
theorem t_X12_clearWays_7 {X : CX} {res : St} (B : BV X cX12_clearWays RX12 2 1 NN none res) (fu : Nat) : ∀ (i : Nat) (x0 : Nat) (x1 : Int32)  (st : St), WW X res NN 7 [(0, .ref (x_b X + x0)), (1, .int x1)] [] st (b_X12_clearWays_7 fu i x0 x1 st) := by
  intro i
  induction i with
  | zero => intro x0 x1 st; exact ww_none
  | succ i ih => intro x0 x1 st; exact t_X12_clearWays_7_b B fu (b_X12_clearWays_7 fu i) ih x0 x1 st
def f_X12_clearWays (fu : Nat) (th : Nat) (st : St) : Option (St) :=
  ck ((kd th).1 = 12) <|
  bd (sI st th 113 0) fun s1 =>
  b_X12_clearWays_7 fu fu th 0  s1
set_option maxHeartbeats 4000000 in
set_option maxRecDepth 100000 in
theorem t_X12_clearWays {X : CX} {res : St} (B : BV X cX12_clearWays RX12 2 1 NN none res) (fu : Nat) (th : Nat) (st : St) : WW X res NN 0 [(0, .ref (x_b X + th))] [] st (f_X12_clearWays fu th st) := by
  have hX := B.1
  have hL := B.2.1
  unfold f_X12_clearWays
  refine ww_aload_n hX 0 rfl dX12_clearWays_0 rfl ?_
  refine ww_iconst (v := 0) hX rfl dX12_clearWays_1 ?_
  refine ww_putI hX f_X12_651 rfl dX12_clearWays_2 ?_
  refine ww_bds (fun s1 => ?_)
  refine ww_iconst (v := 0) hX rfl dX12_clearWays_5 ?_
  refine ww_istore_n (lv' := [(1, .int 0), (0, .ref (x_b X + th))]) hX hL dX12_clearWays_6 rfl (by decide) rfl ?_
  exact ww_sub [1, 0] rfl (t_X12_clearWays_7 B fu fu th 0  s1)
theorem c_X12_clearWays (G : GX) (l : Launch) (fu : Nat) (th : Nat) (st : St) : MV G NN l yX12_clearWays cX12_clearWays 2 none 1 [.ref (G.2.2.1 + th)] st (f_X12_clearWays fu th st) := mkV (by decide) (Nat.le_of_ble_eq_true rfl) (fun X res hl hG B => by subst hl; subst hG; exact t_X12_clearWays B fu th st)
/-! StageHouseModel.edge(III)V -/
def f_X12_edge (fu : Nat) (th : Nat) (p1 : Int32) (p2 : Int32) (p3 : Int32) (st : St) : Option (St) :=
  ck (¬ gR st th 121 = 0) <|
  ck ((kd th).1 = 12) <|
  bd (gR st th 121) fun o1 =>
  ck ((kd th).1 = 12) <|
  ck ((kd o1).1 = 100 ∧ inb (gI st th 123) (kd o1).2) <|
  bd (sI st o1 (ix (gI st th 123)) p2) fun s2 =>
  ck (¬ gR s2 th 122 = 0) <|
  ck ((kd th).1 = 12) <|
  bd (gR s2 th 122) fun o3 =>
  ck ((kd th).1 = 12) <|
  ck ((kd o3).1 = 100 ∧ inb (gI s2 th 123) (kd o3).2) <|
  bd (sI s2 o3 (ix (gI s2 th 123)) p3) fun s4 =>
  ck (¬ gR s4 th 120 = 0) <|
  ck ((kd th).1 = 12) <|
  bd (gR s4 th 120) fun o5 =>
  ck ((kd th).1 = 12) <|
  ck (¬ gR s4 th 119 = 0) <|
  ck ((kd th).1 = 12) <|
  bd (gR s4 th 119) fun o6 =>
  ck ((kd o6).1 = 100 ∧ inb p1 (kd o6).2) <|
  ck ((kd o5).1 = 100 ∧ inb (gI s4 th 123) (kd o5).2) <|
  bd (sI s4 o5 (ix (gI s4 th 123)) (gI s4 o6 (ix p1))) fun s7 =>
  ck (¬ gR s7 th 119 = 0) <|
  ck ((kd th).1 = 12) <|
  bd (gR s7 th 119) fun o8 =>
  ck ((kd th).1 = 12) <|
  ck ((kd o8).1 = 100 ∧ inb p1 (kd o8).2) <|
  bd (sI s7 o8 (ix p1) (gI s7 th 123)) fun s9 =>
  ck ((kd th).1 = 12) <|
  ck ((kd th).1 = 12) <|
  bd (sI s9 th 123 ((gI s9 th 123) + 1)) fun s10 =>
  ck (¬ gR s10 th 121 = 0) <|
  ck ((kd th).1 = 12) <|
  bd (gR s10 th 121) fun o11 =>
  ck ((kd th).1 = 12) <|
  ck ((kd o11).1 = 100 ∧ inb (gI s10 th 123) (kd o11).2) <|
  bd (sI s10 o11 (ix (gI s10 th 123)) p1) fun s12 =>
  ck (¬ gR s12 th 122 = 0) <|
  ck ((kd th).1 = 12) <|
  bd (gR s12 th 122) fun o13 =>
  ck ((kd th).1 = 12) <|
  ck ((kd o13).1 = 100 ∧ inb (gI s12 th 123) (kd o13).2) <|
  bd (sI s12 o13 (ix (gI s12 th 123)) 0) fun s14 =>
  ck (¬ gR s14 th 120 = 0) <|
  ck ((kd th).1 = 12) <|
  bd (gR s14 th 120) fun o15 =>
  ck ((kd th).1 = 12) <|
  ck (¬ gR s14 th 119 = 0) <|
  ck ((kd th).1 = 12) <|
  bd (gR s14 th 119) fun o16 =>
  ck ((kd o16).1 = 100 ∧ inb p2 (kd o16).2) <|
  ck ((kd o15).1 = 100 ∧ inb (gI s14 th 123) (kd o15).2) <|
  bd (sI s14 o15 (ix (gI s14 th 123)) (gI s14 o16 (ix p2))) fun s17 =>
  ck (¬ gR s17 th 119 = 0) <|
  ck ((kd th).1 = 12) <|
  bd (gR s17 th 119) fun o18 =>
  ck ((kd th).1 = 12) <|
  ck ((kd o18).1 = 100 ∧ inb p2 (kd o18).2) <|
  bd (sI s17 o18 (ix p2) (gI s17 th 123)) fun s19 =>
  ck ((kd th).1 = 12) <|
  ck ((kd th).1 = 12) <|
  bd (sI s19 th 123 ((gI s19 th 123) + 1)) fun s20 =>
  some s20
set_option maxHeartbeats 4000000 in
set_option maxRecDepth 100000 in
theorem t_X12_edge {X : CX} {res : St} (B : BV X cX12_edge RX12 4 1 NN none res) (fu : Nat) (th : Nat) (p1 : Int32) (p2 : Int32) (p3 : Int32) (st : St) : WW X res NN 0 [(0, .ref (x_b X + th)), (1, .int p1), (2, .int p2), (3, .int p3)] [] st (f_X12_edge fu th p1 p2 p3 st) := by
  have hX := B.1
  have hL := B.2.1
  unfold f_X12_edge
  refine ww_aload_n hX 0 rfl dX12_edge_0 rfl ?_
  refine ww_getR hX f_X12_322 (Or.inr ⟨_, rfl⟩) dX12_edge_1 ?_
  refine ww_bdR (fun o1 => ?_)
  refine ww_aload_n hX 0 rfl dX12_edge_4 rfl ?_
  refine ww_getI hX f_X12_654 (Or.inl rfl) dX12_edge_5 ?_
  refine ww_iload_n hX 2 rfl dX12_edge_8 rfl ?_
  refine ww_iastc hX k_iast dX12_edge_9 ?_
  refine ww_bds (fun s2 => ?_)
  refine ww_aload_n hX 0 rfl dX12_edge_10 rfl ?_
  refine ww_pc (b := 11) rfl ?_
  refine ww_getR hX f_X12_325 (Or.inr ⟨_, rfl⟩) dX12_edge_11 ?_
  refine ww_bdR (fun o3 => ?_)
  refine ww_aload_n hX 0 rfl dX12_edge_14 rfl ?_
  refine ww_getI hX f_X12_654 (Or.inl rfl) dX12_edge_15 ?_
  refine ww_iload_n hX 3 rfl dX12_edge_18 rfl ?_
  refine ww_iastc hX k_iast dX12_edge_19 ?_
  refine ww_bds (fun s4 => ?_)
  refine ww_aload_n hX 0 rfl dX12_edge_20 rfl ?_
  refine ww_getR hX f_X12_319 (Or.inr ⟨_, rfl⟩) dX12_edge_21 ?_
  refine ww_bdR (fun o5 => ?_)
  refine ww_aload_n hX 0 rfl dX12_edge_24 rfl ?_
  refine ww_pc (b := 25) rfl ?_
  refine ww_getI hX f_X12_654 (Or.inl rfl) dX12_edge_25 ?_
  refine ww_aload_n hX 0 rfl dX12_edge_28 rfl ?_
  refine ww_getR hX f_X12_316 (Or.inr ⟨_, rfl⟩) dX12_edge_29 ?_
  refine ww_bdR (fun o6 => ?_)
  refine ww_iload_n hX 1 rfl dX12_edge_32 rfl ?_
  refine ww_ialdc hX k_iald dX12_edge_33 ?_
  refine ww_iastc hX k_iast dX12_edge_34 ?_
  refine ww_bds (fun s7 => ?_)
  refine ww_aload_n hX 0 rfl dX12_edge_35 rfl ?_
  refine ww_getR hX f_X12_316 (Or.inr ⟨_, rfl⟩) dX12_edge_36 ?_
  refine ww_bdR (fun o8 => ?_)
  refine ww_pc (b := 39) rfl ?_
  refine ww_iload_n hX 1 rfl dX12_edge_39 rfl ?_
  refine ww_aload_n hX 0 rfl dX12_edge_40 rfl ?_
  refine ww_getI hX f_X12_654 (Or.inl rfl) dX12_edge_41 ?_
  refine ww_iastc hX k_iast dX12_edge_44 ?_
  refine ww_bds (fun s9 => ?_)
  refine ww_aload_n hX 0 rfl dX12_edge_45 rfl ?_
  refine ww_dup hX rfl dX12_edge_46 ?_
  refine ww_getI hX f_X12_654 (Or.inl rfl) dX12_edge_47 ?_
  refine ww_iconst (v := 1) hX rfl dX12_edge_50 ?_
  refine ww_pc (b := 51) rfl ?_
  refine ww_iadd hX dX12_edge_51 ?_
  refine ww_putI hX f_X12_654 rfl dX12_edge_52 ?_
  refine ww_bds (fun s10 => ?_)
  refine ww_aload_n hX 0 rfl dX12_edge_55 rfl ?_
  refine ww_getR hX f_X12_322 (Or.inr ⟨_, rfl⟩) dX12_edge_56 ?_
  refine ww_bdR (fun o11 => ?_)
  refine ww_aload_n hX 0 rfl dX12_edge_59 rfl ?_
  refine ww_getI hX f_X12_654 (Or.inl rfl) dX12_edge_60 ?_
  refine ww_iload_n hX 1 rfl dX12_edge_63 rfl ?_
  refine ww_iastc hX k_iast dX12_edge_64 ?_
  refine ww_bds (fun s12 => ?_)
  refine ww_pc (b := 65) rfl ?_
  refine ww_aload_n hX 0 rfl dX12_edge_65 rfl ?_
  refine ww_getR hX f_X12_325 (Or.inr ⟨_, rfl⟩) dX12_edge_66 ?_
  refine ww_bdR (fun o13 => ?_)
  refine ww_aload_n hX 0 rfl dX12_edge_69 rfl ?_
  refine ww_getI hX f_X12_654 (Or.inl rfl) dX12_edge_70 ?_
  refine ww_iconst (v := 0) hX rfl dX12_edge_73 ?_
  refine ww_iastc hX k_iast dX12_edge_74 ?_
  refine ww_bds (fun s14 => ?_)
  refine ww_aload_n hX 0 rfl dX12_edge_75 rfl ?_
  refine ww_getR hX f_X12_319 (Or.inr ⟨_, rfl⟩) dX12_edge_76 ?_
  refine ww_bdR (fun o15 => ?_)
  refine ww_pc (b := 79) rfl ?_
  refine ww_aload_n hX 0 rfl dX12_edge_79 rfl ?_
  refine ww_getI hX f_X12_654 (Or.inl rfl) dX12_edge_80 ?_
  refine ww_aload_n hX 0 rfl dX12_edge_83 rfl ?_
  refine ww_getR hX f_X12_316 (Or.inr ⟨_, rfl⟩) dX12_edge_84 ?_
  refine ww_bdR (fun o16 => ?_)
  refine ww_iload_n hX 2 rfl dX12_edge_87 rfl ?_
  refine ww_ialdc hX k_iald dX12_edge_88 ?_
  refine ww_iastc hX k_iast dX12_edge_89 ?_
  refine ww_bds (fun s17 => ?_)
  refine ww_aload_n hX 0 rfl dX12_edge_90 rfl ?_
  refine ww_pc (b := 91) rfl ?_
  refine ww_getR hX f_X12_316 (Or.inr ⟨_, rfl⟩) dX12_edge_91 ?_
  refine ww_bdR (fun o18 => ?_)
  refine ww_iload_n hX 2 rfl dX12_edge_94 rfl ?_
  refine ww_aload_n hX 0 rfl dX12_edge_95 rfl ?_
  refine ww_getI hX f_X12_654 (Or.inl rfl) dX12_edge_96 ?_
  refine ww_iastc hX k_iast dX12_edge_99 ?_
  refine ww_bds (fun s19 => ?_)
  refine ww_aload_n hX 0 rfl dX12_edge_100 rfl ?_
  refine ww_dup hX rfl dX12_edge_101 ?_
  refine ww_getI hX f_X12_654 (Or.inl rfl) dX12_edge_102 ?_
  refine ww_pc (b := 105) rfl ?_
  refine ww_iconst (v := 1) hX rfl dX12_edge_105 ?_
  refine ww_iadd hX dX12_edge_106 ?_
  refine ww_putI hX f_X12_654 rfl dX12_edge_107 ?_
  refine ww_bds (fun s20 => ?_)
  exact ww_vret B dX12_edge_110
theorem c_X12_edge (G : GX) (l : Launch) (fu : Nat) (th : Nat) (p1 : Int32) (p2 : Int32) (p3 : Int32) (st : St) : MV G NN l yX12_edge cX12_edge 4 none 1 [.ref (G.2.2.1 + th), .int p1, .int p2, .int p3] st (f_X12_edge fu th p1 p2 p3 st) := mkV (by decide) (Nat.le_of_ble_eq_true rfl) (fun X res hl hG B => by subst hl; subst hG; exact t_X12_edge B fu th p1 p2 p3 st)
/-! StageHouseModel.out2(I)I -/
def b_X12_out2_340_b (fu : Nat) (k_340 : Nat → Int32 → Int32 → St → Option (Int32 × St)) (x0 : Nat) (x5 : Int32) (x6 : Int32)  (st : St) : Option (Int32 × St) :=
  ck (¬ gR st x0 124 = 0) <|
  ck ((kd x0).1 = 12) <|
  bd (gR st x0 124) fun o8 =>
  ck ((kd o8).1 = 100 ∧ inb x6 (kd o8).2) <|
  if (gI st o8 (ix x6)) = ((-1)) then (
  some (x5, st))
  else (
  ck (¬ gR st x0 122 = 0) <|
  ck ((kd x0).1 = 12) <|
  bd (gR st x0 122) fun o9 =>
  ck (¬ gR st x0 124 = 0) <|
  ck ((kd x0).1 = 12) <|
  bd (gR st x0 124) fun o10 =>
  ck ((kd o10).1 = 100 ∧ inb x6 (kd o10).2) <|
  bd (gI st o10 (ix x6)) fun v11 =>
  ck ((kd o9).1 = 100 ∧ inb v11 (kd o9).2) <|
  ck ((kd o9).1 = 100 ∧ inb v11 (kd o9).2) <|
  bd (sI st o9 (ix v11) ((gI st o9 (ix v11)) - x5)) fun s12 =>
  ck (¬ gR s12 x0 122 = 0) <|
  ck ((kd x0).1 = 12) <|
  bd (gR s12 x0 122) fun o13 =>
  ck (¬ gR s12 x0 124 = 0) <|
  ck ((kd x0).1 = 12) <|
  bd (gR s12 x0 124) fun o14 =>
  ck ((kd o14).1 = 100 ∧ inb x6 (kd o14).2) <|
  bd ((gI s12 o14 (ix x6)) ^^^ 1) fun v15 =>
  ck ((kd o13).1 = 100 ∧ inb v15 (kd o13).2) <|
  ck ((kd o13).1 = 100 ∧ inb v15 (kd o13).2) <|
  bd (sI s12 o13 (ix v15) ((gI s12 o13 (ix v15)) + x5)) fun s16 =>
  ck (¬ gR s16 x0 121 = 0) <|
  ck ((kd x0).1 = 12) <|
  bd (gR s16 x0 121) fun o17 =>
  ck (¬ gR s16 x0 124 = 0) <|
  ck ((kd x0).1 = 12) <|
  bd (gR s16 x0 124) fun o18 =>
  ck ((kd o18).1 = 100 ∧ inb x6 (kd o18).2) <|
  ck ((kd o17).1 = 100 ∧ inb ((gI s16 o18 (ix x6)) ^^^ 1) (kd o17).2) <|
  bd (gI s16 o17 (ix ((gI s16 o18 (ix x6)) ^^^ 1))) fun v19 =>
  k_340 x0 x5 v19  s16)
set_option maxHeartbeats 4000000 in
set_option maxRecDepth 100000 in
theorem t_X12_out2_340_b {X : CX} {res : Int32 × St} (B : BI X cX12_out2 RX12 7 1 NN (some .int) res) (fu : Nat) (k_340 : Nat → Int32 → Int32 → St → Option (Int32 × St)) (h_340 : ∀ (x0 : Nat) (x5 : Int32) (x6 : Int32)  (st : St), WW X res NN 340 [(0, .ref (x_b X + x0)), (5, .int x5), (6, .int x6)] [] st (k_340 x0 x5 x6 st)) (x0 : Nat) (x5 : Int32) (x6 : Int32)  (st : St) : WW X res NN 340 [(0, .ref (x_b X + x0)), (5, .int x5), (6, .int x6)] [] st (b_X12_out2_340_b fu k_340 x0 x5 x6 st) := by
  have hX := B.1
  have hL := B.2.1
  unfold b_X12_out2_340_b
  refine ww_aload_n hX 0 rfl dX12_out2_340 rfl ?_
  refine ww_getR hX f_X12_328 (Or.inr ⟨_, rfl⟩) dX12_out2_341 ?_
  refine ww_bdR (fun o8 => ?_)
  refine ww_iload hX 2 rfl dX12_out2_344 ?_
  refine ww_ialdc hX k_iald dX12_out2_346 ?_
  refine ww_iconst (v := (-1)) hX rfl dX12_out2_347 ?_
  refine ww_icmp_eq (tgt := 406) hX dX12_out2_348 (by decide) ?_ ?_
  · refine ww_iload hX 1 rfl dX12_out2_406 ?_
    exact ww_iret B dX12_out2_408
  · refine ww_aload_n hX 0 rfl dX12_out2_351 rfl ?_
    refine ww_getR hX f_X12_325 (Or.inr ⟨_, rfl⟩) dX12_out2_352 ?_
    refine ww_bdR (fun o9 => ?_)
    refine ww_aload_n hX 0 rfl dX12_out2_355 rfl ?_
    refine ww_getR hX f_X12_328 (Or.inr ⟨_, rfl⟩) dX12_out2_356 ?_
    refine ww_bdR (fun o10 => ?_)
    refine ww_iload hX 2 rfl dX12_out2_359 ?_
    refine ww_ialdc hX k_iald dX12_out2_361 ?_
    refine ww_bdi (fun v11 => ?_)
    refine ww_dup2_11 hX rfl rfl dX12_out2_362 ?_
    refine ww_pc (b := 363) rfl ?_
    refine ww_ialdc hX k_iald dX12_out2_363 ?_
    refine ww_iload hX 1 rfl dX12_out2_364 ?_
    refine ww_isub hX dX12_out2_366 ?_
    refine ww_iastc hX k_iast dX12_out2_367 ?_
    refine ww_bds (fun s12 => ?_)
    refine ww_aload_n hX 0 rfl dX12_out2_368 rfl ?_
    refine ww_getR hX f_X12_325 (Or.inr ⟨_, rfl⟩) dX12_out2_369 ?_
    refine ww_bdR (fun o13 => ?_)
    refine ww_aload_n hX 0 rfl dX12_out2_372 rfl ?_
    refine ww_getR hX f_X12_328 (Or.inr ⟨_, rfl⟩) dX12_out2_373 ?_
    refine ww_bdR (fun o14 => ?_)
    refine ww_pc (b := 376) rfl ?_
    refine ww_iload hX 2 rfl dX12_out2_376 ?_
    refine ww_ialdc hX k_iald dX12_out2_378 ?_
    refine ww_iconst (v := 1) hX rfl dX12_out2_379 ?_
    refine ww_ixor hX dX12_out2_380 ?_
    refine ww_bdi (fun v15 => ?_)
    refine ww_dup2_11 hX rfl rfl dX12_out2_381 ?_
    refine ww_ialdc hX k_iald dX12_out2_382 ?_
    refine ww_iload hX 1 rfl dX12_out2_383 ?_
    refine ww_iadd hX dX12_out2_385 ?_
    refine ww_pc (b := 386) rfl ?_
    refine ww_iastc hX k_iast dX12_out2_386 ?_
    refine ww_bds (fun s16 => ?_)
    refine ww_aload_n hX 0 rfl dX12_out2_387 rfl ?_
    refine ww_getR hX f_X12_322 (Or.inr ⟨_, rfl⟩) dX12_out2_388 ?_
    refine ww_bdR (fun o17 => ?_)
    refine ww_aload_n hX 0 rfl dX12_out2_391 rfl ?_
    refine ww_getR hX f_X12_328 (Or.inr ⟨_, rfl⟩) dX12_out2_392 ?_
    refine ww_bdR (fun o18 => ?_)
    refine ww_iload hX 2 rfl dX12_out2_395 ?_
    refine ww_ialdc hX k_iald dX12_out2_397 ?_
    refine ww_iconst (v := 1) hX rfl dX12_out2_398 ?_
    refine ww_pc (b := 399) rfl ?_
    refine ww_ixor hX dX12_out2_399 ?_
    refine ww_ialdc hX k_iald dX12_out2_400 ?_
    refine ww_bdi (fun v19 => ?_)
    refine ww_istore (lv' := [(6, .int v19), (0, .ref (x_b X + x0)), (5, .int x5)]) hX hL dX12_out2_401 (by decide) rfl ?_
    refine ww_goto (tgt := 340) hX dX12_out2_403 (by decide) ?_
    exact ww_sub [1, 2, 0] rfl (h_340 x0 x5 v19  s16)
def b_X12_out2_340 (fu : Nat) : Nat → Nat → Int32 → Int32 → St → Option (Int32 × St)
  | 0, _, _, _, _ => none
  | i + 1, x0, x5, x6, st => b_X12_out2_340_b fu (b_X12_out2_340 fu i) x0 x5 x6 st
theorem t_X12_out2_340 {X : CX} {res : Int32 × St} (B : BI X cX12_out2 RX12 7 1 NN (some .int) res) (fu : Nat) : ∀ (i : Nat) (x0 : Nat) (x5 : Int32) (x6 : Int32)  (st : St), WW X res NN 340 [(0, .ref (x_b X + x0)), (5, .int x5), (6, .int x6)] [] st (b_X12_out2_340 fu i x0 x5 x6 st) := by
  intro i
  induction i with
  | zero => intro x0 x5 x6 st; exact ww_none
  | succ i ih => intro x0 x5 x6 st; exact t_X12_out2_340_b B fu (b_X12_out2_340 fu i) ih x0 x5 x6 st
def b_X12_out2_319 (fu : Nat) (x0 : Nat) (x4 : Int32) (x6 : Int32) (y0 : Int32) (st : St) : Option (Int32 × St) :=
  ck (¬ gR st x0 126 = 0) <|
  ck ((kd x0).1 = 12) <|
  bd (gR st x0 126) fun o5 =>
  ck (¬ 51 = 0) <|
  bd (x6 / 51) fun v6 =>
  ck ((kd o5).1 = 100 ∧ inb v6 (kd o5).2) <|
  ck ((kd o5).1 = 100 ∧ inb v6 (kd o5).2) <|
  bd (sI st o5 (ix v6) ((gI st o5 (ix v6)) - y0)) fun s7 =>
  b_X12_out2_340 fu fu x0 y0 x4  s7
set_option maxHeartbeats 4000000 in
set_option maxRecDepth 100000 in
theorem t_X12_out2_319 {X : CX} {res : Int32 × St} (B : BI X cX12_out2 RX12 7 1 NN (some .int) res) (fu : Nat) (x0 : Nat) (x4 : Int32) (x6 : Int32) (y0 : Int32) (st : St) : WW X res NN 319 [(0, .ref (x_b X + x0)), (4, .int x4), (6, .int x6)] [.int y0] st (b_X12_out2_319 fu x0 x4 x6 y0 st) := by
  have hX := B.1
  have hL := B.2.1
  unfold b_X12_out2_319
  refine ww_istore (lv' := [(5, .int y0), (0, .ref (x_b X + x0)), (4, .int x4), (6, .int x6)]) hX hL dX12_out2_319 (by decide) rfl ?_
  refine ww_aload_n hX 1 rfl dX12_out2_321 rfl ?_
  refine ww_getR hX f_X12_334 (Or.inr ⟨_, rfl⟩) dX12_out2_322 ?_
  refine ww_bdR (fun o5 => ?_)
  refine ww_iload hX 3 rfl dX12_out2_325 ?_
  refine ww_bipush (v := 51) hX rfl dX12_out2_327 ?_
  refine ww_idiv hX dX12_out2_329 ?_
  refine ww_bdi (fun v6 => ?_)
  refine ww_dup2_11 hX rfl rfl dX12_out2_330 ?_
  refine ww_pc (b := 331) rfl ?_
  refine ww_ialdc hX k_iald dX12_out2_331 ?_
  refine ww_iload hX 0 rfl dX12_out2_332 ?_
  refine ww_isub hX dX12_out2_334 ?_
  refine ww_iastc hX k_iast dX12_out2_335 ?_
  refine ww_bds (fun s7 => ?_)
  refine ww_iload hX 2 rfl dX12_out2_336 ?_
  refine ww_istore (lv' := [(6, .int x4), (5, .int y0), (0, .ref (x_b X + x0)), (4, .int x4)]) hX hL dX12_out2_338 (by decide) rfl ?_
  exact ww_sub [2, 1, 0] rfl (t_X12_out2_340 B fu fu x0 y0 x4  s7)
def b_X12_out2_268 (fu : Nat) (k_223 : Nat → Int32 → Int32 → Int32 → St → Option (Int32 × St)) (x0 : Nat) (x4 : Int32) (x6 : Int32) (y0 : Int32) (st : St) : Option (Int32 × St) :=
  ck (¬ gR st x0 121 = 0) <|
  ck ((kd x0).1 = 12) <|
  bd (gR st x0 121) fun o23 =>
  ck (¬ gR st x0 124 = 0) <|
  ck ((kd x0).1 = 12) <|
  bd (gR st x0 124) fun o24 =>
  ck ((kd o24).1 = 100 ∧ inb x6 (kd o24).2) <|
  ck ((kd o23).1 = 100 ∧ inb ((gI st o24 (ix x6)) ^^^ 1) (kd o23).2) <|
  bd (gI st o23 (ix ((gI st o24 (ix x6)) ^^^ 1))) fun v25 =>
  k_223 x0 x4 y0 v25  st
set_option maxHeartbeats 4000000 in
set_option maxRecDepth 100000 in
theorem t_X12_out2_268 {X : CX} {res : Int32 × St} (B : BI X cX12_out2 RX12 7 1 NN (some .int) res) (fu : Nat) (k_223 : Nat → Int32 → Int32 → Int32 → St → Option (Int32 × St)) (h_223 : ∀ (x0 : Nat) (x4 : Int32) (x5 : Int32) (x6 : Int32)  (st : St), WW X res NN 223 [(0, .ref (x_b X + x0)), (4, .int x4), (5, .int x5), (6, .int x6)] [] st (k_223 x0 x4 x5 x6 st)) (x0 : Nat) (x4 : Int32) (x6 : Int32) (y0 : Int32) (st : St) : WW X res NN 268 [(0, .ref (x_b X + x0)), (4, .int x4), (6, .int x6)] [.int y0] st (b_X12_out2_268 fu k_223 x0 x4 x6 y0 st) := by
  have hX := B.1
  have hL := B.2.1
  unfold b_X12_out2_268
  refine ww_istore (lv' := [(5, .int y0), (0, .ref (x_b X + x0)), (4, .int x4), (6, .int x6)]) hX hL dX12_out2_268 (by decide) rfl ?_
  refine ww_aload_n hX 1 rfl dX12_out2_270 rfl ?_
  refine ww_getR hX f_X12_322 (Or.inr ⟨_, rfl⟩) dX12_out2_271 ?_
  refine ww_bdR (fun o23 => ?_)
  refine ww_aload_n hX 1 rfl dX12_out2_274 rfl ?_
  refine ww_getR hX f_X12_328 (Or.inr ⟨_, rfl⟩) dX12_out2_275 ?_
  refine ww_bdR (fun o24 => ?_)
  refine ww_iload hX 3 rfl dX12_out2_278 ?_
  refine ww_ialdc hX k_iald dX12_out2_280 ?_
  refine ww_pc (b := 281) rfl ?_
  refine ww_iconst (v := 1) hX rfl dX12_out2_281 ?_
  refine ww_ixor hX dX12_out2_282 ?_
  refine ww_ialdc hX k_iald dX12_out2_283 ?_
  refine ww_bdi (fun v25 => ?_)
  refine ww_istore (lv' := [(6, .int v25), (5, .int y0), (0, .ref (x_b X + x0)), (4, .int x4)]) hX hL dX12_out2_284 (by decide) rfl ?_
  refine ww_goto (tgt := 223) hX dX12_out2_286 (by decide) ?_
  exact ww_sub [2, 3, 1, 0] rfl (h_223 x0 x4 y0 v25  st)
def b_X12_out2_223_b (fu : Nat) (k_223 : Nat → Int32 → Int32 → Int32 → St → Option (Int32 × St)) (x0 : Nat) (x4 : Int32) (x5 : Int32) (x6 : Int32)  (st : St) : Option (Int32 × St) :=
  ck (¬ gR st x0 124 = 0) <|
  ck ((kd x0).1 = 12) <|
  bd (gR st x0 124) fun o3 =>
  ck ((kd o3).1 = 100 ∧ inb x6 (kd o3).2) <|
  if (gI st o3 (ix x6)) = ((-1)) then (
  ck (¬ gR st x0 126 = 0) <|
  ck ((kd x0).1 = 12) <|
  bd (gR st x0 126) fun o4 =>
  ck (¬ 51 = 0) <|
  ck ((kd o4).1 = 100 ∧ inb (x6 / 51) (kd o4).2) <|
  if x5 ≤ (gI st o4 (ix (x6 / 51))) then (
  b_X12_out2_319 fu x0 x4 x6 x5 st)
  else (
  ck (¬ gR st x0 126 = 0) <|
  ck ((kd x0).1 = 12) <|
  bd (gR st x0 126) fun o20 =>
  ck (¬ 51 = 0) <|
  ck ((kd o20).1 = 100 ∧ inb (x6 / 51) (kd o20).2) <|
  b_X12_out2_319 fu x0 x4 x6 (gI st o20 (ix (x6 / 51))) st))
  else (
  ck (¬ gR st x0 122 = 0) <|
  ck ((kd x0).1 = 12) <|
  bd (gR st x0 122) fun o21 =>
  ck (¬ gR st x0 124 = 0) <|
  ck ((kd x0).1 = 12) <|
  bd (gR st x0 124) fun o22 =>
  ck ((kd o22).1 = 100 ∧ inb x6 (kd o22).2) <|
  ck ((kd o21).1 = 100 ∧ inb (gI st o22 (ix x6)) (kd o21).2) <|
  if x5 ≤ (gI st o21 (ix (gI st o22 (ix x6)))) then (
  b_X12_out2_268 fu k_223 x0 x4 x6 x5 st)
  else (
  ck (¬ gR st x0 122 = 0) <|
  ck ((kd x0).1 = 12) <|
  bd (gR st x0 122) fun o26 =>
  ck (¬ gR st x0 124 = 0) <|
  ck ((kd x0).1 = 12) <|
  bd (gR st x0 124) fun o27 =>
  ck ((kd o27).1 = 100 ∧ inb x6 (kd o27).2) <|
  ck ((kd o26).1 = 100 ∧ inb (gI st o27 (ix x6)) (kd o26).2) <|
  b_X12_out2_268 fu k_223 x0 x4 x6 (gI st o26 (ix (gI st o27 (ix x6)))) st))
set_option maxHeartbeats 4000000 in
set_option maxRecDepth 100000 in
theorem t_X12_out2_223_b {X : CX} {res : Int32 × St} (B : BI X cX12_out2 RX12 7 1 NN (some .int) res) (fu : Nat) (k_223 : Nat → Int32 → Int32 → Int32 → St → Option (Int32 × St)) (h_223 : ∀ (x0 : Nat) (x4 : Int32) (x5 : Int32) (x6 : Int32)  (st : St), WW X res NN 223 [(0, .ref (x_b X + x0)), (4, .int x4), (5, .int x5), (6, .int x6)] [] st (k_223 x0 x4 x5 x6 st)) (x0 : Nat) (x4 : Int32) (x5 : Int32) (x6 : Int32)  (st : St) : WW X res NN 223 [(0, .ref (x_b X + x0)), (4, .int x4), (5, .int x5), (6, .int x6)] [] st (b_X12_out2_223_b fu k_223 x0 x4 x5 x6 st) := by
  have hX := B.1
  have hL := B.2.1
  unfold b_X12_out2_223_b
  refine ww_aload_n hX 0 rfl dX12_out2_223 rfl ?_
  refine ww_getR hX f_X12_328 (Or.inr ⟨_, rfl⟩) dX12_out2_224 ?_
  refine ww_bdR (fun o3 => ?_)
  refine ww_iload hX 3 rfl dX12_out2_227 ?_
  refine ww_ialdc hX k_iald dX12_out2_229 ?_
  refine ww_iconst (v := (-1)) hX rfl dX12_out2_230 ?_
  refine ww_icmp_eq (tgt := 289) hX dX12_out2_231 (by decide) ?_ ?_
  · refine ww_aload_n hX 0 rfl dX12_out2_289 rfl ?_
    refine ww_getR hX f_X12_334 (Or.inr ⟨_, rfl⟩) dX12_out2_290 ?_
    refine ww_bdR (fun o4 => ?_)
    refine ww_iload hX 3 rfl dX12_out2_293 ?_
    refine ww_bipush (v := 51) hX rfl dX12_out2_295 ?_
    refine ww_idiv hX dX12_out2_297 ?_
    refine ww_ialdc hX k_iald dX12_out2_298 ?_
    refine ww_iload hX 2 rfl dX12_out2_299 ?_
    refine ww_pc (b := 301) rfl ?_
    refine ww_icmp_ge (tgt := 317) hX dX12_out2_301 (by decide) ?_ ?_
    · refine ww_iload hX 2 rfl dX12_out2_317 ?_
      exact ww_sub [0, 1, 3] rfl (t_X12_out2_319 B fu x0 x4 x6 x5 st)
    · refine ww_aload_n hX 0 rfl dX12_out2_304 rfl ?_
      refine ww_getR hX f_X12_334 (Or.inr ⟨_, rfl⟩) dX12_out2_305 ?_
      refine ww_bdR (fun o20 => ?_)
      refine ww_iload hX 3 rfl dX12_out2_308 ?_
      refine ww_bipush (v := 51) hX rfl dX12_out2_310 ?_
      refine ww_idiv hX dX12_out2_312 ?_
      refine ww_ialdc hX k_iald dX12_out2_313 ?_
      refine ww_goto (tgt := 319) hX dX12_out2_314 (by decide) ?_
      exact ww_sub [0, 1, 3] rfl (t_X12_out2_319 B fu x0 x4 x6 (gI st o20 (ix (x6 / 51))) st)
  · refine ww_aload_n hX 0 rfl dX12_out2_234 rfl ?_
    refine ww_getR hX f_X12_325 (Or.inr ⟨_, rfl⟩) dX12_out2_235 ?_
    refine ww_bdR (fun o21 => ?_)
    refine ww_aload_n hX 0 rfl dX12_out2_238 rfl ?_
    refine ww_getR hX f_X12_328 (Or.inr ⟨_, rfl⟩) dX12_out2_239 ?_
    refine ww_bdR (fun o22 => ?_)
    refine ww_iload hX 3 rfl dX12_out2_242 ?_
    refine ww_ialdc hX k_iald dX12_out2_244 ?_
    refine ww_ialdc hX k_iald dX12_out2_245 ?_
    refine ww_pc (b := 246) rfl ?_
    refine ww_iload hX 2 rfl dX12_out2_246 ?_
    refine ww_icmp_ge (tgt := 266) hX dX12_out2_248 (by decide) ?_ ?_
    · refine ww_iload hX 2 rfl dX12_out2_266 ?_
      exact ww_sub [0, 1, 3] rfl (t_X12_out2_268 B fu k_223 h_223 x0 x4 x6 x5 st)
    · refine ww_aload_n hX 0 rfl dX12_out2_251 rfl ?_
      refine ww_getR hX f_X12_325 (Or.inr ⟨_, rfl⟩) dX12_out2_252 ?_
      refine ww_bdR (fun o26 => ?_)
      refine ww_aload_n hX 0 rfl dX12_out2_255 rfl ?_
      refine ww_getR hX f_X12_328 (Or.inr ⟨_, rfl⟩) dX12_out2_256 ?_
      refine ww_bdR (fun o27 => ?_)
      refine ww_iload hX 3 rfl dX12_out2_259 ?_
      refine ww_ialdc hX k_iald dX12_out2_261 ?_
      refine ww_ialdc hX k_iald dX12_out2_262 ?_
      refine ww_pc (b := 263) rfl ?_
      refine ww_goto (tgt := 268) hX dX12_out2_263 (by decide) ?_
      exact ww_sub [0, 1, 3] rfl (t_X12_out2_268 B fu k_223 h_223 x0 x4 x6 (gI st o26 (ix (gI st o27 (ix x6)))) st)
def b_X12_out2_223 (fu : Nat) : Nat → Nat → Int32 → Int32 → Int32 → St → Option (Int32 × St)
  | 0, _, _, _, _, _ => none
  | i + 1, x0, x4, x5, x6, st => b_X12_out2_223_b fu (b_X12_out2_223 fu i) x0 x4 x5 x6 st
theorem t_X12_out2_223 {X : CX} {res : Int32 × St} (B : BI X cX12_out2 RX12 7 1 NN (some .int) res) (fu : Nat) : ∀ (i : Nat) (x0 : Nat) (x4 : Int32) (x5 : Int32) (x6 : Int32)  (st : St), WW X res NN 223 [(0, .ref (x_b X + x0)), (4, .int x4), (5, .int x5), (6, .int x6)] [] st (b_X12_out2_223 fu i x0 x4 x5 x6 st) := by
  intro i
  induction i with
  | zero => intro x0 x4 x5 x6 st; exact ww_none
  | succ i ih => intro x0 x4 x5 x6 st; exact t_X12_out2_223_b B fu (b_X12_out2_223 fu i) ih x0 x4 x5 x6 st
def b_X12_out2_200 (fu : Nat) (x0 : Nat) (x4 : Int32)  (st : St) : Option (Int32 × St) :=
  ck (¬ gR st x0 124 = 0) <|
  ck ((kd x0).1 = 12) <|
  bd (gR st x0 124) fun o2 =>
  ck ((kd o2).1 = 100 ∧ inb x4 (kd o2).2) <|
  if (gI st o2 (ix x4)) = ((-2)) then (
  some (0, st))
  else (
  b_X12_out2_223 fu fu x0 x4 6000 x4  st)
set_option maxHeartbeats 4000000 in
set_option maxRecDepth 100000 in
theorem t_X12_out2_200 {X : CX} {res : Int32 × St} (B : BI X cX12_out2 RX12 7 1 NN (some .int) res) (fu : Nat) (x0 : Nat) (x4 : Int32)  (st : St) : WW X res NN 200 [(0, .ref (x_b X + x0)), (4, .int x4)] [] st (b_X12_out2_200 fu x0 x4 st) := by
  have hX := B.1
  have hL := B.2.1
  unfold b_X12_out2_200
  refine ww_aload_n hX 0 rfl dX12_out2_200 rfl ?_
  refine ww_getR hX f_X12_328 (Or.inr ⟨_, rfl⟩) dX12_out2_201 ?_
  refine ww_bdR (fun o2 => ?_)
  refine ww_iload hX 1 rfl dX12_out2_204 ?_
  refine ww_ialdc hX k_iald dX12_out2_206 ?_
  refine ww_bipush (v := (-2)) hX rfl dX12_out2_207 ?_
  refine ww_icmp_ne (tgt := 214) hX dX12_out2_209 (by decide) ?_ ?_
  · refine ww_sipush (v := 6000) hX rfl dX12_out2_214 ?_
    refine ww_istore (lv' := [(5, .int 6000), (0, .ref (x_b X + x0)), (4, .int x4)]) hX hL dX12_out2_217 (by decide) rfl ?_
    refine ww_iload hX 2 rfl dX12_out2_219 ?_
    refine ww_istore (lv' := [(6, .int x4), (5, .int 6000), (0, .ref (x_b X + x0)), (4, .int x4)]) hX hL dX12_out2_221 (by decide) rfl ?_
    exact ww_sub [2, 3, 1, 0] rfl (t_X12_out2_223 B fu fu x0 x4 6000 x4  st)
  · refine ww_iconst (v := 0) hX rfl dX12_out2_212 ?_
    exact ww_iret B dX12_out2_213
def b_X12_out2_185 (fu : Nat) (k_85 : Nat → Int32 → Int32 → Int32 → St → Option (Int32 × St)) (k_122 : Nat → Int32 → Int32 → Int32 → Int32 → St → Option (Int32 × St)) (x0 : Nat) (x2 : Int32) (x3 : Int32) (x4 : Int32) (x6 : Int32)  (st : St) : Option (Int32 × St) :=
  ck (¬ gR st x0 120 = 0) <|
  ck ((kd x0).1 = 12) <|
  bd (gR st x0 120) fun o35 =>
  ck ((kd o35).1 = 100 ∧ inb x6 (kd o35).2) <|
  bd (gI st o35 (ix x6)) fun v36 =>
  k_122 x0 x2 x3 x4 v36  st
set_option maxHeartbeats 4000000 in
set_option maxRecDepth 100000 in
theorem t_X12_out2_185 {X : CX} {res : Int32 × St} (B : BI X cX12_out2 RX12 7 1 NN (some .int) res) (fu : Nat) (k_85 : Nat → Int32 → Int32 → Int32 → St → Option (Int32 × St)) (k_122 : Nat → Int32 → Int32 → Int32 → Int32 → St → Option (Int32 × St)) (h_85 : ∀ (x0 : Nat) (x2 : Int32) (x3 : Int32) (x4 : Int32)  (st : St), WW X res NN 85 [(0, .ref (x_b X + x0)), (2, .int x2), (3, .int x3), (4, .int x4)] [] st (k_85 x0 x2 x3 x4 st)) (h_122 : ∀ (x0 : Nat) (x2 : Int32) (x3 : Int32) (x4 : Int32) (x6 : Int32)  (st : St), WW X res NN 122 [(0, .ref (x_b X + x0)), (2, .int x2), (3, .int x3), (4, .int x4), (6, .int x6)] [] st (k_122 x0 x2 x3 x4 x6 st)) (x0 : Nat) (x2 : Int32) (x3 : Int32) (x4 : Int32) (x6 : Int32)  (st : St) : WW X res NN 185 [(0, .ref (x_b X + x0)), (2, .int x2), (3, .int x3), (4, .int x4), (6, .int x6)] [] st (b_X12_out2_185 fu k_85 k_122 x0 x2 x3 x4 x6 st) := by
  have hX := B.1
  have hL := B.2.1
  unfold b_X12_out2_185
  refine ww_aload_n hX 0 rfl dX12_out2_185 rfl ?_
  refine ww_getR hX f_X12_319 (Or.inr ⟨_, rfl⟩) dX12_out2_186 ?_
  refine ww_bdR (fun o35 => ?_)
  refine ww_iload hX 4 rfl dX12_out2_189 ?_
  refine ww_ialdc hX k_iald dX12_out2_191 ?_
  refine ww_bdi (fun v36 => ?_)
  refine ww_istore (lv' := [(6, .int v36), (0, .ref (x_b X + x0)), (2, .int x2), (3, .int x3), (4, .int x4)]) hX hL dX12_out2_192 (by decide) rfl ?_
  refine ww_goto (tgt := 122) hX dX12_out2_194 (by decide) ?_
  exact ww_sub [1, 2, 3, 4, 0] rfl (h_122 x0 x2 x3 x4 v36  st)
def b_X12_out2_122_b (fu : Nat) (k_85 : Nat → Int32 → Int32 → Int32 → St → Option (Int32 × St)) (k_122 : Nat → Int32 → Int32 → Int32 → Int32 → St → Option (Int32 × St)) (x0 : Nat) (x2 : Int32) (x3 : Int32) (x4 : Int32) (x6 : Int32)  (st : St) : Option (Int32 × St) :=
  if x6 = ((-1)) then (
  k_85 x0 x2 x3 x4  st)
  else (
  ck (¬ gR st x0 122 = 0) <|
  ck ((kd x0).1 = 12) <|
  bd (gR st x0 122) fun o34 =>
  ck ((kd o34).1 = 100 ∧ inb x6 (kd o34).2) <|
  if (gI st o34 (ix x6)) ≤ 0 then (
  b_X12_out2_185 fu k_85 k_122 x0 x2 x3 x4 x6  st)
  else (
  ck (¬ gR st x0 124 = 0) <|
  ck ((kd x0).1 = 12) <|
  bd (gR st x0 124) fun o37 =>
  ck (¬ gR st x0 121 = 0) <|
  ck ((kd x0).1 = 12) <|
  bd (gR st x0 121) fun o38 =>
  ck ((kd o38).1 = 100 ∧ inb x6 (kd o38).2) <|
  ck ((kd o37).1 = 100 ∧ inb (gI st o38 (ix x6)) (kd o37).2) <|
  if (gI st o37 (ix (gI st o38 (ix x6)))) = ((-2)) then (
  ck (¬ gR st x0 124 = 0) <|
  ck ((kd x0).1 = 12) <|
  bd (gR st x0 124) fun o39 =>
  ck (¬ gR st x0 121 = 0) <|
  ck ((kd x0).1 = 12) <|
  bd (gR st x0 121) fun o40 =>
  ck ((kd o40).1 = 100 ∧ inb x6 (kd o40).2) <|
  ck ((kd o39).1 = 100 ∧ inb (gI st o40 (ix x6)) (kd o39).2) <|
  bd (sI st o39 (ix (gI st o40 (ix x6))) x6) fun s41 =>
  ck (¬ gR s41 x0 125 = 0) <|
  ck ((kd x0).1 = 12) <|
  bd (gR s41 x0 125) fun o42 =>
  ck (¬ gR s41 x0 121 = 0) <|
  ck ((kd x0).1 = 12) <|
  bd (gR s41 x0 121) fun o43 =>
  ck ((kd o43).1 = 100 ∧ inb x6 (kd o43).2) <|
  ck ((kd o42).1 = 100 ∧ inb x3 (kd o42).2) <|
  bd (sI s41 o42 (ix x3) (gI s41 o43 (ix x6))) fun s44 =>
  bd (x3 + 1) fun v45 =>
  b_X12_out2_185 fu k_85 k_122 x0 x2 v45 x4 x6  s44)
  else (
  b_X12_out2_185 fu k_85 k_122 x0 x2 x3 x4 x6  st)))
set_option maxHeartbeats 4000000 in
set_option maxRecDepth 100000 in
theorem t_X12_out2_122_b {X : CX} {res : Int32 × St} (B : BI X cX12_out2 RX12 7 1 NN (some .int) res) (fu : Nat) (k_85 : Nat → Int32 → Int32 → Int32 → St → Option (Int32 × St)) (k_122 : Nat → Int32 → Int32 → Int32 → Int32 → St → Option (Int32 × St)) (h_85 : ∀ (x0 : Nat) (x2 : Int32) (x3 : Int32) (x4 : Int32)  (st : St), WW X res NN 85 [(0, .ref (x_b X + x0)), (2, .int x2), (3, .int x3), (4, .int x4)] [] st (k_85 x0 x2 x3 x4 st)) (h_122 : ∀ (x0 : Nat) (x2 : Int32) (x3 : Int32) (x4 : Int32) (x6 : Int32)  (st : St), WW X res NN 122 [(0, .ref (x_b X + x0)), (2, .int x2), (3, .int x3), (4, .int x4), (6, .int x6)] [] st (k_122 x0 x2 x3 x4 x6 st)) (x0 : Nat) (x2 : Int32) (x3 : Int32) (x4 : Int32) (x6 : Int32)  (st : St) : WW X res NN 122 [(0, .ref (x_b X + x0)), (2, .int x2), (3, .int x3), (4, .int x4), (6, .int x6)] [] st (b_X12_out2_122_b fu k_85 k_122 x0 x2 x3 x4 x6 st) := by
  have hX := B.1
  have hL := B.2.1
  unfold b_X12_out2_122_b
  refine ww_iload hX 4 rfl dX12_out2_122 ?_
  refine ww_iconst (v := (-1)) hX rfl dX12_out2_124 ?_
  refine ww_icmp_eq (tgt := 197) hX dX12_out2_125 (by decide) ?_ ?_
  · refine ww_goto (tgt := 85) hX dX12_out2_197 (by decide) ?_
    exact ww_sub [0, 1, 2, 3] rfl (h_85 x0 x2 x3 x4  st)
  · refine ww_aload_n hX 0 rfl dX12_out2_128 rfl ?_
    refine ww_getR hX f_X12_325 (Or.inr ⟨_, rfl⟩) dX12_out2_129 ?_
    refine ww_bdR (fun o34 => ?_)
    refine ww_iload hX 4 rfl dX12_out2_132 ?_
    refine ww_ialdc hX k_iald dX12_out2_134 ?_
    refine ww_if_le (tgt := 185) hX dX12_out2_135 (by decide) ?_ ?_
    · exact t_X12_out2_185 B fu k_85 k_122 h_85 h_122 x0 x2 x3 x4 x6  st
    · refine ww_aload_n hX 0 rfl dX12_out2_138 rfl ?_
      refine ww_getR hX f_X12_328 (Or.inr ⟨_, rfl⟩) dX12_out2_139 ?_
      refine ww_bdR (fun o37 => ?_)
      refine ww_aload_n hX 0 rfl dX12_out2_142 rfl ?_
      refine ww_getR hX f_X12_322 (Or.inr ⟨_, rfl⟩) dX12_out2_143 ?_
      refine ww_bdR (fun o38 => ?_)
      refine ww_iload hX 4 rfl dX12_out2_146 ?_
      refine ww_ialdc hX k_iald dX12_out2_148 ?_
      refine ww_ialdc hX k_iald dX12_out2_149 ?_
      refine ww_pc (b := 150) rfl ?_
      refine ww_bipush (v := (-2)) hX rfl dX12_out2_150 ?_
      refine ww_icmp_ne (tgt := 185) hX dX12_out2_152 (by decide) ?_ ?_
      · exact t_X12_out2_185 B fu k_85 k_122 h_85 h_122 x0 x2 x3 x4 x6  st
      · refine ww_aload_n hX 0 rfl dX12_out2_155 rfl ?_
        refine ww_getR hX f_X12_328 (Or.inr ⟨_, rfl⟩) dX12_out2_156 ?_
        refine ww_bdR (fun o39 => ?_)
        refine ww_aload_n hX 0 rfl dX12_out2_159 rfl ?_
        refine ww_getR hX f_X12_322 (Or.inr ⟨_, rfl⟩) dX12_out2_160 ?_
        refine ww_bdR (fun o40 => ?_)
        refine ww_iload hX 4 rfl dX12_out2_163 ?_
        refine ww_ialdc hX k_iald dX12_out2_165 ?_
        refine ww_iload hX 4 rfl dX12_out2_166 ?_
        refine ww_pc (b := 168) rfl ?_
        refine ww_iastc hX k_iast dX12_out2_168 ?_
        refine ww_bds (fun s41 => ?_)
        refine ww_aload_n hX 0 rfl dX12_out2_169 rfl ?_
        refine ww_getR hX f_X12_331 (Or.inr ⟨_, rfl⟩) dX12_out2_170 ?_
        refine ww_bdR (fun o42 => ?_)
        refine ww_iload_n hX 2 rfl dX12_out2_173 rfl ?_
        refine ww_aload_n hX 0 rfl dX12_out2_174 rfl ?_
        refine ww_getR hX f_X12_322 (Or.inr ⟨_, rfl⟩) dX12_out2_175 ?_
        refine ww_bdR (fun o43 => ?_)
        refine ww_iload hX 4 rfl dX12_out2_178 ?_
        refine ww_ialdc hX k_iald dX12_out2_180 ?_
        refine ww_pc (b := 181) rfl ?_
        refine ww_iastc hX k_iast dX12_out2_181 ?_
        refine ww_bds (fun s44 => ?_)
        refine ww_iincb (lv' := fun v45 => [(3, .int v45), (0, .ref (x_b X + x0)), (2, .int x2), (4, .int x4), (6, .int x6)]) (c := 1) hX hL 2 rfl dX12_out2_182 rfl (by decide) (fun _ => rfl) (fun v45 => ?_)
        exact ww_sub [1, 2, 0, 3, 4] rfl (t_X12_out2_185 B fu k_85 k_122 h_85 h_122 x0 x2 v45 x4 x6  s44)
def b_X12_out2_122 (fu : Nat) (k_85 : Nat → Int32 → Int32 → Int32 → St → Option (Int32 × St)) : Nat → Nat → Int32 → Int32 → Int32 → Int32 → St → Option (Int32 × St)
  | 0, _, _, _, _, _, _ => none
  | i + 1, x0, x2, x3, x4, x6, st => b_X12_out2_122_b fu k_85 (b_X12_out2_122 fu k_85 i) x0 x2 x3 x4 x6 st
theorem t_X12_out2_122 {X : CX} {res : Int32 × St} (B : BI X cX12_out2 RX12 7 1 NN (some .int) res) (fu : Nat) (k_85 : Nat → Int32 → Int32 → Int32 → St → Option (Int32 × St)) (h_85 : ∀ (x0 : Nat) (x2 : Int32) (x3 : Int32) (x4 : Int32)  (st : St), WW X res NN 85 [(0, .ref (x_b X + x0)), (2, .int x2), (3, .int x3), (4, .int x4)] [] st (k_85 x0 x2 x3 x4 st)) : ∀ (i : Nat) (x0 : Nat) (x2 : Int32) (x3 : Int32) (x4 : Int32) (x6 : Int32)  (st : St), WW X res NN 122 [(0, .ref (x_b X + x0)), (2, .int x2), (3, .int x3), (4, .int x4), (6, .int x6)] [] st (b_X12_out2_122 fu k_85 i x0 x2 x3 x4 x6 st) := by
  intro i
  induction i with
  | zero => intro x0 x2 x3 x4 x6 st; exact ww_none
  | succ i ih => intro x0 x2 x3 x4 x6 st; exact t_X12_out2_122_b B fu k_85 (b_X12_out2_122 fu k_85 i) h_85 ih x0 x2 x3 x4 x6 st
def b_X12_out2_85_b (fu : Nat) (k_85 : Nat → Int32 → Int32 → Int32 → St → Option (Int32 × St)) (x0 : Nat) (x2 : Int32) (x3 : Int32) (x4 : Int32)  (st : St) : Option (Int32 × St) :=
  if x3 ≤ x2 then (
  b_X12_out2_200 fu x0 x4  st)
  else (
  ck (¬ gR st x0 124 = 0) <|
  ck ((kd x0).1 = 12) <|
  bd (gR st x0 124) fun o28 =>
  ck ((kd o28).1 = 100 ∧ inb x4 (kd o28).2) <|
  if (gI st o28 (ix x4)) = ((-2)) then (
  ck (¬ gR st x0 125 = 0) <|
  ck ((kd x0).1 = 12) <|
  bd (gR st x0 125) fun o29 =>
  ck ((kd o29).1 = 100 ∧ inb x2 (kd o29).2) <|
  bd (gI st o29 (ix x2)) fun v30 =>
  bd (x2 + 1) fun v31 =>
  ck (¬ gR st x0 119 = 0) <|
  ck ((kd x0).1 = 12) <|
  bd (gR st x0 119) fun o32 =>
  ck ((kd o32).1 = 100 ∧ inb v30 (kd o32).2) <|
  bd (gI st o32 (ix v30)) fun v33 =>
  b_X12_out2_122 fu k_85 fu x0 v31 x3 x4 v33  st)
  else (
  b_X12_out2_200 fu x0 x4  st))
set_option maxHeartbeats 4000000 in
set_option maxRecDepth 100000 in
theorem t_X12_out2_85_b {X : CX} {res : Int32 × St} (B : BI X cX12_out2 RX12 7 1 NN (some .int) res) (fu : Nat) (k_85 : Nat → Int32 → Int32 → Int32 → St → Option (Int32 × St)) (h_85 : ∀ (x0 : Nat) (x2 : Int32) (x3 : Int32) (x4 : Int32)  (st : St), WW X res NN 85 [(0, .ref (x_b X + x0)), (2, .int x2), (3, .int x3), (4, .int x4)] [] st (k_85 x0 x2 x3 x4 st)) (x0 : Nat) (x2 : Int32) (x3 : Int32) (x4 : Int32)  (st : St) : WW X res NN 85 [(0, .ref (x_b X + x0)), (2, .int x2), (3, .int x3), (4, .int x4)] [] st (b_X12_out2_85_b fu k_85 x0 x2 x3 x4 st) := by
  have hX := B.1
  have hL := B.2.1
  unfold b_X12_out2_85_b
  refine ww_iload_n hX 1 rfl dX12_out2_85 rfl ?_
  refine ww_iload_n hX 2 rfl dX12_out2_86 rfl ?_
  refine ww_icmp_ge (tgt := 200) hX dX12_out2_87 (by decide) ?_ ?_
  · exact ww_sub [0, 3] rfl (t_X12_out2_200 B fu x0 x4  st)
  · refine ww_aload_n hX 0 rfl dX12_out2_90 rfl ?_
    refine ww_getR hX f_X12_328 (Or.inr ⟨_, rfl⟩) dX12_out2_91 ?_
    refine ww_bdR (fun o28 => ?_)
    refine ww_iload hX 3 rfl dX12_out2_94 ?_
    refine ww_ialdc hX k_iald dX12_out2_96 ?_
    refine ww_bipush (v := (-2)) hX rfl dX12_out2_97 ?_
    refine ww_icmp_ne (tgt := 200) hX dX12_out2_99 (by decide) ?_ ?_
    · exact ww_sub [0, 3] rfl (t_X12_out2_200 B fu x0 x4  st)
    · refine ww_aload_n hX 0 rfl dX12_out2_102 rfl ?_
      refine ww_getR hX f_X12_331 (Or.inr ⟨_, rfl⟩) dX12_out2_103 ?_
      refine ww_bdR (fun o29 => ?_)
      refine ww_iload_n hX 1 rfl dX12_out2_106 rfl ?_
      refine ww_ialdc hX k_iald dX12_out2_107 ?_
      refine ww_bdi (fun v30 => ?_)
      refine ww_istore (lv' := [(5, .int v30), (0, .ref (x_b X + x0)), (2, .int x2), (3, .int x3), (4, .int x4)]) hX hL dX12_out2_108 (by decide) rfl ?_
      refine ww_iincb (lv' := fun v31 => [(2, .int v31), (5, .int v30), (0, .ref (x_b X + x0)), (3, .int x3), (4, .int x4)]) (c := 1) hX hL 2 rfl dX12_out2_110 rfl (by decide) (fun _ => rfl) (fun v31 => ?_)
      refine ww_aload_n hX 2 rfl dX12_out2_113 rfl ?_
      refine ww_pc (b := 114) rfl ?_
      refine ww_getR hX f_X12_316 (Or.inr ⟨_, rfl⟩) dX12_out2_114 ?_
      refine ww_bdR (fun o32 => ?_)
      refine ww_iload hX 1 rfl dX12_out2_117 ?_
      refine ww_ialdc hX k_iald dX12_out2_119 ?_
      refine ww_bdi (fun v33 => ?_)
      refine ww_istore (lv' := [(6, .int v33), (2, .int v31), (5, .int v30), (0, .ref (x_b X + x0)), (3, .int x3), (4, .int x4)]) hX hL dX12_out2_120 (by decide) rfl ?_
      exact ww_sub [3, 1, 4, 5, 0] rfl (t_X12_out2_122 B fu k_85 h_85 fu x0 v31 x3 x4 v33  st)
def b_X12_out2_85 (fu : Nat) : Nat → Nat → Int32 → Int32 → Int32 → St → Option (Int32 × St)
  | 0, _, _, _, _, _ => none
  | i + 1, x0, x2, x3, x4, st => b_X12_out2_85_b fu (b_X12_out2_85 fu i) x0 x2 x3 x4 st
theorem t_X12_out2_85 {X : CX} {res : Int32 × St} (B : BI X cX12_out2 RX12 7 1 NN (some .int) res) (fu : Nat) : ∀ (i : Nat) (x0 : Nat) (x2 : Int32) (x3 : Int32) (x4 : Int32)  (st : St), WW X res NN 85 [(0, .ref (x_b X + x0)), (2, .int x2), (3, .int x3), (4, .int x4)] [] st (b_X12_out2_85 fu i x0 x2 x3 x4 st) := by
  intro i
  induction i with
  | zero => intro x0 x2 x3 x4 st; exact ww_none
  | succ i ih => intro x0 x2 x3 x4 st; exact t_X12_out2_85_b B fu (b_X12_out2_85 fu i) ih x0 x2 x3 x4 st
def b_X12_out2_72 (fu : Nat) (k_30 : Nat → Int32 → Int32 → Int32 → Int32 → St → Option (Int32 × St)) (x0 : Nat) (x1 : Int32) (x2 : Int32) (x3 : Int32) (x4 : Int32)  (st : St) : Option (Int32 × St) :=
  bd (x4 + 1) fun v47 =>
  k_30 x0 x1 x2 x3 v47  st
set_option maxHeartbeats 4000000 in
set_option maxRecDepth 100000 in
theorem t_X12_out2_72 {X : CX} {res : Int32 × St} (B : BI X cX12_out2 RX12 7 1 NN (some .int) res) (fu : Nat) (k_30 : Nat → Int32 → Int32 → Int32 → Int32 → St → Option (Int32 × St)) (h_30 : ∀ (x0 : Nat) (x1 : Int32) (x2 : Int32) (x3 : Int32) (x4 : Int32)  (st : St), WW X res NN 30 [(0, .ref (x_b X + x0)), (1, .int x1), (2, .int x2), (3, .int x3), (4, .int x4)] [] st (k_30 x0 x1 x2 x3 x4 st)) (x0 : Nat) (x1 : Int32) (x2 : Int32) (x3 : Int32) (x4 : Int32)  (st : St) : WW X res NN 72 [(0, .ref (x_b X + x0)), (1, .int x1), (2, .int x2), (3, .int x3), (4, .int x4)] [] st (b_X12_out2_72 fu k_30 x0 x1 x2 x3 x4 st) := by
  have hX := B.1
  have hL := B.2.1
  unfold b_X12_out2_72
  refine ww_iincb (lv' := fun v47 => [(4, .int v47), (0, .ref (x_b X + x0)), (1, .int x1), (2, .int x2), (3, .int x3)]) (c := 1) hX hL 4 rfl dX12_out2_72 rfl (by decide) (fun _ => rfl) (fun v47 => ?_)
  refine ww_goto (tgt := 30) hX dX12_out2_75 (by decide) ?_
  exact ww_sub [1, 2, 3, 4, 0] rfl (h_30 x0 x1 x2 x3 v47  st)
def b_X12_out2_30_b (fu : Nat) (k_30 : Nat → Int32 → Int32 → Int32 → Int32 → St → Option (Int32 × St)) (x0 : Nat) (x1 : Int32) (x2 : Int32) (x3 : Int32) (x4 : Int32)  (st : St) : Option (Int32 × St) :=
  if 11 ≤ x4 then (
  bd (561 + x1) fun v1 =>
  b_X12_out2_85 fu fu x0 x2 x3 v1  st)
  else (
  ck (¬ gR st x0 126 = 0) <|
  ck ((kd x0).1 = 12) <|
  bd (gR st x0 126) fun o46 =>
  ck ((kd o46).1 = 100 ∧ inb x4 (kd o46).2) <|
  if (gI st o46 (ix x4)) ≤ 0 then (
  b_X12_out2_72 fu k_30 x0 x1 x2 x3 x4  st)
  else (
  ck (¬ gR st x0 124 = 0) <|
  ck ((kd x0).1 = 12) <|
  bd (gR st x0 124) fun o48 =>
  ck ((kd o48).1 = 100 ∧ inb (51 * x4) (kd o48).2) <|
  bd (sI st o48 (ix (51 * x4)) ((-1))) fun s49 =>
  ck (¬ gR s49 x0 125 = 0) <|
  ck ((kd x0).1 = 12) <|
  bd (gR s49 x0 125) fun o50 =>
  ck ((kd o50).1 = 100 ∧ inb x3 (kd o50).2) <|
  bd (sI s49 o50 (ix x3) (51 * x4)) fun s51 =>
  bd (x3 + 1) fun v52 =>
  b_X12_out2_72 fu k_30 x0 x1 x2 v52 x4  s51))
set_option maxHeartbeats 4000000 in
set_option maxRecDepth 100000 in
theorem t_X12_out2_30_b {X : CX} {res : Int32 × St} (B : BI X cX12_out2 RX12 7 1 NN (some .int) res) (fu : Nat) (k_30 : Nat → Int32 → Int32 → Int32 → Int32 → St → Option (Int32 × St)) (h_30 : ∀ (x0 : Nat) (x1 : Int32) (x2 : Int32) (x3 : Int32) (x4 : Int32)  (st : St), WW X res NN 30 [(0, .ref (x_b X + x0)), (1, .int x1), (2, .int x2), (3, .int x3), (4, .int x4)] [] st (k_30 x0 x1 x2 x3 x4 st)) (x0 : Nat) (x1 : Int32) (x2 : Int32) (x3 : Int32) (x4 : Int32)  (st : St) : WW X res NN 30 [(0, .ref (x_b X + x0)), (1, .int x1), (2, .int x2), (3, .int x3), (4, .int x4)] [] st (b_X12_out2_30_b fu k_30 x0 x1 x2 x3 x4 st) := by
  have hX := B.1
  have hL := B.2.1
  unfold b_X12_out2_30_b
  refine ww_iload hX 4 rfl dX12_out2_30 ?_
  refine ww_bipush (v := 11) hX rfl dX12_out2_32 ?_
  refine ww_icmp_ge (tgt := 78) hX dX12_out2_34 (by decide) ?_ ?_
  · refine ww_sipush (v := 561) hX rfl dX12_out2_78 ?_
    refine ww_iload_n hX 1 rfl dX12_out2_81 rfl ?_
    refine ww_iadd hX dX12_out2_82 ?_
    refine ww_bdi (fun v1 => ?_)
    refine ww_istore (lv' := [(4, .int v1), (0, .ref (x_b X + x0)), (1, .int x1), (2, .int x2), (3, .int x3)]) hX hL dX12_out2_83 (by decide) rfl ?_
    exact ww_sub [1, 3, 4, 0] rfl (t_X12_out2_85 B fu fu x0 x2 x3 v1  st)
  · refine ww_aload_n hX 0 rfl dX12_out2_37 rfl ?_
    refine ww_getR hX f_X12_334 (Or.inr ⟨_, rfl⟩) dX12_out2_38 ?_
    refine ww_bdR (fun o46 => ?_)
    refine ww_iload hX 4 rfl dX12_out2_41 ?_
    refine ww_ialdc hX k_iald dX12_out2_43 ?_
    refine ww_if_le (tgt := 72) hX dX12_out2_44 (by decide) ?_ ?_
    · exact t_X12_out2_72 B fu k_30 h_30 x0 x1 x2 x3 x4  st
    · refine ww_aload_n hX 0 rfl dX12_out2_47 rfl ?_
      refine ww_getR hX f_X12_328 (Or.inr ⟨_, rfl⟩) dX12_out2_48 ?_
      refine ww_bdR (fun o48 => ?_)
      refine ww_bipush (v := 51) hX rfl dX12_out2_51 ?_
      refine ww_iload hX 4 rfl dX12_out2_53 ?_
      refine ww_imul hX dX12_out2_55 ?_
      refine ww_iconst (v := (-1)) hX rfl dX12_out2_56 ?_
      refine ww_iastc hX k_iast dX12_out2_57 ?_
      refine ww_bds (fun s49 => ?_)
      refine ww_pc (b := 58) rfl ?_
      refine ww_aload_n hX 0 rfl dX12_out2_58 rfl ?_
      refine ww_getR hX f_X12_331 (Or.inr ⟨_, rfl⟩) dX12_out2_59 ?_
      refine ww_bdR (fun o50 => ?_)
      refine ww_iload_n hX 3 rfl dX12_out2_62 rfl ?_
      refine ww_bipush (v := 51) hX rfl dX12_out2_63 ?_
      refine ww_iload hX 4 rfl dX12_out2_65 ?_
      refine ww_imul hX dX12_out2_67 ?_
      refine ww_iastc hX k_iast dX12_out2_68 ?_
      refine ww_bds (fun s51 => ?_)
      refine ww_iincb (lv' := fun v52 => [(3, .int v52), (0, .ref (x_b X + x0)), (1, .int x1), (2, .int x2), (4, .int x4)]) (c := 1) hX hL 3 rfl dX12_out2_69 rfl (by decide) (fun _ => rfl) (fun v52 => ?_)
      exact ww_sub [1, 2, 3, 0, 4] rfl (t_X12_out2_72 B fu k_30 h_30 x0 x1 x2 v52 x4  s51)
def b_X12_out2_30 (fu : Nat) : Nat → Nat → Int32 → Int32 → Int32 → Int32 → St → Option (Int32 × St)
  | 0, _, _, _, _, _, _ => none
  | i + 1, x0, x1, x2, x3, x4, st => b_X12_out2_30_b fu (b_X12_out2_30 fu i) x0 x1 x2 x3 x4 st
theorem t_X12_out2_30 {X : CX} {res : Int32 × St} (B : BI X cX12_out2 RX12 7 1 NN (some .int) res) (fu : Nat) : ∀ (i : Nat) (x0 : Nat) (x1 : Int32) (x2 : Int32) (x3 : Int32) (x4 : Int32)  (st : St), WW X res NN 30 [(0, .ref (x_b X + x0)), (1, .int x1), (2, .int x2), (3, .int x3), (4, .int x4)] [] st (b_X12_out2_30 fu i x0 x1 x2 x3 x4 st) := by
  intro i
  induction i with
  | zero => intro x0 x1 x2 x3 x4 st; exact ww_none
  | succ i ih => intro x0 x1 x2 x3 x4 st; exact t_X12_out2_30_b B fu (b_X12_out2_30 fu i) ih x0 x1 x2 x3 x4 st
def b_X12_out2_2_b (fu : Nat) (k_2 : Nat → Int32 → Int32 → St → Option (Int32 × St)) (x0 : Nat) (x1 : Int32) (x2 : Int32)  (st : St) : Option (Int32 × St) :=
  if 612 ≤ x2 then (
  b_X12_out2_30 fu fu x0 x1 0 0 0  st)
  else (
  ck (¬ gR st x0 124 = 0) <|
  ck ((kd x0).1 = 12) <|
  bd (gR st x0 124) fun o53 =>
  ck ((kd o53).1 = 100 ∧ inb x2 (kd o53).2) <|
  bd (sI st o53 (ix x2) ((-2))) fun s54 =>
  bd (x2 + 1) fun v55 =>
  k_2 x0 x1 v55  s54)
set_option maxHeartbeats 4000000 in
set_option maxRecDepth 100000 in
theorem t_X12_out2_2_b {X : CX} {res : Int32 × St} (B : BI X cX12_out2 RX12 7 1 NN (some .int) res) (fu : Nat) (k_2 : Nat → Int32 → Int32 → St → Option (Int32 × St)) (h_2 : ∀ (x0 : Nat) (x1 : Int32) (x2 : Int32)  (st : St), WW X res NN 2 [(0, .ref (x_b X + x0)), (1, .int x1), (2, .int x2)] [] st (k_2 x0 x1 x2 st)) (x0 : Nat) (x1 : Int32) (x2 : Int32)  (st : St) : WW X res NN 2 [(0, .ref (x_b X + x0)), (1, .int x1), (2, .int x2)] [] st (b_X12_out2_2_b fu k_2 x0 x1 x2 st) := by
  have hX := B.1
  have hL := B.2.1
  unfold b_X12_out2_2_b
  refine ww_iload_n hX 2 rfl dX12_out2_2 rfl ?_
  refine ww_sipush (v := 612) hX rfl dX12_out2_3 ?_
  refine ww_icmp_ge (tgt := 23) hX dX12_out2_6 (by decide) ?_ ?_
  · refine ww_iconst (v := 0) hX rfl dX12_out2_23 ?_
    refine ww_istore_n (lv' := [(2, .int 0), (0, .ref (x_b X + x0)), (1, .int x1)]) hX hL dX12_out2_24 rfl (by decide) rfl ?_
    refine ww_iconst (v := 0) hX rfl dX12_out2_25 ?_
    refine ww_istore_n (lv' := [(3, .int 0), (2, .int 0), (0, .ref (x_b X + x0)), (1, .int x1)]) hX hL dX12_out2_26 rfl (by decide) rfl ?_
    refine ww_iconst (v := 0) hX rfl dX12_out2_27 ?_
    refine ww_istore (lv' := [(4, .int 0), (3, .int 0), (2, .int 0), (0, .ref (x_b X + x0)), (1, .int x1)]) hX hL dX12_out2_28 (by decide) rfl ?_
    exact ww_sub [3, 4, 2, 1, 0] rfl (t_X12_out2_30 B fu fu x0 x1 0 0 0  st)
  · refine ww_aload_n hX 0 rfl dX12_out2_9 rfl ?_
    refine ww_getR hX f_X12_328 (Or.inr ⟨_, rfl⟩) dX12_out2_10 ?_
    refine ww_bdR (fun o53 => ?_)
    refine ww_iload_n hX 2 rfl dX12_out2_13 rfl ?_
    refine ww_bipush (v := (-2)) hX rfl dX12_out2_14 ?_
    refine ww_iastc hX k_iast dX12_out2_16 ?_
    refine ww_bds (fun s54 => ?_)
    refine ww_iincb (lv' := fun v55 => [(2, .int v55), (0, .ref (x_b X + x0)), (1, .int x1)]) (c := 1) hX hL 2 rfl dX12_out2_17 rfl (by decide) (fun _ => rfl) (fun v55 => ?_)
    refine ww_goto (tgt := 2) hX dX12_out2_20 (by decide) ?_
    exact ww_sub [1, 2, 0] rfl (h_2 x0 x1 v55  s54)
def b_X12_out2_2 (fu : Nat) : Nat → Nat → Int32 → Int32 → St → Option (Int32 × St)
  | 0, _, _, _, _ => none
  | i + 1, x0, x1, x2, st => b_X12_out2_2_b fu (b_X12_out2_2 fu i) x0 x1 x2 st
theorem t_X12_out2_2 {X : CX} {res : Int32 × St} (B : BI X cX12_out2 RX12 7 1 NN (some .int) res) (fu : Nat) : ∀ (i : Nat) (x0 : Nat) (x1 : Int32) (x2 : Int32)  (st : St), WW X res NN 2 [(0, .ref (x_b X + x0)), (1, .int x1), (2, .int x2)] [] st (b_X12_out2_2 fu i x0 x1 x2 st) := by
  intro i
  induction i with
  | zero => intro x0 x1 x2 st; exact ww_none
  | succ i ih => intro x0 x1 x2 st; exact t_X12_out2_2_b B fu (b_X12_out2_2 fu i) ih x0 x1 x2 st
def f_X12_out2 (fu : Nat) (th : Nat) (p1 : Int32) (st : St) : Option (Int32 × St) :=
  b_X12_out2_2 fu fu th p1 0  st
set_option maxHeartbeats 4000000 in
set_option maxRecDepth 100000 in
theorem t_X12_out2 {X : CX} {res : Int32 × St} (B : BI X cX12_out2 RX12 7 1 NN (some .int) res) (fu : Nat) (th : Nat) (p1 : Int32) (st : St) : WW X res NN 0 [(0, .ref (x_b X + th)), (1, .int p1)] [] st (f_X12_out2 fu th p1 st) := by
  have hX := B.1
  have hL := B.2.1
  unfold f_X12_out2
  refine ww_iconst (v := 0) hX rfl dX12_out2_0 ?_
  refine ww_istore_n (lv' := [(2, .int 0), (0, .ref (x_b X + th)), (1, .int p1)]) hX hL dX12_out2_1 rfl (by decide) rfl ?_
  exact ww_sub [1, 2, 0] rfl (t_X12_out2_2 B fu fu th p1 0  st)
theorem c_X12_out2 (G : GX) (l : Launch) (fu : Nat) (th : Nat) (p1 : Int32) (st : St) : MI G NN l yX12_out2 cX12_out2 7 (some .int) 1 [.ref (G.2.2.1 + th), .int p1] st (f_X12_out2 fu th p1 st) := mkI (by decide) (Nat.le_of_ble_eq_true rfl) (fun X res hl hG B => by subst hl; subst hG; exact t_X12_out2 B fu th p1 st)
/-! StageHouseModel.empty()I -/
def b_X12_empty_178_b (fu : Nat) (k_66 : Nat → Int32 → Int32 → St → Option (Int32 × St)) (k_178 : Nat → Int32 → Int32 → Int32 → St → Option (Int32 × St)) (x0 : Nat) (x1 : Int32) (x2 : Int32) (x3 : Int32)  (st : St) : Option (Int32 × St) :=
  if x3 ≤ 0 then (
  if x1 = 0 then (
  some (x2, st))
  else (
  bd (x2 + 1) fun v2 =>
  k_66 x0 x1 v2  st))
  else (
  ck ((kd x0).1 = 12) <|
  ca (f_X12_out2 fu x0 x2 st) fun r3 s4 =>
  bd (x1 - r3) fun v5 =>
  k_178 x0 v5 x2 r3  s4)
set_option maxHeartbeats 4000000 in
set_option maxRecDepth 100000 in
theorem t_X12_empty_178_b {X : CX} {res : Int32 × St} (B : BI X cX12_empty RX12 4 2 NN (some .int) res) (fu : Nat) (k_66 : Nat → Int32 → Int32 → St → Option (Int32 × St)) (k_178 : Nat → Int32 → Int32 → Int32 → St → Option (Int32 × St)) (h_66 : ∀ (x0 : Nat) (x1 : Int32) (x2 : Int32)  (st : St), WW X res NN 66 [(0, .ref (x_b X + x0)), (1, .int x1), (2, .int x2)] [] st (k_66 x0 x1 x2 st)) (h_178 : ∀ (x0 : Nat) (x1 : Int32) (x2 : Int32) (x3 : Int32)  (st : St), WW X res NN 178 [(0, .ref (x_b X + x0)), (1, .int x1), (2, .int x2), (3, .int x3)] [] st (k_178 x0 x1 x2 x3 st)) (x0 : Nat) (x1 : Int32) (x2 : Int32) (x3 : Int32)  (st : St) : WW X res NN 178 [(0, .ref (x_b X + x0)), (1, .int x1), (2, .int x2), (3, .int x3)] [] st (b_X12_empty_178_b fu k_66 k_178 x0 x1 x2 x3 st) := by
  have hX := B.1
  have hL := B.2.1
  unfold b_X12_empty_178_b
  refine ww_iload_n hX 3 rfl dX12_empty_178 rfl ?_
  refine ww_if_le (tgt := 195) hX dX12_empty_179 (by decide) ?_ ?_
  · refine ww_iload_n hX 1 rfl dX12_empty_195 rfl ?_
    refine ww_if_ne (tgt := 201) hX dX12_empty_196 (by decide) ?_ ?_
    · refine ww_iincb (lv' := fun v2 => [(2, .int v2), (0, .ref (x_b X + x0)), (1, .int x1), (3, .int x3)]) (c := 1) hX hL 2 rfl dX12_empty_201 rfl (by decide) (fun _ => rfl) (fun v2 => ?_)
      refine ww_goto (tgt := 66) hX dX12_empty_204 (by decide) ?_
      exact ww_sub [1, 2, 0] rfl (h_66 x0 x1 v2  st)
    · refine ww_iload_n hX 2 rfl dX12_empty_199 rfl ?_
      exact ww_iret B dX12_empty_200
  · refine ww_aload_n hX 0 rfl dX12_empty_182 rfl ?_
    refine ww_iload_n hX 2 rfl dX12_empty_183 rfl ?_
    refine ww_callVI (As := [.int x2]) (rest := []) (o := x0) hX (Rk.of B.2.2.1 B.2.2.2.1 (by decide) (by decide)) g_X12_660 g_X12_660.in (fun _ => c_X12_out2 (x_G X) (x_l X) fu x0 x2 st) rfl rfl (Nat.le_of_ble_eq_true rfl) dX12_empty_184 (fun r3 s4 => ?_)
    refine ww_istore_n (lv' := [(3, .int r3), (0, .ref (x_b X + x0)), (1, .int x1), (2, .int x2)]) hX hL dX12_empty_187 rfl (by decide) rfl ?_
    refine ww_iload_n hX 2 rfl dX12_empty_188 rfl ?_
    refine ww_iload_n hX 0 rfl dX12_empty_189 rfl ?_
    refine ww_isub hX dX12_empty_190 ?_
    refine ww_pc (b := 191) rfl ?_
    refine ww_bdi (fun v5 => ?_)
    refine ww_istore_n (lv' := [(1, .int v5), (3, .int r3), (0, .ref (x_b X + x0)), (2, .int x2)]) hX hL dX12_empty_191 rfl (by decide) rfl ?_
    refine ww_goto (tgt := 178) hX dX12_empty_192 (by decide) ?_
    exact ww_sub [2, 0, 3, 1] rfl (h_178 x0 v5 x2 r3  s4)
def b_X12_empty_178 (fu : Nat) (k_66 : Nat → Int32 → Int32 → St → Option (Int32 × St)) : Nat → Nat → Int32 → Int32 → Int32 → St → Option (Int32 × St)
  | 0, _, _, _, _, _ => none
  | i + 1, x0, x1, x2, x3, st => b_X12_empty_178_b fu k_66 (b_X12_empty_178 fu k_66 i) x0 x1 x2 x3 st
theorem t_X12_empty_178 {X : CX} {res : Int32 × St} (B : BI X cX12_empty RX12 4 2 NN (some .int) res) (fu : Nat) (k_66 : Nat → Int32 → Int32 → St → Option (Int32 × St)) (h_66 : ∀ (x0 : Nat) (x1 : Int32) (x2 : Int32)  (st : St), WW X res NN 66 [(0, .ref (x_b X + x0)), (1, .int x1), (2, .int x2)] [] st (k_66 x0 x1 x2 st)) : ∀ (i : Nat) (x0 : Nat) (x1 : Int32) (x2 : Int32) (x3 : Int32)  (st : St), WW X res NN 178 [(0, .ref (x_b X + x0)), (1, .int x1), (2, .int x2), (3, .int x3)] [] st (b_X12_empty_178 fu k_66 i x0 x1 x2 x3 st) := by
  intro i
  induction i with
  | zero => intro x0 x1 x2 x3 st; exact ww_none
  | succ i ih => intro x0 x1 x2 x3 st; exact t_X12_empty_178_b B fu k_66 (b_X12_empty_178 fu k_66 i) h_66 ih x0 x1 x2 x3 st
def b_X12_empty_176 (fu : Nat) (k_66 : Nat → Int32 → Int32 → St → Option (Int32 × St)) (x0 : Nat) (x1 : Int32) (x2 : Int32)  (st : St) : Option (Int32 × St) :=
  b_X12_empty_178 fu k_66 fu x0 x1 x2 1  st
set_option maxHeartbeats 4000000 in
set_option maxRecDepth 100000 in
theorem t_X12_empty_176 {X : CX} {res : Int32 × St} (B : BI X cX12_empty RX12 4 2 NN (some .int) res) (fu : Nat) (k_66 : Nat → Int32 → Int32 → St → Option (Int32 × St)) (h_66 : ∀ (x0 : Nat) (x1 : Int32) (x2 : Int32)  (st : St), WW X res NN 66 [(0, .ref (x_b X + x0)), (1, .int x1), (2, .int x2)] [] st (k_66 x0 x1 x2 st)) (x0 : Nat) (x1 : Int32) (x2 : Int32)  (st : St) : WW X res NN 176 [(0, .ref (x_b X + x0)), (1, .int x1), (2, .int x2)] [] st (b_X12_empty_176 fu k_66 x0 x1 x2 st) := by
  have hX := B.1
  have hL := B.2.1
  unfold b_X12_empty_176
  refine ww_iconst (v := 1) hX rfl dX12_empty_176 ?_
  refine ww_istore_n (lv' := [(3, .int 1), (0, .ref (x_b X + x0)), (1, .int x1), (2, .int x2)]) hX hL dX12_empty_177 rfl (by decide) rfl ?_
  exact ww_sub [1, 2, 3, 0] rfl (t_X12_empty_178 B fu k_66 h_66 fu x0 x1 x2 1  st)
def b_X12_empty_139_b (fu : Nat) (k_66 : Nat → Int32 → Int32 → St → Option (Int32 × St)) (k_139 : Nat → Int32 → Int32 → Int32 → St → Option (Int32 × St)) (x0 : Nat) (x1 : Int32) (x2 : Int32) (x3 : Int32)  (st : St) : Option (Int32 × St) :=
  if 12 ≤ x3 then (
  b_X12_empty_176 fu k_66 x0 x1 x2  st)
  else (
  if x2 ≤ 0 then (
  b_X12_empty_176 fu k_66 x0 x1 x2  st)
  else (
  ck ((kd x0).1 = 12) <|
  cv (f_X12_edge fu x0 (((51 * x3) + x2) - 1) ((51 * x3) + x2) 6000 st) fun s6 =>
  bd (x3 + 1) fun v7 =>
  k_139 x0 x1 x2 v7  s6))
set_option maxHeartbeats 4000000 in
set_option maxRecDepth 100000 in
theorem t_X12_empty_139_b {X : CX} {res : Int32 × St} (B : BI X cX12_empty RX12 4 2 NN (some .int) res) (fu : Nat) (k_66 : Nat → Int32 → Int32 → St → Option (Int32 × St)) (k_139 : Nat → Int32 → Int32 → Int32 → St → Option (Int32 × St)) (h_66 : ∀ (x0 : Nat) (x1 : Int32) (x2 : Int32)  (st : St), WW X res NN 66 [(0, .ref (x_b X + x0)), (1, .int x1), (2, .int x2)] [] st (k_66 x0 x1 x2 st)) (h_139 : ∀ (x0 : Nat) (x1 : Int32) (x2 : Int32) (x3 : Int32)  (st : St), WW X res NN 139 [(0, .ref (x_b X + x0)), (1, .int x1), (2, .int x2), (3, .int x3)] [] st (k_139 x0 x1 x2 x3 st)) (x0 : Nat) (x1 : Int32) (x2 : Int32) (x3 : Int32)  (st : St) : WW X res NN 139 [(0, .ref (x_b X + x0)), (1, .int x1), (2, .int x2), (3, .int x3)] [] st (b_X12_empty_139_b fu k_66 k_139 x0 x1 x2 x3 st) := by
  have hX := B.1
  have hL := B.2.1
  unfold b_X12_empty_139_b
  refine ww_iload_n hX 3 rfl dX12_empty_139 rfl ?_
  refine ww_bipush (v := 12) hX rfl dX12_empty_140 ?_
  refine ww_icmp_ge (tgt := 176) hX dX12_empty_142 (by decide) ?_ ?_
  · exact ww_sub [0, 1, 2] rfl (t_X12_empty_176 B fu k_66 h_66 x0 x1 x2  st)
  · refine ww_iload_n hX 2 rfl dX12_empty_145 rfl ?_
    refine ww_if_le (tgt := 176) hX dX12_empty_146 (by decide) ?_ ?_
    · exact ww_sub [0, 1, 2] rfl (t_X12_empty_176 B fu k_66 h_66 x0 x1 x2  st)
    · refine ww_aload_n hX 0 rfl dX12_empty_149 rfl ?_
      refine ww_bipush (v := 51) hX rfl dX12_empty_150 ?_
      refine ww_iload_n hX 3 rfl dX12_empty_152 rfl ?_
      refine ww_imul hX dX12_empty_153 ?_
      refine ww_iload_n hX 2 rfl dX12_empty_154 rfl ?_
      refine ww_iadd hX dX12_empty_155 ?_
      refine ww_iconst (v := 1) hX rfl dX12_empty_156 ?_
      refine ww_pc (b := 157) rfl ?_
      refine ww_isub hX dX12_empty_157 ?_
      refine ww_bipush (v := 51) hX rfl dX12_empty_158 ?_
      refine ww_iload_n hX 3 rfl dX12_empty_160 rfl ?_
      refine ww_imul hX dX12_empty_161 ?_
      refine ww_iload_n hX 2 rfl dX12_empty_162 rfl ?_
      refine ww_iadd hX dX12_empty_163 ?_
      refine ww_sipush (v := 6000) hX rfl dX12_empty_164 ?_
      refine ww_callVV (As := [.int (((51 * x3) + x2) - 1), .int ((51 * x3) + x2), .int 6000]) (rest := []) (o := x0) hX (Rk.of B.2.2.1 B.2.2.2.1 (by decide) (by decide)) g_X12_657 g_X12_657.in (fun _ => c_X12_edge (x_G X) (x_l X) fu x0 (((51 * x3) + x2) - 1) ((51 * x3) + x2) 6000 st) rfl rfl (Nat.le_of_ble_eq_true rfl) dX12_empty_167 (fun s6 => ?_)
      refine ww_pc (b := 170) rfl ?_
      refine ww_iincb (lv' := fun v7 => [(3, .int v7), (0, .ref (x_b X + x0)), (1, .int x1), (2, .int x2)]) (c := 1) hX hL 3 rfl dX12_empty_170 rfl (by decide) (fun _ => rfl) (fun v7 => ?_)
      refine ww_goto (tgt := 139) hX dX12_empty_173 (by decide) ?_
      exact ww_sub [1, 2, 3, 0] rfl (h_139 x0 x1 x2 v7  s6)
def b_X12_empty_139 (fu : Nat) (k_66 : Nat → Int32 → Int32 → St → Option (Int32 × St)) : Nat → Nat → Int32 → Int32 → Int32 → St → Option (Int32 × St)
  | 0, _, _, _, _, _ => none
  | i + 1, x0, x1, x2, x3, st => b_X12_empty_139_b fu k_66 (b_X12_empty_139 fu k_66 i) x0 x1 x2 x3 st
theorem t_X12_empty_139 {X : CX} {res : Int32 × St} (B : BI X cX12_empty RX12 4 2 NN (some .int) res) (fu : Nat) (k_66 : Nat → Int32 → Int32 → St → Option (Int32 × St)) (h_66 : ∀ (x0 : Nat) (x1 : Int32) (x2 : Int32)  (st : St), WW X res NN 66 [(0, .ref (x_b X + x0)), (1, .int x1), (2, .int x2)] [] st (k_66 x0 x1 x2 st)) : ∀ (i : Nat) (x0 : Nat) (x1 : Int32) (x2 : Int32) (x3 : Int32)  (st : St), WW X res NN 139 [(0, .ref (x_b X + x0)), (1, .int x1), (2, .int x2), (3, .int x3)] [] st (b_X12_empty_139 fu k_66 i x0 x1 x2 x3 st) := by
  intro i
  induction i with
  | zero => intro x0 x1 x2 x3 st; exact ww_none
  | succ i ih => intro x0 x1 x2 x3 st; exact t_X12_empty_139_b B fu k_66 (b_X12_empty_139 fu k_66 i) h_66 ih x0 x1 x2 x3 st
def b_X12_empty_131 (fu : Nat) (k_66 : Nat → Int32 → Int32 → St → Option (Int32 × St)) (k_74 : Nat → Int32 → Int32 → Int32 → St → Option (Int32 × St)) (x0 : Nat) (x1 : Int32) (x2 : Int32) (x3 : Int32)  (st : St) : Option (Int32 × St) :=
  bd (x3 + 1) fun v9 =>
  k_74 x0 x1 x2 v9  st
set_option maxHeartbeats 4000000 in
set_option maxRecDepth 100000 in
theorem t_X12_empty_131 {X : CX} {res : Int32 × St} (B : BI X cX12_empty RX12 4 2 NN (some .int) res) (fu : Nat) (k_66 : Nat → Int32 → Int32 → St → Option (Int32 × St)) (k_74 : Nat → Int32 → Int32 → Int32 → St → Option (Int32 × St)) (h_66 : ∀ (x0 : Nat) (x1 : Int32) (x2 : Int32)  (st : St), WW X res NN 66 [(0, .ref (x_b X + x0)), (1, .int x1), (2, .int x2)] [] st (k_66 x0 x1 x2 st)) (h_74 : ∀ (x0 : Nat) (x1 : Int32) (x2 : Int32) (x3 : Int32)  (st : St), WW X res NN 74 [(0, .ref (x_b X + x0)), (1, .int x1), (2, .int x2), (3, .int x3)] [] st (k_74 x0 x1 x2 x3 st)) (x0 : Nat) (x1 : Int32) (x2 : Int32) (x3 : Int32)  (st : St) : WW X res NN 131 [(0, .ref (x_b X + x0)), (1, .int x1), (2, .int x2), (3, .int x3)] [] st (b_X12_empty_131 fu k_66 k_74 x0 x1 x2 x3 st) := by
  have hX := B.1
  have hL := B.2.1
  unfold b_X12_empty_131
  refine ww_iincb (lv' := fun v9 => [(3, .int v9), (0, .ref (x_b X + x0)), (1, .int x1), (2, .int x2)]) (c := 1) hX hL 3 rfl dX12_empty_131 rfl (by decide) (fun _ => rfl) (fun v9 => ?_)
  refine ww_goto (tgt := 74) hX dX12_empty_134 (by decide) ?_
  exact ww_sub [1, 2, 3, 0] rfl (h_74 x0 x1 x2 v9  st)
def b_X12_empty_74_b (fu : Nat) (k_66 : Nat → Int32 → Int32 → St → Option (Int32 × St)) (k_74 : Nat → Int32 → Int32 → Int32 → St → Option (Int32 × St)) (x0 : Nat) (x1 : Int32) (x2 : Int32) (x3 : Int32)  (st : St) : Option (Int32 × St) :=
  ck ((kd x0).1 = 12) <|
  if (gI st x0 113) ≤ x3 then (
  b_X12_empty_139 fu k_66 fu x0 x1 x2 0  st)
  else (
  ck (¬ gR st x0 117 = 0) <|
  ck ((kd x0).1 = 12) <|
  bd (gR st x0 117) fun o8 =>
  ck ((kd o8).1 = 100 ∧ inb x3 (kd o8).2) <|
  if x2 < (gI st o8 (ix x3)) then (
  b_X12_empty_131 fu k_66 k_74 x0 x1 x2 x3  st)
  else (
  ck (¬ gR st x0 114 = 0) <|
  ck ((kd x0).1 = 12) <|
  bd (gR st x0 114) fun o10 =>
  ck ((kd o10).1 = 100 ∧ inb x3 (kd o10).2) <|
  ck (¬ gR st x0 117 = 0) <|
  ck ((kd x0).1 = 12) <|
  bd (gR st x0 117) fun o11 =>
  ck ((kd o11).1 = 100 ∧ inb x3 (kd o11).2) <|
  ck (¬ gR st x0 115 = 0) <|
  ck ((kd x0).1 = 12) <|
  bd (gR st x0 115) fun o12 =>
  ck ((kd o12).1 = 100 ∧ inb x3 (kd o12).2) <|
  ck (¬ gR st x0 116 = 0) <|
  ck ((kd x0).1 = 12) <|
  bd (gR st x0 116) fun o13 =>
  ck ((kd o13).1 = 100 ∧ inb x3 (kd o13).2) <|
  ck ((kd x0).1 = 12) <|
  cv (f_X12_edge fu x0 (((51 * (gI st o10 (ix x3))) + x2) - (gI st o11 (ix x3))) ((51 * (gI st o12 (ix x3))) + x2) (gI st o13 (ix x3)) st) fun s14 =>
  b_X12_empty_131 fu k_66 k_74 x0 x1 x2 x3  s14))
set_option maxHeartbeats 4000000 in
set_option maxRecDepth 100000 in
theorem t_X12_empty_74_b {X : CX} {res : Int32 × St} (B : BI X cX12_empty RX12 4 2 NN (some .int) res) (fu : Nat) (k_66 : Nat → Int32 → Int32 → St → Option (Int32 × St)) (k_74 : Nat → Int32 → Int32 → Int32 → St → Option (Int32 × St)) (h_66 : ∀ (x0 : Nat) (x1 : Int32) (x2 : Int32)  (st : St), WW X res NN 66 [(0, .ref (x_b X + x0)), (1, .int x1), (2, .int x2)] [] st (k_66 x0 x1 x2 st)) (h_74 : ∀ (x0 : Nat) (x1 : Int32) (x2 : Int32) (x3 : Int32)  (st : St), WW X res NN 74 [(0, .ref (x_b X + x0)), (1, .int x1), (2, .int x2), (3, .int x3)] [] st (k_74 x0 x1 x2 x3 st)) (x0 : Nat) (x1 : Int32) (x2 : Int32) (x3 : Int32)  (st : St) : WW X res NN 74 [(0, .ref (x_b X + x0)), (1, .int x1), (2, .int x2), (3, .int x3)] [] st (b_X12_empty_74_b fu k_66 k_74 x0 x1 x2 x3 st) := by
  have hX := B.1
  have hL := B.2.1
  unfold b_X12_empty_74_b
  refine ww_iload_n hX 3 rfl dX12_empty_74 rfl ?_
  refine ww_aload_n hX 0 rfl dX12_empty_75 rfl ?_
  refine ww_getI hX f_X12_651 (Or.inl rfl) dX12_empty_76 ?_
  refine ww_icmp_ge (tgt := 137) hX dX12_empty_79 (by decide) ?_ ?_
  · refine ww_iconst (v := 0) hX rfl dX12_empty_137 ?_
    refine ww_istore_n (lv' := [(3, .int 0), (0, .ref (x_b X + x0)), (1, .int x1), (2, .int x2)]) hX hL dX12_empty_138 rfl (by decide) rfl ?_
    exact ww_sub [1, 2, 3, 0] rfl (t_X12_empty_139 B fu k_66 h_66 fu x0 x1 x2 0  st)
  · refine ww_iload_n hX 2 rfl dX12_empty_82 rfl ?_
    refine ww_aload_n hX 0 rfl dX12_empty_83 rfl ?_
    refine ww_getR hX f_X12_310 (Or.inr ⟨_, rfl⟩) dX12_empty_84 ?_
    refine ww_bdR (fun o8 => ?_)
    refine ww_iload_n hX 3 rfl dX12_empty_87 rfl ?_
    refine ww_ialdc hX k_iald dX12_empty_88 ?_
    refine ww_icmp_lt (tgt := 131) hX dX12_empty_89 (by decide) ?_ ?_
    · exact t_X12_empty_131 B fu k_66 k_74 h_66 h_74 x0 x1 x2 x3  st
    · refine ww_aload_n hX 0 rfl dX12_empty_92 rfl ?_
      refine ww_bipush (v := 51) hX rfl dX12_empty_93 ?_
      refine ww_aload_n hX 0 rfl dX12_empty_95 rfl ?_
      refine ww_getR hX f_X12_301 (Or.inr ⟨_, rfl⟩) dX12_empty_96 ?_
      refine ww_bdR (fun o10 => ?_)
      refine ww_iload_n hX 3 rfl dX12_empty_99 rfl ?_
      refine ww_ialdc hX k_iald dX12_empty_100 ?_
      refine ww_imul hX dX12_empty_101 ?_
      refine ww_pc (b := 102) rfl ?_
      refine ww_iload_n hX 2 rfl dX12_empty_102 rfl ?_
      refine ww_iadd hX dX12_empty_103 ?_
      refine ww_aload_n hX 0 rfl dX12_empty_104 rfl ?_
      refine ww_getR hX f_X12_310 (Or.inr ⟨_, rfl⟩) dX12_empty_105 ?_
      refine ww_bdR (fun o11 => ?_)
      refine ww_iload_n hX 3 rfl dX12_empty_108 rfl ?_
      refine ww_ialdc hX k_iald dX12_empty_109 ?_
      refine ww_isub hX dX12_empty_110 ?_
      refine ww_bipush (v := 51) hX rfl dX12_empty_111 ?_
      refine ww_pc (b := 113) rfl ?_
      refine ww_aload_n hX 0 rfl dX12_empty_113 rfl ?_
      refine ww_getR hX f_X12_304 (Or.inr ⟨_, rfl⟩) dX12_empty_114 ?_
      refine ww_bdR (fun o12 => ?_)
      refine ww_iload_n hX 3 rfl dX12_empty_117 rfl ?_
      refine ww_ialdc hX k_iald dX12_empty_118 ?_
      refine ww_imul hX dX12_empty_119 ?_
      refine ww_iload_n hX 2 rfl dX12_empty_120 rfl ?_
      refine ww_iadd hX dX12_empty_121 ?_
      refine ww_aload_n hX 0 rfl dX12_empty_122 rfl ?_
      refine ww_pc (b := 123) rfl ?_
      refine ww_getR hX f_X12_307 (Or.inr ⟨_, rfl⟩) dX12_empty_123 ?_
      refine ww_bdR (fun o13 => ?_)
      refine ww_iload_n hX 3 rfl dX12_empty_126 rfl ?_
      refine ww_ialdc hX k_iald dX12_empty_127 ?_
      refine ww_callVV (As := [.int (((51 * (gI st o10 (ix x3))) + x2) - (gI st o11 (ix x3))), .int ((51 * (gI st o12 (ix x3))) + x2), .int (gI st o13 (ix x3))]) (rest := []) (o := x0) hX (Rk.of B.2.2.1 B.2.2.2.1 (by decide) (by decide)) g_X12_657 g_X12_657.in (fun _ => c_X12_edge (x_G X) (x_l X) fu x0 (((51 * (gI st o10 (ix x3))) + x2) - (gI st o11 (ix x3))) ((51 * (gI st o12 (ix x3))) + x2) (gI st o13 (ix x3)) st) rfl rfl (Nat.le_of_ble_eq_true rfl) dX12_empty_128 (fun s14 => ?_)
      exact t_X12_empty_131 B fu k_66 k_74 h_66 h_74 x0 x1 x2 x3  s14
def b_X12_empty_74 (fu : Nat) (k_66 : Nat → Int32 → Int32 → St → Option (Int32 × St)) : Nat → Nat → Int32 → Int32 → Int32 → St → Option (Int32 × St)
  | 0, _, _, _, _, _ => none
  | i + 1, x0, x1, x2, x3, st => b_X12_empty_74_b fu k_66 (b_X12_empty_74 fu k_66 i) x0 x1 x2 x3 st
theorem t_X12_empty_74 {X : CX} {res : Int32 × St} (B : BI X cX12_empty RX12 4 2 NN (some .int) res) (fu : Nat) (k_66 : Nat → Int32 → Int32 → St → Option (Int32 × St)) (h_66 : ∀ (x0 : Nat) (x1 : Int32) (x2 : Int32)  (st : St), WW X res NN 66 [(0, .ref (x_b X + x0)), (1, .int x1), (2, .int x2)] [] st (k_66 x0 x1 x2 st)) : ∀ (i : Nat) (x0 : Nat) (x1 : Int32) (x2 : Int32) (x3 : Int32)  (st : St), WW X res NN 74 [(0, .ref (x_b X + x0)), (1, .int x1), (2, .int x2), (3, .int x3)] [] st (b_X12_empty_74 fu k_66 i x0 x1 x2 x3 st) := by
  intro i
  induction i with
  | zero => intro x0 x1 x2 x3 st; exact ww_none
  | succ i ih => intro x0 x1 x2 x3 st; exact t_X12_empty_74_b B fu k_66 (b_X12_empty_74 fu k_66 i) h_66 ih x0 x1 x2 x3 st
def b_X12_empty_66_b (fu : Nat) (k_66 : Nat → Int32 → Int32 → St → Option (Int32 × St)) (x0 : Nat) (x1 : Int32) (x2 : Int32)  (st : St) : Option (Int32 × St) :=
  if 50 < x2 then (
  some ((-1), st))
  else (
  b_X12_empty_74 fu k_66 fu x0 x1 x2 0  st)
set_option maxHeartbeats 4000000 in
set_option maxRecDepth 100000 in
theorem t_X12_empty_66_b {X : CX} {res : Int32 × St} (B : BI X cX12_empty RX12 4 2 NN (some .int) res) (fu : Nat) (k_66 : Nat → Int32 → Int32 → St → Option (Int32 × St)) (h_66 : ∀ (x0 : Nat) (x1 : Int32) (x2 : Int32)  (st : St), WW X res NN 66 [(0, .ref (x_b X + x0)), (1, .int x1), (2, .int x2)] [] st (k_66 x0 x1 x2 st)) (x0 : Nat) (x1 : Int32) (x2 : Int32)  (st : St) : WW X res NN 66 [(0, .ref (x_b X + x0)), (1, .int x1), (2, .int x2)] [] st (b_X12_empty_66_b fu k_66 x0 x1 x2 st) := by
  have hX := B.1
  have hL := B.2.1
  unfold b_X12_empty_66_b
  refine ww_iload_n hX 2 rfl dX12_empty_66 rfl ?_
  refine ww_bipush (v := 50) hX rfl dX12_empty_67 ?_
  refine ww_icmp_gt (tgt := 207) hX dX12_empty_69 (by decide) ?_ ?_
  · refine ww_iconst (v := (-1)) hX rfl dX12_empty_207 ?_
    exact ww_iret B dX12_empty_208
  · refine ww_iconst (v := 0) hX rfl dX12_empty_72 ?_
    refine ww_istore_n (lv' := [(3, .int 0), (0, .ref (x_b X + x0)), (1, .int x1), (2, .int x2)]) hX hL dX12_empty_73 rfl (by decide) rfl ?_
    exact ww_sub [1, 2, 3, 0] rfl (t_X12_empty_74 B fu k_66 h_66 fu x0 x1 x2 0  st)
def b_X12_empty_66 (fu : Nat) : Nat → Nat → Int32 → Int32 → St → Option (Int32 × St)
  | 0, _, _, _, _ => none
  | i + 1, x0, x1, x2, st => b_X12_empty_66_b fu (b_X12_empty_66 fu i) x0 x1 x2 st
theorem t_X12_empty_66 {X : CX} {res : Int32 × St} (B : BI X cX12_empty RX12 4 2 NN (some .int) res) (fu : Nat) : ∀ (i : Nat) (x0 : Nat) (x1 : Int32) (x2 : Int32)  (st : St), WW X res NN 66 [(0, .ref (x_b X + x0)), (1, .int x1), (2, .int x2)] [] st (b_X12_empty_66 fu i x0 x1 x2 st) := by
  intro i
  induction i with
  | zero => intro x0 x1 x2 st; exact ww_none
  | succ i ih => intro x0 x1 x2 st; exact t_X12_empty_66_b B fu (b_X12_empty_66 fu i) ih x0 x1 x2 st
def b_X12_empty_31_b (fu : Nat) (k_31 : Nat → Int32 → Int32 → St → Option (Int32 × St)) (x0 : Nat) (x1 : Int32) (x2 : Int32)  (st : St) : Option (Int32 × St) :=
  if 11 ≤ x2 then (
  b_X12_empty_66 fu fu x0 x1 0  st)
  else (
  ck (¬ gR st x0 126 = 0) <|
  ck ((kd x0).1 = 12) <|
  bd (gR st x0 126) fun o15 =>
  ck (¬ gR st x0 118 = 0) <|
  ck ((kd x0).1 = 12) <|
  bd (gR st x0 118) fun o16 =>
  ck ((kd o16).1 = 100 ∧ inb x2 (kd o16).2) <|
  ck ((kd o15).1 = 100 ∧ inb x2 (kd o15).2) <|
  bd (sI st o15 (ix x2) (gI st o16 (ix x2))) fun s17 =>
  ck (¬ gR s17 x0 118 = 0) <|
  ck ((kd x0).1 = 12) <|
  bd (gR s17 x0 118) fun o18 =>
  ck ((kd o18).1 = 100 ∧ inb x2 (kd o18).2) <|
  bd (x1 + (gI s17 o18 (ix x2))) fun v19 =>
  bd (x2 + 1) fun v20 =>
  k_31 x0 v19 v20  s17)
set_option maxHeartbeats 4000000 in
set_option maxRecDepth 100000 in
theorem t_X12_empty_31_b {X : CX} {res : Int32 × St} (B : BI X cX12_empty RX12 4 2 NN (some .int) res) (fu : Nat) (k_31 : Nat → Int32 → Int32 → St → Option (Int32 × St)) (h_31 : ∀ (x0 : Nat) (x1 : Int32) (x2 : Int32)  (st : St), WW X res NN 31 [(0, .ref (x_b X + x0)), (1, .int x1), (2, .int x2)] [] st (k_31 x0 x1 x2 st)) (x0 : Nat) (x1 : Int32) (x2 : Int32)  (st : St) : WW X res NN 31 [(0, .ref (x_b X + x0)), (1, .int x1), (2, .int x2)] [] st (b_X12_empty_31_b fu k_31 x0 x1 x2 st) := by
  have hX := B.1
  have hL := B.2.1
  unfold b_X12_empty_31_b
  refine ww_iload_n hX 2 rfl dX12_empty_31 rfl ?_
  refine ww_bipush (v := 11) hX rfl dX12_empty_32 ?_
  refine ww_icmp_ge (tgt := 64) hX dX12_empty_34 (by decide) ?_ ?_
  · refine ww_iconst (v := 0) hX rfl dX12_empty_64 ?_
    refine ww_istore_n (lv' := [(2, .int 0), (0, .ref (x_b X + x0)), (1, .int x1)]) hX hL dX12_empty_65 rfl (by decide) rfl ?_
    exact ww_sub [1, 2, 0] rfl (t_X12_empty_66 B fu fu x0 x1 0  st)
  · refine ww_aload_n hX 0 rfl dX12_empty_37 rfl ?_
    refine ww_getR hX f_X12_334 (Or.inr ⟨_, rfl⟩) dX12_empty_38 ?_
    refine ww_bdR (fun o15 => ?_)
    refine ww_iload_n hX 2 rfl dX12_empty_41 rfl ?_
    refine ww_aload_n hX 0 rfl dX12_empty_42 rfl ?_
    refine ww_getR hX f_X12_313 (Or.inr ⟨_, rfl⟩) dX12_empty_43 ?_
    refine ww_bdR (fun o16 => ?_)
    refine ww_iload_n hX 2 rfl dX12_empty_46 rfl ?_
    refine ww_ialdc hX k_iald dX12_empty_47 ?_
    refine ww_pc (b := 48) rfl ?_
    refine ww_iastc hX k_iast dX12_empty_48 ?_
    refine ww_bds (fun s17 => ?_)
    refine ww_iload_n hX 1 rfl dX12_empty_49 rfl ?_
    refine ww_aload_n hX 0 rfl dX12_empty_50 rfl ?_
    refine ww_getR hX f_X12_313 (Or.inr ⟨_, rfl⟩) dX12_empty_51 ?_
    refine ww_bdR (fun o18 => ?_)
    refine ww_iload_n hX 2 rfl dX12_empty_54 rfl ?_
    refine ww_ialdc hX k_iald dX12_empty_55 ?_
    refine ww_iadd hX dX12_empty_56 ?_
    refine ww_bdi (fun v19 => ?_)
    refine ww_istore_n (lv' := [(1, .int v19), (0, .ref (x_b X + x0)), (2, .int x2)]) hX hL dX12_empty_57 rfl (by decide) rfl ?_
    refine ww_pc (b := 58) rfl ?_
    refine ww_iincb (lv' := fun v20 => [(2, .int v20), (1, .int v19), (0, .ref (x_b X + x0))]) (c := 1) hX hL 2 rfl dX12_empty_58 rfl (by decide) (fun _ => rfl) (fun v20 => ?_)
    refine ww_goto (tgt := 31) hX dX12_empty_61 (by decide) ?_
    exact ww_sub [2, 1, 0] rfl (h_31 x0 v19 v20  s17)
def b_X12_empty_31 (fu : Nat) : Nat → Nat → Int32 → Int32 → St → Option (Int32 × St)
  | 0, _, _, _, _ => none
  | i + 1, x0, x1, x2, st => b_X12_empty_31_b fu (b_X12_empty_31 fu i) x0 x1 x2 st
theorem t_X12_empty_31 {X : CX} {res : Int32 × St} (B : BI X cX12_empty RX12 4 2 NN (some .int) res) (fu : Nat) : ∀ (i : Nat) (x0 : Nat) (x1 : Int32) (x2 : Int32)  (st : St), WW X res NN 31 [(0, .ref (x_b X + x0)), (1, .int x1), (2, .int x2)] [] st (b_X12_empty_31 fu i x0 x1 x2 st) := by
  intro i
  induction i with
  | zero => intro x0 x1 x2 st; exact ww_none
  | succ i ih => intro x0 x1 x2 st; exact t_X12_empty_31_b B fu (b_X12_empty_31 fu i) ih x0 x1 x2 st
def b_X12_empty_7_b (fu : Nat) (k_7 : Nat → Int32 → St → Option (Int32 × St)) (x0 : Nat) (x1 : Int32)  (st : St) : Option (Int32 × St) :=
  if 612 ≤ x1 then (
  b_X12_empty_31 fu fu x0 0 0  st)
  else (
  ck (¬ gR st x0 119 = 0) <|
  ck ((kd x0).1 = 12) <|
  bd (gR st x0 119) fun o21 =>
  ck ((kd o21).1 = 100 ∧ inb x1 (kd o21).2) <|
  bd (sI st o21 (ix x1) ((-1))) fun s22 =>
  bd (x1 + 1) fun v23 =>
  k_7 x0 v23  s22)
set_option maxHeartbeats 4000000 in
set_option maxRecDepth 100000 in
theorem t_X12_empty_7_b {X : CX} {res : Int32 × St} (B : BI X cX12_empty RX12 4 2 NN (some .int) res) (fu : Nat) (k_7 : Nat → Int32 → St → Option (Int32 × St)) (h_7 : ∀ (x0 : Nat) (x1 : Int32)  (st : St), WW X res NN 7 [(0, .ref (x_b X + x0)), (1, .int x1)] [] st (k_7 x0 x1 st)) (x0 : Nat) (x1 : Int32)  (st : St) : WW X res NN 7 [(0, .ref (x_b X + x0)), (1, .int x1)] [] st (b_X12_empty_7_b fu k_7 x0 x1 st) := by
  have hX := B.1
  have hL := B.2.1
  unfold b_X12_empty_7_b
  refine ww_iload_n hX 1 rfl dX12_empty_7 rfl ?_
  refine ww_sipush (v := 612) hX rfl dX12_empty_8 ?_
  refine ww_icmp_ge (tgt := 27) hX dX12_empty_11 (by decide) ?_ ?_
  · refine ww_iconst (v := 0) hX rfl dX12_empty_27 ?_
    refine ww_istore_n (lv' := [(1, .int 0), (0, .ref (x_b X + x0))]) hX hL dX12_empty_28 rfl (by decide) rfl ?_
    refine ww_iconst (v := 0) hX rfl dX12_empty_29 ?_
    refine ww_istore_n (lv' := [(2, .int 0), (1, .int 0), (0, .ref (x_b X + x0))]) hX hL dX12_empty_30 rfl (by decide) rfl ?_
    exact ww_sub [2, 1, 0] rfl (t_X12_empty_31 B fu fu x0 0 0  st)
  · refine ww_aload_n hX 0 rfl dX12_empty_14 rfl ?_
    refine ww_getR hX f_X12_316 (Or.inr ⟨_, rfl⟩) dX12_empty_15 ?_
    refine ww_bdR (fun o21 => ?_)
    refine ww_iload_n hX 1 rfl dX12_empty_18 rfl ?_
    refine ww_iconst (v := (-1)) hX rfl dX12_empty_19 ?_
    refine ww_iastc hX k_iast dX12_empty_20 ?_
    refine ww_bds (fun s22 => ?_)
    refine ww_iincb (lv' := fun v23 => [(1, .int v23), (0, .ref (x_b X + x0))]) (c := 1) hX hL 1 rfl dX12_empty_21 rfl (by decide) (fun _ => rfl) (fun v23 => ?_)
    refine ww_goto (tgt := 7) hX dX12_empty_24 (by decide) ?_
    exact ww_sub [1, 0] rfl (h_7 x0 v23  s22)
def b_X12_empty_7 (fu : Nat) : Nat → Nat → Int32 → St → Option (Int32 × St)
  | 0, _, _, _ => none
  | i + 1, x0, x1, st => b_X12_empty_7_b fu (b_X12_empty_7 fu i) x0 x1 st
theorem t_X12_empty_7 {X : CX} {res : Int32 × St} (B : BI X cX12_empty RX12 4 2 NN (some .int) res) (fu : Nat) : ∀ (i : Nat) (x0 : Nat) (x1 : Int32)  (st : St), WW X res NN 7 [(0, .ref (x_b X + x0)), (1, .int x1)] [] st (b_X12_empty_7 fu i x0 x1 st) := by
  intro i
  induction i with
  | zero => intro x0 x1 st; exact ww_none
  | succ i ih => intro x0 x1 st; exact t_X12_empty_7_b B fu (b_X12_empty_7 fu i) ih x0 x1 st
def f_X12_empty (fu : Nat) (th : Nat) (st : St) : Option (Int32 × St) :=
  ck ((kd th).1 = 12) <|
  bd (sI st th 123 0) fun s1 =>
  b_X12_empty_7 fu fu th 0  s1
set_option maxHeartbeats 4000000 in
set_option maxRecDepth 100000 in
theorem t_X12_empty {X : CX} {res : Int32 × St} (B : BI X cX12_empty RX12 4 2 NN (some .int) res) (fu : Nat) (th : Nat) (st : St) : WW X res NN 0 [(0, .ref (x_b X + th))] [] st (f_X12_empty fu th st) := by
  have hX := B.1
  have hL := B.2.1
  unfold f_X12_empty
  refine ww_aload_n hX 0 rfl dX12_empty_0 rfl ?_
  refine ww_iconst (v := 0) hX rfl dX12_empty_1 ?_
  refine ww_putI hX f_X12_654 rfl dX12_empty_2 ?_
  refine ww_bds (fun s1 => ?_)
  refine ww_iconst (v := 0) hX rfl dX12_empty_5 ?_
  refine ww_istore_n (lv' := [(1, .int 0), (0, .ref (x_b X + th))]) hX hL dX12_empty_6 rfl (by decide) rfl ?_
  exact ww_sub [1, 0] rfl (t_X12_empty_7 B fu fu th 0  s1)
theorem c_X12_empty (G : GX) (l : Launch) (fu : Nat) (th : Nat) (st : St) : MI G NN l yX12_empty cX12_empty 4 (some .int) 2 [.ref (G.2.2.1 + th)] st (f_X12_empty fu th st) := mkI (by decide) (Nat.le_of_ble_eq_true rfl) (fun X res hl hG B => by subst hl; subst hG; exact t_X12_empty B fu th st)
