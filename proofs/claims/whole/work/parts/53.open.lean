theorem gi_L_9 : CIt RL 9 yX11_init cX11_init 1 0 := ⟨(Or.inl (tb_t (List.mem_of_getElem? (i := 25) (by decide +kernel)) rfl)), tb_t (List.mem_of_getElem? (i := 1) (by decide +kernel)) rfl, tb_t (List.mem_of_getElem? (i := 27) (by decide +kernel)) rfl, by decide +kernel, rfl, tb_t (List.mem_of_getElem? (i := 26) (by decide +kernel)) rfl⟩
set_option maxRecDepth 40000 in
theorem code_X12i : tables_1[1366]? = some (Cond.code yX12_init cX12_init 2 none) := rfl
theorem gi_L_12 : CIt RL 12 yX12_init cX12_init 2 0 := ⟨(Or.inl (tb_t (List.mem_of_getElem? (i := 1364) (by decide +kernel)) rfl)), tb_t (List.mem_of_getElem? (i := 14) (by decide +kernel)) rfl, tb_t (List.mem_of_getElem? (i := 1366) code_X12i) rfl, by decide +kernel, rfl, tb_t (List.mem_of_getElem? (i := 1365) (by decide +kernel)) rfl⟩
theorem nest_in : ∀ q ∈ nestL, Cond.methodLinkNest q.1 q.2.1 q.2.2.1 q.2.2.2 ∈ tables_1 := by decide +kernel
/-! the classes and array classes of the start; the law's walk from its entry, over the programs of the class and of the reference -/
theorem kn_ex {args : Array Value} {s : State} (hts : ∀ w ∈ tb, w.before args s = true) : ∀ c : Nat, ∃ p : ClassId × (Nat → Nat), ∀ q : vw_C, vwCl[c]? = some q → u_Kn s q.1 q.2.1 q.2.2 p.1 p.2 := by
  intro c
  match c with
  | 0 =>
    obtain ⟨cC, iS, h⟩ := u_known hts inT0 (hts (Cond.instantiable RX0 14) (tb_t (List.mem_of_getElem? (i := 93) (by decide +kernel)) rfl))
    exact ⟨(cC, iS), fun q hq => by cases hq; exact h⟩
  | 1 =>
    obtain ⟨cC, iS, h⟩ := u_known hts inT1 (hts (Cond.instantiable RX1 8) (tb_t (List.mem_of_getElem? (i := 176) (by decide +kernel)) rfl))
    exact ⟨(cC, iS), fun q hq => by cases hq; exact h⟩
  | 2 =>
    obtain ⟨cC, iS, h⟩ := u_known hts inT2 (hts (Cond.instantiable RX2 17) (tb_t (List.mem_of_getElem? (i := 375) (by decide +kernel)) rfl))
    exact ⟨(cC, iS), fun q hq => by cases hq; exact h⟩
  | 3 =>
    obtain ⟨cC, iS, h⟩ := u_known hts inT3 (hts (Cond.instantiable RX3 10) (tb_t (List.mem_of_getElem? (i := 246) (by decide +kernel)) rfl))
    exact ⟨(cC, iS), fun q hq => by cases hq; exact h⟩
  | 4 =>
    obtain ⟨cC, iS, h⟩ := u_known hts inT4 (hts (Cond.instantiable RX4 5) (tb_t (List.mem_of_getElem? (i := 330) (by decide +kernel)) rfl))
    exact ⟨(cC, iS), fun q hq => by cases hq; exact h⟩
  | 5 =>
    obtain ⟨cC, iS, h⟩ := u_known hts inT5 (hts (Cond.instantiable RX5 5) (tb_t (List.mem_of_getElem? (i := 439) (by decide +kernel)) rfl))
    exact ⟨(cC, iS), fun q hq => by cases hq; exact h⟩
  | 6 =>
    obtain ⟨cC, iS, h⟩ := u_known hts inT6 (hts (Cond.instantiable RX6 3) (tb_t (List.mem_of_getElem? (i := 358) (by decide +kernel)) rfl))
    exact ⟨(cC, iS), fun q hq => by cases hq; exact h⟩
  | 7 =>
    obtain ⟨cC, iS, h⟩ := u_known hts inT7 (hts (Cond.instantiable RX7 5) (tb_t (List.mem_of_getElem? (i := 86) (by decide +kernel)) rfl))
    exact ⟨(cC, iS), fun q hq => by cases hq; exact h⟩
  | 8 =>
    obtain ⟨cC, iS, h⟩ := u_known hts inT8 (hts (Cond.instantiable RX8 14) (tb_t (List.mem_of_getElem? (i := 184) (by decide +kernel)) rfl))
    exact ⟨(cC, iS), fun q hq => by cases hq; exact h⟩
  | 9 =>
    obtain ⟨cC, iS, h⟩ := u_known hts inT9 (hts (Cond.instantiable RX9 10) (tb_t (List.mem_of_getElem? (i := 32) (by decide +kernel)) rfl))
    exact ⟨(cC, iS), fun q hq => by cases hq; exact h⟩
  | 10 =>
    obtain ⟨cC, iS, h⟩ := u_known hts inT10 (hts (Cond.instantiable RX10 14) (tb_t (List.mem_of_getElem? (i := 462) (by decide +kernel)) rfl))
    exact ⟨(cC, iS), fun q hq => by cases hq; exact h⟩
  | 11 =>
    obtain ⟨cC, iS, h⟩ := u_known hts inT11 (hts (Cond.instantiable RX11 9) (tb_t (List.mem_of_getElem? (i := 24) (by decide +kernel)) rfl))
    exact ⟨(cC, iS), fun q hq => by cases hq; exact h⟩
  | 12 =>
    obtain ⟨cC, iS, h⟩ := u_known hts inT12 (hts (Cond.instantiable RX12 127) (tb_t (List.mem_of_getElem? (i := 1363) (by decide +kernel)) rfl))
    exact ⟨(cC, iS), fun q hq => by cases hq; exact h⟩
  | n + 13 => exact ⟨(0, fun _ => 0), fun q hq => by simp [vwCl] at hq⟩
theorem ak_p {args : Array Value} {s : State} {ty : FieldType} (hp : ∀ C, ty ≠ .object C) (h : (Cond.arrayClass ty).before args s = true) : ∃ cA : ClassId, ArrOfT s cA ty ∧ va_RA s cA ty := by
  obtain ⟨c, k, comp, h1, h2, h3⟩ := Cond.arrayClass_spec h
  refine ⟨c, fun n z => ⟨fun k h => (by cases h), k, h2, comp, h3⟩, ?_⟩
  cases ty with
  | object C => exact absurd rfl (hp C)
  | _ => exact h1
theorem ak_o {args : Array Value} {s : State} {C : String} (h : (Cond.arrayOver (.object C)).before args s = true) : ∃ cA : ClassId, ArrOfT s cA (.object C) ∧ va_RA s cA (.object C) := by
  obtain ⟨comp, c, k, h1, h2, h3, h4, h5⟩ := Cond.arrayOver_spec h
  exact ⟨c, fun n z => ⟨fun k h => (by cases h), k, h3, comp, h4⟩, k, comp, h3, h4, h1, h5⟩
theorem vk_ex {args : Array Value} {s : State} (hts : ∀ w ∈ tb, w.before args s = true) (ht1 : ∀ w ∈ tables_1, w.before args s = true) : ∃ (D : va_G) (tA : Nat → ClassId), va_K D vwCl (tysW tA) s := by
  obtain ⟨g, hg⟩ := Classical.axiomOfChoice (kn_ex hts)
  obtain ⟨a0, i0⟩ := ak_p (ty := .int) (fun _ h => by cases h) (hts _ ar_i)
  obtain ⟨a1, i1⟩ := ak_p (ty := .byte) (fun _ h => by cases h) (hts _ ar_b)
  obtain ⟨a2, i2⟩ := ak_p (ty := .boolean) (fun _ h => by cases h) (hts _ ar_z)
  obtain ⟨a3, i3⟩ := ak_p (ty := .long) (fun _ h => by cases h) (hts _ ar_l)
  obtain ⟨a4, i4⟩ := ak_o (C := "StageHouse$CueList") (ht1 _ (List.mem_of_getElem? (i := 182) (by decide +kernel)))
  obtain ⟨a5, i5⟩ := ak_o (C := "StageHouse$Axis") (ht1 _ (List.mem_of_getElem? (i := 92) (by decide +kernel)))
  refine ⟨(fun c => (g c).1, fun c => (g c).2), fun k => match k with | 0 => a0 | 1 => a1 | 2 => a2 | 3 => a3 | 4 => a4 | _ => a5, fun c q hq => hg c q hq, fun k q hk => ?_⟩
  match k with
  | 0 => cases hk; exact i0
  | 1 => cases hk; exact i1
  | 2 => cases hk; exact i2
  | 3 => cases hk; exact i3
  | 4 => cases hk; exact i4
  | 5 => cases hk; exact i5
  | n + 6 => simp [tysW] at hk
def st0 : St := (fun _ _ => 0, fun _ _ => 0, fun _ _ => 0)
/-- THE LAW AS A PROGRAM: both objects are made, then the loop over the script -/
def law_f (fu : Nat) (xs : Nat → Int32) (L : Nat) (st : St) : Option Int32 :=
  ck ((kd 1).1 = 11) <| bd (zr st 1) fun s1 => cv (f_X11_init fu 1 1 s1) fun s2 =>
  ck ((kd 153).1 = 12) <| bd (zr s2 153) fun s3 => cv (f_X12_init fu 153 153 s3) fun s4 =>
  b_L_law_18 fu xs L fu 0 1 153 0 s4
set_option maxHeartbeats 4000000 in
set_option maxRecDepth 100000 in
theorem law_go {X : CX} {sb : Nat} (fu : Nat) (xs : Nat → Int32) (L : Nat) (B : BQ X sb L xs) (st : St) : WW X (1 : Int32) 0 0 [(0, .ref sb)] [] st (law_f fu xs L st) := by
  have hX := B.1
  have hL := B.2.1
  have hs : (x_s X).heap.size = x_b X + 1 + x_n X := by rw [B.2.2.2.1]; exact B.2.2.2.2.2.2.2.2.1
  have h0 : ∀ m, x_n X ≤ m := fun m => by rw [B.2.2.2.1]; exact Nat.zero_le _
  unfold law_f
  refine ww_new hX (B.ra (by decide)) cls11 (by decide) (by decide +kernel) (tb_t (List.mem_of_getElem? (i := 23) (by decide +kernel)) rfl) (tb_t (List.mem_of_getElem? (i := 24) (by decide +kernel)) rfl) (tb_t (List.mem_of_getElem? (i := 1) (by decide +kernel)) rfl) dL_law_0 ?_
  refine ww_bds (fun s1 => ?_)
  refine ww_dup hX rfl dL_law_3 ?_
  refine ww_callC (k' := 151) (As := []) (rest := [.ref (x_b X + 1)]) (o := 1) hX B.2.2.2.2.2.2.2.2.2.2.2 hs (h0 _) (B.rc (by decide) (by decide) (by decide)) gi_L_9 (c_X11_init (x_G X) (x_l X) fu 1 1 s1) rfl rfl (Nat.le_of_ble_eq_true rfl) dL_law_4 (fun s2 => ?_)
  refine ww_astore_n (lv' := [(1, .ref (x_b X + 1)), (0, .ref sb)]) hX hL dL_law_7 rfl (by decide) rfl ?_
  refine ww_new hX (B.ra (by decide)) cls12 (by decide) (by decide +kernel) (tb_t (List.mem_of_getElem? (i := 1362) (by decide +kernel)) rfl) (tb_t (List.mem_of_getElem? (i := 1363) (by decide +kernel)) rfl) (tb_t (List.mem_of_getElem? (i := 14) (by decide +kernel)) rfl) dL_law_8 ?_
  refine ww_bds (fun s3 => ?_)
  refine ww_dup hX rfl dL_law_11 ?_
  refine ww_callC (k' := 108) (As := []) (rest := [.ref (x_b X + 153)]) (o := 153) hX B.2.2.2.2.2.2.2.2.2.2.2 hs (h0 _) (B.rc (by decide) (by decide) (by decide)) gi_L_12 (c_X12_init (x_G X) (x_l X) fu 153 153 s3) rfl rfl (Nat.le_of_ble_eq_true rfl) dL_law_12 (fun s4 => ?_)
  refine ww_astore_n (lv' := [(2, .ref (x_b X + 153)), (1, .ref (x_b X + 1)), (0, .ref sb)]) hX hL dL_law_15 rfl (by decide) rfl ?_
  refine ww_iconst (v := 0) hX rfl dL_law_16 ?_
  refine ww_istore_n (lv' := [(3, .int 0), (2, .ref (x_b X + 153)), (1, .ref (x_b X + 1)), (0, .ref sb)]) hX hL dL_law_17 rfl (by decide) rfl ?_
  exact ww_sub [3, 2, 1, 0] rfl (t_L_law_18 fu xs L B fu 0 1 153 0 s4)
/-- the whole claim out of the programs: if the law's program answers 1 (with some fuel) on every script, the law does -/
theorem whole_open (hp : ∀ (xs : Nat → Int32) (L : Nat), L ≤ 448 → ∃ fu, law_f fu xs L st0 = some 1) {p : Program} {e : Env} {s : State} {m : MethodId} {below : List Frame} {meth : Method} {c : Code} (l : Launch) {b L : Nat} {xs : Nat → Int32} (hL : L ≤ 448) (C0 : lw_At p s m meth c b L xs) : W p l e room_1 s m #[Value.ref b] below meth c s.heap [] 0 0 (lw_Z below #[Value.ref b] s) (entryFrame m ([Value.ref b] : List Value).toArray 4) := by
  obtain ⟨hx, hb, hr, hml, hown, hts, hX, hbl, hlo, hgv⟩ := C0
  obtain ⟨fu, hfu⟩ := hp xs L hL
  have htb : ∀ w ∈ tb, w.before #[Value.ref b] s = true := fun w h => hts w (List.mem_filter.mp h).1
  have ht1 : ∀ w ∈ tables_1, w.before #[Value.ref b] s = true := fun w h => hts w (List.mem_append_right _ h)
  have hf : ∀ w ∈ FN, w.before #[Value.ref b] s = true := flat_of_before _ hgv
  obtain ⟨z, hz⟩ : ∃ z, s.heap.size = z + 1 := ⟨s.heap.size - 1, by omega⟩
  obtain ⟨K, hSF⟩ := sf_of ht1 hf hz
  obtain ⟨D, tA, hK⟩ := vk_ex htb ht1
  have hNL : NL s := ⟨fun q hq => va_Nw.of rfl (ht1 _ (nest_in q hq)), va_AO.of (ht1 _ (List.mem_of_getElem? (i := 182) (by decide +kernel))), va_AO.of (ht1 _ (List.mem_of_getElem? (i := 92) (by decide +kernel)))⟩
  have hw := law_go (X := (p, l, e, room_1, s, m, #[Value.ref b], below, meth, c, (D, tA, z, 0, 4), lw_Z below #[Value.ref b] s, K)) fu xs L ⟨⟨hx, hb, hml, hown, htb, hK, hSF⟩, rfl, rfl, rfl, hr, hlo, rfl, rfl, hz, hX, hbl, hNL⟩ st0
  rw [lg_entry_eq]
  have h2 := hw hfu s.heap [] _ ⟨fun k q hk => by simp [wd] at hk, va_S.rf⟩ (lv_entry [Value.ref b] (n := 4) (Nat.le_of_ble_eq_true rfl))
  exact h2
