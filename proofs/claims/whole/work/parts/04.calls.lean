/-! A METHOD'S CONTRACT OUT OF ITS WALK, returns, calls -/
def rmd (mc ms d : Nat) : Room := { frames := d, cells := mc, slots := ms, locals := 100 * d }
/-- what a method needs: its own code, and the tables' words -/
abbrev wsM (y : MethodName) (cb : ByteArray) (nb : Nat) (ret : Option FieldType) : List Cond := Cond.code y cb nb ret :: tb
/-- the contract: from a world st the method comes to the answer r and the world u -/
def MI (G : GX) (n : Nat) (l : Launch) (y : MethodName) (cb : ByteArray) (nb : Nat) (ret : Option FieldType) (d : Nat) (As : List Value) (st : St) (m : Option (Int32 × St)) : Prop :=
  ∀ r u, m = some (r, u) → Met l y (wsM y cb nb ret) (rmd 0 0 d) (va_Pc As (WP G n st)) (va_Qi (fun q (v : St) => (q, v) = (r, u)) (WP G n) (ab G)) 0 0 (ab G)
def ML (G : GX) (n : Nat) (l : Launch) (y : MethodName) (cb : ByteArray) (nb : Nat) (ret : Option FieldType) (d : Nat) (As : List Value) (st : St) (m : Option (Int64 × St)) : Prop :=
  ∀ r u, m = some (r, u) → Met l y (wsM y cb nb ret) (rmd 0 0 d) (va_Pc As (WP G n st)) (va_Ql (fun q (v : St) => (q, v) = (r, u)) (WP G n) (ab G)) 0 0 (ab G)
def MV (G : GX) (n : Nat) (l : Launch) (y : MethodName) (cb : ByteArray) (nb : Nat) (ret : Option FieldType) (d : Nat) (As : List Value) (st : St) (m : Option St) : Prop :=
  ∀ u, m = some u → Met l y (wsM y cb nb ret) (rmd 0 0 d) (va_Pc As (WP G n st)) (va_Qv (fun (v : St) => v = u) (WP G n) (ab G)) 0 0 (ab G)
/-- the context of a method's walk, with what its end wants -/
def BI (X : CX) (cc : ByteArray) (own : String) (nL d n : Nat) (ret : Option FieldType) (res : Int32 × St) : Prop :=
  Cx X cc own ∧ x_L X = nL ∧ x_R X = rmd 0 0 d ∧ x_n X = n ∧ (x_t X).sig.returnType = ret ∧ (x_t X).locks = false ∧ x_Q X = MQ (x_w X) (va_Qi (fun q (v : St) => (q, v) = res) (WP (x_G X) n) (ab (x_G X))) (x_a X) (x_s X) 0 0 (ab (x_G X))
def BL (X : CX) (cc : ByteArray) (own : String) (nL d n : Nat) (ret : Option FieldType) (res : Int64 × St) : Prop :=
  Cx X cc own ∧ x_L X = nL ∧ x_R X = rmd 0 0 d ∧ x_n X = n ∧ (x_t X).sig.returnType = ret ∧ (x_t X).locks = false ∧ x_Q X = MQ (x_w X) (va_Ql (fun q (v : St) => (q, v) = res) (WP (x_G X) n) (ab (x_G X))) (x_a X) (x_s X) 0 0 (ab (x_G X))
def BV (X : CX) (cc : ByteArray) (own : String) (nL d n : Nat) (ret : Option FieldType) (res : St) : Prop :=
  Cx X cc own ∧ x_L X = nL ∧ x_R X = rmd 0 0 d ∧ x_n X = n ∧ (x_t X).sig.returnType = ret ∧ (x_t X).locks = false ∧ x_Q X = MQ (x_w X) (va_Qv (fun (v : St) => v = res) (WP (x_G X) n) (ab (x_G X))) (x_a X) (x_s X) 0 0 (ab (x_G X))
section E
variable {X : CX} {n pc nL d : Nat} {lv lv' : List (Nat × Value)} {rest stk : List Value} {st : St} {cc : ByteArray} {own : String} {ret : Option FieldType}
theorem WD.wp {H : Heap} {locs : List Loc} (hX : Cx X cc own) (hD : WD X n st H locs) {t : State} (ht : t.heap = H) (hW : (x_s X).WarmedH t.vm) : WP (x_G X) n st t :=
  ⟨by rw [ht]; exact hD.1, va_K.moved hW.alike hX.2.2.2.2.2.1, hX.2.2.2.2.2.2.go hW (fun a h1 h2 => by rw [ht]; exact hD.2.2.1 a h1 h2)⟩
theorem ww_iret {res : Int32 × St} {x : Int32} (B : BI X cc own nL d n (some .int) res) (hdg : decode cc pc = .ok (.ireturn, 1)) : WW X res n pc lv [.int x] st (some (x, st)) := fun he H locs ls hD hl => by
  obtain ⟨hX, -, -, hn, hr, hlo, hQ⟩ := B
  obtain rfl := Option.some.inj he
  show W _ _ _ _ _ _ _ _ _ _ _ _ _ _ (x_Q X) _
  rw [hQ, hn, Nat.sub_self, Nat.sub_self]
  exact W.iret hX.1 hX.2.1 hr (fun t ht hW => ⟨⟨x, st, rfl, rfl, hD.wp hX ht hW⟩, hD.2.F ht⟩) hD.2.2.2 hdg hlo
theorem ww_zret {res : Int32 × St} {x : Int32} (B : BI X cc own nL d n (some .boolean) res) (hdg : decode cc pc = .ok (.ireturn, 1)) : WW X res n pc lv [.int x] st (ck (isb x) (some (x, st))) := ww_ck fun hz he H locs ls hD hl => by
  obtain ⟨hX, -, -, hn, hr, hlo, hQ⟩ := B
  obtain rfl := Option.some.inj he
  show W _ _ _ _ _ _ _ _ _ _ _ _ _ _ (x_Q X) _
  rw [hQ, hn, Nat.sub_self, Nat.sub_self]
  exact W.zret hX.1 hX.2.1 hr (by rcases hz with rfl | rfl <;> rfl) (fun t ht hW => ⟨⟨x, st, rfl, rfl, hD.wp hX ht hW⟩, hD.2.F ht⟩) hD.2.2.2 hdg hlo
theorem ww_lret {res : Int64 × St} {x : Int64} (B : BL X cc own nL d n (some .long) res) (hdg : decode cc pc = .ok (.lreturn, 1)) : WW X res n pc lv [.long x] st (some (x, st)) := fun he H locs ls hD hl => by
  obtain ⟨hX, -, -, hn, hr, hlo, hQ⟩ := B
  obtain rfl := Option.some.inj he
  show W _ _ _ _ _ _ _ _ _ _ _ _ _ _ (x_Q X) _
  rw [hQ, hn, Nat.sub_self, Nat.sub_self]
  exact W.lret hX.1 hX.2.1 hr (fun t ht hW => ⟨⟨x, st, rfl, rfl, hD.wp hX ht hW⟩, hD.2.F ht⟩) hD.2.2.2 hdg hlo
theorem ww_vret {res : St} (B : BV X cc own nL d n none res) (hdg : decode cc pc = .ok (.return_, 1)) : WW X res n pc lv [] st (some st) := fun he H locs ls hD hl => by
  obtain ⟨hX, -, -, hn, hr, hlo, hQ⟩ := B
  obtain rfl := Option.some.inj he
  show W _ _ _ _ _ _ _ _ _ _ _ _ _ _ (x_Q X) _
  rw [hQ, hn, Nat.sub_self, Nat.sub_self]
  exact W.vret hX.1 hX.2.1 hr (fun t ht hW => ⟨⟨st, rfl, rfl, hD.wp hX ht hW⟩, hD.2.F ht⟩) hD.2.2.2 hdg hlo
theorem mkI {G : GX} {l : Launch} {y : MethodName} {cb : ByteArray} {nb : Nat} {As : List Value} {e : Option (Int32 × St)} (hy : plainName y.cls = true) (hl : (lg_sl As).length ≤ nb)
    (body : ∀ (X : CX) (res : Int32 × St), x_l X = l → x_G X = G → BI X cb y.cls nb d n ret res → WW X res n 0 (lv_args 0 As) [] st e) : MI G n l y cb nb ret d As st e := by
  intro r u he
  refine Met.ofW (cc := cb) (maxL := nb) (ret := ret) hy rfl ?_
  intro p en s m args below meth c s₁ B hml hv
  obtain ⟨rfl, hP, hK, hF⟩ := hv
  have hw := body (p, l, en, rmd 0 0 d, s, m, As.toArray, below, meth, c, (G.1, G.2.1, G.2.2.1, n, nb), MQ below (va_Qi (fun q (v : St) => (q, v) = (r, u)) (WP G n) (ab G)) As.toArray s 0 0 (ab G), G.2.2.2) (r, u) rfl rfl
    ⟨⟨B.exec, B.bytes, hml, findClass_of_methodNamed B.named, fun w h => atoms_spec (ws := wsM y cb nb ret) B.pre w (List.mem_cons_of_mem _ h), hK, hF⟩, rfl, rfl, rfl, B.returns, B.notSynchronized, rfl⟩
  rw [lg_entry_eq]
  have h2 := hw he s.heap [] _ ⟨hP, va_S.rf⟩ (lv_entry As (n := nb) hl)
  rw [show n - x_n _ = 0 from Nat.sub_self n, show sls n - sls (x_n _) = 0 from Nat.sub_self (sls n)] at h2
  exact h2
theorem mkL {G : GX} {l : Launch} {y : MethodName} {cb : ByteArray} {nb : Nat} {As : List Value} {e : Option (Int64 × St)} (hy : plainName y.cls = true) (hl : (lg_sl As).length ≤ nb)
    (body : ∀ (X : CX) (res : Int64 × St), x_l X = l → x_G X = G → BL X cb y.cls nb d n ret res → WW X res n 0 (lv_args 0 As) [] st e) : ML G n l y cb nb ret d As st e := by
  intro r u he
  refine Met.ofW (cc := cb) (maxL := nb) (ret := ret) hy rfl ?_
  intro p en s m args below meth c s₁ B hml hv
  obtain ⟨rfl, hP, hK, hF⟩ := hv
  have hw := body (p, l, en, rmd 0 0 d, s, m, As.toArray, below, meth, c, (G.1, G.2.1, G.2.2.1, n, nb), MQ below (va_Ql (fun q (v : St) => (q, v) = (r, u)) (WP G n) (ab G)) As.toArray s 0 0 (ab G), G.2.2.2) (r, u) rfl rfl
    ⟨⟨B.exec, B.bytes, hml, findClass_of_methodNamed B.named, fun w h => atoms_spec (ws := wsM y cb nb ret) B.pre w (List.mem_cons_of_mem _ h), hK, hF⟩, rfl, rfl, rfl, B.returns, B.notSynchronized, rfl⟩
  rw [lg_entry_eq]
  have h2 := hw he s.heap [] _ ⟨hP, va_S.rf⟩ (lv_entry As (n := nb) hl)
  rw [show n - x_n _ = 0 from Nat.sub_self n, show sls n - sls (x_n _) = 0 from Nat.sub_self (sls n)] at h2
  exact h2
theorem mkV {G : GX} {l : Launch} {y : MethodName} {cb : ByteArray} {nb : Nat} {As : List Value} {e : Option St} (hy : plainName y.cls = true) (hl : (lg_sl As).length ≤ nb)
    (body : ∀ (X : CX) (res : St), x_l X = l → x_G X = G → BV X cb y.cls nb d n ret res → WW X res n 0 (lv_args 0 As) [] st e) : MV G n l y cb nb ret d As st e := by
  intro u he
  refine Met.ofW (cc := cb) (maxL := nb) (ret := ret) hy rfl ?_
  intro p en s m args below meth c s₁ B hml hv
  obtain ⟨rfl, hP, hK, hF⟩ := hv
  have hw := body (p, l, en, rmd 0 0 d, s, m, As.toArray, below, meth, c, (G.1, G.2.1, G.2.2.1, n, nb), MQ below (va_Qv (fun (v : St) => v = u) (WP G n) (ab G)) As.toArray s 0 0 (ab G), G.2.2.2) u rfl rfl
    ⟨⟨B.exec, B.bytes, hml, findClass_of_methodNamed B.named, fun w h => atoms_spec (ws := wsM y cb nb ret) B.pre w (List.mem_cons_of_mem _ h), hK, hF⟩, rfl, rfl, rfl, B.returns, B.notSynchronized, rfl⟩
  rw [lg_entry_eq]
  have h2 := hw he s.heap [] _ ⟨hP, va_S.rf⟩ (lv_entry As (n := nb) hl)
  rw [show n - x_n _ = 0 from Nat.sub_self n, show sls n - sls (x_n _) = 0 from Nat.sub_self (sls n)] at h2
  exact h2
end E
/-- a call's words: static, virtual -/
def CB (own : String) (idx : Nat) (y : MethodName) (cb : ByteArray) (nb : Nat) (ret : Option FieldType) (np : Nat) : Prop :=
  Cond.methodLink own idx y ∈ tb ∧ Cond.initialized y.cls ∈ tb ∧ Cond.code y cb nb ret ∈ tb ∧ y.cls ≠ "java/lang/invoke/MethodHandle" ∧ y.cls ≠ "java/lang/invoke/VarHandle" ∧ (parseMethodDescriptor y.desc).map (fun d => d.parameters.length) = some np
def CSt (own : String) (idx : Nat) (y : MethodName) (cb : ByteArray) (nb : Nat) (ret : Option FieldType) (np : Nat) : Prop := CB own idx y cb nb ret np ∧ Cond.static y ∈ tb
def CVt (own : String) (idx : Nat) (y : MethodName) (cb : ByteArray) (nb : Nat) (ret : Option FieldType) (np t : Nat) : Prop := CB own idx y cb nb ret np ∧ Cond.instanceMethod y ∈ tb ∧ Cond.selects y.cls y y ∈ tb ∧ t < 99 ∧ ∃ T N, vwCl[t]? = some (y.cls, T, N)
theorem CB.of {own : String} {idx : Nat} {y : MethodName} {cb : ByteArray} {nb : Nat} {ret : Option FieldType} {np : Nat} (i1 i2 i3 : Nat) (h1 : tables_1[i1]? = some (Cond.methodLink own idx y)) (h2 : tables_1[i2]? = some (Cond.initialized y.cls)) (h3 : tables_1[i3]? = some (Cond.code y cb nb ret)) (h4 : y.cls ≠ "java/lang/invoke/MethodHandle" ∧ y.cls ≠ "java/lang/invoke/VarHandle" ∧ (parseMethodDescriptor y.desc).map (fun d => d.parameters.length) = some np) : CB own idx y cb nb ret np :=
  ⟨tb_t (List.mem_of_getElem? h1) rfl, tb_t (List.mem_of_getElem? h2) rfl, tb_t (List.mem_of_getElem? h3) rfl, h4.1, h4.2.1, h4.2.2⟩
theorem CSt.of {own : String} {idx : Nat} {y : MethodName} {cb : ByteArray} {nb : Nat} {ret : Option FieldType} {np : Nat} (i : Nat) (h : tables_1[i]? = some (Cond.static y)) (hb : CB own idx y cb nb ret np) : CSt own idx y cb nb ret np := ⟨hb, tb_t (List.mem_of_getElem? h) rfl⟩
theorem CVt.of {own : String} {idx : Nat} {y : MethodName} {cb : ByteArray} {nb : Nat} {ret : Option FieldType} {np t : Nat} {T : u_T} {N : Nat} (i1 i2 : Nat) (h1 : tables_1[i1]? = some (Cond.instanceMethod y)) (h2 : tables_1[i2]? = some (Cond.selects y.cls y y)) (ht : t < 99) (hc : vwCl[t]? = some (y.cls, T, N)) (hb : CB own idx y cb nb ret np) : CVt own idx y cb nb ret np t := ⟨hb, tb_t (List.mem_of_getElem? h1) rfl, tb_t (List.mem_of_getElem? h2) rfl, ht, T, N, hc⟩
theorem CVt.ofp {own : String} {idx : Nat} {y : MethodName} {cb : ByteArray} {nb : Nat} {ret : Option FieldType} {np t : Nat} {T : u_T} {N : Nat} (i1 i2 : Nat) (h1 : tables_1[i1]? = some (Cond.instanceMethod y)) (h2 : (k2_sels lw_privs)[i2]? = some (Cond.selects y.cls y y)) (ht : t < 99) (hc : vwCl[t]? = some (y.cls, T, N)) (hb : CB own idx y cb nb ret np) : CVt own idx y cb nb ret np t := ⟨hb, tb_t (List.mem_of_getElem? h1) rfl, tb_s (List.mem_of_getElem? h2) rfl, ht, T, N, hc⟩
theorem wp_blind {G : GX} {n : Nat} {st : St} {As : List Value} : FrameBlind (va_Pc As (WP G n st)) := fun a U g mk q => ⟨q.1, q.2.1, va_K.moved (u := U) (U := U.calling g mk a) (Vm.Alike.refl U.vm) q.2.2.1, SF.calling g mk a q.2.2.2⟩
/-- room for a callee of depth d' and nb locals -/
def Rk (X : CX) (n d' nb : Nat) : Prop := d' + 1 ≤ (x_R X).frames ∧ 8 + (nb + 11) + 100 * d' ≤ (x_R X).locals ∧ (n - x_n X) ≤ (x_R X).cells ∧ (sls n - sls (x_n X)) ≤ (x_R X).slots
theorem Rk.of {X : CX} {n d d' nb : Nat} (hR : x_R X = rmd 0 0 d) (hn : x_n X = n) (hd : d' + 1 ≤ d) (hb : nb ≤ 80) : Rk X n d' nb := by
  refine ⟨?_, ?_, ?_, ?_⟩
  · rw [hR]; exact hd
  · rw [hR]; show 8 + (nb + 11) + 100 * d' ≤ 100 * d; omega
  · rw [hn, Nat.sub_self]; exact Nat.zero_le _
  · rw [hn, Nat.sub_self]; exact Nat.zero_le _
section C
variable {ρ : Type} {X : CX} {res : ρ} {n pc : Nat} {lv lv' : List (Nat × Value)} {rest stk : List Value} {st : St} {cc : ByteArray} {own : String}
variable {idx d' nb np t o : Nat} {y : MethodName} {cb : ByteArray} {ret : Option FieldType} {As : List Value}
theorem cb_of {s : State} {args : Array Value} (hts : ∀ w ∈ tb, w.before args s = true) (hc : CB own idx y cb nb ret np) (R : Room) (h1 : d' + 1 ≤ R.frames) (h2 : 8 + (nb + 11) + 100 * d' ≤ R.locals) : CallB R s args own idx y cb nb ret (wsM y cb nb ret) (rmd 0 0 d') 0 0 np :=
  callB_of np hts (fun w hw => by
    rcases List.mem_cons.mp hw with h | h
    · subst h; exact ⟨hc.2.2.1, tb_good hc.2.2.1⟩
    · exact ⟨h, tb_good h⟩) rfl rfl rfl (hts _ hc.2.1) (hts _ hc.1) ⟨hc.2.2.2.1, hc.2.2.2.2.1, hc.2.2.2.2.2⟩ ⟨h1, h2⟩
theorem recv {H : Heap} {locs : List Loc} (hX : Cx X cc own) (hD : WD X n st H locs) (hk : (kd o).1 = t) (ho : 1 ≤ o ∧ o ≤ n) (ht : t < 99) {C : String} {T : u_T} {N : Nat} (hc : vwCl[t]? = some (C, T, N)) : ∃ cell : Cell, H[x_b X + o]? = some cell ∧ cell.vm.isStatics = false ∧ (x_s X).vm.findClass C = some cell.cls := by
  have he1 := wd_at (b := x_b X) (tA := x_A X) (n := n) (st := st) ho.1 ho.2
  rw [cel_o hk (by omega)] at he1
  exact va_recv hX.2.2.2.2.2.1 hD.1 hc he1
theorem wp_pre {H : Heap} {locs : List Loc} (hX : Cx X cc own) (hD : WD X n st H locs) (As : List Value) : ∀ U : State, U.heap = H → (x_s X).WarmedH U.vm → va_Pc As (WP (x_G X) n st) As.toArray U := fun U hU hW => ⟨rfl, hD.wp hX hU hW⟩
theorem ww_callSI {m : Option (Int32 × St)} {K : Int32 → St → Option ρ} (hX : Cx X cc own) (hr : Rk X n d' nb) (hc : CSt own idx y cb nb ret np) (hM : MI (x_G X) n (x_l X) y cb nb ret d' As st m) (hn : As.length = np) (hs : stk = As.reverse ++ rest) (hw : (rest.map fun v => v.category).sum ≤ 8) (hdg : decode cc pc = .ok (.invokestatic idx, 3)) (kk : ∀ r u, WW X res n (pc + 3) lv (.int r :: rest) u (K r u)) : WW X res n pc lv stk st (ca m K) := fun he H locs ls hD hl => by
  subst hs
  cases hm : m with
  | none => rw [hm] at he; cases he
  | some q =>
    obtain ⟨r, u⟩ := q
    rw [hm] at he
    refine va_calli (va_runS (As := As) (rest := rest) ⟨hX.1, hX.2.1, hX.2.2.1, hX.2.2.2.1, hX.2.2.2.2.1⟩ (hM r u hm) ⟨cb_of hX.2.2.2.2.1 hc.1 _ hr.1 hr.2.1, hX.2.2.2.2.1 _ hc.2⟩ ⟨wp_blind, wp_pre hX hD As⟩ rfl hn hl.1 rfl (lv_room hw) hdg ⟨hr.2.2.1, hr.2.2.2⟩) hD.2 (fun q _ h => h) (fun q h => h) (fun r1 u1 t H1 locs1 ht hvm hp hB hz hk hS => ?_)
    cases hp
    exact kk r u he H1 locs1 ls ⟨by rw [← ht]; exact hB.1, hS⟩ hl
theorem ww_callSL {m : Option (Int64 × St)} {K : Int64 → St → Option ρ} (hX : Cx X cc own) (hr : Rk X n d' nb) (hc : CSt own idx y cb nb ret np) (hM : ML (x_G X) n (x_l X) y cb nb ret d' As st m) (hn : As.length = np) (hs : stk = As.reverse ++ rest) (hw : (rest.map fun v => v.category).sum ≤ 8) (hdg : decode cc pc = .ok (.invokestatic idx, 3)) (kk : ∀ r u, WW X res n (pc + 3) lv (.long r :: rest) u (K r u)) : WW X res n pc lv stk st (ca m K) := fun he H locs ls hD hl => by
  subst hs
  cases hm : m with
  | none => rw [hm] at he; cases he
  | some q =>
    obtain ⟨r, u⟩ := q
    rw [hm] at he
    refine va_calll (va_runS (As := As) (rest := rest) ⟨hX.1, hX.2.1, hX.2.2.1, hX.2.2.2.1, hX.2.2.2.2.1⟩ (hM r u hm) ⟨cb_of hX.2.2.2.2.1 hc.1 _ hr.1 hr.2.1, hX.2.2.2.2.1 _ hc.2⟩ ⟨wp_blind, wp_pre hX hD As⟩ rfl hn hl.1 rfl (lv_room hw) hdg ⟨hr.2.2.1, hr.2.2.2⟩) hD.2 (fun q _ h => h) (fun q h => h) (fun r1 u1 t H1 locs1 ht hvm hp hB hz hk hS => ?_)
    cases hp
    exact kk r u he H1 locs1 ls ⟨by rw [← ht]; exact hB.1, hS⟩ hl
theorem ww_callSV {m : Option St} {K : St → Option ρ} (hX : Cx X cc own) (hr : Rk X n d' nb) (hc : CSt own idx y cb nb ret np) (hM : MV (x_G X) n (x_l X) y cb nb ret d' As st m) (hn : As.length = np) (hs : stk = As.reverse ++ rest) (hw : (rest.map fun v => v.category).sum ≤ 8) (hdg : decode cc pc = .ok (.invokestatic idx, 3)) (kk : ∀ u, WW X res n (pc + 3) lv rest u (K u)) : WW X res n pc lv stk st (cv m K) := fun he H locs ls hD hl => by
  subst hs
  cases hm : m with
  | none => rw [hm] at he; cases he
  | some u =>
    rw [hm] at he
    refine va_callv (va_runS (As := As) (rest := rest) ⟨hX.1, hX.2.1, hX.2.2.1, hX.2.2.2.1, hX.2.2.2.2.1⟩ (hM u hm) ⟨cb_of hX.2.2.2.2.1 hc.1 _ hr.1 hr.2.1, hX.2.2.2.2.1 _ hc.2⟩ ⟨wp_blind, wp_pre hX hD As⟩ rfl hn hl.1 rfl (lv_room hw) hdg ⟨hr.2.2.1, hr.2.2.2⟩) hD.2 (fun q _ h => h) (fun q h => h) (fun u1 t H1 locs1 ht hvm hp hB hz hk hS => ?_)
    cases hp
    exact kk u he H1 locs1 ls ⟨by rw [← ht]; exact hB.1, hS⟩ hl
theorem ww_callVI {m : Option (Int32 × St)} {K : Int32 → St → Option ρ} (hX : Cx X cc own) (hr : Rk X n d' nb) (hc : CVt own idx y cb nb ret np t) (ho : (kd o).1 = t → 1 ≤ o ∧ o ≤ n) (hM : (kd o).1 = t → MI (x_G X) n (x_l X) y cb nb ret d' (.ref (x_b X + o) :: As) st m) (hn : As.length = np) (hs : stk = As.reverse ++ .ref (x_b X + o) :: rest) (hw : (rest.map fun v => v.category).sum ≤ 8) (hdg : decode cc pc = .ok (.invokevirtual idx, 3)) (kk : ∀ r u, WW X res n (pc + 3) lv (.int r :: rest) u (K r u)) : WW X res n pc lv stk st (ck ((kd o).1 = t) (ca m K)) := ww_ck fun hk0 he H locs ls hD hl => by
  subst hs
  cases hm : m with
  | none => rw [hm] at he; cases he
  | some q =>
    obtain ⟨r, u⟩ := q
    rw [hm] at he
    obtain ⟨hcb, hi, hse, ht9, T, N, hcl⟩ := hc
    refine va_calli (va_runV (As := As) (rest := rest) (C := y.cls) ⟨hX.1, hX.2.1, hX.2.2.1, hX.2.2.2.1, hX.2.2.2.2.1⟩ (hM hk0 r u hm) ⟨cb_of hX.2.2.2.2.1 hcb _ hr.1 hr.2.1, hX.2.2.2.2.1 _ hi, hX.2.2.2.2.1 _ hse⟩ ⟨wp_blind, recv hX hD hk0 (ho hk0) ht9 hcl, wp_pre hX hD _⟩ rfl hn hl.1 rfl (lv_room hw) hdg ⟨hr.2.2.1, hr.2.2.2⟩) hD.2 (fun q _ h => h) (fun q h => h) (fun r1 u1 t H1 locs1 ht hvm hp hB hz hk hS => ?_)
    cases hp
    exact kk r u he H1 locs1 ls ⟨by rw [← ht]; exact hB.1, hS⟩ hl
theorem ww_callVL {m : Option (Int64 × St)} {K : Int64 → St → Option ρ} (hX : Cx X cc own) (hr : Rk X n d' nb) (hc : CVt own idx y cb nb ret np t) (ho : (kd o).1 = t → 1 ≤ o ∧ o ≤ n) (hM : (kd o).1 = t → ML (x_G X) n (x_l X) y cb nb ret d' (.ref (x_b X + o) :: As) st m) (hn : As.length = np) (hs : stk = As.reverse ++ .ref (x_b X + o) :: rest) (hw : (rest.map fun v => v.category).sum ≤ 8) (hdg : decode cc pc = .ok (.invokevirtual idx, 3)) (kk : ∀ r u, WW X res n (pc + 3) lv (.long r :: rest) u (K r u)) : WW X res n pc lv stk st (ck ((kd o).1 = t) (ca m K)) := ww_ck fun hk0 he H locs ls hD hl => by
  subst hs
  cases hm : m with
  | none => rw [hm] at he; cases he
  | some q =>
    obtain ⟨r, u⟩ := q
    rw [hm] at he
    obtain ⟨hcb, hi, hse, ht9, T, N, hcl⟩ := hc
    refine va_calll (va_runV (As := As) (rest := rest) (C := y.cls) ⟨hX.1, hX.2.1, hX.2.2.1, hX.2.2.2.1, hX.2.2.2.2.1⟩ (hM hk0 r u hm) ⟨cb_of hX.2.2.2.2.1 hcb _ hr.1 hr.2.1, hX.2.2.2.2.1 _ hi, hX.2.2.2.2.1 _ hse⟩ ⟨wp_blind, recv hX hD hk0 (ho hk0) ht9 hcl, wp_pre hX hD _⟩ rfl hn hl.1 rfl (lv_room hw) hdg ⟨hr.2.2.1, hr.2.2.2⟩) hD.2 (fun q _ h => h) (fun q h => h) (fun r1 u1 t H1 locs1 ht hvm hp hB hz hk hS => ?_)
    cases hp
    exact kk r u he H1 locs1 ls ⟨by rw [← ht]; exact hB.1, hS⟩ hl
theorem ww_callVV {m : Option St} {K : St → Option ρ} (hX : Cx X cc own) (hr : Rk X n d' nb) (hc : CVt own idx y cb nb ret np t) (ho : (kd o).1 = t → 1 ≤ o ∧ o ≤ n) (hM : (kd o).1 = t → MV (x_G X) n (x_l X) y cb nb ret d' (.ref (x_b X + o) :: As) st m) (hn : As.length = np) (hs : stk = As.reverse ++ .ref (x_b X + o) :: rest) (hw : (rest.map fun v => v.category).sum ≤ 8) (hdg : decode cc pc = .ok (.invokevirtual idx, 3)) (kk : ∀ u, WW X res n (pc + 3) lv rest u (K u)) : WW X res n pc lv stk st (ck ((kd o).1 = t) (cv m K)) := ww_ck fun hk0 he H locs ls hD hl => by
  subst hs
  cases hm : m with
  | none => rw [hm] at he; cases he
  | some u =>
    rw [hm] at he
    obtain ⟨hcb, hi, hse, ht9, T, N, hcl⟩ := hc
    refine va_callv (va_runV (As := As) (rest := rest) (C := y.cls) ⟨hX.1, hX.2.1, hX.2.2.1, hX.2.2.2.1, hX.2.2.2.2.1⟩ (hM hk0 u hm) ⟨cb_of hX.2.2.2.2.1 hcb _ hr.1 hr.2.1, hX.2.2.2.2.1 _ hi, hX.2.2.2.2.1 _ hse⟩ ⟨wp_blind, recv hX hD hk0 (ho hk0) ht9 hcl, wp_pre hX hD _⟩ rfl hn hl.1 rfl (lv_room hw) hdg ⟨hr.2.2.1, hr.2.2.2⟩) hD.2 (fun q _ h => h) (fun q h => h) (fun u1 t H1 locs1 ht hvm hp hB hz hk hS => ?_)
    cases hp
    exact kk u he H1 locs1 ls ⟨by rw [← ht]; exact hB.1, hS⟩ hl
end C
