/-! further rows -/
theorem CVt.in {own : String} {idx : Nat} {y : MethodName} {cb : ByteArray} {nb : Nat} {ret : Option FieldType} {np t o : Nat} (h : CVt own idx y cb nb ret np t) : (kd o).1 = t → 1 ≤ o ∧ o ≤ NN := by
  obtain ⟨-, -, -, ht, -⟩ := h
  exact fun q => kd_in q (by omega)
section M
variable {ρ : Type} {X : CX} {res : ρ} {n pc : Nat} {lv : List (Nat × Value)} {rest stk : List Value} {st : St} {e K : Option ρ} {cc : ByteArray} {own : String}
theorem ww_iincb (hX : Cx X cc own) {nL : Nat} (hL : x_L X = nL) {i : Nat} {z : Int} {x c : Int32} {K : Int32 → Option ρ} {lv' : Int32 → List (Nat × Value)} (q : Nat) (hk : lv[q]? = some (i, .int x)) (hdg : decode cc pc = .ok (.iinc i z, 3)) (hc : Int32.ofInt z = c) (hn : i < nL) (hl : ∀ v : Int32, (i, Value.int v) :: lv.filter (fun q => !(q.1 == i) && !(q.1 + 1 == i && q.2.category == 2)) = lv' v) (k : ∀ v : Int32, WW X res n (pc + 3) (lv' v) stk st (K v)) : WW X res n pc lv stk st (bd (x + c) K) := by
  subst hc
  exact ww_iinc hX hL q hk hdg rfl hn (hl _) (k _)
theorem ww_bdR {b x : Nat} {K : Nat → Option ρ} (k : ∀ y : Nat, WW X res n pc lv (.ref (b + y) :: rest) st (K y)) : WW X res n pc lv (.ref (b + x) :: rest) st (bd x K) := k x
theorem ww_pc {a b : Nat} (h : a = b) (k : WW X res n b lv stk st e) : WW X res n a lv stk st e := h ▸ k
theorem ww_lsw (hX : Cx X cc own) {dflt : Int} {ps : Array (Int × Int)} {len : Nat} {x : Int32} {off : Int} {tgt : Nat} (hdg : decode cc pc = .ok (.lookupswitch dflt ps, len)) (hp : (ps.toList.zip (ps.toList.drop 1)).all (fun (a, next) => a.1 < next.1) = true) (ho : Op.lookupswitch.offset ps.toList dflt x.toInt = off) (ht : (pc : Int) + off = (tgt : Int)) (k : WW X res n tgt lv stk st e) : WW X res n pc lv (.int x :: stk) st e := ww_lift (fun _ _ _ _ _ _ w => lv_lookup hX.1 hX.2.1 hdg hp ho ht w) k
theorem ww_ldcS {q idx i : Nat} {tx : String} (hX : Cx X cc own) (hq : sT[q]? = some (own, idx, tx, i)) (hdg : decode cc pc = .ok (.ldc idx, 2)) (k : WW X res n (pc + 2) lv (.ref ((x_K X).1 i) :: stk) st e) : WW X res n pc lv stk st e :=
  ww_lift (fun _ _ _ _ _ _ w => va_ldcS hX.1 hX.2.1 hX.2.2.2.1 (hX.2.2.2.2.2.2.2.2.1 _ (List.mem_of_getElem? hq)) hdg w) k
end M
section EF
variable {X : CX} {n pc nL d : Nat} {lv lv' : List (Nat × Value)} {rest stk : List Value} {st : St} {cc : ByteArray} {own : String} {ret : Option FieldType}
theorem mkIF {G : GX} {l : Launch} {y : MethodName} {cb : ByteArray} {nb : Nat} {As : List Value} {e : Option (Int32 × St)} (hy : plainFor y = true) (hl : (lg_sl As).length ≤ nb)
    (body : ∀ (X : CX) (res : Int32 × St), x_l X = l → x_G X = G → BI X cb y.cls nb d n ret res → WW X res n 0 (lv_args 0 As) [] st e) : MI G n l y cb nb ret d As st e := by
  intro r u he
  refine va_MetF (cc := cb) (maxL := nb) (ret := ret) hy rfl ?_
  intro p en s m args below meth c s₁ B hml hv
  obtain ⟨rfl, hP, hK, hF⟩ := hv
  have hw := body (p, l, en, rmd 0 0 d, s, m, As.toArray, below, meth, c, (G.1, G.2.1, G.2.2.1, n, nb), MQ below (va_Qi (fun q (v : St) => (q, v) = (r, u)) (WP G n) (ab G)) As.toArray s 0 0 (ab G), G.2.2.2) (r, u) rfl rfl
    ⟨⟨B.exec, B.bytes, hml, findClass_of_methodNamed B.named, fun w h => atoms_spec (ws := wsM y cb nb ret) B.pre w (List.mem_cons_of_mem _ h), hK, hF⟩, rfl, rfl, rfl, B.returns, B.notSynchronized, rfl⟩
  rw [lg_entry_eq]
  have h2 := hw he s.heap [] _ ⟨hP, va_S.rf⟩ (lv_entry As (n := nb) hl)
  rw [show n - x_n _ = 0 from Nat.sub_self n, show sls n - sls (x_n _) = 0 from Nat.sub_self (sls n)] at h2
  exact h2
theorem mkLF {G : GX} {l : Launch} {y : MethodName} {cb : ByteArray} {nb : Nat} {As : List Value} {e : Option (Int64 × St)} (hy : plainFor y = true) (hl : (lg_sl As).length ≤ nb)
    (body : ∀ (X : CX) (res : Int64 × St), x_l X = l → x_G X = G → BL X cb y.cls nb d n ret res → WW X res n 0 (lv_args 0 As) [] st e) : ML G n l y cb nb ret d As st e := by
  intro r u he
  refine va_MetF (cc := cb) (maxL := nb) (ret := ret) hy rfl ?_
  intro p en s m args below meth c s₁ B hml hv
  obtain ⟨rfl, hP, hK, hF⟩ := hv
  have hw := body (p, l, en, rmd 0 0 d, s, m, As.toArray, below, meth, c, (G.1, G.2.1, G.2.2.1, n, nb), MQ below (va_Ql (fun q (v : St) => (q, v) = (r, u)) (WP G n) (ab G)) As.toArray s 0 0 (ab G), G.2.2.2) (r, u) rfl rfl
    ⟨⟨B.exec, B.bytes, hml, findClass_of_methodNamed B.named, fun w h => atoms_spec (ws := wsM y cb nb ret) B.pre w (List.mem_cons_of_mem _ h), hK, hF⟩, rfl, rfl, rfl, B.returns, B.notSynchronized, rfl⟩
  rw [lg_entry_eq]
  have h2 := hw he s.heap [] _ ⟨hP, va_S.rf⟩ (lv_entry As (n := nb) hl)
  rw [show n - x_n _ = 0 from Nat.sub_self n, show sls n - sls (x_n _) = 0 from Nat.sub_self (sls n)] at h2
  exact h2
theorem mkVF {G : GX} {l : Launch} {y : MethodName} {cb : ByteArray} {nb : Nat} {As : List Value} {e : Option St} (hy : plainFor y = true) (hl : (lg_sl As).length ≤ nb)
    (body : ∀ (X : CX) (res : St), x_l X = l → x_G X = G → BV X cb y.cls nb d n ret res → WW X res n 0 (lv_args 0 As) [] st e) : MV G n l y cb nb ret d As st e := by
  intro u he
  refine va_MetF (cc := cb) (maxL := nb) (ret := ret) hy rfl ?_
  intro p en s m args below meth c s₁ B hml hv
  obtain ⟨rfl, hP, hK, hF⟩ := hv
  have hw := body (p, l, en, rmd 0 0 d, s, m, As.toArray, below, meth, c, (G.1, G.2.1, G.2.2.1, n, nb), MQ below (va_Qv (fun (v : St) => v = u) (WP G n) (ab G)) As.toArray s 0 0 (ab G), G.2.2.2) u rfl rfl
    ⟨⟨B.exec, B.bytes, hml, findClass_of_methodNamed B.named, fun w h => atoms_spec (ws := wsM y cb nb ret) B.pre w (List.mem_cons_of_mem _ h), hK, hF⟩, rfl, rfl, rfl, B.returns, B.notSynchronized, rfl⟩
  rw [lg_entry_eq]
  have h2 := hw he s.heap [] _ ⟨hP, va_S.rf⟩ (lv_entry As (n := nb) hl)
  rw [show n - x_n _ = 0 from Nat.sub_self n, show sls n - sls (x_n _) = 0 from Nat.sub_self (sls n)] at h2
  exact h2
end EF
theorem ldcw_str {p : Program} {l : Launch} {e : Env} {R : Room} {s : State} {m : MethodId} {args : Array Value} {below : List Frame} {meth : Method} {c : Code} {T : State} {locs : List Loc} {cells slots : Nat}
    (X : Stand p l e R s m args below meth c T locs cells slots) (hexec : p.tables.exec = Jvm.exec) {own text : String} {index : Nat} {a : Addr} (hown : s.vm.findClass own = some m.cls)
    (hconst : (Cond.stringRef own index text).before args s = true) (hev : (Term.string own index).eval args s none [] s = some (.ref a)) {g : JFrame} (hg : g.method = m) (hdg : decode c.code g.pc = .ok (.ldc_w index, 3)) :
    ∀ target, Steps p.tables e below (T.setTop { g with pc := g.pc + 3, stack := .ref a :: g.stack }) target → Steps p.tables e below (T.setTop g) target := by
  obtain ⟨k, cf, i, a', hk, hcf, hcp, -, hr, hev'⟩ := Cond.stringRef_spec hown hconst
  cases hev.symm.trans hev'
  obtain ⟨k', hk', he⟩ := X.warmed.alike.2.2 _ _ hk
  have hr' : k'.resolved[index]? = some (some (.string a)) := by
    rcases X.warmed.entry hk hk' index with h | ⟨h, -⟩
    · rw [h]; exact hr
    · rw [hr] at h; cases h
  intro target hrest
  subst hg
  jvm_step X.here [hexec, hdg, ldc_w.wp_string (e := e) (s := T) (f := g) X.here.top hk' (by rw [he]; exact hcf) hcp hr']
  exact hrest
theorem fm_len (K : (Nat → Nat) × (Nat → Nat)) (a b : Int32) : (lg_sl [.int a, .int b, xfm K]).length ≤ 3 := by
  unfold xfm
  split <;> exact Nat.le_of_ble_eq_true rfl
section ST
variable {ρ : Type} {X : CX} {res : ρ} {n pc : Nat} {lv : List (Nat × Value)} {rest stk : List Value} {st : St} {e K : Option ρ} {cc : ByteArray} {own : String}
theorem ww_ldcwS {q idx i : Nat} {tx : String} (hX : Cx X cc own) (hq : sT[q]? = some (own, idx, tx, i)) (hdg : decode cc pc = .ok (.ldc_w idx, 3)) (k : WW X res n (pc + 3) lv (.ref ((x_K X).1 i) :: stk) st e) : WW X res n pc lv stk st e := fun he H locs ls hD hl T hT Xs => by
  obtain ⟨t, a1, b1⟩ := k he H locs ls hD hl T hT Xs
  have hZ := hX.2.2.2.2.2.2.2.2.1 _ (List.mem_of_getElem? hq)
  exact ⟨t, ldcw_str Xs hX.1 hX.2.2.2.1 (text := tx) hZ.1 hZ.2 (g := F0 (x_m X) pc ls stk) rfl (by rw [hX.2.1]; exact hdg) t a1, b1⟩
theorem ww_gcs {idx : Nat} (hX : Cx X cc own) (hl : Cond.fieldLink own idx "java/lang/String" "COMPACT_STRINGS" "Z" ∈ tb) (hdg : decode cc pc = .ok (.getstatic idx, 3)) (k : WW X res n (pc + 3) lv (.int 1 :: stk) st e) : WW X res n pc lv stk st e := fun he H locs ls hD h2 => va_gets hX.1 hX.2.1 hX.2.2.2.2.2.2.1 hD.2 hX.2.2.2.1 (hX.2.2.2.2.1 _ hl) (fun _ z => z) hdg (k he H locs ls hD h2)
theorem ww_gfm {idx : Nat} (hX : Cx X cc own) (hl : Cond.fieldLink own idx "jdk/internal/util/Preconditions" "SIOOBE_FORMATTER" "Ljava/util/function/BiFunction;" ∈ tb) (hdg : decode cc pc = .ok (.getstatic idx, 3)) (k : WW X res n (pc + 3) lv (xfm (x_K X) :: stk) st e) : WW X res n pc lv stk st e := fun he H locs ls hD h2 => va_gets hX.1 hX.2.1 hX.2.2.2.2.2.2.2.2.2 hD.2 hX.2.2.2.1 (hX.2.2.2.2.1 _ hl) (fun _ z => z) hdg (k he H locs ls hD h2)
theorem ww_gsv {idx w : Nat} (hX : Cx X cc own) (hl : Cond.fieldLink own idx "java/lang/String" "value" "[B" ∈ tb) (hdg : decode cc pc = .ok (.getfield idx, 3)) (k : WW X res n (pc + 3) lv (.ref ((x_K X).2 w) :: stk) st K) : WW X res n pc lv (.ref ((x_K X).1 w) :: stk) st (ck (w < sB.length) K) := ww_ck fun hw he H locs ls hD h2 => vk_getf hX.1 hX.2.1 (hX.2.2.2.2.2.2.2.1 w hw).2.2.1 hD.2 hX.2.2.2.1 (hX.2.2.2.2.1 _ hl) (fun _ z => z) hdg (k he H locs ls hD h2)
theorem ww_gsc {idx w : Nat} (hX : Cx X cc own) (hl : Cond.fieldLink own idx "java/lang/String" "coder" "B" ∈ tb) (hdg : decode cc pc = .ok (.getfield idx, 3)) (k : WW X res n (pc + 3) lv (.int 0 :: stk) st K) : WW X res n pc lv (.ref ((x_K X).1 w) :: stk) st (ck (w < sB.length) K) := ww_ck fun hw he H locs ls hD h2 => vk_getf hX.1 hX.2.1 (hX.2.2.2.2.2.2.2.1 w hw).2.1 hD.2 hX.2.2.2.1 (hX.2.2.2.2.1 _ hl) (fun _ z => z) hdg (k he H locs ls hD h2)
theorem ww_alenT {w : Nat} (hX : Cx X cc own) (hdg : decode cc pc = .ok (.arraylength, 1)) (k : WW X res n (pc + 1) lv (.int (Int32.ofNat (sB.getD w []).length) :: stk) st K) : WW X res n pc lv (.ref ((x_K X).2 w) :: stk) st (ck (w < sB.length) K) := ww_ck fun hw he H locs ls hD h2 => va_tlen hX.1 hX.2.1 (hX.2.2.2.2.2.2.2.1 w hw).2.2.2 hD.2 rfl hdg (k he H locs ls hD h2)
theorem ww_baldT {w : Nat} {i : Int32} (hX : Cx X cc own) (hdg : decode cc pc = .ok (.baload, 1)) (k : WW X res n (pc + 1) lv (.int ((sB.getD w []).getD (ix i) 0) :: stk) st K) : WW X res n pc lv (.int i :: .ref ((x_K X).2 w) :: stk) st (ck (w < sB.length ∧ inb i (sB.getD w []).length) K) := ww_ck fun hw he H locs ls hD h2 => va_tb hX.1 hX.2.1 (hX.2.2.2.2.2.2.2.1 w hw.1).2.2.2 hD.2 hw.2 rfl hdg (k he H locs ls hD h2)
theorem ww_bret {d nL : Nat} {res : Int32 × St} {x : Int32} (B : BI X cc own nL d n (some .byte) res) (hdg : decode cc pc = .ok (.ireturn, 1)) : WW X res n pc lv [.int x] st (ck (x.toInt8.toInt32 = x) (some (x, st))) := ww_ck fun hz he H locs ls hD hl => by
  obtain ⟨hX, -, -, hn, hr, hlo, hQ⟩ := B
  obtain rfl := Option.some.inj he
  show W _ _ _ _ _ _ _ _ _ _ _ _ _ _ (x_Q X) _
  rw [hQ, hn, Nat.sub_self, Nat.sub_self]
  exact W.zret hX.1 hX.2.1 hr (congrArg Value.int hz) (fun t ht hW => ⟨⟨x, st, rfl, rfl, hD.wp hX ht hW⟩, hD.2.F ht⟩) hD.2.2.2 hdg hlo
theorem ww_cret {d nL : Nat} {res : Int32 × St} {x : Int32} (B : BI X cc own nL d n (some .char) res) (hdg : decode cc pc = .ok (.ireturn, 1)) : WW X res n pc lv [.int x] st (ck (x.toUInt32.toUInt16.toUInt32.toInt32 = x) (some (x, st))) := ww_ck fun hz he H locs ls hD hl => by
  obtain ⟨hX, -, -, hn, hr, hlo, hQ⟩ := B
  obtain rfl := Option.some.inj he
  show W _ _ _ _ _ _ _ _ _ _ _ _ _ _ (x_Q X) _
  rw [hQ, hn, Nat.sub_self, Nat.sub_self]
  exact W.zret hX.1 hX.2.1 hr (congrArg Value.int hz) (fun t ht hW => ⟨⟨x, st, rfl, rfl, hD.wp hX ht hW⟩, hD.2.F ht⟩) hD.2.2.2 hdg hlo
/-- a call on a String constant -/
def CVs (own : String) (idx : Nat) (y : MethodName) (cb : ByteArray) (nb : Nat) (ret : Option FieldType) (np : Nat) : Prop := CB own idx y cb nb ret np ∧ Cond.instanceMethod y ∈ tb ∧ Cond.selects y.cls y y ∈ tb ∧ y.cls = "java/lang/String"
theorem CVs.of {own : String} {idx : Nat} {y : MethodName} {cb : ByteArray} {nb : Nat} {ret : Option FieldType} {np : Nat} (i1 i2 : Nat) (h1 : tables_1[i1]? = some (Cond.instanceMethod y)) (h2 : tables_1[i2]? = some (Cond.selects y.cls y y)) (hc : y.cls = "java/lang/String") (hb : CB own idx y cb nb ret np) : CVs own idx y cb nb ret np := ⟨hb, tb_t (List.mem_of_getElem? h1) rfl, tb_t (List.mem_of_getElem? h2) rfl, hc⟩
theorem ww_callsI {idx d' nb np w : Nat} {y : MethodName} {cb : ByteArray} {ret : Option FieldType} {As : List Value} {m : Option (Int32 × St)} {K : Int32 → St → Option ρ} (hX : Cx X cc own) (hr : Rk X n d' nb) (hc : CVs own idx y cb nb ret np) (hM : MI (x_G X) n (x_l X) y cb nb ret d' (.ref ((x_K X).1 w) :: As) st m) (hn : As.length = np) (hs : stk = As.reverse ++ .ref ((x_K X).1 w) :: rest) (hw : (rest.map fun v => v.category).sum ≤ 8) (hdg : decode cc pc = .ok (.invokevirtual idx, 3)) (kk : ∀ r u, WW X res n (pc + 3) lv (.int r :: rest) u (K r u)) : WW X res n pc lv stk st (ck (w < sB.length) (ca m K)) := ww_ck fun hk0 he H locs ls hD hl => by
  subst hs
  cases hm : m with
  | none => rw [hm] at he; cases he
  | some q =>
    obtain ⟨r, u⟩ := q
    rw [hm] at he
    obtain ⟨hcb, hi, hse, hcl⟩ := hc
    obtain ⟨cell, g1, g2, g3, -⟩ := (hX.2.2.2.2.2.2.2.1 w hk0).1.kept hD.2.2.1
    refine va_calli (va_runV (As := As) (rest := rest) (C := y.cls) ⟨hX.1, hX.2.1, hX.2.2.1, hX.2.2.2.1, hX.2.2.2.2.1⟩ (hM r u hm) ⟨cb_of hX.2.2.2.2.1 hcb _ hr.1 hr.2.1, hX.2.2.2.2.1 _ hi, hX.2.2.2.2.1 _ hse⟩ ⟨wp_blind, ⟨cell, g1, g2, by rw [hcl]; exact g3⟩, wp_pre hX hD _⟩ rfl hn hl.1 rfl (lv_room hw) hdg ⟨hr.2.2.1, hr.2.2.2⟩) hD.2 (fun q _ h => h) (fun q h => h) (fun r1 u1 t H1 locs1 ht hvm hp hB hz hk hS => ?_)
    cases hp
    exact kk r u he H1 locs1 ls ⟨by rw [← ht]; exact hB.1, hS⟩ hl
end ST
