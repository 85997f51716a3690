/-! CONSTRUCTORS: k cells are made, the world grows from n to n + k -/
def nestL : List (String × Nat × MethodName × String) := [(RX11, 9, yX9_init, RX11), (RX7, 25, yX0_init, RX11), (RX1, 32, yX8_init, RX11), (RX1, 45, yX3_init, RX11), (RX3, 11, yX8_init, RX11), (RX11, 34, yX4_init, RX11), (RX11, 41, yX6_init, RX11), (RX11, 57, yX5_init, RX11), (RX11, 64, yX10_init, RX11)]
/-- the links between nest mates -/
def NL (U : State) : Prop := (∀ q ∈ nestL, va_Nw (.methodLinkNest q.1 q.2.1 q.2.2.1 q.2.2.2) U) ∧ va_AO "StageHouse$CueList" U ∧ va_AO "StageHouse$Axis" U
theorem NL.warm {s U : State} (hW : s.WarmedH U.vm) (h : NL s) : NL U := ⟨fun w hw => va_Nw.warmM hW (h.1 w hw), va_AO.moved hW.alike h.2.1, va_AO.moved hW.alike h.2.2⟩
theorem NL.same {u U : State} (hv : u.vm = U.vm) (h : NL u) : NL U := ⟨fun w hw => va_Nw.same rfl hv (h.1 w hw), va_AO.moved (hv ▸ Vm.Alike.refl u.vm) h.2.1, va_AO.moved (hv ▸ Vm.Alike.refl u.vm) h.2.2⟩
def WPc (G : GX) (n : Nat) (st : St) (U : State) : Prop := U.heap.size = G.2.2.1 + 1 + n ∧ NL U ∧ WP G n st U
theorem wpc_blind {G : GX} {n : Nat} {st : St} {As : List Value} : FrameBlind (va_Pc As (WPc G n st)) := fun a U g mk q => ⟨q.1, q.2.1, NL.same (u := U) (U := U.calling g mk a) rfl q.2.2.1, q.2.2.2.1, va_K.moved (u := U) (U := U.calling g mk a) (Vm.Alike.refl U.vm) q.2.2.2.2.1, SF.calling g mk a q.2.2.2.2.2⟩
def MC (G : GX) (n k : Nat) (l : Launch) (y : MethodName) (cb : ByteArray) (nb d : Nat) (As : List Value) (st : St) (m : Option St) : Prop :=
  ∀ u, m = some u → Met l y (wsM y cb nb none) (rmd k (sls (n + k) - sls n) d) (va_Pc As (WPc G n st)) (va_Qv (fun (v : St) => v = u) (WP G (n + k)) (ab G)) k (sls (n + k) - sls n) (ab G)
def BC (X : CX) (cc : ByteArray) (own : String) (nL d n k : Nat) (res : St) : Prop :=
  Cx X cc own ∧ x_L X = nL ∧ x_R X = rmd k (sls (n + k) - sls n) d ∧ x_n X = n ∧ (x_t X).sig.returnType = none ∧ (x_t X).locks = false ∧ x_Q X = MQ (x_w X) (va_Qv (fun (v : St) => v = res) (WP (x_G X) (n + k)) (ab (x_G X))) (x_a X) (x_s X) k (sls (n + k) - sls n) (ab (x_G X)) ∧ (x_t X).name = "<init>" ∧ (x_s X).heap.size = x_b X + 1 + n ∧ NL (x_s X)
section K
variable {X : CX} {n m pc nL d k : Nat} {lv lv' : List (Nat × Value)} {rest stk : List Value} {st : St} {cc : ByteArray} {own : String}
theorem ww_cret0 {res : St} (B : BC X cc own nL d n k res) (hdg : decode cc pc = .ok (.return_, 1)) : WW X res m pc lv [] st (ck (m = n + k) (some st)) := ww_ck fun hm he H locs ls hD hl => by
  obtain ⟨hX, -, -, hn, hr, hlo, hQ, -, -, -⟩ := B
  obtain rfl := Option.some.inj he
  subst hm
  show W _ _ _ _ _ _ _ _ _ _ _ _ _ _ (x_Q X) _
  rw [hQ, hn, show n + k - n = k by omega]
  exact W.vret hX.1 hX.2.1 hr (fun t ht hW => ⟨⟨st, rfl, rfl, hD.wp hX ht hW⟩, hD.2.F ht⟩) hD.2.2.2 hdg hlo
theorem mkC {G : GX} {l : Launch} {y : MethodName} {cb : ByteArray} {nb : Nat} {As : List Value} {e : Option St} (hy : plainName y.cls = true) (hnm : y.name = "<init>") (hl : (lg_sl As).length ≤ nb)
    (body : ∀ (X : CX) (res : St), x_l X = l → x_G X = G → BC X cb y.cls nb d n k res → WW X res n 0 (lv_args 0 As) [] st e) : MC G n k l y cb nb d As st e := by
  intro u he
  refine Met.ofW (cc := cb) (maxL := nb) (ret := none) hy rfl ?_
  intro p en s m args below meth c s₁ B hml hv
  obtain ⟨rfl, hsz, hnl, hP, hK, hF⟩ := hv
  have hw := body (p, l, en, rmd k (sls (n + k) - sls n) d, s, m, As.toArray, below, meth, c, (G.1, G.2.1, G.2.2.1, n, nb), MQ below (va_Qv (fun (v : St) => v = u) (WP G (n + k)) (ab G)) As.toArray s k (sls (n + k) - sls n) (ab G), G.2.2.2) u rfl rfl
    ⟨⟨B.exec, B.bytes, hml, findClass_of_methodNamed B.named, fun w h => atoms_spec (ws := wsM y cb nb none) B.pre w (List.mem_cons_of_mem _ h), hK, hF⟩, rfl, rfl, rfl, B.returns, B.notSynchronized, rfl, (name_of_methodNamed B.named B.method).1.trans hnm, hsz, hnl⟩
  rw [lg_entry_eq]
  have h2 := hw he s.heap [] _ ⟨hP, va_S.rf⟩ (lv_entry As (n := nb) hl)
  rw [show n - x_n _ = 0 from Nat.sub_self n, show sls n - sls (x_n _) = 0 from Nat.sub_self (sls n)] at h2
  exact h2
theorem RA.of {res : St} (B : BC X cc own nL d n k res) (h : n ≤ m ∧ m + 1 ≤ n + k) : RA X m := by
  obtain ⟨-, -, hR, hn, -, -, -, -, hs, -⟩ := B
  refine ⟨by omega, by rw [hn]; exact hs, ?_, ?_⟩
  · rw [hR, hn]; show m + 1 - n ≤ k; omega
  · rw [hR, hn]; show sls (m + 1) - sls n ≤ sls (n + k) - sls n
    have := sls_mono h.2
    omega
end K
section KC
variable {ρ : Type} {X : CX} {res : ρ} {n pc : Nat} {lv lv' : List (Nat × Value)} {rest stk : List Value} {st : St} {e K : Option ρ} {cc : ByteArray} {own : String}
theorem ww_putIx {idx t k o : Nat} {x : Int32} (hX : Cx X cc own) (hf : FLd own idx t k false) (hi : tyC t k = .int) (hdg : decode cc pc = .ok (.putfield idx, 3)) (kk : WW X res n (pc + 3) lv stk (sI st o k x) K) : WW X res n pc lv (.int x :: .ref (x_b X + o) :: stk) st (ck (1 ≤ o ∧ o ≤ n) (ck ((kd o).1 = t) K)) := ww_ck fun h => ww_putIc hX hf hi (fun _ => h) hdg kk
theorem ww_getRx {idx t k o : Nat} {fin : Bool} (hX : Cx X cc own) (hf : FLd own idx t k fin) (hi : isR t k) (hdg : decode cc pc = .ok (.getfield idx, 3)) (kk : WW X res n (pc + 3) lv (.ref (x_b X + gR st o k) :: stk) st K) : WW X res n pc lv (.ref (x_b X + o) :: stk) st (ck (1 ≤ o ∧ o ≤ n) (ck (¬ gR st o k = 0) (ck ((kd o).1 = t) K))) := ww_ck fun h => ww_getRc hX hf hi (fun _ => h) hdg kk
theorem ww_putRx {idx t k o x : Nat} (hX : Cx X cc own) (hf : FLd own idx t k false) (hi : isR t k) (hdg : decode cc pc = .ok (.putfield idx, 3)) (kk : WW X res n (pc + 3) lv stk (sR st o k x) K) : WW X res n pc lv (.ref (x_b X + x) :: .ref (x_b X + o) :: stk) st (ck (1 ≤ o ∧ o ≤ n) (ck (¬ x = 0) (ck ((kd o).1 = t) K))) := ww_ck fun h => ww_putRc hX hf hi (fun _ => h) hdg kk
theorem ww_iastx {o : Nat} {i x : Int32} (hX : Cx X cc own) (hdg : decode cc pc = .ok (.iastore, 1)) (kk : WW X res n (pc + 1) lv stk (sI st o (ix i) x) K) : WW X res n pc lv (.int x :: .int i :: .ref (x_b X + o) :: stk) st (ck (1 ≤ o ∧ o ≤ n) (ck ((kd o).1 = 100 ∧ inb i (kd o).2) K)) := ww_ck fun h => ww_iastc hX (fun _ => h) hdg kk
theorem ww_zastx {o : Nat} {i x : Int32} (hX : Cx X cc own) (hdg : decode cc pc = .ok (.bastore, 1)) (kk : WW X res n (pc + 1) lv stk (sI st o (ix i) x) K) : WW X res n pc lv (.int x :: .int i :: .ref (x_b X + o) :: stk) st (ck (1 ≤ o ∧ o ≤ n) (ck (isb x) (ck ((kd o).1 = 102 ∧ inb i (kd o).2) K))) := ww_ck fun h => ww_zastc hX (fun _ => h) hdg kk
theorem ww_alenx {o : Nat} (hX : Cx X cc own) (hdg : decode cc pc = .ok (.arraylength, 1)) (kk : WW X res n (pc + 1) lv (.int (Int32.ofNat (kd o).2) :: stk) st K) : WW X res n pc lv (.ref (x_b X + o) :: stk) st (ck (1 ≤ o ∧ o ≤ n) (ck ((kd o).1 = 100) K)) := ww_ck fun h => ww_alenc hX (fun _ => h) hdg kk
theorem ww_putvF {idx t k o : Nat} {v : Value} {st' : St} (hX : Cx X cc own) (hi2 : (x_t X).name = "<init>") (ho2 : ∀ C T N, Cls t C T N → C = own) (hf : FLd own idx t k true) (hn : narrow (tyC t k) v = v) (hfit : fits (tyC t k) v = true) (hv : fval (x_b X) st' o t k = v) (hj : ∀ j, j ≠ k → fval (x_b X) st' o t j = fval (x_b X) st o t j) (hcl : ∀ j, j ≠ o → cel (x_b X) (x_A X) st' j = cel (x_b X) (x_A X) st j) (ho : (kd o).1 = t → 1 ≤ o ∧ o ≤ n) (hdg : decode cc pc = .ok (.putfield idx, 3)) (kk : WW X res n (pc + 3) lv stk st' K) : WW X res n pc lv (v :: .ref (x_b X + o) :: stk) st (ck ((kd o).1 = t) K) := ww_ck fun h he H locs ls hD hl => by
  obtain ⟨C, T, N, hcls, hk, ht, hc, hfin, hlk⟩ := hf
  have hown := ho2 C T N hcls
  obtain ⟨c1, c2, c3, c4, c5⟩ := hcls
  obtain ⟨o1, o2⟩ := ho h
  have he1 := wd_at (b := x_b X) (tA := x_A X) (n := n) (st := st) o1 o2
  rw [cel_o h (by omega), c2] at he1
  refine va_putF hX.1 hX.2.1 hX.2.2.2.2.1 c3 (tyC t) c4 c5 hX.2.2.2.1 hX.2.2.2.2.2.1 hD.1 wd_D hD.2 (o - 1) he1 c1 k hk (hX.2.2.2.2.1 _ hlk) (fun _ z => z) hfin hi2 (hc.trans hown) (c4 k hk) hn hfit (by simpa using hk) hdg (fun H1 locs1 hP1 _ hS1 => ?_)
  rw [fl_set hk hv hj, wd_set o1 o2 hcl (by rw [cel_o h (by omega), c2])] at hP1
  exact kk he H1 locs1 ls ⟨hP1, hS1⟩ hl
theorem ww_putRF {idx t k o x : Nat} (hX : Cx X cc own) (hi2 : (x_t X).name = "<init>") (ho2 : ∀ C T N, Cls t C T N → C = own) (hf : FLd own idx t k true) (hi : isR t k) (hdg : decode cc pc = .ok (.putfield idx, 3)) (kk : WW X res n (pc + 3) lv stk (sR st o k x) K) : WW X res n pc lv (.ref (x_b X + x) :: .ref (x_b X + o) :: stk) st (ck (1 ≤ o ∧ o ≤ n) (ck (¬ x = 0) (ck ((kd o).1 = t) K))) := ww_ck fun h => ww_ck fun hb => ww_putvF hX hi2 ho2 hf (by rcases hi with ⟨c, hi⟩ | ⟨c, hi⟩ <;> rw [hi] <;> rfl) (by rcases hi with ⟨c, hi⟩ | ⟨c, hi⟩ <;> rw [hi] <;> rfl) (by rw [fval_r hi, gR_s]; exact rv_nz hb) (fun _ h => fval_sR h) (fun _ h => cel_sR h) (fun _ => h) hdg kk
theorem cls_own {t : Nat} {C : String} {T : u_T} {N : Nat} {own : String} {T' : u_T} {N' : Nat} (h : vwCl[t]? = some (own, T', N')) : ∀ C T N, Cls t C T N → C = own := fun C T N hc => by
  have := Option.some.inj (hc.1.symm.trans h)
  exact congrArg Prod.fst this
theorem ww_aast {t tc o v : Nat} {i : Int32} {r : vw_C} (hX : Cx X cc own) (h3 : 3 < t) (ht : (tysW (x_A X))[t]? = some (x_A X t, .object r.1)) (hc : vwCl[tc]? = some r) (htc : tc < 99) (hdg : decode cc pc = .ok (.aastore, 1)) (kk : WW X res n (pc + 1) lv stk (sR st o (ix i) v) K) : WW X res n pc lv (.ref (x_b X + v) :: .int i :: .ref (x_b X + o) :: stk) st (ck ((1 ≤ o ∧ o ≤ n) ∧ (1 ≤ v ∧ v ≤ n) ∧ (kd v).1 = tc) (ck ((kd o).1 = 100 + t ∧ inb i (kd o).2) K)) := ww_ck fun hz => ww_ck fun h he H locs ls hD hl => by
  obtain ⟨⟨o1, o2⟩, ⟨v1, v2⟩, hv⟩ := hz
  have he1 := wd_at (b := x_b X) (tA := x_A X) (n := n) (st := st) o1 o2
  rw [cel_r (t := t) h.1 h3] at he1
  have he2 := wd_at (b := x_b X) (tA := x_A X) (n := n) (st := st) v1 v2
  rw [cel_o hv (by omega)] at he2
  refine va_astq hX.1 hX.2.1 hX.2.2.2.2.2.1 hD.1 wd_D hD.2 (o - 1) t (v - 1) tc he1 ht he2 hc h.2 hdg (fun H1 locs1 hP1 _ hS1 => ?_)
  rw [wd_set (st' := sR st o (ix i) v) o1 o2 (fun _ q => cel_sR q) (by
    rw [cel_r (t := t) h.1 h3]
    congr 6
    apply congrArg Sum.inr
    funext j
    by_cases hj : j = ix i
    · subst hj; simp [gR, sR, u2, va_up, rfo]; omega
    · simp [gR, sR, u2, va_up, hj])] at hP1
  exact kk he H1 locs1 ls ⟨hP1, hS1⟩ hl
/-- a constructor's call: linked plainly, or between nest mates -/
def CIt (own : String) (idx : Nat) (y : MethodName) (cb : ByteArray) (nb np : Nat) : Prop := ((Cond.methodLink own idx y ∈ tb) ∨ ∃ host, (own, idx, y, host) ∈ nestL) ∧ Cond.initialized y.cls ∈ tb ∧ Cond.code y cb nb none ∈ tb ∧ (y.cls ≠ "java/lang/invoke/MethodHandle" ∧ y.cls ≠ "java/lang/invoke/VarHandle" ∧ (parseMethodDescriptor y.desc).map (fun d => d.parameters.length) = some np) ∧ y.name = "<init>" ∧ Cond.instanceMethod y ∈ tb
theorem h_size {H : Heap} {locs : List Loc} {c : Nat} (hs : (x_s X).heap.size = x_b X + 1 + x_n X) (h0 : x_n X ≤ n) (hD : WD X n st H locs) (hz : H.size ≤ (x_s X).heap.size + c) (hc : c = n - x_n X) : H.size = x_b X + 1 + n := by
  have h1 := hD.2.1
  rcases Nat.eq_or_lt_of_le h0 with h | h
  · omega
  · have := (hD.1 (n - 1) _ (wd_at (o := n) (by omega) (Nat.le_refl n))).lt
    have h2 : x_b X + n < H.size := this
    omega
theorem ww_callC {idx d' nb np o k' : Nat} {y : MethodName} {cb : ByteArray} {As : List Value} {m : Option St} {K : St → Option ρ} (hX : Cx X cc own) (hNL : NL (x_s X)) (hs : (x_s X).heap.size = x_b X + 1 + x_n X) (h0 : x_n X ≤ n) (hr : d' + 1 ≤ (x_R X).frames ∧ 8 + (nb + 11) + 100 * d' ≤ (x_R X).locals ∧ n + k' - x_n X ≤ (x_R X).cells ∧ sls (n + k') - sls (x_n X) ≤ (x_R X).slots) (hc : CIt own idx y cb nb np) (hM : MC (x_G X) n k' (x_l X) y cb nb d' (.ref (x_b X + o) :: As) st m) (hn : As.length = np) (hs2 : stk = As.reverse ++ .ref (x_b X + o) :: rest) (hw : (rest.map fun v => v.category).sum ≤ 8) (hdg : decode cc pc = .ok (.invokespecial idx, 3)) (kk : ∀ u, WW X res (n + k') (pc + 3) lv rest u (K u)) : WW X res n pc lv stk st (cv m K) := fun he H locs ls hD hl => by
  subst hs2
  cases hm : m with
  | none => rw [hm] at he; cases he
  | some u =>
    rw [hm] at he
    intro T hT Xs
    have hz := Xs.heapSize
    rw [hT] at hz
    have hsz := h_size hs h0 hD hz rfl
    obtain ⟨hlink, hini, hcode, hy, hnm, hinst⟩ := hc
    have hts := hX.2.2.2.2.1
    have hgood : GoodIn tb (wsM y cb nb none) := fun w hw => by
      rcases List.mem_cons.mp hw with h | h
      · subst h; exact ⟨hcode, tb_good hcode⟩
      · exact ⟨h, tb_good h⟩
    have hpre : PreS (x_s X) H (va_Pc (.ref (x_b X + o) :: As) (WPc (x_G X) n st)) (.ref (x_b X + o) :: As) := ⟨wpc_blind, fun U hU hW => ⟨rfl, by rw [hU]; exact hsz, hNL.warm hW, hD.wp hX hU hW⟩⟩
    have hm1 := sls_mono h0
    have hm2 := sls_mono (show n ≤ n + k' by omega)
    have hrun : va_Run (x_p X) (x_l X) (x_e X) (x_R X) (x_s X) (x_m X) (x_a X) (x_w X) (x_t X) (x_c X) H locs (n - x_n X) (sls n - sls (x_n X)) k' (sls (n + k') - sls n) (F0 (x_m X) pc ls (As.reverse ++ .ref (x_b X + o) :: rest)) rest (va_Qv (fun (v : St) => v = u) (WP (x_G X) (n + k')) (ab (x_G X)) (Value.ref (x_b X + o) :: As).toArray) (ab (x_G X)) := by
      rcases hlink with hlink | ⟨host, hlink⟩
      · exact va_runI (As := As) (rest := rest) ⟨hX.1, hX.2.1, hX.2.2.1, hX.2.2.2.1, hts⟩ (hM u hm) ⟨callB_of np hts hgood rfl rfl rfl (hts _ hini) (hts _ hlink) hy ⟨hr.1, hr.2.1⟩, hnm, hts _ hinst⟩ hpre rfl hn hl.1 rfl (lv_room hw) hdg ⟨by omega, by omega⟩
      · exact va_runIN (As := As) (rest := rest) (host := host) ⟨hX.1, hX.2.1, hX.2.2.1, hX.2.2.2.1, hts⟩ (hM u hm) ⟨va_cnB np hts hgood rfl rfl rfl (hNL.1 _ hlink) (hts _ hini) hy ⟨hr.1, hr.2.1⟩, hnm, hts _ hinst⟩ hpre rfl hn hl.1 rfl (lv_room hw) hdg ⟨by omega, by omega⟩
    refine va_callv hrun hD.2 (fun q _ h => h) (fun q h => h) (fun u1 t H1 locs1 ht hvm hp hB hz1 hk hS => ?_) T hT Xs
    cases hp
    have hw2 := kk u he H1 locs1 ls ⟨by rw [← ht]; exact hB.1, hS⟩ hl
    rw [show n + k' - x_n X = n - x_n X + k' by omega, show sls (n + k') - sls (x_n X) = sls n - sls (x_n X) + (sls (n + k') - sls n) by omega] at hw2
    exact hw2
end KC
