/-! MAKING CELLS: the world grows by one, the new cell is blank -/
def zr (st : St) (o : Nat) : St := (fun a b => if a = o then 0 else st.1 a b, fun a b => if a = o then 0 else st.2.1 a b, fun a b => if a = o then 0 else st.2.2 a b)
def sz (o : Nat) : Nat := if (kd o).1 < 100 then nF (kd o).1 else (kd o).2
theorem sls_succ (n : Nat) : sls (n + 1) = sls n + sz (n + 1) := by
  simp [sls, sz, List.range_succ]
theorem sls_mono {a b : Nat} (h : a ≤ b) : sls a ≤ sls b := by
  induction b with
  | zero => rw [show a = 0 by omega]; exact Nat.le_refl _
  | succ b ih =>
    rcases Nat.lt_or_ge b a with q | q
    · rw [show a = b + 1 by omega]; exact Nat.le_refl _
    · rw [sls_succ]; exact Nat.le_trans (ih q) (Nat.le_add_right _ _)
theorem cel_zr {b : Nat} {tA : Nat → ClassId} {st : St} {o j : Nat} (h : j ≠ o) : cel b tA (zr st o) j = cel b tA st j := by
  have e1 : gI (zr st o) j = gI st j := by funext c; simp [gI, zr, h]
  have e2 : gL (zr st o) j = gL st j := by funext c; simp [gL, zr, h]
  have e3 : gR (zr st o) j = gR st j := by funext c; simp [gR, zr, h]
  have e4 : ∀ t, fval b (zr st o) j t = fval b st j t := by
    intro t; funext c; unfold fval; rw [e1, e2, e3]
  unfold cel
  rw [e4, e1, e2, e3]
theorem wd_push {b : Nat} {tA : Nat → ClassId} {n : Nat} {st st' : St} (h : ∀ j, j ≠ n + 1 → cel b tA st' j = cel b tA st j) : wd b tA n st ++ [(b + (n + 1), cel b tA st' (n + 1))] = wd b tA (n + 1) st' := by
  unfold wd
  rw [List.range_succ, List.map_append]
  congr 1
  apply List.map_congr_left
  intro j hj
  have : j < n := List.mem_range.mp hj
  rw [h (j + 1) (by omega)]
theorem al_q {b n q : Nat} {tA : Nat → ClassId} {st : St} {e' : va_E} {D : va_G} {H1 : Heap} (hP : va_P D vwCl (wd b tA n st ++ [(q, e')]) H1) (hD : va_D (fun q => b < q) (wd b tA n st ++ [(q, e')])) (hz : H1.size ≤ b + 1 + n + 1) : q = b + (n + 1) := by
  have hlen : (wd b tA n st).length = n := by simp [wd]
  have hn : (wd b tA n st ++ [(q, e')])[n]? = some (q, e') := by
    rw [List.getElem?_append_right (by omega), hlen]
    simp
  have h1 : q < H1.size := (hP n _ hn).lt
  have h2 : b < q := hD.2 n _ hn
  rcases Nat.lt_or_ge (b + n) q with h | h
  · omega
  · exfalso
    have hj := wd_at (b := b) (tA := tA) (n := n) (st := st) (o := q - b) (by omega) (by omega)
    have hj2 : (wd b tA n st ++ [(q, e')])[q - b - 1]? = some (b + (q - b), cel b tA st (q - b)) := by
      rw [List.getElem?_append_left (by omega)]; exact hj
    have := hD.1 (q - b - 1) n _ _ hj2 hn (by show b + (q - b) = q; omega)
    omega
/-- room for one more cell -/
def RA (X : CX) (n : Nat) : Prop := x_n X ≤ n ∧ (x_s X).heap.size = x_b X + 1 + x_n X ∧ n + 1 - x_n X ≤ (x_R X).cells ∧ sls (n + 1) - sls (x_n X) ≤ (x_R X).slots
section A
variable {ρ : Type} {X : CX} {res : ρ} {n pc : Nat} {lv : List (Nat × Value)} {rest stk : List Value} {st : St} {e K : Option ρ} {cc : ByteArray} {own : String}
theorem al_go {q : Nat} {e' : va_E} {H1 : Heap} {locs : List Loc} {ls : Array Slot} {N pc' : Nat} (hA : RA X n) (hN : sz (n + 1) = N) (he : e = some res) (hcel : cel (x_b X) (x_A X) (zr st (n + 1)) (n + 1) = e') (hP : va_P (x_D X) vwCl (wd (x_b X) (x_A X) n st ++ [(q, e')]) H1) (hD : va_D (fun q => x_b X < q) (wd (x_b X) (x_A X) n st ++ [(q, e')])) (hS : va_S (fun q => x_b X < q) (x_s X).heap H1 locs) (hl : lv_has ls (x_L X) lv)
    (kk : WW X res (n + 1) pc' lv (.ref (x_b X + (n + 1)) :: stk) (zr st (n + 1)) e) : WX X H1 locs (n - x_n X + 1) (sls n - sls (x_n X) + N) (F0 (x_m X) pc' ls (.ref q :: stk)) := by
  obtain ⟨h1, h2, h3, h4⟩ := hA
  intro T hT Xs
  have hz := Xs.heapSize
  rw [hT, h2] at hz
  have hq := al_q hP hD (by omega)
  subst hq
  rw [← hcel, wd_push (fun j hj => cel_zr hj)] at hP
  have hm := sls_mono h1
  have hw := kk he H1 locs ls ⟨hP, hS⟩ hl
  rw [show n + 1 - x_n X = n - x_n X + 1 by omega, show sls (n + 1) - sls (x_n X) = sls n - sls (x_n X) + N by rw [sls_succ]; omega] at hw
  exact hw T hT Xs
theorem RA.c {X : CX} {n : Nat} (hA : RA X n) : n - x_n X + 1 ≤ (x_R X).cells := by obtain ⟨h1, h2, h3, h4⟩ := hA; omega
theorem RA.s {X : CX} {n N : Nat} (hA : RA X n) (hN : sz (n + 1) = N) : sls n - sls (x_n X) + N ≤ (x_R X).slots := by
  obtain ⟨h1, h2, h3, h4⟩ := hA
  have hm := sls_mono h1
  rw [sls_succ] at h4
  omega
theorem RA.a {X : CX} {n : Nat} (hA : RA X n) : ∀ q, (x_s X).heap.size ≤ q → x_b X < q := fun q h => by rw [hA.2.1] at h; omega
def tyOK : FieldType → Bool := fun t => match t with
  | .int => true
  | .boolean => true
  | .long => true
  | .object _ => true
  | .array _ => true
  | _ => false
theorem fval_zr {b : Nat} {st : St} {o t k : Nat} (h : tyOK (tyC t k) = true) : fval b (zr st o) o t k = defaultValue (tyC t k) := by
  unfold fval
  cases ht : tyC t k <;> rw [ht] at h <;> simp [tyOK] at h <;> simp [gI, gL, gR, zr, rv, rfo, va_rf, defaultValue]
theorem ww_new {idx t N : Nat} {C : String} {T : u_T} (hX : Cx X cc own) (hA : RA X n) (hc : Cls t C T N) (ht : t < 100) (hok : (List.range N).all (fun k => tyOK (tyC t k)) = true) (hcl : Cond.classLink own idx C ∈ tb) (hin : Cond.instantiable C N ∈ tb) (hi : Cond.initialized C ∈ tb) (hdg : decode cc pc = .ok (.new idx, 3)) (kk : WW X res (n + 1) (pc + 3) lv (.ref (x_b X + (n + 1)) :: stk) (zr st (n + 1)) K) : WW X res n pc lv stk st (ck ((kd (n + 1)).1 = t) K) := ww_ck fun h he H locs ls hD hl => by
  obtain ⟨c1, c2, c3, c4, c5⟩ := hc
  have hN : sz (n + 1) = N := by unfold sz; rw [h, if_pos ht, c2]
  have hcel := cel_o (b := x_b X) (tA := x_A X) (st := zr st (n + 1)) h ht
  rw [c2] at hcel
  refine va_new hX.1 hX.2.1 hX.2.2.2.2.1 c3 (tyC t) c4 hX.2.2.2.1 (hX.2.2.2.2.1 _ hcl) (hX.2.2.2.2.1 _ hin) (hX.2.2.2.2.1 _ hi) hX.2.2.2.2.2.1 hD.1 wd_D hD.2 hA.a c1 (fs := (List.range N).map (fval (x_b X) (zr st (n + 1)) (n + 1) t)) (fun j hj => ?_) hA.c (hA.s hN) hdg (fun q H1 hP1 hD1 hS1 => ?_)
  · have h2 := List.all_eq_true.mp hok j (List.mem_range.mpr hj)
    unfold vp_V
    rw [List.getD_eq_getElem?_getD, fl_get hj, Option.getD_some, fval_zr h2]
  · exact al_go hA hN he hcel hP1 hD1 hS1 hl kk
theorem gI_zr {st : St} {o : Nat} : gI (zr st o) o = fun _ => 0 := by funext c; simp [gI, zr]
theorem gL_zr {st : St} {o : Nat} : gL (zr st o) o = fun _ => 0 := by funext c; simp [gL, zr]
theorem gR_zr {st : St} {o : Nat} : gR (zr st o) o = fun _ => 0 := by funext c; simp [gR, zr]
theorem ty_of {s : State} {D : va_G} {tA : Nat → ClassId} {cA : ClassId} {ty : FieldType} (hK : va_K D vwCl (tysW tA ++ [(cA, ty)]) s) : va_RA s cA ty := (hK.2 6 (cA, ty) (by simp [tysW])).2
theorem pr_ra {s : State} {cA cB : ClassId} {ty : FieldType} (hp : ∀ C, ty ≠ .object C) (h1 : va_RA s cA ty) (h2 : va_RA s cB ty) : cA = cB := by
  cases ty with
  | object C => exact absurd rfl (hp C)
  | _ => exact Option.some.inj (h1.symm.trans h2)
theorem ob_ra {s : State} {cA cB : ClassId} {C : String} (h1 : va_RA s cA (.object C)) (h2 : va_RA s cB (.object C)) : cA = cB := by
  obtain ⟨_, _, _, _, _, a⟩ := h1
  obtain ⟨_, _, _, _, _, b⟩ := h2
  exact Option.some.inj (a.symm.trans b)
theorem ww_newa {t N : Nat} {z : Int32} {aty : ArrayType} {ty : FieldType} {a0 : vp_A} (hX : Cx X cc own) (hA : RA X n) (hty : newarray.typeOf aty = ty) (hp : ∀ C, ty ≠ .object C) (ht : (tysW (x_A X))[t]? = some (x_A X t, ty)) (ha : ∀ cA : ClassId, vp_cell cA a0 = arrV cA N (fun _ => defaultValue ty)) (hcel : (kd (n + 1)) = (100 + t, N) → cel (x_b X) (x_A X) (zr st (n + 1)) (n + 1) = .inl (x_A X t, a0)) (hz : ¬ z < 0) (hzN : z.toNatClampNeg = N) (hby : N * componentBytes ty ≤ 536870912) (har : Cond.arrayClass ty ∈ tb) (hdg : decode cc pc = .ok (.newarray aty, 2)) (kk : WW X res (n + 1) (pc + 2) lv (.ref (x_b X + (n + 1)) :: stk) (zr st (n + 1)) K) : WW X res n pc lv (.int z :: stk) st (ck (kd (n + 1) = (100 + t, N)) K) := ww_ck fun h he H locs ls hD hl => by
  have hN : sz (n + 1) = N := by unfold sz; rw [h, if_neg (by show ¬ 100 + t < 100; omega)]
  refine va_newa hX.1 hX.2.1 (by rw [hty]; exact hX.2.2.2.2.1 _ har) hty hX.2.2.2.2.2.1 hD.1 wd_D hD.2 hA.a ha hz hzN hby hA.c (hA.s hN) hdg (fun q cA H1 hK1 hP1 hD1 hS1 => ?_)
  have e1 : cA = x_A X t := pr_ra hp (ty_of hK1) (hX.2.2.2.2.2.1.2 t _ ht).2
  subst e1
  exact al_go hA hN he (hcel h) hP1 hD1 hS1 hl kk
theorem vi0 {n : Nat} {cA : ClassId} {ty : FieldType} (h : defaultValue ty = .int 0) : vp_cell cA (n, .inl fun _ => 0) = arrV cA n (fun _ => defaultValue ty) := by rw [h]; rfl
theorem vl0 {n : Nat} {cA : ClassId} : vp_cell cA (n, .inr (.inl fun _ => 0)) = arrV cA n (fun _ => defaultValue .long) := rfl
theorem ww_newI {N : Nat} {z : Int32} (hX : Cx X cc own) (hA : RA X n) (hz : ¬ z < 0) (hzN : z.toNatClampNeg = N) (hby : N * 4 ≤ 536870912) (har : Cond.arrayClass .int ∈ tb) (hdg : decode cc pc = .ok (.newarray .int, 2)) (kk : WW X res (n + 1) (pc + 2) lv (.ref (x_b X + (n + 1)) :: stk) (zr st (n + 1)) K) : WW X res n pc lv (.int z :: stk) st (ck (kd (n + 1) = (100, N)) K) :=
  ww_newa (t := 0) (aty := .int) (ty := .int) (a0 := (N, .inl fun _ => 0)) hX hA rfl (fun _ h => by cases h) rfl (fun cA => vi0 rfl) (fun h => by rw [cel_i (t := 0) (by rw [h]) (by omega), gI_zr, h]) hz hzN hby har hdg kk
theorem ww_newB {N : Nat} {z : Int32} (hX : Cx X cc own) (hA : RA X n) (hz : ¬ z < 0) (hzN : z.toNatClampNeg = N) (hby : N * 1 ≤ 536870912) (har : Cond.arrayClass .byte ∈ tb) (hdg : decode cc pc = .ok (.newarray .byte, 2)) (kk : WW X res (n + 1) (pc + 2) lv (.ref (x_b X + (n + 1)) :: stk) (zr st (n + 1)) K) : WW X res n pc lv (.int z :: stk) st (ck (kd (n + 1) = (101, N)) K) :=
  ww_newa (t := 1) (aty := .byte) (ty := .byte) (a0 := (N, .inl fun _ => 0)) hX hA rfl (fun _ h => by cases h) rfl (fun cA => vi0 rfl) (fun h => by rw [cel_i (t := 1) (by rw [h]) (by omega), gI_zr, h]) hz hzN hby har hdg kk
theorem ww_newZ {N : Nat} {z : Int32} (hX : Cx X cc own) (hA : RA X n) (hz : ¬ z < 0) (hzN : z.toNatClampNeg = N) (hby : N * 1 ≤ 536870912) (har : Cond.arrayClass .boolean ∈ tb) (hdg : decode cc pc = .ok (.newarray .boolean, 2)) (kk : WW X res (n + 1) (pc + 2) lv (.ref (x_b X + (n + 1)) :: stk) (zr st (n + 1)) K) : WW X res n pc lv (.int z :: stk) st (ck (kd (n + 1) = (102, N)) K) :=
  ww_newa (t := 2) (aty := .boolean) (ty := .boolean) (a0 := (N, .inl fun _ => 0)) hX hA rfl (fun _ h => by cases h) rfl (fun cA => vi0 rfl) (fun h => by rw [cel_i (t := 2) (by rw [h]) (by omega), gI_zr, h]) hz hzN hby har hdg kk
theorem ww_newL {N : Nat} {z : Int32} (hX : Cx X cc own) (hA : RA X n) (hz : ¬ z < 0) (hzN : z.toNatClampNeg = N) (hby : N * 8 ≤ 536870912) (har : Cond.arrayClass .long ∈ tb) (hdg : decode cc pc = .ok (.newarray .long, 2)) (kk : WW X res (n + 1) (pc + 2) lv (.ref (x_b X + (n + 1)) :: stk) (zr st (n + 1)) K) : WW X res n pc lv (.int z :: stk) st (ck (kd (n + 1) = (103, N)) K) :=
  ww_newa (t := 3) (aty := .long) (ty := .long) (a0 := (N, .inr (.inl fun _ => 0))) hX hA rfl (fun _ h => by cases h) rfl (fun cA => vl0) (fun h => by rw [cel_l (by rw [h]), gL_zr, h]) hz hzN hby har hdg kk
theorem ww_newq {t N idx : Nat} {z : Int32} {C : String} (hX : Cx X cc own) (hA : RA X n) (h3 : 3 < t) (ht : (tysW (x_A X))[t]? = some (x_A X t, .object C)) (hz : ¬ z < 0) (hzN : z.toNatClampNeg = N) (hby : N * 4 ≤ 536870912) (hcl : Cond.classLink own idx C ∈ tb) (hov : va_AO C (x_s X)) (hdg : decode cc pc = .ok (.anewarray idx, 3)) (kk : WW X res (n + 1) (pc + 3) lv (.ref (x_b X + (n + 1)) :: stk) (zr st (n + 1)) K) : WW X res n pc lv (.int z :: stk) st (ck (kd (n + 1) = (100 + t, N)) K) := ww_ck fun h he H locs ls hD hl => by
  have hN : sz (n + 1) = N := by unfold sz; rw [h, if_neg (by show ¬ 100 + t < 100; omega)]
  refine va_newq hX.1 hX.2.1 hX.2.2.2.1 (hX.2.2.2.2.1 _ hcl) hov hX.2.2.2.2.2.1 hD.1 wd_D hD.2 hA.a hz hzN hby hA.c (hA.s hN) hdg (fun q cA H1 hK1 hP1 hD1 hS1 => ?_)
  have e1 : cA = x_A X t := ob_ra (ty_of hK1) (hX.2.2.2.2.2.1.2 t _ ht).2
  subst e1
  refine al_go hA hN he ?_ hP1 hD1 hS1 hl kk
  rw [cel_r (t := t) (by rw [h]) h3, gR_zr, h]
  rfl
theorem ww_objinit {idx : Nat} {x : Nat} (hX : Cx X cc own) (hl1 : Cond.methodLink own idx objectInit ∈ tb) (hi : Cond.instanceMethod objectInit ∈ tb) (hc : Cond.code objectInit ⟨#[0xb1]⟩ 1 none ∈ tb) (hr : 1 ≤ (x_R X).frames ∧ (stk.map fun v => v.category).sum + 12 ≤ (x_R X).locals) (hdg : decode cc pc = .ok (.invokespecial idx, 3)) (kk : WW X res n (pc + 3) lv stk st e) : WW X res n pc lv (.ref x :: stk) st e := fun he H locs ls hD hl =>
  W.objInit hX.1 hX.2.1 hX.2.2.2.1 (hX.2.2.2.2.1 _ hl1) (hX.2.2.2.2.1 _ hi) (hX.2.2.2.2.1 _ hc) rfl (by rw [hX.2.2.1]; exact hl.1) rfl hdg hr.1 (by have := hr.2; show 2 * 0 + _ + 12 ≤ _; omega) (kk he H locs ls hD hl)
end A
