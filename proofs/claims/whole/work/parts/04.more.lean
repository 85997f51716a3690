/-! further rows -/
theorem CVt.in {own : String} {idx : Nat} {y : MethodName} {cb : ByteArray} {nb : Nat} {ret : Option FieldType} {np t o : Nat} (h : CVt own idx y cb nb ret np t) : (kd o).1 = t → 1 ≤ o ∧ o ≤ NN := by
  obtain ⟨-, -, -, ht, -⟩ := h
  exact fun q => kd_in q (by omega)
section M
variable {ρ : Type} {X : CX} {res : ρ} {n pc : Nat} {lv : List (Nat × Value)} {rest stk : List Value} {st : St} {e K : Option ρ} {cc : ByteArray} {own : String}
theorem ww_iincb (hX : Cx X cc own) {nL : Nat} (hL : x_L X = nL) {i : Nat} {z : Int} {x c : Int32} {K : Int32 → Option ρ} {lv' : Int32 → List (Nat × Value)} (q : Nat) (hk : lv[q]? = some (i, .int x)) (hdg : decode cc pc = .ok (.iinc i z, 3)) (hc : Int32.ofInt z = c) (hn : i < nL) (hl : ∀ v : Int32, (i, Value.int v) :: lv.filter (fun q => !(q.1 == i) && !(q.1 + 1 == i && q.2.category == 2)) = lv' v) (k : ∀ v : Int32, WW X res n (pc + 3) (lv' v) stk st (K v)) : WW X res n pc lv stk st (bd (x + c) K) := by
  subst hc
  exact ww_iinc hX hL q hk hdg rfl hn (hl _) (k _)
theorem ww_bdR {b x : Nat} {K : Nat → Option ρ} (k : ∀ y : Nat, WW X res n pc lv (.ref (b + y) :: rest) st (K y)) : WW X res n pc lv (.ref (b + x) :: rest) st (bd x K) := k x
theorem ww_pc {a b : Nat} (h : a = b) (k : WW X res n b lv stk st e) : WW X res n a lv stk st e := h ▸ k
theorem ww_ldcS {q idx i : Nat} {tx : String} (hX : Cx X cc own) (hq : sT[q]? = some (own, idx, tx, i)) (hdg : decode cc pc = .ok (.ldc idx, 2)) (k : WW X res n (pc + 2) lv (.ref ((x_K X).1 i) :: stk) st e) : WW X res n pc lv stk st e :=
  ww_lift (fun _ _ _ _ _ _ w => va_ldcS hX.1 hX.2.1 hX.2.2.2.1 (hX.2.2.2.2.2.2.2.2 _ (List.mem_of_getElem? hq)) hdg w) k
end M
