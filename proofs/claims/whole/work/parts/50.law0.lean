/-! THE LAW: its context and rows (the definitions lw_.. are the skeleton's) -/
def R_law : String := "StageHouseLaw"
def lw_P (b : Addr) (xs : List Int32) (args : Array Value) (s : State) : Prop := args = #[.ref b] ∧ s.IntsAt b xs ∧ xs.length ≤ 448 ∧ (Jvm.Cond.and given_1 narrow_1).before args s = true
def lw_Q (_ : Array Value) (s : State) (o : Outcome) (t : State) : Prop := o = .returned (some (.int 1)) ∧ Framed s o t [] 600000 7302250
def lw_Z (below : List Frame) (a : Array Value) (s : State) : State → Prop := fun t => ∃ o, t.status = .running ∧ Ended t below o ∧ lw_Q a s o t
/-- the law's own end, with 1 on the stack, nothing written that was there before, its room as the claim has it -/
theorem lw_ret {p : Program} {l : Launch} {e : Env} {s : State} {m : MethodId} {below : List Frame} {meth : Method} {c : Code} {b : Nat} (hx : p.tables.exec = Jvm.exec) (hb : c.code = code) (hr : meth.sig.returnType = ret) (hlocks : meth.locks = false) {pc : Nat} {H : Heap} {ls : Array Slot} (hdg : decode code pc = .ok (.ireturn, 1)) : W p l e room_1 s m #[Value.ref b] below meth c H [] 600000 7302250 (lw_Z below #[Value.ref b] s) (F0 m pc ls [.int 1]) := by
  intro T hT X
  obtain ⟨fs, hret, hrun, hended, hW, hframe⟩ := X.leave (v := some (.int 1)) (hlocks := hlocks) (fun h => by rw [hr] at h; cases h)
  have hmeth' : T.vm.method? m = some meth := X.method'
  refine ⟨T.setFrames fs, ?_, .returned (some (.int 1)), hrun, hended, rfl, ⟨_, rfl⟩, hW, hframe⟩
  jvm_step X.here [X.here.top, hx, hb, hdg, hmeth', hr, ret, narrow_b1]
  (try refine ⟨rfl, ?_⟩); (try refine ⟨rfl, ?_⟩)
  first | (intro acts; rw [hret _ acts rfl rfl rfl]) | rw [hret _ _ rfl rfl rfl]
  exact Steps.refl _
/-- what holds at the law's entry: the machine, the code, the tables' words (any of lw_tbl by 'hts w (by decide +kernel)'), the script of L ints xs at the cell b, what the Statement gives of the start (any of its parts by flat_of_before) -/
def lw_At (p : Program) (s : State) (m : MethodId) (meth : Method) (c : Code) (b L : Nat) (xs : Nat → Int32) : Prop :=
  p.tables.exec = Jvm.exec ∧ c.code = code ∧ meth.sig.returnType = ret ∧ c.maxLocals = 4 ∧ s.vm.findClass R_law = some m.cls ∧ (∀ w ∈ lw_tbl, w.before #[Value.ref b] s = true) ∧ va_X b L xs s s.heap ∧ b < s.heap.size ∧ meth.locks = false ∧ (Jvm.Cond.and given_1 narrow_1).before #[Value.ref b] s = true
/-- the context of the law's walk: the script of L ints xs lies at the cell sb -/
def BQ (X : CX) (sb L : Nat) (xs : Nat → Int32) : Prop := Cx X code RL ∧ x_L X = 4 ∧ x_R X = room_1 ∧ x_n X = 0 ∧ (x_t X).sig.returnType = ret ∧ (x_t X).locks = false ∧ x_Q X = lw_Z (x_w X) #[Value.ref sb] (x_s X) ∧ x_a X = #[Value.ref sb] ∧ (x_s X).heap.size = x_b X + 1 ∧ va_X sb L xs (x_s X) (x_s X).heap ∧ sb < (x_s X).heap.size ∧ NL (x_s X)
theorem sls_N : sls NN ≤ 7000000 := by decide +kernel
section LW
variable {X : CX} {n pc sb L : Nat} {xs : Nat → Int32} {lv : List (Nat × Value)} {rest stk : List Value} {st : St} {e K : Option Int32} {res : Int32}
theorem ww_sld {i : Int32} (B : BQ X sb L xs) (hdg : decode code pc = .ok (.iaload, 1)) (k : WW X res n (pc + 1) lv (.int (xs (ix i)) :: stk) st K) : WW X res n pc lv (.int i :: .ref sb :: stk) st (ck (inb i L) K) := ww_ck fun hi he H locs ls hD hl => by
  obtain ⟨hX, -, -, -, -, -, -, -, hs, hv, hb, -⟩ := B
  exact va_sld hX.1 hX.2.1 hv hb (by rw [hs] at hb; show ¬ x_b X < sb; omega) hD.2 hi hdg (k he H locs ls hD hl)
theorem ww_slen (B : BQ X sb L xs) (hdg : decode code pc = .ok (.arraylength, 1)) (k : WW X res n (pc + 1) lv (.int (Int32.ofNat L) :: stk) st e) : WW X res n pc lv (.ref sb :: stk) st e := fun he H locs ls hD hl => by
  obtain ⟨hX, -, -, -, -, -, -, -, hs, hv, hb, -⟩ := B
  exact va_slen hX.1 hX.2.1 hv hb (by rw [hs] at hb; show ¬ x_b X < sb; omega) hD.2 hdg (k he H locs ls hD hl)
theorem ww_lawret {x : Int32} (B : BQ X sb L xs) (hdg : decode code pc = .ok (.ireturn, 1)) : WW X (1 : Int32) NN pc lv [.int x] st (some x) := fun he H locs ls hD hl => by
  obtain ⟨hX, -, hR, hn, hr, hlo, hQ, ha, hs, hv, hb, -⟩ := B
  obtain rfl := Option.some.inj he
  have h1 := sls_N
  show W _ _ _ (x_R X) _ _ (x_a X) _ _ _ _ _ _ _ (x_Q X) _
  rw [hQ, hR, ha]
  refine va_forget (fun q hq => by have := hD.2.2.2 q hq; rw [hs]; exact this) ?_
  refine W.widen (k := 600000) (n := 7302250) (by rw [hn]; decide) (by rw [hn]; exact Nat.le_trans (Nat.sub_le _ _) (Nat.le_trans h1 (by decide))) ?_
  exact lw_ret hX.1 hX.2.1 hr hlo hdg
theorem BQ.rk {d' nb : Nat} (B : BQ X sb L xs) (hd : d' ≤ 400) (hb : nb ≤ 80) : Rk X NN d' nb := by
  obtain ⟨-, -, hR, hn, -⟩ := B
  have h1 := sls_N
  unfold Rk
  rw [hR, hn]
  refine ⟨?_, ?_, ?_, ?_⟩
  · show d' + 1 ≤ 2048; omega
  · show 8 + (nb + 11) + 100 * d' ≤ 84000; omega
  · show NN - 0 ≤ 600000; decide
  · show sls NN - sls 0 ≤ 7302250; omega
theorem BQ.ra {m : Nat} (B : BQ X sb L xs) (hm : m + 1 ≤ NN) : RA X m := by
  obtain ⟨-, -, hR, hn, -, -, -, -, hs, -⟩ := B
  have h1 := sls_N
  have h2 := sls_mono hm
  have h3 : NN = 261 := rfl
  refine ⟨by omega, by rw [hn]; exact hs, ?_, ?_⟩
  · rw [hR, hn]; show m + 1 - 0 ≤ 600000; omega
  · rw [hR, hn]; show sls (m + 1) - sls 0 ≤ 7302250; omega
theorem BQ.rc {m k' d' nb : Nat} (B : BQ X sb L xs) (hm : m + k' ≤ NN) (hd : d' ≤ 400) (hb : nb ≤ 80) : d' + 1 ≤ (x_R X).frames ∧ 8 + (nb + 11) + 100 * d' ≤ (x_R X).locals ∧ m + k' - x_n X ≤ (x_R X).cells ∧ sls (m + k') - sls (x_n X) ≤ (x_R X).slots := by
  obtain ⟨-, -, hR, hn, -⟩ := B
  have h1 := sls_N
  have h2 := sls_mono hm
  have h3 : NN = 261 := rfl
  rw [hR, hn]
  refine ⟨?_, ?_, ?_, ?_⟩
  · show d' + 1 ≤ 2048; omega
  · show 8 + (nb + 11) + 100 * d' ≤ 84000; omega
  · show m + k' - 0 ≤ 600000; omega
  · show sls (m + k') - sls 0 ≤ 7302250; omega
end LW
