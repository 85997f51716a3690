theorem BC.h0 {X : CX} {cc : ByteArray} {own : String} {nL d n k m k' : Nat} {res : St} (B : BC X cc own nL d n k res) (h : n ≤ m ∧ m + k' ≤ n + k) : x_n X ≤ m := by rw [B.2.2.2.1]; exact h.1
theorem BC.hs {X : CX} {cc : ByteArray} {own : String} {nL d n k : Nat} {res : St} (B : BC X cc own nL d n k res) : (x_s X).heap.size = x_b X + 1 + x_n X := by rw [B.2.2.2.1]; exact B.2.2.2.2.2.2.2.2.1
theorem BC.hr {X : CX} {cc : ByteArray} {own : String} {nL d n k m k' d' nb : Nat} {res : St} (B : BC X cc own nL d n k res) (h : n ≤ m ∧ m + k' ≤ n + k) (hd : d' + 1 ≤ d) (hb : nb ≤ 80) : d' + 1 ≤ (x_R X).frames ∧ 8 + (nb + 11) + 100 * d' ≤ (x_R X).locals ∧ m + k' - x_n X ≤ (x_R X).cells ∧ sls (m + k') - sls (x_n X) ≤ (x_R X).slots := by
  obtain ⟨-, -, hR, hn, -⟩ := B
  rw [hR, hn]
  refine ⟨hd, ?_, ?_, ?_⟩
  · show 8 + (nb + 11) + 100 * d' ≤ 100 * d; omega
  · show m + k' - n ≤ k; omega
  · show sls (m + k') - sls n ≤ sls (n + k) - sls n
    have := sls_mono h.2
    omega
theorem BC.ho {X : CX} {cc : ByteArray} {own : String} {nL d n k : Nat} {res : St} {stk : List Value} (B : BC X cc own nL d n k res) (hd : 1 ≤ d) (hw : (stk.map fun v => v.category).sum ≤ 8) : 1 ≤ (x_R X).frames ∧ (stk.map fun v => v.category).sum + 12 ≤ (x_R X).locals := by
  obtain ⟨-, -, hR, -⟩ := B
  rw [hR]
  refine ⟨hd, ?_⟩
  show _ ≤ 100 * d
  omega
/-- room for a callee that makes no cells -/
theorem BC.hk {X : CX} {cc : ByteArray} {own : String} {nL d n k m d' nb : Nat} {res : St} (B : BC X cc own nL d n k res) (h : n ≤ m ∧ m ≤ n + k) (hd : d' + 1 ≤ d) (hb : nb ≤ 80) : Rk X m d' nb := by
  obtain ⟨h1, h2, h3, h4⟩ := BC.hr (k' := 0) B h hd hb
  exact ⟨h1, h2, h3, h4⟩
theorem ww_atN {ρ : Type} {X : CX} {res : ρ} {m pc : Nat} {lv : List (Nat × Value)} {stk : List Value} {st : St} {K : Option ρ} (k : WW X res NN pc lv stk st K) : WW X res m pc lv stk st (ck (m = NN) K) := ww_ck fun h => h ▸ k
theorem ar_i : Cond.arrayClass .int ∈ tb := tb_t (List.mem_of_getElem? (i := 153) (by decide +kernel)) rfl
theorem ar_b : Cond.arrayClass .byte ∈ tb := tb_t (List.mem_of_getElem? (i := 84) (by decide +kernel)) rfl
theorem ar_z : Cond.arrayClass .boolean ∈ tb := tb_t (List.mem_of_getElem? (i := 152) (by decide +kernel)) rfl
theorem ar_l : Cond.arrayClass .long ∈ tb := tb_t (List.mem_of_getElem? (i := 245) (by decide +kernel)) rfl
