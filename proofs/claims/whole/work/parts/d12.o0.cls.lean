/-! PURE: the class's empty -/
def gN (st : St) (n : Nat) : NW := (n, fun w => ix (gI st 140 w), fun w => ix (gI st 141 w), fun w => ix (gI st 142 w), fun w => ix (gI st 143 w))
def gC (st : St) : Nat → Nat := fun v => ix (gI st 144 v)
def gLi (st : St) (n : Nat) : Nat → List Nat := fun v => inc (gI st 140) (gI st 141) v n
/-- the house, out of what the ways' cells hold -/
theorem ways_G {st : St} (h : P_ways st) : ∃ n, gI st 153 113 = nI n ∧ (gN st n).ok ∧ LKs (gN st n) (gLi st n) ∧ sn 612 (aA (gLi st n)) ≤ 3264 ∧ CD0 (gN st n) (gLi st n) st ∧ ∀ v, v < 11 → gI st 144 v = nI (gC st v) ∧ gC st v ≤ 60 := by
  obtain ⟨n, h1, h2, h3, h4, h5, h6, h7, h8, h9, h10, h11, h12⟩ := h
  have W : ∀ w, w < n → (gI st 140 w = nI ((gN st n).fr w) ∧ gI st 141 w = nI ((gN st n).to w) ∧ gI st 142 w = nI ((gN st n).wd w) ∧ gI st 143 w = nI ((gN st n).tm w)) ∧ (gN st n).fr w ≤ 11 ∧ (gN st n).to w ≤ 11 ∧ (gN st n).fr w ≠ (gN st n).to w ∧ 1 ≤ (gN st n).wd w ∧ (gN st n).wd w ≤ 50 ∧ 1 ≤ (gN st n).tm w ∧ (gN st n).tm w ≤ 20 := fun w hw => by
    obtain ⟨a, b, x, y, e1, e2, e3, e4, r⟩ := h11 w hw
    have i1 : (gN st n).fr w = a := by show ix (gI st 140 w) = a; rw [e1]; exact ix_nI (by omega)
    have i2 : (gN st n).to w = b := by show ix (gI st 141 w) = b; rw [e2]; exact ix_nI (by omega)
    have i3 : (gN st n).wd w = x := by show ix (gI st 142 w) = x; rw [e3]; exact ix_nI (by omega)
    have i4 : (gN st n).tm w = y := by show ix (gI st 143 w) = y; rw [e4]; exact ix_nI (by omega)
    rw [i1, i2, i3, i4]
    exact ⟨⟨e1, e2, e3, e4⟩, r⟩
  refine ⟨n, h3, ⟨h1, fun w hw => (W w hw).2⟩, fun v hv => ⟨?_, fun j x hj => ?_, fun w hw => ⟨fun e => ?_, fun e => ?_⟩⟩, ?_, ⟨h2, fun w hw => (W w hw).1, h12⟩, fun v hv => ?_⟩
  · refine Nat.le_trans (inc_len n fun w hw e => ?_) h1
    obtain ⟨⟨w1, w2, -⟩, r1, r2, r3, -⟩ := W w hw
    rw [w1, w2] at e
    exact r3 ((nI_eq (by omega) (by omega)).mp e)
  · have m := (mem_inc (f := gI st 140) (t := gI st 141) (v := v) n h1 x).mp (List.mem_of_getElem? hj)
    rcases m with ⟨a, b⟩ | ⟨a, b, d⟩
    · refine ⟨fun _ => ⟨a, ?_⟩, fun c => by omega⟩
      show ix (gI st 140 x) = v
      rw [b]; exact ix_nI (by omega)
    · refine ⟨fun c => by omega, fun _ => ⟨b, ?_⟩⟩
      show ix (gI st 141 (x - 20)) = v
      rw [d]; exact ix_nI (by omega)
  · have : w ∈ inc (gI st 140) (gI st 141) v n := (mem_inc n h1 w).mpr (Or.inl ⟨hw, by rw [(W w hw).1.1, e]⟩)
    exact List.mem_iff_getElem?.mp this
  · have hw' : w < n := hw
    have : w + 20 ∈ inc (gI st 140) (gI st 141) v n := (mem_inc n h1 (w + 20)).mpr (Or.inr ⟨by omega, by omega, by rw [show w + 20 - 20 = w by omega, (W w hw).1.2.1, e]⟩)
    exact List.mem_iff_getElem?.mp this
  · have e : sn 612 (aA (gLi st n)) = 51 * sn 12 (fun v => (gLi st n v).length + 2) := sn_51 12 (fun v => (gLi st n v).length + 2)
    have e2 : sn 12 (fun v => (gLi st n v).length + 2) = sn 12 (fun v => (gLi st n v).length) + sn 12 (fun _ => 2) := sn_plus 12 _ _
    have e3 : sn 12 (fun v => (gLi st n v).length) ≤ 2 * n := sn_inc n
    rw [e, e2, sn_k]
    omega
  · obtain ⟨c, c1, c2⟩ := h9 v
    have i : gC st v = c := by show ix (gI st 144 v) = c; rw [c2]; exact ix_nI (by omega)
    rw [i]; exact ⟨c2, c1⟩
theorem empty_c {fu : Nat} (hf : 9000 ≤ fu) {st : St} (hT : Top st) {n : Nat} (ok : (gN st n).ok) (hL : LKs (gN st n) (gLi st n)) (hS : sn 612 (aA (gLi st n)) ≤ 3264) (hC : CD0 (gN st n) (gLi st n) st) (hc : ∀ v, v < 11 → gI st 144 v = nI (gC st v) ∧ gC st v ≤ 60) : ∃ r u, LTm (gN st n) (gC st) r ∧ Fr W_sd st u ∧ f_X11_empty fu 1 st = some (r, u) := by
  obtain ⟨r, u, a1, a2, a3⟩ := least_i ok hL hS hf (fun v hv => (hc v hv).2) fu 0 st (by omega) (by omega) hT hC (fun w _ hw => (hc w hw).1) (fun w hw => by omega)
  refine ⟨r, u, a1, a2, ?_⟩
  have e : f_X10_leastTime fu 139 st = some (r, u) := a3
  simp (disch := first | decide | omega) [↓bd_e, isb, ck_tt, NP, NF, NC, NB, NS, GS, kdC, tpC hT, f_X11_empty, ↓caO e]
