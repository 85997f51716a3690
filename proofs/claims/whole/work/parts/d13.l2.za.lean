/-! PURE: the invariant at the start -/
theorem stI_1 : ∃ s, f_X11_init 10000 1 1 (zr st0 1) = some s ∧ f_X12_init 10000 153 153 (zr s 153) = some stI := by
  have h2 : ini2.isSome = true := ini2_ok
  have h3 : ini2 = some stI := by
    unfold stI
    cases e : ini2 with
    | none => rw [e] at h2; cases h2
    | some s => rfl
  cases e : ini1 with
  | none => unfold ini2 at h3; rw [e] at h3; cases h3
  | some s =>
    refine ⟨s, e, ?_⟩
    unfold ini2 at h3; rw [e] at h3; exact h3
theorem big_zr {st : St} (h : Big st) (o : Nat) : Big (zr st o) := ⟨fun a k h1 h2 => by
  show (if a = o then (0 : Int32) else gI st a k) = 0
  by_cases q : a = o
  · rw [if_pos q]
  · rw [if_neg q]; exact h.1 a k h1 h2, fun a k h1 => by
  show (if a = o then (0 : Int32) else gI st a k) = 0
  by_cases q : a = o
  · rw [if_pos q]
  · rw [if_neg q]; exact h.2 a k h1⟩
theorem stI_big : Big stI := by
  obtain ⟨s, h1, h2⟩ := stI_1
  exact z_X12_init _ _ _ _ (big_zr (z_X11_init _ _ _ _ (big_zr ⟨fun _ _ _ _ => rfl, fun _ _ _ => rfl⟩ 1) s h1) 153) stI h2
theorem zc {o n : Nat} (hk : kd o = (100, n) ∨ kd o = (101, n) ∨ kd o = (102, n)) (hb : ((List.range n).all fun k => decide (gI stI o k = 0)) = true) : ∀ k, gI stI o k = 0 := fun k => by
  have e : (kd o).2 = n ∧ 100 ≤ (kd o).1 := by rcases hk with q | q | q <;> rw [q] <;> exact ⟨rfl, by simp⟩
  rcases Nat.lt_or_ge k n with h | h
  · rw [List.all_eq_true] at hb
    exact of_decide_eq_true (hb k (List.mem_range.mpr h))
  · exact stI_big.1 o k e.2 (by rw [e.1]; exact h)
set_option maxRecDepth 1000000 in
theorem zA0 : ∀ o ∈ [28, 29, 196, 197], (kd o = (100, (kd o).2) ∨ kd o = (101, (kd o).2) ∨ kd o = (102, (kd o).2)) ∧ ((List.range (kd o).2).all fun k => decide (gI stI o k = 0)) = true := by decide +kernel
set_option maxRecDepth 1000000 in
theorem zA1 : ∀ o ∈ [6, 210, 116, 214, 118, 216], (kd o = (100, (kd o).2) ∨ kd o = (101, (kd o).2) ∨ kd o = (102, (kd o).2)) ∧ ((List.range (kd o).2).all fun k => decide (gI stI o k = 0)) = true := by decide +kernel
set_option maxRecDepth 1000000 in
theorem zA2 : ∀ o ∈ [140, 141, 142, 143, 144, 250, 251, 252, 253, 254], (kd o = (100, (kd o).2) ∨ kd o = (101, (kd o).2) ∨ kd o = (102, (kd o).2)) ∧ ((List.range (kd o).2).all fun k => decide (gI stI o k = 0)) = true := by decide +kernel
set_option maxRecDepth 1000000 in
theorem zA3 : ∀ o ∈ [231, 232], (kd o = (100, (kd o).2) ∨ kd o = (101, (kd o).2) ∨ kd o = (102, (kd o).2)) ∧ ((List.range (kd o).2).all fun k => decide (gI stI o k = 0)) = true := by decide +kernel
