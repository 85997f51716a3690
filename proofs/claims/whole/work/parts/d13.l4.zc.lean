/-! PURE: the holds' cells at the start, reference -/
set_option maxRecDepth 1000000 in
theorem zB217_0 : ((List.range 300).all fun k => decide (gI stI 217 (0 + k) = 0)) = true := by decide +kernel
set_option maxRecDepth 1000000 in
theorem zB217_1 : ((List.range 300).all fun k => decide (gI stI 217 (300 + k) = 0)) = true := by decide +kernel
set_option maxRecDepth 1000000 in
theorem zB217_2 : ((List.range 300).all fun k => decide (gI stI 217 (600 + k) = 0)) = true := by decide +kernel
set_option maxRecDepth 1000000 in
theorem zB217_3 : ((List.range 300).all fun k => decide (gI stI 217 (900 + k) = 0)) = true := by decide +kernel
theorem zB217 : ∀ k, gI stI 217 k = 0 := fun k => by
  have go : ∀ a, ((List.range 300).all fun k => decide (gI stI 217 (a + k) = 0)) = true → a ≤ k → k < a + 300 → gI stI 217 k = 0 := fun a h h1 h2 => by
    rw [List.all_eq_true] at h
    have := of_decide_eq_true (h (k - a) (List.mem_range.mpr (by omega)))
    rw [show a + (k - a) = k by omega] at this
    exact this
  by_cases h0 : 0 ≤ k ∧ k < 300
  · exact go 0 zB217_0 h0.1 h0.2
  by_cases h1 : 300 ≤ k ∧ k < 600
  · exact go 300 zB217_1 h1.1 h1.2
  by_cases h2 : 600 ≤ k ∧ k < 900
  · exact go 600 zB217_2 h2.1 h2.2
  by_cases h3 : 900 ≤ k ∧ k < 1200
  · exact go 900 zB217_3 h3.1 h3.2
  exact stI_big.1 217 k (by decide) (by rw [show (kd 217).2 = 1200 by decide]; omega)
