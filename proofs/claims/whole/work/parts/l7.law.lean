/-! PURE: the pure statement -/
theorem law_true : ∀ (xs : Nat → Int32) (L : Nat), L ≤ 448 → ∃ fu, law_f fu xs L st0 = some 1 := law_of fun st hT hY => by
  obtain ⟨r, u, w, a, b, f⟩ := empty_b (fu := 10000) (by omega) st hT hY
  exact ⟨r, u, w, a, b, f.wd (by decide), trivial⟩
