/-! PURE: along a path from its end -/
theorem pu_rev {q : Nat → Nat} {b : Nat → Bool} {x m : Nat} {g : Nat → Nat} (hd : ∀ i j, i < j → j < m → q i ≠ q j) : pu (fun i => q (m - 1 - i)) (fun i => b (m - 1 - i)) x g m = pu q b x g m := by
  funext a
  have hd' : ∀ i j, i < j → j < m → (fun i => q (m - 1 - i)) i ≠ (fun i => q (m - 1 - i)) j := fun i j hi hj e => hd (m - 1 - j) (m - 1 - i) (by omega) (by omega) e.symm
  by_cases h : ∃ j, j < m ∧ q j = a
  · obtain ⟨j, hj, rfl⟩ := h
    rw [pu_i hd m (Nat.le_refl _) hj]
    have := pu_i (b := fun i => b (m - 1 - i)) (x := x) (g := g) hd' (j := m - 1 - j) m (Nat.le_refl _) (by omega)
    have e : m - 1 - (m - 1 - j) = j := by omega
    simp only [e] at this
    exact this
  · rw [pu_o m fun j hj e => h ⟨j, hj, e⟩, pu_o m fun j hj e => h ⟨m - 1 - j, by omega, e⟩]
