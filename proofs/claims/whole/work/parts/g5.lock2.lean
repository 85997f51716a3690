/-! PURE: locks: the stack, class -/
theorem and2 {a b c d : Nat} (hb : b < 2) (hd : d < 2) : (2 * a + b) &&& (2 * c + d) = 2 * (a &&& c) + (b &&& d) := by
  have e1 : ((2 * a + b) &&& (2 * c + d)) % 2 ^ 1 = b &&& d := by
    rw [Nat.and_mod_two_pow, show (2 * a + b) % 2 ^ 1 = b by omega, show (2 * c + d) % 2 ^ 1 = d by omega]
  have e2 : ((2 * a + b) &&& (2 * c + d)) / 2 ^ 1 = a &&& c := by
    rw [← Nat.shiftRight_eq_div_pow, Nat.shiftRight_and_distrib, Nat.shiftRight_eq_div_pow, Nat.shiftRight_eq_div_pow, show (2 * a + b) / 2 ^ 1 = a by omega, show (2 * c + d) / 2 ^ 1 = c by omega]
  have e3 := Nat.div_add_mod ((2 * a + b) &&& (2 * c + d)) (2 ^ 1)
  rw [e1, e2] at e3
  omega
theorem or2 {a b c d : Nat} (hb : b < 2) (hd : d < 2) : (2 * a + b) ||| (2 * c + d) = 2 * (a ||| c) + (b ||| d) := by
  have e1 : ((2 * a + b) ||| (2 * c + d)) % 2 ^ 1 = b ||| d := by
    rw [Nat.or_mod_two_pow, show (2 * a + b) % 2 ^ 1 = b by omega, show (2 * c + d) % 2 ^ 1 = d by omega]
  have e2 : ((2 * a + b) ||| (2 * c + d)) / 2 ^ 1 = a ||| c := by
    rw [← Nat.shiftRight_eq_div_pow, Nat.shiftRight_or_distrib, Nat.shiftRight_eq_div_pow, Nat.shiftRight_eq_div_pow, show (2 * a + b) / 2 ^ 1 = a by omega, show (2 * c + d) / 2 ^ 1 = c by omega]
  have e3 := Nat.div_add_mod ((2 * a + b) ||| (2 * c + d)) (2 ^ 1)
  rw [e1, e2] at e3
  omega
theorem and_c {s : Nat} (hs : s < 2 ^ 63) (a b : Bool) : (2 * s + a.toNat) &&& (b.toNat ||| (2 ^ 64 - 2)) = 2 * s + (a && b).toNat := by
  have hm : s &&& (2 ^ 63 - 1) = s := by rw [Nat.and_two_pow_sub_one_eq_mod, Nat.mod_eq_of_lt hs]
  have e : b.toNat ||| (2 ^ 64 - 2) = 2 * (2 ^ 63 - 1) + b.toNat := by cases b <;> decide
  rw [e, and2 (by cases a <;> decide) (by cases b <;> decide), hm]
  cases a <;> cases b <;> rfl
theorem or_c (s : Nat) (a b : Bool) : (2 * s + a.toNat) ||| b.toNat = 2 * s + (a || b).toNat := by
  rw [show b.toNat = 2 * 0 + b.toNat by omega, or2 (by cases a <;> decide) (by cases b <;> decide), Nat.or_zero]
  cases a <;> cases b <;> rfl
theorem Run.bin {c1 c2 : List Nat} {v1 v2 : (Nat → Int32) → (Nat → Nat → Int32) → Bool} (g1 : Run c1 v1) (g2 : Run c2 v2) : Run (c1 ++ (c2 ++ [1])) (fun E A => v1 E A && v2 E A) ∧ Run (c1 ++ (c2 ++ [2])) (fun E A => v1 E A || v2 E A) := by
  obtain ⟨a1, a2, a3⟩ := g1
  obtain ⟨b1, b2, b3⟩ := g2
  have ok : ∀ k, k ≤ 2 → ∀ y, y ∈ c1 ++ (c2 ++ [k]) → cdOK y := fun k hk y hy => by
    rcases List.mem_append.mp hy with q | q
    · exact a2 y q
    · rcases List.mem_append.mp q with q | q
      · exact b2 y q
      · rw [List.mem_singleton.mp q]; exact ⟨by omega, by omega, by omega⟩
  have bb : ∀ b : Bool, b.toNat ≤ 1 := fun b => by cases b <;> decide
  have run : ∀ k E A d s, d + (c1.length + (c2.length + 1)) ≤ 62 → s < 2 ^ d → (c1 ++ (c2 ++ [k])).foldl (stp E A) s = stp E A (2 * (2 * s + (v1 E A).toNat) + (v2 E A).toNat) k ∧ s < 2 ^ 62 := fun k E A d s hd hs => by
    have := bb (v1 E A)
    rw [List.foldl_append, List.foldl_append, a3 E A d s (by omega) hs, b3 E A (d + 1) _ (by omega) (by rw [Nat.pow_succ]; omega)]
    exact ⟨rfl, Nat.lt_of_lt_of_le hs (Nat.pow_le_pow_right (by omega) (by omega))⟩
  refine ⟨⟨by simp <;> omega, ok 1 (by omega), fun E A d s hd hs => ?_⟩, ⟨by simp <;> omega, ok 2 (by omega), fun E A d s hd hs => ?_⟩⟩
  · obtain ⟨r1, r2⟩ := run 1 E A d s (by simp at hd; omega) hs
    rw [r1]
    have := bb (v2 E A)
    unfold stp
    rw [if_neg (by omega), if_pos (by omega), show (2 * (2 * s + (v1 E A).toNat) + (v2 E A).toNat) / 2 = 2 * s + (v1 E A).toNat by omega, show (2 * (2 * s + (v1 E A).toNat) + (v2 E A).toNat) % 2 = (v2 E A).toNat by omega]
    exact and_c (by omega) _ _
  · obtain ⟨r1, r2⟩ := run 2 E A d s (by simp at hd; omega) hs
    rw [r1]
    have := bb (v2 E A)
    unfold stp
    rw [if_neg (by omega), if_neg (by omega), if_pos (by omega), show (2 * (2 * s + (v1 E A).toNat) + (v2 E A).toNat) / 2 = 2 * s + (v1 E A).toNat by omega, show (2 * (2 * s + (v1 E A).toNat) + (v2 E A).toNat) % 2 = (v2 E A).toNat by omega]
    exact or_c _ _ _
theorem stp_lt (E : Nat → Int32) (A : Nat → Nat → Int32) {s j : Nat} (h : s < 2 ^ j) (x : Nat) : stp E A s x < 2 ^ (j + 1) := by
  have p : 2 ^ (j + 1) = 2 ^ j * 2 := Nat.pow_succ ..
  have p0 : 0 < 2 ^ j := Nat.pow_pos (by omega)
  unfold stp
  split
  · exact Nat.xor_lt_two_pow (by omega) (by omega)
  · split
    · exact Nat.lt_of_le_of_lt Nat.and_le_left (by omega)
    · split
      · exact Nat.or_lt_two_pow (by omega) (by omega)
      · cases tmV E A x
        · simp <;> omega
        · simp <;> omega
