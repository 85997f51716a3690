/-! PURE: the house as both sides know it -/
theorem mem_inc {f t : Nat → Int32} {v : Nat} : ∀ n, n ≤ 20 → ∀ x, x ∈ inc f t v n ↔ ((x < n ∧ f x = nI v) ∨ (20 ≤ x ∧ x - 20 < n ∧ t (x - 20) = nI v)) := by
  intro n
  induction n with
  | zero => intro _ x; simp [inc]
  | succ n ih =>
    intro hn x
    unfold inc
    rw [List.mem_append, List.mem_append, ih (by omega) x]
    constructor
    · rintro (((⟨a, b⟩ | ⟨a, b, d⟩) | h) | h)
      · exact Or.inl ⟨by omega, b⟩
      · exact Or.inr ⟨a, by omega, d⟩
      · by_cases q : f n = nI v
        · rw [if_pos q] at h
          have e : x = n := by simpa using h
          subst e
          exact Or.inl ⟨by omega, q⟩
        · rw [if_neg q] at h; simp at h
      · by_cases q : t n = nI v
        · rw [if_pos q] at h
          have e : x = n + 20 := by simpa using h
          subst e
          exact Or.inr ⟨by omega, by omega, by rw [show n + 20 - 20 = n by omega]; exact q⟩
        · rw [if_neg q] at h; simp at h
    · rintro (⟨a, b⟩ | ⟨a, b, d⟩)
      · by_cases e : x = n
        · subst e; rw [if_pos b]; exact Or.inl (Or.inr (by simp))
        · exact Or.inl (Or.inl (Or.inl ⟨by omega, b⟩))
      · by_cases e : x - 20 = n
        · rw [e] at d; rw [if_pos d]; exact Or.inr (by simp; omega)
        · exact Or.inl (Or.inl (Or.inr ⟨a, by omega, d⟩))
theorem sn_c {n : Nat} {f g : Nat → Nat} (h : ∀ i, i < n → f i = g i) : sn n f = sn n g := Nat.le_antisymm (sn_le fun i hi => Nat.le_of_eq (h i hi)) (sn_le fun i hi => Nat.le_of_eq (h i hi).symm)
theorem sn_ap (a b : Nat) (f : Nat → Nat) : sn (a + b) f = sn a f + sn b (fun i => f (a + i)) := by
  induction b with
  | zero => rfl
  | succ b ih => show sn (a + b) f + f (a + b) = sn a f + (sn b (fun i => f (a + i)) + f (a + b)); rw [ih]; omega
theorem sn_k (n x : Nat) : sn n (fun _ => x) = n * x := by
  induction n with
  | zero => simp [sn]
  | succ n ih => show sn n (fun _ => x) + x = _; rw [ih, Nat.succ_mul]
theorem sn_51 (m : Nat) (f : Nat → Nat) : sn (51 * m) (fun s => f (s / 51)) = 51 * sn m f := by
  induction m with
  | zero => rfl
  | succ m ih =>
    have e : sn 51 (fun i => f ((51 * m + i) / 51)) = 51 * f m := by
      rw [sn_c (f := fun i => f ((51 * m + i) / 51)) (g := fun _ => f m) (fun i hi => by show f ((51 * m + i) / 51) = f m; rw [show (51 * m + i) / 51 = m by omega]), sn_k]
    rw [show 51 * (m + 1) = 51 * m + 51 by omega, sn_ap, ih]
    show 51 * sn m f + sn 51 (fun i => f ((51 * m + i) / 51)) = 51 * (sn m f + f m)
    rw [e]; omega
theorem sn_plus (n : Nat) (f g : Nat → Nat) : sn n (fun i => f i + g i) = sn n f + sn n g := by
  induction n with
  | zero => rfl
  | succ n ih => show sn n (fun i => f i + g i) + (f n + g n) = (sn n f + f n) + (sn n g + g n); rw [ih]; omega
theorem sn_ind {n : Nat} (hn : n ≤ 12) (x : Int32) : sn n (fun v => if x = nI v then 1 else 0) ≤ 1 := by
  induction n with
  | zero => exact Nat.zero_le _
  | succ n ih =>
    show sn n (fun v => if x = nI v then 1 else 0) + (if x = nI n then 1 else 0) ≤ 1
    by_cases q : x = nI n
    · rw [if_pos q, sn_c (g := fun _ => 0) (fun i hi => by show (if x = nI i then 1 else 0) = 0; rw [if_neg fun c => absurd ((nI_eq (a := n) (b := i) (by omega) (by omega)).mp (q.symm.trans c)) (by omega)]), sn_k]; omega
    · rw [if_neg q]; have := ih (by omega); omega
theorem sn_inc {f t : Nat → Int32} : ∀ n, sn 12 (fun v => (inc f t v n).length) ≤ 2 * n := by
  intro n
  induction n with
  | zero => rw [sn_c (f := fun v => (inc f t v 0).length) (g := fun _ => 0) (fun i _ => rfl), sn_k]; omega
  | succ n ih =>
    have e : ∀ v, (inc f t v (n + 1)).length = (inc f t v n).length + ((if f n = nI v then 1 else 0) + (if t n = nI v then 1 else 0)) := fun v => by
      show (inc f t v n ++ (if f n = nI v then [n] else []) ++ (if t n = nI v then [n + 20] else [])).length = _
      by_cases a : f n = nI v <;> by_cases b : t n = nI v <;> simp [a, b]
    rw [sn_c (f := fun v => (inc f t v (n + 1)).length) (g := fun v => (inc f t v n).length + ((if f n = nI v then 1 else 0) + (if t n = nI v then 1 else 0))) (fun v _ => e v), sn_plus, sn_plus]
    have a := sn_ind (Nat.le_refl 12) (f n)
    have b := sn_ind (Nat.le_refl 12) (t n)
    omega
