/-! PURE: flows over keys: sums, cuts, and what a cut says -/
def si : Nat → (Nat → Int) → Int
  | 0, _ => 0
  | n + 1, f => si n f + f n
theorem si_c {n : Nat} {f g : Nat → Int} (h : ∀ i, i < n → f i = g i) : si n f = si n g := by
  induction n with
  | zero => rfl
  | succ n ih => show si n f + f n = si n g + g n; rw [ih fun i hi => h i (by omega), h n (by omega)]
theorem si_le {n : Nat} {f g : Nat → Int} (h : ∀ i, i < n → f i ≤ g i) : si n f ≤ si n g := by
  induction n with
  | zero => exact Int.le_refl _
  | succ n ih => show si n f + f n ≤ si n g + g n; have := ih fun i hi => h i (by omega); have := h n (by omega); omega
theorem si_0 (n : Nat) : si n (fun _ => 0) = 0 := by
  induction n with
  | zero => rfl
  | succ n ih => show si n _ + 0 = 0; rw [ih]; rfl
theorem si_add (n : Nat) (f g : Nat → Int) : si n (fun i => f i + g i) = si n f + si n g := by
  induction n with
  | zero => rfl
  | succ n ih => show si n (fun i => f i + g i) + (f n + g n) = (si n f + f n) + (si n g + g n); rw [ih]; omega
theorem si_sub (n : Nat) (f g : Nat → Int) : si n (fun i => f i - g i) = si n f - si n g := by
  induction n with
  | zero => rfl
  | succ n ih => show si n (fun i => f i - g i) + (f n - g n) = (si n f + f n) - (si n g + g n); rw [ih]; omega
theorem si_swap (n m : Nat) (f : Nat → Nat → Int) : si n (fun i => si m (fun j => f i j)) = si m (fun j => si n (fun i => f i j)) := by
  induction n with
  | zero => exact (si_0 m).symm
  | succ n ih =>
    show si n (fun i => si m (fun j => f i j)) + si m (fun j => f n j) = si m (fun j => si n (fun i => f i j) + f n j)
    rw [ih, si_add]
theorem si_one (n k : Nat) (x : Int) : si n (fun i => if k = i then x else 0) = if k < n then x else 0 := by
  induction n with
  | zero => rfl
  | succ n ih =>
    show si n (fun i => if k = i then x else 0) + (if k = n then x else 0) = _
    rw [ih]
    by_cases h1 : k < n
    · rw [if_pos h1, if_neg (show ¬ k = n by omega), if_pos (show k < n + 1 by omega)]; omega
    · by_cases h2 : k = n
      · rw [if_neg h1, if_pos h2, if_pos (show k < n + 1 by omega)]; omega
      · rw [if_neg h1, if_neg h2, if_neg (show ¬ k < n + 1 by omega)]; rfl
theorem si_ge {n : Nat} {f : Nat → Int} (h : ∀ i, i < n → 0 ≤ f i) {k : Nat} (hk : k < n) : f k ≤ si n f := by
  induction n with
  | zero => omega
  | succ n ih =>
    show f k ≤ si n f + f n
    have h0 : 0 ≤ si n f := by
      have := si_le (n := n) (f := fun _ => 0) (g := f) fun i hi => h i (by omega)
      rw [si_0] at this; exact this
    by_cases e : k = n
    · subst e; omega
    · have := ih (fun i hi => h i (by omega)) (by omega)
      have := h n (by omega)
      omega
/-- what leaves a spot over the keys, less what comes to it -/
def bal (K : Nat) (src dst : Nat → Nat) (g : Nat → Int) (s : Nat) : Int := si K (fun a => (if src a = s then g a else 0) - (if dst a = s then g a else 0))
theorem bal_cut (K N : Nat) (src dst : Nat → Nat) (g : Nat → Int) (R : Nat → Bool) : si N (fun s => if R s then bal K src dst g s else 0) = si K (fun a => (if src a < N ∧ R (src a) = true then g a else 0) - (if dst a < N ∧ R (dst a) = true then g a else 0)) := by
  have e : si N (fun s => if R s then bal K src dst g s else 0) = si N (fun s => si K (fun a => (if R s then (if src a = s then g a else 0) else 0) - (if R s then (if dst a = s then g a else 0) else 0))) := si_c fun s _ => by
    by_cases h : R s = true
    · rw [if_pos h]; unfold bal; exact si_c fun a _ => by rw [if_pos h, if_pos h]
    · rw [if_neg h]; refine Eq.trans (si_0 K).symm (si_c fun a _ => ?_); simp [h]
  rw [e, si_swap]
  refine si_c fun a _ => ?_
  rw [si_sub]
  have q : ∀ x : Nat, si N (fun s => if R s then (if x = s then g a else 0) else 0) = if x < N ∧ R x = true then g a else 0 := fun x => by
    have e2 : si N (fun s => if R s then (if x = s then g a else 0) else 0) = si N (fun s => if x = s then (if R x then g a else 0) else 0) := si_c fun s _ => by
      by_cases h : x = s
      · subst h; simp
      · simp [h]
    rw [e2, si_one]
    by_cases h1 : x < N <;> by_cases h2 : R x = true <;> simp [h1, h2]
  rw [q, q]
/-- over a set that the one flow leaves in full and comes back to by nothing, no other flow brings out more -/
theorem cut_le {K N : Nat} {src dst : Nat → Nat} {f g : Nat → Int} {R : Nat → Bool} (h1 : ∀ a, a < K → (src a < N ∧ R (src a) = true) → ¬ (dst a < N ∧ R (dst a) = true) → f a ≤ g a) (h2 : ∀ a, a < K → ¬ (src a < N ∧ R (src a) = true) → (dst a < N ∧ R (dst a) = true) → g a ≤ f a) : si N (fun s => if R s then bal K src dst f s else 0) ≤ si N (fun s => if R s then bal K src dst g s else 0) := by
  rw [bal_cut, bal_cut]
  refine si_le fun a ha => ?_
  by_cases q1 : src a < N ∧ R (src a) = true
  · by_cases q2 : dst a < N ∧ R (dst a) = true
    · rw [if_pos q1, if_pos q2, if_pos q1, if_pos q2]; omega
    · rw [if_pos q1, if_neg q2, if_pos q1, if_neg q2]; have := h1 a ha q1 q2; omega
  · by_cases q2 : dst a < N ∧ R (dst a) = true
    · rw [if_neg q1, if_pos q2, if_neg q1, if_pos q2]; have := h2 a ha q1 q2; omega
    · rw [if_neg q1, if_neg q2, if_neg q1, if_neg q2]; omega
def updI (g : Nat → Int) (a : Nat) (x : Int) : Nat → Int := fun b => if b = a then x else g b
/-- more over one key: more from its one end, less from its other -/
theorem bal_upd {K : Nat} {src dst : Nat → Nat} {g : Nat → Int} {a : Nat} (ha : a < K) (x : Int) (s : Nat) : bal K src dst (updI g a (g a + x)) s = bal K src dst g s + ((if src a = s then x else 0) - (if dst a = s then x else 0)) := by
  have e : bal K src dst (updI g a (g a + x)) s = bal K src dst g s + si K (fun b => if a = b then ((if src a = s then x else 0) - (if dst a = s then x else 0)) else 0) := by
    unfold bal
    rw [← si_add]
    refine si_c fun b _ => ?_
    unfold updI
    by_cases h : b = a
    · subst h
      rw [if_pos rfl, if_pos rfl]
      by_cases q1 : src b = s <;> by_cases q2 : dst b = s <;> simp [q1, q2] <;> omega
    · rw [if_neg h, if_neg (show ¬ a = b from fun q => h q.symm)]; omega
  rw [e, si_one, if_pos ha]
