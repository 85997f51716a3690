/-! PURE: tokens: what stands where, in the bytes b of a text of n bytes -/
def run (p : Nat → Bool) : Nat → Nat → Nat
  | 0, i => i
  | d + 1, i => if p i then run p d (i + 1) else i
theorem run_b (p : Nat → Bool) : ∀ d i, i ≤ run p d i ∧ run p d i ≤ i + d
  | 0, i => ⟨Nat.le_refl _, Nat.le_refl _⟩
  | d + 1, i => by
    show i ≤ (if p i then run p d (i + 1) else i) ∧ (if p i then run p d (i + 1) else i) ≤ i + (d + 1)
    have := run_b p d (i + 1)
    by_cases h : p i = true
    · rw [if_pos h]; omega
    · rw [if_neg h]; omega
theorem run_all (p : Nat → Bool) : ∀ d i j, i ≤ j → j < run p d i → p j = true
  | 0, i, j, h1, h2 => by
    have h3 : j < i := h2
    omega
  | d + 1, i, j, h1, h2 => by
    have h3 : j < (if p i then run p d (i + 1) else i) := h2
    by_cases h : p i = true
    · rw [if_pos h] at h3
      rcases Nat.eq_or_lt_of_le h1 with e | e
      · rw [← e]; exact h
      · exact run_all p d (i + 1) j e h3
    · rw [if_neg h] at h3; omega
theorem run_end (p : Nat → Bool) : ∀ d i, run p d i < i + d → p (run p d i) = false
  | 0, i, h => by
    have h3 : i < i + 0 := h
    omega
  | d + 1, i, h => by
    have e : run p (d + 1) i = if p i then run p d (i + 1) else i := rfl
    rw [e] at h ⊢
    by_cases hp : p i = true
    · rw [if_pos hp] at h ⊢
      exact run_end p d (i + 1) (by omega)
    · rw [if_neg hp]
      cases hq : p i
      · rfl
      · exact absurd hq hp
theorem run_t {p : Nat → Bool} {n i : Nat} (hi : i < n) (h : p i = true) : run p (n - i) i = run p (n - (i + 1)) (i + 1) := by
  rw [show n - i = n - (i + 1) + 1 by omega]
  show (if p i then run p (n - (i + 1)) (i + 1) else i) = _
  rw [if_pos h]
theorem run_f {p : Nat → Bool} {n i : Nat} (h : i < n → p i = false) : run p (n - i) i = i := by
  rcases Nat.lt_or_ge i n with hi | hi
  · rw [show n - i = n - (i + 1) + 1 by omega]
    show (if p i then run p (n - (i + 1)) (i + 1) else i) = _
    rw [h hi]
    rfl
  · rw [show n - i = 0 by omega]
    rfl
abbrev BY : Type := Nat → Int32
def isBl (x : Int32) : Bool := decide (x = 32) || (decide (x = 9) || (decide (x = 13) || decide (x = 10)))
def isLe (x : Int32) : Bool := !decide (x < 97) && !decide (122 < x)
def isDi (x : Int32) : Bool := !decide (x < 48) && !decide (57 < x)
def sgL : List Nat := [123, 125, 40, 41, 59, 44, 46, 45, 58, 64, 47, 124, 38, 33, 60, 62, 43, 37]
/-- the sign's code, or 3 (no token) -/
def sgC (x : Int32) : Nat := (sgL.find? (fun k => decide (x = nI k))).getD 3
/-- the number from p on, of d digits -/
def nv (b : BY) (p : Nat) : Nat → Nat
  | 0 => 0
  | d + 1 => if 10 * nv b p d + ix (b (p + d) - 48) ≤ 100000 then 10 * nv b p d + ix (b (p + d) - 48) else 100000
/-- the word from p on, of d letters: 5 bits each -/
def wv (b : BY) (p : Nat) : Nat → Nat
  | 0 => 0
  | d + 1 => 32 * wv b p d + ix (b (p + d) - 96)
/-- where the token that begins at p ends -/
def tE (b : BY) (n p : Nat) : Nat := if isLe (b p) then run (fun i => isLe (b i)) (n - p) p else if isDi (b p) then run (fun i => isDi (b i)) (n - p) p else p + 1
/-- its sort: 1 word, 2 number, 3 no token, else the sign -/
def tS (b : BY) (n p : Nat) : Nat := if isLe (b p) then (if tE b n p - p ≤ 12 then 1 else 3) else if isDi (b p) then (if 99999 < nv b p (tE b n p - p) ∨ (tE b n p < n ∧ isLe (b (tE b n p)) = true) then 3 else 2) else sgC (b p)
/-- where token t begins looking, where it stands -/
def af (b : BY) (n : Nat) : Nat → Nat
  | 0 => 0
  | t + 1 => if run (fun i => isBl (b i)) (n - af b n t) (af b n t) < n then tE b n (run (fun i => isBl (b i)) (n - af b n t) (af b n t)) else n
def pl (b : BY) (n t : Nat) : Nat := run (fun i => isBl (b i)) (n - af b n t) (af b n t)
def so (b : BY) (n t : Nat) : Nat := if pl b n t < n then tS b n (pl b n t) else 0
theorem tE_b {b : BY} {n p : Nat} (hp : p < n) : p < tE b n p ∧ tE b n p ≤ n := by
  unfold tE
  by_cases h1 : isLe (b p) = true
  · rw [if_pos h1, run_t hp h1]
    have := run_b (fun i => isLe (b i)) (n - (p + 1)) (p + 1)
    omega
  · rw [if_neg h1]
    by_cases h2 : isDi (b p) = true
    · rw [if_pos h2, run_t hp h2]
      have := run_b (fun i => isDi (b i)) (n - (p + 1)) (p + 1)
      omega
    · rw [if_neg h2]
      omega
theorem af_s (b : BY) (n t : Nat) : af b n (t + 1) = if pl b n t < n then tE b n (pl b n t) else n := rfl
theorem af_le (b : BY) (n : Nat) : ∀ t, af b n t ≤ n
  | 0 => Nat.zero_le _
  | t + 1 => by
    rw [af_s]
    by_cases h : pl b n t < n
    · rw [if_pos h]; exact (tE_b h).2
    · rw [if_neg h]; exact Nat.le_refl _
theorem pl_b (b : BY) (n t : Nat) : af b n t ≤ pl b n t ∧ pl b n t ≤ n := by
  have := run_b (fun i => isBl (b i)) (n - af b n t) (af b n t)
  have := af_le b n t
  unfold pl
  omega
theorem pl_lt (b : BY) (n t : Nat) (h : pl b n t < n) : pl b n t < af b n (t + 1) ∧ af b n (t + 1) ≤ pl b n (t + 1) := by
  have := pl_b b n (t + 1)
  rw [af_s, if_pos h] at this ⊢
  have := tE_b (b := b) h
  omega
theorem t_le (b : BY) (n : Nat) : ∀ t, pl b n t < n → t ≤ pl b n t
  | 0, _ => Nat.zero_le _
  | t + 1, h => by
    have h0 : pl b n t < n := by
      rcases Nat.lt_or_ge (pl b n t) n with x | x
      · exact x
      · exfalso
        have e : af b n (t + 1) = n := by rw [af_s, if_neg (by omega)]
        have := pl_b b n (t + 1)
        omega
    have := t_le b n t h0
    have := pl_lt b n t h0
    omega
theorem pl_end (b : BY) (n : Nat) {t : Nat} (h : pl b n t = n) : af b n (t + 1) = n ∧ pl b n (t + 1) = n := by
  have e : af b n (t + 1) = n := by rw [af_s, if_neg (by omega)]
  have := pl_b b n (t + 1)
  exact ⟨e, by omega⟩
theorem sgC_v (x : Int32) : sgC x = 3 ∨ (sgC x ∈ sgL ∧ x = nI (sgC x)) := by
  unfold sgC
  cases h : sgL.find? (fun k => decide (x = nI k)) with
  | none => exact Or.inl rfl
  | some k =>
    right
    have h1 := List.mem_of_find?_eq_some h
    have h2 := List.find?_some h
    exact ⟨h1, of_decide_eq_true h2⟩
theorem sgL_b : ∀ k, k ∈ sgL → 33 ≤ k ∧ k ≤ 125 ∧ ¬ (97 ≤ k ∧ k ≤ 122) ∧ ¬ (48 ≤ k ∧ k ≤ 57) := by decide
