/-! PURE: the text of a lock: what it says. A lock: its codes, and what they say of events and axes -/
abbrev LK : Type := List Nat × ((Nat → Int32) → (Nat → Nat → Int32) → Bool)
def lLf (x : Nat) : LK := ([x], fun E A => tmV E A x)
def lNg (a : LK) : LK := (a.1 ++ [0], fun E A => !(a.2 E A))
def lAn (a c : LK) : LK := (a.1 ++ (c.1 ++ [1]), fun E A => a.2 E A && c.2 E A)
def lOr (a c : LK) : LK := (a.1 ++ (c.1 ++ [2]), fun E A => a.2 E A || c.2 E A)
/-- a token is taken: the 61st can't be -/
def tk {α : Type} (b : BY) (n t : Nat) (k : Nat → PR α) : PR α := if t < 60 then k (t + 1) else .inr (2, pl b n t)
def pN (b : BY) (n lo hi t : Nat) : PR Nat := pb (pNum b n lo hi t) fun v _ => tk b n t fun t1 => .inl (v, t1)
def pS (b : BY) (n c t : Nat) : PR Unit := pb (pSg b n c t) fun _ _ => tk b n t fun t1 => .inl ((), t1)
noncomputable def pTm (b : BY) (n t : Nat) : PR LK :=
  if wB b n t 9 then tk b n t fun t1 => pb (pN b n 0 7 t1) fun a t2 =>
      if so b n t2 = 60 then tk b n t2 fun t3 => pb (pN b n 0 99999 t3) fun c t4 => .inl (lLf (3 + 8 * a + 128 * c), t4)
      else pb (pS b n 62 t2) fun _ t3 => pb (pN b n 0 99999 t3) fun c t4 => .inl (lLf (4 + 8 * a + 128 * c), t4)
  else if wB b n t 16 then tk b n t fun t1 => pb (pN b n 0 7 t1) fun a t2 => .inl (lLf (5 + 8 * a + 128 * 0), t2)
  else if wB b n t 17 then tk b n t fun t1 => pb (pN b n 0 15 t1) fun a t2 => .inl (lLf (6 + 8 * a + 128 * 0), t2)
  else .inr (1, pl b n t)
def pAs (b : BY) (n : Nat) (f : Nat → PR LK) : Nat → LK → Nat → PR LK
  | 0, _, t => .inr (2, pl b n t)
  | g + 1, a, t => if so b n t = 38 then tk b n t fun t1 => pb (f t1) fun x t2 => pAs b n f g (lAn a x) t2 else .inl (a, t)
def pOs (b : BY) (n : Nat) (f : Nat → PR LK) : Nat → LK → Nat → PR LK
  | 0, _, t => .inr (2, pl b n t)
  | g + 1, o, t => if so b n t = 124 then tk b n t fun t1 => pb (f t1) fun x t2 => pb (pAs b n f 62 x t2) fun y t3 => pOs b n f g (lOr o y) t3 else .inl (o, t)
def pAnF (b : BY) (n : Nat) (f : Nat → PR LK) (t : Nat) : PR LK := pb (f t) fun x t1 => pAs b n f 62 x t1
def pOrF (b : BY) (n : Nat) (f : Nat → PR LK) (t : Nat) : PR LK := pb (pAnF b n f t) fun y t2 => pOs b n f 62 y t2
noncomputable def pNt (b : BY) (n : Nat) : Nat → Nat → PR LK
  | 0, t => if so b n t = 33 ∨ so b n t = 40 then .inr (2, pl b n t) else pTm b n t
  | d + 1, t => if so b n t = 33 then tk b n t fun t1 => pb (pNt b n d t1) fun x t2 => .inl (lNg x, t2)
      else if so b n t = 40 then tk b n t fun t1 => pb (pOrF b n (pNt b n d) t1) fun x t2 => pb (pS b n 41 t2) fun _ t3 => .inl (x, t3)
      else pTm b n t
noncomputable def pLock (b : BY) (n : Nat) : PR LK := pb (pOrF b n (pNt b n 12) 0) fun x t => if so b n t = 0 then .inl (x, t) else .inr (1, pl b n t)
theorem tk_t {α : Type} {b : BY} {n t : Nat} {k : Nat → PR α} (h : t < 60) : tk b n t k = k (t + 1) := if_pos h
theorem tk_f {α : Type} {b : BY} {n t : Nat} {k : Nat → PR α} (h : ¬ t < 60) : tk b n t k = .inr (2, pl b n t) := if_neg h
theorem tk_i {α : Type} {b : BY} {n t : Nat} {k : Nat → PR α} {x : α} {t' : Nat} (h : tk b n t k = .inl (x, t')) : t < 60 ∧ k (t + 1) = .inl (x, t') := by
  unfold tk at h
  by_cases c : t < 60
  · rw [if_pos c] at h; exact ⟨c, h⟩
  · rw [if_neg c] at h; cases h
theorem pN_i {b : BY} {n lo hi t v t' : Nat} (h : pN b n lo hi t = .inl (v, t')) : so b n t = 2 ∧ v = nvt b n t ∧ lo ≤ v ∧ v ≤ hi ∧ t' = t + 1 ∧ t < 60 := by
  obtain ⟨x, t1, h1, h2⟩ := pb_inl h
  obtain ⟨c, h3⟩ := tk_i h2
  obtain ⟨a1, a2, a3, a4, a5⟩ := pNum_i h1
  injection h3 with h3
  injection h3 with h4 h5
  subst h4
  exact ⟨a1, a2, a3, a4, h5.symm, c⟩
theorem pS_i {b : BY} {n c t t' : Nat} {x : Unit} (h : pS b n c t = .inl (x, t')) : so b n t = c ∧ t' = t + 1 ∧ t < 60 := by
  obtain ⟨y, t1, h1, h2⟩ := pb_inl h
  obtain ⟨c, h3⟩ := tk_i h2
  obtain ⟨a1, a2⟩ := pSg_i h1
  injection h3 with h3
  injection h3 with h4 h5
  exact ⟨a1, h5.symm, c⟩
/-- what a good one is: it takes tokens, no more codes than tokens, and its codes say it -/
def GD (t : Nat) (x : LK) (t' : Nat) : Prop := t < t' ∧ t' ≤ 60 ∧ x.1.length + t ≤ t' ∧ Run x.1 x.2
theorem GD.leaf {t t' x : Nat} (h1 : t < t') (h2 : t' ≤ 60) (h : cdOK x) (h3 : 3 ≤ x % 8) : GD t (lLf x) t' := ⟨h1, h2, by show 1 + t ≤ t'; omega, Run.leaf h h3⟩
theorem pTm_i {b : BY} {n t t' : Nat} {x : LK} (h : pTm b n t = .inl (x, t')) : GD t x t' := by
  unfold pTm at h
  by_cases w9 : wB b n t 9 = true
  · rw [if_pos w9] at h
    obtain ⟨-, h⟩ := tk_i h
    obtain ⟨a, t2, h1, h⟩ := pb_inl h
    obtain ⟨-, -, -, a2, a3, a4⟩ := pN_i h1
    by_cases c : so b n t2 = 60
    · rw [if_pos c] at h
      obtain ⟨-, h⟩ := tk_i h
      obtain ⟨v, t4, h2, h⟩ := pb_inl h
      obtain ⟨-, -, -, b2, b3, b4⟩ := pN_i h2
      injection h with h
      injection h with e1 e2
      rw [← e1]
      exact GD.leaf (by omega) (by omega) ⟨by omega, by omega, fun _ _ => by omega⟩ (by omega)
    · rw [if_neg c] at h
      obtain ⟨u0, t3, h3, h⟩ := pb_inl h
      obtain ⟨-, s2, s3⟩ := pS_i h3
      obtain ⟨v, t4, h2, h⟩ := pb_inl h
      obtain ⟨-, -, -, b2, b3, b4⟩ := pN_i h2
      injection h with h
      injection h with e1 e2
      rw [← e1]
      exact GD.leaf (by omega) (by omega) ⟨by omega, by omega, fun _ _ => by omega⟩ (by omega)
  · rw [if_neg w9] at h
    by_cases w16 : wB b n t 16 = true
    · rw [if_pos w16] at h
      obtain ⟨-, h⟩ := tk_i h
      obtain ⟨a, t2, h1, h⟩ := pb_inl h
      obtain ⟨-, -, -, a2, a3, a4⟩ := pN_i h1
      injection h with h
      injection h with e1 e2
      rw [← e1]
      exact GD.leaf (by omega) (by omega) ⟨by omega, by omega, fun _ _ => by omega⟩ (by omega)
    · rw [if_neg w16] at h
      by_cases w17 : wB b n t 17 = true
      · rw [if_pos w17] at h
        obtain ⟨-, h⟩ := tk_i h
        obtain ⟨a, t2, h1, h⟩ := pb_inl h
        obtain ⟨-, -, -, a2, a3, a4⟩ := pN_i h1
        injection h with h
        injection h with e1 e2
        rw [← e1]
        exact GD.leaf (by omega) (by omega) ⟨by omega, by omega, fun _ _ => by omega⟩ (by omega)
      · rw [if_neg w17] at h; cases h
theorem GD.an {t t1 t2 : Nat} {a x : LK} (ha : GD t a t1) (hx : GD (t1 + 1) x t2) : GD t (lAn a x) t2 := by
  obtain ⟨a1, a2, a3, a4⟩ := ha
  obtain ⟨b1, b2, b3, b4⟩ := hx
  refine ⟨by omega, b2, ?_, (Run.bin a4 b4).1⟩
  show (a.1 ++ (x.1 ++ [1])).length + t ≤ t2
  simp only [List.length_append, List.length_singleton]
  omega
theorem GD.or {t t1 t2 : Nat} {a x : LK} (ha : GD t a t1) (hx : GD (t1 + 1) x t2) : GD t (lOr a x) t2 := by
  obtain ⟨a1, a2, a3, a4⟩ := ha
  obtain ⟨b1, b2, b3, b4⟩ := hx
  refine ⟨by omega, b2, ?_, (Run.bin a4 b4).2⟩
  show (a.1 ++ (x.1 ++ [2])).length + t ≤ t2
  simp only [List.length_append, List.length_singleton]
  omega
theorem GD.ng {t t1 : Nat} {a : LK} (ha : GD (t + 1) a t1) : GD t (lNg a) t1 := by
  obtain ⟨a1, a2, a3, a4⟩ := ha
  refine ⟨by omega, a2, ?_, Run.neg a4⟩
  show (a.1 ++ [0]).length + t ≤ t1
  simp only [List.length_append, List.length_singleton]
  omega
theorem pAs_i {b : BY} {n : Nat} {f : Nat → PR LK} (hf : ∀ t x t', f t = .inl (x, t') → GD t x t') : ∀ (g : Nat) (t0 : Nat) (a : LK) (t : Nat) (x : LK) (t' : Nat), GD t0 a t → pAs b n f g a t = .inl (x, t') → GD t0 x t'
  | 0, t0, a, t, x, t', ha, h => by cases h
  | g + 1, t0, a, t, x, t', ha, h => by
    unfold pAs at h
    by_cases c : so b n t = 38
    · rw [if_pos c] at h
      obtain ⟨-, h⟩ := tk_i h
      obtain ⟨y, t2, h1, h⟩ := pb_inl h
      exact pAs_i hf g t0 _ t2 x t' (GD.an ha (hf _ _ _ h1)) h
    · rw [if_neg c] at h
      injection h with h
      injection h with e1 e2
      subst e1 e2
      exact ha
theorem pOs_i {b : BY} {n : Nat} {f : Nat → PR LK} (hf : ∀ t x t', f t = .inl (x, t') → GD t x t') : ∀ (g : Nat) (t0 : Nat) (a : LK) (t : Nat) (x : LK) (t' : Nat), GD t0 a t → pOs b n f g a t = .inl (x, t') → GD t0 x t'
  | 0, t0, a, t, x, t', ha, h => by cases h
  | g + 1, t0, a, t, x, t', ha, h => by
    unfold pOs at h
    by_cases c : so b n t = 124
    · rw [if_pos c] at h
      obtain ⟨-, h⟩ := tk_i h
      obtain ⟨y, t2, h1, h⟩ := pb_inl h
      obtain ⟨z, t3, h2, h⟩ := pb_inl h
      exact pOs_i hf g t0 _ t3 x t' (GD.or ha (pAs_i hf 62 _ _ _ _ _ (hf _ _ _ h1) h2)) h
    · rw [if_neg c] at h
      injection h with h
      injection h with e1 e2
      subst e1 e2
      exact ha
theorem pOrF_i {b : BY} {n : Nat} {f : Nat → PR LK} (hf : ∀ t x t', f t = .inl (x, t') → GD t x t') {t t' : Nat} {x : LK} (h : pOrF b n f t = .inl (x, t')) : GD t x t' := by
  obtain ⟨y, t2, h1, h2⟩ := pb_inl h
  obtain ⟨z, t1, h3, h4⟩ := pb_inl h1
  exact pOs_i hf 62 _ _ _ _ _ (pAs_i hf 62 _ _ _ _ _ (hf _ _ _ h3) h4) h2
theorem pNt_i {b : BY} {n : Nat} : ∀ (d t : Nat) (x : LK) (t' : Nat), pNt b n d t = .inl (x, t') → GD t x t'
  | 0, t, x, t', h => by
    unfold pNt at h
    by_cases c : so b n t = 33 ∨ so b n t = 40
    · rw [if_pos c] at h; cases h
    · rw [if_neg c] at h; exact pTm_i h
  | d + 1, t, x, t', h => by
    unfold pNt at h
    by_cases c : so b n t = 33
    · rw [if_pos c] at h
      obtain ⟨-, h⟩ := tk_i h
      obtain ⟨y, t2, h1, h⟩ := pb_inl h
      injection h with h
      injection h with e1 e2
      subst e1 e2
      exact GD.ng (pNt_i d _ _ _ h1)
    · rw [if_neg c] at h
      by_cases c4 : so b n t = 40
      · rw [if_pos c4] at h
        obtain ⟨-, h⟩ := tk_i h
        obtain ⟨y, t2, h1, h⟩ := pb_inl h
        obtain ⟨u0, t3, h2, h⟩ := pb_inl h
        obtain ⟨-, s2, s3⟩ := pS_i h2
        injection h with h
        injection h with e1 e2
        subst e1 e2
        obtain ⟨q1, q2, q3, q4⟩ := pOrF_i (pNt_i d) h1
        exact ⟨by omega, by omega, by omega, q4⟩
      · rw [if_neg c4] at h; exact pTm_i h
theorem pOr_i {b : BY} {n d t t' : Nat} {x : LK} (h : pOrF b n (pNt b n d) t = .inl (x, t')) : GD t x t' := pOrF_i (pNt_i d) h
