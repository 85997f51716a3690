/-! PURE: the text of a list: what it says -/
/-- the first of k words from w on that token t is; k: none of them -/
noncomputable def fW (b : BY) (n t : Nat) : Nat → Nat → Nat
  | _, 0 => 0
  | w, k + 1 => if wB b n t w then 0 else fW b n t (w + 1) k + 1
theorem fW_le (b : BY) (n t : Nat) : ∀ k w, fW b n t w k ≤ k
  | 0, _ => Nat.le_refl _
  | k + 1, w => by
    show (if wB b n t w then 0 else fW b n t (w + 1) k + 1) ≤ k + 1
    have := fW_le b n t k (w + 1)
    by_cases h : wB b n t w = true
    · rw [if_pos h]; omega
    · rw [if_neg h]; omega
theorem fW_t (b : BY) (n t : Nat) : ∀ k w, fW b n t w k < k → isW b n t (w + fW b n t w k)
  | 0, _, h => absurd h (Nat.not_lt_zero _)
  | k + 1, w, h => by
    have e : fW b n t w (k + 1) = if wB b n t w then 0 else fW b n t (w + 1) k + 1 := rfl
    by_cases hw : wB b n t w = true
    · rw [if_pos hw] at e
      rw [e]
      exact wB_t.mp hw
    · rw [if_neg hw] at e
      rw [e] at h ⊢
      have := fW_t b n t k (w + 1) (by omega)
      rw [show w + (fW b n t (w + 1) k + 1) = w + 1 + fW b n t (w + 1) k by omega]
      exact this
def pb {α β : Type} (r : PR α) (k : α → Nat → PR β) : PR β := match r with
  | .inl x => k x.1 x.2
  | .inr e => .inr e
def pName (b : BY) (n t : Nat) : PR Nat := pb (pNum b n 1 999 t) fun x t1 => if so b n t1 = 46 then pb (pNum b n 1 99 (t1 + 1)) fun y t2 => .inl (100 * x + y, t2) else .inl (100 * x, t1)
def bts (x y : Nat) : Nat := (2 ^ (y - x + 1) - 1) * 2 ^ (x - 1)
def pChs (b : BY) (n : Nat) : Nat → Nat → Nat → PR Nat
  | 0, _, t => .inr (1, pl b n t)
  | g + 1, m, t => pb (pNum b n 1 64 t) fun x t1 => pb (if so b n t1 = 45 then pNum b n x 64 (t1 + 1) else .inl (x, t1)) fun y t2 => if so b n t2 = 44 then pChs b n g (m ||| bts x y) (t2 + 1) else .inl (m ||| bts x y, t2)
abbrev AC : Type := Nat × Nat × Nat × Nat
def mo (k : Nat) : Nat := if k = 3 then 15 else if k = 1 ∨ k = 2 then 7 else 3
/-- the end of an act -/
noncomputable def pTl (b : BY) (n k t : Nat) : PR Nat := if k = 0 ∨ k = 5 then pb (pWd b n 15 t) fun _ t2 => pNum b n 0 255 t2 else if k = 1 then pb (pWd b n 14 t) fun _ t2 => pNum b n 0 99999 t2 else if k = 4 then pName b n t else .inl (0, t)
/-- its first part: whose it is, or the channels -/
def pHd (b : BY) (n k t : Nat) : PR (Nat × Nat) := if k = 0 then pb (pChs b n 4001 0 t) fun m t1 => .inl ((0, m), t1) else pb (pNum b n 0 (mo k) t) fun x t1 => .inl ((x, 0), t1)
noncomputable def pAct (b : BY) (n t : Nat) : PR AC := if 6 ≤ fW b n t 8 6 then .inr (1, pl b n t) else pb (pHd b n (fW b n t 8 6) (t + 1)) fun y t1 => pb (pTl b n (fW b n t 8 6) t1) fun v t2 => .inl ((fW b n t 8 6, y.1, v, y.2), t2)
noncomputable def pActL (b : BY) (n a t : Nat) : PR AC := if fW b n t 8 6 < 6 ∧ 300 ≤ a then .inr (2, pl b n t) else pAct b n t
/-- what a list holds: field, place: 0 name, 1 up, 2 down, 3 wait, 4 follow, 5 link, 6 the first act that counts, 7 the first act, 8 kind, 9 whose, 10 value, 11 channels -/
abbrev LD : Type := Nat → Nat → Nat
def st1 (D : LD) (j i v : Nat) : LD := fun x y => if x = j ∧ y = i then v else D x y
def stA (D : LD) (a : Nat) (k w v m : Nat) : LD := st1 (st1 (st1 (st1 D 8 a k) 9 a w) 10 a v) 11 a m
def pOpt (b : BY) (n c a o : Nat) (D : LD) (t : Nat) : PR LD :=
  if o = 0 then pb (pNum b n 0 9999 t) fun v t1 => .inl (st1 D 1 c v, t1)
  else if o = 1 then pb (pNum b n 0 9999 t) fun v t1 => .inl (st1 D 2 c v, t1)
  else if o = 2 then pb (pNum b n 0 9999 t) fun v t1 => .inl (st1 D 3 c v, t1)
  else if o = 3 then pb (pNum b n 1 9999 t) fun v t1 => .inl (st1 D 4 c v, t1)
  else if o = 4 then .inl (st1 D 6 c a, t)
  else pb (pName b n t) fun v t1 => .inl (st1 D 5 c v, t1)
/-- options, and the { behind them -/
noncomputable def pOpts (b : BY) (n c a : Nat) : Nat → Nat → LD → Nat → PR LD
  | 0, _, _, t => .inr (1, pl b n t)
  | g + 1, M, D, t => if fW b n t 2 6 < 6 then (if M / 2 ^ fW b n t 2 6 % 2 = 1 then .inr (3, pl b n t) else pb (pOpt b n c a (fW b n t 2 6) D (t + 1)) fun D1 t1 => pOpts b n c a g (M ||| 2 ^ fW b n t 2 6) D1 t1) else pb (pSg b n 123 t) fun _ t1 => .inl (D, t1)
noncomputable def pActs (b : BY) (n : Nat) : Nat → Nat → LD → Nat → PR (Nat × LD)
  | 0, _, _, t => .inr (1, pl b n t)
  | g + 1, a, D, t => if so b n t = 125 then .inl ((a, D), t + 1) else pb (pActL b n a t) fun x t1 => pb (pSg b n 59 t1) fun _ t2 => pActs b n g (a + 1) (stA D a x.1 x.2.1 x.2.2.1 x.2.2.2) t2
def hd0 (D : LD) (c nm : Nat) : LD := st1 (st1 (st1 (st1 (st1 (st1 (st1 D 0 c nm) 1 c 0) 2 c 0) 3 c 0) 4 c 0) 5 c 0) 6 c (if c = 0 then 0 else D 6 (c - 1))
noncomputable def pHead (b : BY) (n c : Nat) (D : LD) (t : Nat) : PR Nat := if wB b n t 1 then (if 60 ≤ c then .inr (2, pl b n t) else pb (pName b n (t + 1)) fun nm t1 => if 0 < c ∧ nm ≤ D 0 (c - 1) then .inr (3, pl b n (t + 1)) else .inl (nm, t1)) else .inr (1, pl b n t)
noncomputable def pCue (b : BY) (n c a : Nat) (D : LD) (t : Nat) : PR (Nat × LD) := pb (pHead b n c D t) fun nm t1 => pb (pOpts b n c a 7 0 (hd0 D c nm) t1) fun D2 t2 => pb (pActs b n 4001 a D2 t2) fun x t3 => .inl ((x.1, st1 x.2 7 (c + 1) x.1), t3)
noncomputable def pList (b : BY) (n : Nat) : Nat → Nat → Nat → LD → Nat → PR (Nat × Nat × LD)
  | 0, _, _, _, t => .inr (1, pl b n t)
  | g + 1, c, a, D, t => if so b n t = 0 then .inl ((c, a, D), t) else pb (pCue b n c a D t) fun x t1 => pList b n g (c + 1) x.1 x.2 t1
theorem pb_i {α β : Type} (x : α) (t : Nat) (k : α → Nat → PR β) : pb (.inl (x, t)) k = k x t := rfl
theorem pb_b {α β : Type} (e : Nat × Nat) (k : α → Nat → PR β) : pb (.inr e) k = .inr e := rfl
theorem pb_inl {α β : Type} {r : PR α} {k : α → Nat → PR β} {y : β} {t' : Nat} (h : pb r k = .inl (y, t')) : ∃ x t1, r = .inl (x, t1) ∧ k x t1 = .inl (y, t') := by
  cases r with
  | inl x => exact ⟨x.1, x.2, rfl, h⟩
  | inr e => cases h
theorem pb_inr {α β : Type} {r : PR α} {k : α → Nat → PR β} {f p : Nat} (h : pb r k = .inr (f, p)) : r = .inr (f, p) ∨ ∃ x t1, r = .inl (x, t1) ∧ k x t1 = .inr (f, p) := by
  cases r with
  | inl x => exact Or.inr ⟨x.1, x.2, rfl, h⟩
  | inr e =>
    injection h with h
    exact Or.inl (by rw [h])
/-- places of tokens grow -/
theorem pl_le {b : BY} {n : Nat} : ∀ {t t' : Nat}, t ≤ t' → pl b n t ≤ pl b n t'
  | t, 0, h => by rw [show t = 0 by omega]; exact Nat.le_refl _
  | t, t' + 1, h => by
    rcases Nat.eq_or_lt_of_le h with e | e
    · rw [e]; exact Nat.le_refl _
    · exact Nat.le_trans (pl_le (show t ≤ t' by omega)) (pl_m b n t')
theorem pName_i {b : BY} {n t v t' : Nat} (h : pName b n t = .inl (v, t')) : 100 ≤ v ∧ v ≤ 99999 ∧ t < t' ∧ so b n t = 2 := by
  obtain ⟨x, t1, h1, h2⟩ := pb_inl h
  obtain ⟨a1, a2, a3, a4, a5⟩ := pNum_i h1
  by_cases c : so b n t1 = 46
  · rw [if_pos c] at h2
    obtain ⟨y, t2, h3, h4⟩ := pb_inl h2
    obtain ⟨b1, b2, b3, b4, b5⟩ := pNum_i h3
    injection h4 with h4
    injection h4 with h5 h6
    omega
  · rw [if_neg c] at h2
    injection h2 with h4
    injection h4 with h5 h6
    omega
theorem pName_b {b : BY} {n t f p : Nat} (h : pName b n t = .inr (f, p)) : pl b n t ≤ p := by
  rcases pb_inr h with h1 | ⟨x, t1, h1, h2⟩
  · have := (pNum_b h1).1; omega
  · obtain ⟨a1, a2, a3, a4, a5⟩ := pNum_i h1
    by_cases c : so b n t1 = 46
    · rw [if_pos c] at h2
      rcases pb_inr h2 with h3 | ⟨y, t2, h3, h4⟩
      · have := (pNum_b h3).1
        have := pl_le (b := b) (n := n) (show t ≤ t1 + 1 by omega)
        omega
      · cases h4
    · rw [if_neg c] at h2; cases h2
theorem pChs_i {b : BY} {n : Nat} : ∀ {g m t v t' : Nat}, pChs b n g m t = .inl (v, t') → t < t'
  | 0, m, t, v, t', h => by cases h
  | g + 1, m, t, v, t', h => by
    obtain ⟨x, t1, h1, h2⟩ := pb_inl (show pb _ _ = _ from h)
    obtain ⟨-, -, -, -, a5⟩ := pNum_i h1
    obtain ⟨y, t2, h3, h4⟩ := pb_inl h2
    have t12 : t1 ≤ t2 := by
      by_cases c : so b n t1 = 45
      · rw [if_pos c] at h3
        have := (pNum_i h3).2.2.2.2
        omega
      · rw [if_neg c] at h3
        injection h3 with h3
        injection h3 with h5 h6
        omega
    by_cases c : so b n t2 = 44
    · rw [if_pos c] at h4
      have := pChs_i h4
      omega
    · rw [if_neg c] at h4
      injection h4 with h4
      injection h4 with h5 h6
      omega
theorem pChs_b {b : BY} {n : Nat} : ∀ {g m t f p : Nat}, pChs b n g m t = .inr (f, p) → pl b n t ≤ p
  | 0, m, t, f, p, h => by
    injection h with h
    injection h with h1 h2
    omega
  | g + 1, m, t, f, p, h => by
    rcases pb_inr (show pb _ _ = _ from h) with h1 | ⟨x, t1, h1, h2⟩
    · have := (pNum_b h1).1; omega
    · obtain ⟨-, -, -, -, a5⟩ := pNum_i h1
      rcases pb_inr h2 with h3 | ⟨y, t2, h3, h4⟩
      · by_cases c : so b n t1 = 45
        · rw [if_pos c] at h3
          have := (pNum_b h3).1
          have := pl_le (b := b) (n := n) (show t ≤ t1 + 1 by omega)
          omega
        · rw [if_neg c] at h3; cases h3
      · have t12 : t1 ≤ t2 := by
          by_cases c : so b n t1 = 45
          · rw [if_pos c] at h3
            have := (pNum_i h3).2.2.2.2
            omega
          · rw [if_neg c] at h3
            injection h3 with h3
            injection h3 with h5 h6
            omega
        by_cases c : so b n t2 = 44
        · rw [if_pos c] at h4
          have := pChs_b h4
          have := pl_le (b := b) (n := n) (show t ≤ t2 + 1 by omega)
          omega
        · rw [if_neg c] at h4; cases h4
theorem pChs_m {b : BY} {n : Nat} : ∀ {g m t v t' : Nat}, m < 2 ^ 64 → pChs b n g m t = .inl (v, t') → v < 2 ^ 64
  | 0, m, t, v, t', _, h => by cases h
  | g + 1, m, t, v, t', hm, h => by
    obtain ⟨x, t1, h1, h2⟩ := pb_inl (show pb _ _ = _ from h)
    obtain ⟨-, -, a3, a4, a5⟩ := pNum_i h1
    obtain ⟨y, t2, h3, h4⟩ := pb_inl h2
    have xy : x ≤ y ∧ y ≤ 64 := by
      by_cases c : so b n t1 = 45
      · rw [if_pos c] at h3
        obtain ⟨-, -, b3, b4, -⟩ := pNum_i h3
        omega
      · rw [if_neg c] at h3
        injection h3 with h3
        injection h3 with h5 h6
        omega
    have hb : bts x y < 2 ^ 64 := by
      have : ∀ x, x < 65 → ∀ y, y < 65 → 1 ≤ x → x ≤ y → bts x y < 2 ^ 64 := by decide +kernel
      exact this x (by omega) y (by omega) a3 xy.1
    have hm2 : m ||| bts x y < 2 ^ 64 := Nat.or_lt_two_pow hm hb
    by_cases c : so b n t2 = 44
    · rw [if_pos c] at h4
      exact pChs_m hm2 h4
    · rw [if_neg c] at h4
      injection h4 with h4
      injection h4 with h5 h6
      omega
theorem pTl_i {b : BY} {n k t v t' : Nat} (h : pTl b n k t = .inl (v, t')) : t ≤ t' ∧ v ≤ 99999 ∧ (k = 0 ∨ k = 5 → v ≤ 255) := by
  unfold pTl at h
  by_cases c : k = 0 ∨ k = 5
  · rw [if_pos c] at h
    obtain ⟨x, t1, h1, h2⟩ := pb_inl h
    have := (pWd_i h1).2
    obtain ⟨-, -, -, a4, a5⟩ := pNum_i h2
    omega
  · rw [if_neg c] at h
    by_cases c1 : k = 1
    · rw [if_pos c1] at h
      obtain ⟨x, t1, h1, h2⟩ := pb_inl h
      have := (pWd_i h1).2
      obtain ⟨-, -, -, a4, a5⟩ := pNum_i h2
      omega
    · rw [if_neg c1] at h
      by_cases c4 : k = 4
      · rw [if_pos c4] at h
        have := pName_i h
        omega
      · rw [if_neg c4] at h
        injection h with h
        injection h with h1 h2
        omega
theorem pTl_b {b : BY} {n k t f p : Nat} (h : pTl b n k t = .inr (f, p)) : pl b n t ≤ p := by
  have W : ∀ w hi, pb (pWd b n w t) (fun _ t2 => pNum b n 0 hi t2) = .inr (f, p) → pl b n t ≤ p := fun w hi h => by
    rcases pb_inr h with h1 | ⟨x, t1, h1, h2⟩
    · have := (pWd_b h1).1; omega
    · have e := (pWd_i h1).2
      have := (pNum_b h2).1
      have := pl_le (b := b) (n := n) (show t ≤ t1 by omega)
      omega
  unfold pTl at h
  by_cases c : k = 0 ∨ k = 5
  · rw [if_pos c] at h; exact W _ _ h
  · rw [if_neg c] at h
    by_cases c1 : k = 1
    · rw [if_pos c1] at h; exact W _ _ h
    · rw [if_neg c1] at h
      by_cases c4 : k = 4
      · rw [if_pos c4] at h; exact pName_b h
      · rw [if_neg c4] at h; cases h
theorem pHd_i {b : BY} {n k t t' : Nat} {y : Nat × Nat} (h : pHd b n k t = .inl (y, t')) : t < t' ∧ y.2 < 2 ^ 64 ∧ (k = 0 → y.1 = 0) ∧ (k ≠ 0 → y.2 = 0 ∧ y.1 ≤ mo k) := by
  unfold pHd at h
  by_cases c : k = 0
  · rw [if_pos c] at h
    obtain ⟨x, t1, h1, h2⟩ := pb_inl h
    have := pChs_i h1
    have := pChs_m (by decide) h1
    injection h2 with h2
    injection h2 with h3 h4
    subst h3
    exact ⟨by omega, this, fun _ => rfl, fun h => absurd c h⟩
  · rw [if_neg c] at h
    obtain ⟨x, t1, h1, h2⟩ := pb_inl h
    obtain ⟨-, -, -, a4, a5⟩ := pNum_i h1
    injection h2 with h2
    injection h2 with h3 h4
    subst h3
    exact ⟨by omega, by show (0 : Nat) < 2 ^ 64; decide, fun h => absurd h c, fun _ => ⟨rfl, a4⟩⟩
theorem pHd_b {b : BY} {n k t f p : Nat} (h : pHd b n k t = .inr (f, p)) : pl b n t ≤ p := by
  unfold pHd at h
  by_cases c : k = 0
  · rw [if_pos c] at h
    rcases pb_inr h with h1 | ⟨x, t1, h1, h2⟩
    · exact pChs_b h1
    · cases h2
  · rw [if_neg c] at h
    rcases pb_inr h with h1 | ⟨x, t1, h1, h2⟩
    · have := (pNum_b h1).1; omega
    · cases h2
/-- an act that begins with its word: its faults stand behind it -/
theorem pAct_b {b : BY} {n t f p : Nat} (hk : fW b n t 8 6 < 6) (h : pAct b n t = .inr (f, p)) : pl b n (t + 1) ≤ p := by
  unfold pAct at h
  rw [if_neg (by omega)] at h
  rcases pb_inr h with h1 | ⟨x, t1, h1, h2⟩
  · exact pHd_b h1
  · have := (pHd_i h1).1
    rcases pb_inr h2 with h3 | ⟨v, t2, h3, h4⟩
    · have := pTl_b h3
      have := pl_le (b := b) (n := n) (show t + 1 ≤ t1 by omega)
      omega
    · cases h4
theorem pAct_i {b : BY} {n t t' : Nat} {x : AC} (h : pAct b n t = .inl (x, t')) : t + 1 < t' ∧ x.1 = fW b n t 8 6 ∧ x.1 < 6 ∧ x.2.2.1 ≤ 99999 ∧ x.2.2.2 < 2 ^ 64 ∧ (x.1 = 0 → x.2.1 = 0) ∧ (x.1 ≠ 0 → x.2.2.2 = 0 ∧ x.2.1 ≤ mo x.1) ∧ (x.1 = 0 ∨ x.1 = 5 → x.2.2.1 ≤ 255) := by
  unfold pAct at h
  by_cases c : 6 ≤ fW b n t 8 6
  · rw [if_pos c] at h; cases h
  · rw [if_neg c] at h
    obtain ⟨y, t1, h1, h2⟩ := pb_inl h
    obtain ⟨v, t2, h3, h4⟩ := pb_inl h2
    obtain ⟨a1, a2, a3, a4⟩ := pHd_i h1
    obtain ⟨b1, b2, b3⟩ := pTl_i h3
    injection h4 with h4
    injection h4 with h5 h6
    subst h5
    exact ⟨by omega, rfl, by show fW b n t 8 6 < 6; omega, b2, a2, a3, a4, b3⟩
