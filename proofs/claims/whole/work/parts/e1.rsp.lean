/-! PURE: the text of rules: what it says. E: 0 least, 1 kinds, 2 days, 3 sections, 4 sign, 5 number (by rule), 6 first condition (by rule), 7 kind, 8 number (by condition) -/
def hC (k : Nat) : Nat := if k = 0 then 10 else if k = 1 then 3 else if k = 2 then 6 else 7
def lC (k : Nat) : Nat := if k = 0 then 1 else 0
noncomputable def pCd (b : BY) (n t : Nat) : PR (Nat × Nat) := if 4 ≤ fW b n t 18 4 then .inr (1, pl b n t) else pb (pNum b n (lC (fW b n t 18 4)) (hC (fW b n t 18 4)) (t + 1)) fun v t1 => .inl ((fW b n t 18 4, v), t1)
def vC (E : LD) (i k v : Nat) : Nat := if k = 0 then (if E 0 i ≤ v then v else E 0 i) else E k i &&& 2 ^ v
def uC (E : LD) (i c k v : Nat) : LD := st1 (st1 (st1 E k i (vC E i k v)) 7 c (k + 1)) 8 c v
noncomputable def pCds (b : BY) (n i : Nat) : Nat → Nat → LD → Nat → PR (Nat × LD)
  | 0, _, _, t => .inr (1, pl b n t)
  | g + 1, c, E, t => pb (pCd b n t) fun x t1 => if so b n t1 = 44 then pCds b n i g (c + 1) (uC E i c x.1 x.2) (t1 + 1) else .inl ((c + 1, uC E i c x.1 x.2), t1)
def isCh (s : Nat) : Prop := s = 37 ∨ s = 45 ∨ s = 43 ∨ s = 64
def hCh (s : Nat) : Nat := if s = 37 then 200 else 99999
noncomputable def pChg (b : BY) (n t : Nat) : PR (Nat × Nat) := if so b n t = 37 ∨ so b n t = 45 ∨ so b n t = 43 ∨ so b n t = 64 then pb (pNum b n 0 (hCh (so b n t)) (t + 1)) fun v t1 => .inl ((so b n t, v), t1) else .inr (1, pl b n t)
def r0E (E : LD) (i : Nat) : LD := st1 (st1 (st1 (st1 E 0 i 0) 1 i 15) 2 i 127) 3 i 255
noncomputable def pRule (b : BY) (n i c : Nat) (E : LD) (t : Nat) : PR (Nat × LD) := pb (pCds b n i 4001 c (r0E E i) t) fun x t1 => pb (pSg b n 58 t1) fun _ t2 => pb (pChg b n t2) fun z t3 => pb (pSg b n 59 t3) fun _ t4 => .inl ((x.1, st1 (st1 (st1 x.2 4 i z.1) 5 i z.2) 6 (i + 1) x.1), t4)
noncomputable def pRules (b : BY) (n : Nat) : Nat → Nat → Nat → LD → Nat → PR (Nat × Nat × LD)
  | 0, _, _, _, t => .inr (1, pl b n t)
  | g + 1, i, c, E, t => if so b n t = 0 then .inl ((i, c, E), t) else if fW b n t 18 4 < 4 ∧ 20 ≤ i then .inr (2, pl b n t) else pb (pRule b n i c E t) fun x t1 => pRules b n g (i + 1) x.1 x.2 t1
theorem pCd_i {b : BY} {n t t' : Nat} {x : Nat × Nat} (h : pCd b n t = .inl (x, t')) : x.1 = fW b n t 18 4 ∧ x.1 < 4 ∧ lC x.1 ≤ x.2 ∧ x.2 ≤ hC x.1 ∧ t' = t + 2 ∧ t' ≤ n := by
  unfold pCd at h
  by_cases c : 4 ≤ fW b n t 18 4
  · rw [if_pos c] at h; cases h
  · rw [if_neg c] at h
    obtain ⟨v, t1, h1, h2⟩ := pb_inl h
    obtain ⟨a1, a2, a3, a4, a5⟩ := pNum_i h1
    have := so_t (b := b) (n := n) (t := t + 1) (by omega)
    injection h2 with h2
    injection h2 with h3 h4
    subst h3
    exact ⟨rfl, by show fW b n t 18 4 < 4; omega, a3, a4, by omega, by omega⟩
theorem pCd_b {b : BY} {n t f p : Nat} (h : pCd b n t = .inr (f, p)) : (4 ≤ fW b n t 18 4 ∧ f = 1 ∧ p = pl b n t) ∨ (fW b n t 18 4 < 4 ∧ pl b n (t + 1) ≤ p) := by
  unfold pCd at h
  by_cases c : 4 ≤ fW b n t 18 4
  · rw [if_pos c] at h
    injection h with h
    injection h with h1 h2
    exact Or.inl ⟨c, h1.symm, h2.symm⟩
  · rw [if_neg c] at h
    rcases pb_inr h with h1 | ⟨x, t1, h1, h2⟩
    · have := (pNum_b h1).1; exact Or.inr ⟨by omega, by omega⟩
    · cases h2
theorem pCds_b {b : BY} {n i : Nat} : ∀ {g c t f p : Nat} {E : LD}, fW b n t 18 4 < 4 → pCds b n i (g + 1) c E t = .inr (f, p) → pl b n (t + 1) ≤ p
  | g, c, t, f, p, E, hw, h => by
    rcases pb_inr (show pb _ _ = _ from h) with h1 | ⟨x, t1, h1, h2⟩
    · rcases pCd_b h1 with q | q
      · omega
      · exact q.2
    · have q := (pCd_i h1).2.2.2.2.1
      by_cases c4 : so b n t1 = 44
      · rw [if_pos c4] at h2
        have m := pl_le (b := b) (n := n) (show t + 1 ≤ t1 + 1 by omega)
        cases g with
        | zero =>
          injection h2 with h2
          injection h2 with h3 h4
          omega
        | succ g =>
          by_cases w2 : fW b n (t1 + 1) 18 4 < 4
          · have := pCds_b w2 h2
            have := pl_m b n (t1 + 1)
            omega
          · rcases pb_inr (show pb _ _ = _ from h2) with h3 | ⟨y, t2, h3, h4⟩
            · rcases pCd_b h3 with q | q
              · omega
              · omega
            · have := (pCd_i h3).2.1
              have := (pCd_i h3).1
              omega
      · rw [if_neg c4] at h2; cases h2
theorem pCds_i {b : BY} {n i : Nat} : ∀ {g c t t' : Nat} {E : LD} {x : Nat × LD}, pCds b n i g c E t = .inl (x, t') → t < t' ∧ t' ≤ n ∧ c < x.1 ∧ 2 * x.1 ≤ 2 * c + (t' - t) + 1
  | 0, c, t, t', E, x, h => by cases h
  | g + 1, c, t, t', E, x, h => by
    obtain ⟨y, t1, h1, h2⟩ := pb_inl (show pb _ _ = _ from h)
    obtain ⟨-, -, -, -, q1, q2⟩ := pCd_i h1
    by_cases c4 : so b n t1 = 44
    · rw [if_pos c4] at h2
      have := pCds_i h2
      omega
    · rw [if_neg c4] at h2
      injection h2 with h2
      injection h2 with h3 h4
      subst h3
      exact ⟨by omega, by omega, by show c < c + 1; omega, by show 2 * (c + 1) ≤ _; omega⟩
theorem pChg_i {b : BY} {n t t' : Nat} {z : Nat × Nat} (h : pChg b n t = .inl (z, t')) : z.1 = so b n t ∧ isCh z.1 ∧ z.2 ≤ hCh z.1 ∧ t' = t + 2 := by
  unfold pChg at h
  by_cases c : so b n t = 37 ∨ so b n t = 45 ∨ so b n t = 43 ∨ so b n t = 64
  · rw [if_pos c] at h
    obtain ⟨v, t1, h1, h2⟩ := pb_inl h
    obtain ⟨a1, a2, a3, a4, a5⟩ := pNum_i h1
    injection h2 with h2
    injection h2 with h3 h4
    subst h3
    exact ⟨rfl, c, a4, by omega⟩
  · rw [if_neg c] at h; cases h
theorem pRule_b {b : BY} {n i c t f p : Nat} {E : LD} (hw : fW b n t 18 4 < 4) (h : pRule b n i c E t = .inr (f, p)) : pl b n (t + 1) ≤ p := by
  rcases pb_inr (show pb _ _ = _ from h) with h1 | ⟨x, t1, h1, h2⟩
  · exact pCds_b hw h1
  · have q := pCds_i h1
    rcases pb_inr h2 with h3 | ⟨y, t2, h3, h4⟩
    · have := (pSg_b h3).1
      have := pl_le (b := b) (n := n) (show t + 1 ≤ t1 by omega)
      omega
    · have q2 := (pSg_i h3).2
      rcases pb_inr h4 with h5 | ⟨z, t3, h5, h6⟩
      · have := pl_le (b := b) (n := n) (show t + 1 ≤ t2 by omega)
        have := pl_m b n t2
        unfold pChg at h5
        by_cases cc : so b n t2 = 37 ∨ so b n t2 = 45 ∨ so b n t2 = 43 ∨ so b n t2 = 64
        · rw [if_pos cc] at h5
          rcases pb_inr h5 with h7 | ⟨v, t4, h7, h8⟩
          · have := (pNum_b h7).1; omega
          · cases h8
        · rw [if_neg cc] at h5
          injection h5 with h5
          injection h5 with h8 h9
          omega
      · have q3 := (pChg_i h5).2.2.2
        rcases pb_inr h6 with h7 | ⟨v, t4, h7, h8⟩
        · have := (pSg_b h7).1
          have := pl_le (b := b) (n := n) (show t + 1 ≤ t3 by omega)
          omega
        · cases h8
/-! what a good one holds -/
def REq (E : LD) (i lo hi : Nat) : Prop := ∀ n x d s, n ≤ 10 → x ≤ 3 → d ≤ 6 → s ≤ 7 → ((E 0 i ≤ n ∧ E 1 i / 2 ^ x % 2 = 1 ∧ E 2 i / 2 ^ d % 2 = 1 ∧ E 3 i / 2 ^ s % 2 = 1) ↔ ∀ c, lo ≤ c → c < hi → cnd (E 7 c) (E 8 c) n x d s)
def RFb (E : LD) (i : Nat) : Prop := E 0 i ≤ 10 ∧ E 1 i ≤ 15 ∧ E 2 i ≤ 127 ∧ E 3 i ≤ 255
def CDb (E : LD) (c : Nat) : Prop := 1 ≤ E 7 c ∧ E 7 c ≤ 4 ∧ E 8 c ≤ 10
theorem and_bit (K v x : Nat) : ((K &&& 2 ^ v) / 2 ^ x % 2 = 1) ↔ (K / 2 ^ x % 2 = 1 ∧ x = v) := by
  have h1 := Nat.testBit_eq_decide_div_mod_eq (x := K &&& 2 ^ v) (i := x)
  have h2 := Nat.testBit_eq_decide_div_mod_eq (x := K) (i := x)
  rw [Nat.testBit_and, Nat.testBit_two_pow, h2] at h1
  by_cases a : K / 2 ^ x % 2 = 1
  · by_cases c : v = x
    · subst c
      simp [a] at h1
      exact ⟨fun _ => ⟨a, rfl⟩, fun _ => h1⟩
    · simp [a, c] at h1
      exact ⟨fun q => absurd q (by omega), fun q => absurd q.2.symm c⟩
  · simp [a] at h1
    exact ⟨fun q => absurd q (by omega), fun q => absurd q.1 a⟩
theorem REq_s {E : LD} {i lo c k v : Nat} (h : REq E i lo c) (hlo : lo ≤ c) (hk : k < 4) : REq (uC E i c k v) i lo (c + 1) := by
  intro n x d s hn hx hd hs
  have hE := h n x d s hn hx hd hs
  have e7 : ∀ y, uC E i c k v 7 y = if y = c then k + 1 else E 7 y := fun y => by
    unfold uC
    rw [st1_n _ _ (by omega)]
    by_cases e : y = c
    · subst e; rw [st1_e, if_pos rfl]
    · rw [st1_n _ _ (by omega), st1_n _ _ (by omega), if_neg e]
  have e8 : ∀ y, uC E i c k v 8 y = if y = c then v else E 8 y := fun y => by
    unfold uC
    by_cases e : y = c
    · subst e; rw [st1_e, if_pos rfl]
    · rw [st1_n _ _ (by omega), st1_n _ _ (by omega), st1_n _ _ (by omega), if_neg e]
  have ej : ∀ j, j < 4 → uC E i c k v j i = if j = k then vC E i k v else E j i := fun j hj => by
    unfold uC
    rw [st1_n _ _ (by omega), st1_n _ _ (by omega)]
    by_cases e : j = k
    · subst e; rw [st1_e, if_pos rfl]
    · rw [st1_n _ _ (by omega), if_neg e]
  have split : (∀ y, lo ≤ y → y < c + 1 → cnd (uC E i c k v 7 y) (uC E i c k v 8 y) n x d s) ↔ (cnd (k + 1) v n x d s ∧ ∀ y, lo ≤ y → y < c → cnd (E 7 y) (E 8 y) n x d s) := by
    constructor
    · intro q
      refine ⟨?_, fun y y1 y2 => ?_⟩
      · have := q c hlo (by omega)
        rw [e7, e8, if_pos rfl, if_pos rfl] at this
        exact this
      · have := q y y1 (by omega)
        rw [e7, e8, if_neg (by omega), if_neg (by omega)] at this
        exact this
    · intro ⟨q1, q2⟩ y y1 y2
      rw [e7, e8]
      by_cases e : y = c
      · rw [if_pos e, if_pos e]; exact q1
      · rw [if_neg e, if_neg e]; exact q2 y y1 (by omega)
  rw [split, ← hE, ej 0 (by omega), ej 1 (by omega), ej 2 (by omega), ej 3 (by omega)]
  have h4 : k = 0 ∨ k = 1 ∨ k = 2 ∨ k = 3 := by omega
  rcases h4 with rfl | rfl | rfl | rfl
  · simp only [if_true, show ¬ (1 = 0) by omega, show ¬ (2 = 0) by omega, show ¬ (3 = 0) by omega, if_false, vC, cnd]
    by_cases q : E 0 i ≤ v
    · rw [if_pos q]
      constructor
      · exact fun ⟨a1, a2⟩ => ⟨a1, by omega, a2⟩
      · exact fun ⟨a1, _, a2⟩ => ⟨a1, a2⟩
    · rw [if_neg q]
      constructor
      · exact fun ⟨a1, a2⟩ => ⟨by omega, a1, a2⟩
      · exact fun ⟨_, a1, a2⟩ => ⟨a1, a2⟩
  · simp only [if_true, show ¬ (0 = 1) by omega, show ¬ (2 = 1) by omega, show ¬ (3 = 1) by omega, show ¬ (1 = 0) by omega, show ¬ (1 + 1 = 1) by omega, show 1 + 1 = 2 by omega, if_false, vC, cnd]
    rw [and_bit]
    constructor
    · exact fun ⟨a1, ⟨a2, a3⟩, a4⟩ => ⟨a3, a1, a2, a4⟩
    · exact fun ⟨a3, a1, a2, a4⟩ => ⟨a1, ⟨a2, a3⟩, a4⟩
  · simp only [if_true, show ¬ (0 = 2) by omega, show ¬ (1 = 2) by omega, show ¬ (3 = 2) by omega, show ¬ (2 = 0) by omega, show 2 + 1 = 3 by omega, show ¬ (3 = 1) by omega, if_false, vC, cnd]
    rw [and_bit]
    constructor
    · exact fun ⟨a1, a2, ⟨a3, a4⟩, a5⟩ => ⟨a4, a1, a2, a3, a5⟩
    · exact fun ⟨a4, a1, a2, a3, a5⟩ => ⟨a1, a2, ⟨a3, a4⟩, a5⟩
  · simp only [if_true, show ¬ (0 = 3) by omega, show ¬ (1 = 3) by omega, show ¬ (2 = 3) by omega, show ¬ (3 = 0) by omega, show 3 + 1 = 4 by omega, show ¬ (4 = 1) by omega, show ¬ (4 = 2) by omega, show ¬ (4 = 3) by omega, if_false, vC, cnd]
    rw [and_bit]
    constructor
    · exact fun ⟨a1, a2, a3, a4, a5⟩ => ⟨a5, a1, a2, a3, a4⟩
    · exact fun ⟨a5, a1, a2, a3, a4⟩ => ⟨a1, a2, a3, a4, a5⟩
theorem RFb_s {E : LD} {i c k v : Nat} (h : RFb E i) (hk : k < 4) (hv : v ≤ hC k) : RFb (uC E i c k v) i := by
  have ej : ∀ j, j < 4 → uC E i c k v j i = if j = k then vC E i k v else E j i := fun j hj => by
    unfold uC
    rw [st1_n _ _ (by omega), st1_n _ _ (by omega)]
    by_cases e : j = k
    · subst e; rw [st1_e, if_pos rfl]
    · rw [st1_n _ _ (by omega), if_neg e]
  obtain ⟨h0, h1, h2, h3⟩ := h
  unfold RFb
  rw [ej 0 (by omega), ej 1 (by omega), ej 2 (by omega), ej 3 (by omega)]
  have h4 : k = 0 ∨ k = 1 ∨ k = 2 ∨ k = 3 := by omega
  rcases h4 with rfl | rfl | rfl | rfl
  · have : v ≤ 10 := hv
    refine ⟨?_, h1, h2, h3⟩
    rw [if_pos rfl]
    unfold vC
    rw [if_pos rfl]
    by_cases q : E 0 i ≤ v
    · rw [if_pos q]; exact this
    · rw [if_neg q]; exact h0
  · refine ⟨h0, ?_, h2, h3⟩
    rw [if_pos rfl]
    exact Nat.le_trans Nat.and_le_left h1
  · refine ⟨h0, h1, ?_, h3⟩
    rw [if_pos rfl]
    exact Nat.le_trans Nat.and_le_left h2
  · refine ⟨h0, h1, h2, ?_⟩
    rw [if_pos rfl]
    exact Nat.le_trans Nat.and_le_left h3
theorem uC_o {E : LD} {i c k v j y : Nat} (hk : k < 4) (h : (4 ≤ j ∧ j < 7) ∨ (j < 4 ∧ y ≠ i) ∨ (7 ≤ j ∧ y ≠ c)) : uC E i c k v j y = E j y := by
  unfold uC
  rw [st1_n _ _ (by omega), st1_n _ _ (by omega), st1_n _ _ (by omega)]
theorem uC_c {E : LD} {i c k v : Nat} : uC E i c k v 7 c = k + 1 ∧ uC E i c k v 8 c = v := by
  unfold uC
  exact ⟨by rw [st1_n _ _ (by omega), st1_e], st1_e _ _ _ _⟩
theorem hC_le (k : Nat) : hC k ≤ 10 := by
  unfold hC
  by_cases h : k = 0
  · rw [if_pos h]; omega
  · rw [if_neg h]
    by_cases h1 : k = 1
    · rw [if_pos h1]; omega
    · rw [if_neg h1]
      by_cases h2 : k = 2
      · rw [if_pos h2]; omega
      · rw [if_neg h2]; omega
/-- conditions of rule i: the others stay; the rule's own are equal in sense -/
theorem pCds_D {b : BY} {n i : Nat} : ∀ {g c t t' : Nat} {E : LD} {x : Nat × LD} {lo : Nat}, pCds b n i g c E t = .inl (x, t') → lo ≤ c → (∀ j y, (4 ≤ j ∧ j < 7) ∨ (j < 4 ∧ y ≠ i) ∨ (7 ≤ j ∧ y < c) → x.2 j y = E j y) ∧ (REq E i lo c → REq x.2 i lo x.1) ∧ (RFb E i → RFb x.2 i) ∧ ((∀ y, y < c → CDb E y) → ∀ y, y < x.1 → CDb x.2 y)
  | 0, c, t, t', E, x, lo, h, _ => by cases h
  | g + 1, c, t, t', E, x, lo, h, hlo => by
    obtain ⟨y, t1, h1, h2⟩ := pb_inl (show pb _ _ = _ from h)
    obtain ⟨q1, q2, q3, q4, q5, q6⟩ := pCd_i h1
    have hh := hC_le y.1
    have cd : (∀ z, z < c → CDb E z) → ∀ z, z < c + 1 → CDb (uC E i c y.1 y.2) z := fun hz z zl => by
      unfold CDb
      by_cases e : z = c
      · subst e
        rw [uC_c.1, uC_c.2]; omega
      · rw [uC_o q2 (by omega), uC_o q2 (by omega)]; exact hz z (by omega)
    by_cases c4 : so b n t1 = 44
    · rw [if_pos c4] at h2
      obtain ⟨r1, r2, r3, r4⟩ := pCds_D (lo := lo) h2 (by omega)
      refine ⟨fun j z hz => by rw [r1 j z (by omega), uC_o q2 (by omega)], fun hq => r2 (REq_s hq hlo q2), fun hq => r3 (RFb_s hq q2 q4), fun hq => r4 (cd hq)⟩
    · rw [if_neg c4] at h2
      injection h2 with h2
      injection h2 with h3 h4
      subst h3
      exact ⟨fun j z hz => uC_o q2 (by omega), fun hq => REq_s hq hlo q2, fun hq => RFb_s hq q2 q4, cd⟩
def ROK (i c : Nat) (E : LD) : Prop := i ≤ 20 ∧ E 6 i = c ∧ (∀ r, r < i → REq E r (E 6 r) (E 6 (r + 1)) ∧ RFb E r ∧ (isCh (E 4 r) ∧ E 5 r ≤ hCh (E 4 r)) ∧ E 6 r ≤ E 6 (r + 1) ∧ E 6 (r + 1) ≤ c) ∧ ∀ y, y < c → CDb E y
theorem pRule_i {b : BY} {n i c t t' : Nat} {E : LD} {x : Nat × LD} (h : pRule b n i c E t = .inl (x, t')) (hi : i < 20) : t < t' ∧ t' ≤ n ∧ 2 * x.1 ≤ 2 * c + (t' - t) ∧ (ROK i c E → ROK (i + 1) x.1 x.2) := by
  obtain ⟨y, t1, h1, h2⟩ := pb_inl (show pb _ _ = _ from h)
  obtain ⟨z0, t2, h3, h4⟩ := pb_inl h2
  obtain ⟨z, t3, h5, h6⟩ := pb_inl h4
  obtain ⟨z1, t4, h7, h8⟩ := pb_inl h6
  have q1 := pCds_i h1
  have q2 := pSg_i h3
  have q3 := pChg_i h5
  have q4 := pSg_i h7
  have tn := so_t (b := b) (n := n) (t := t3) (by omega)
  injection h8 with h8
  injection h8 with h9 h10
  subst h9
  refine ⟨by omega, by omega, by show 2 * y.1 ≤ _; omega, fun ⟨k1, k2, k3, k4⟩ => ?_⟩
  obtain ⟨r1, r2, r3, r4⟩ := pCds_D (lo := c) h1 (Nat.le_refl _)
  have o : ∀ j w, (4 ≤ j ∧ j < 7) ∨ (j < 4 ∧ w ≠ i) ∨ (7 ≤ j ∧ w < c) → y.2 j w = E j w := fun j w hw => by
    rw [r1 j w hw]
    unfold r0E
    rw [st1_n _ _ (by omega), st1_n _ _ (by omega), st1_n _ _ (by omega), st1_n _ _ (by omega)]
  have base : REq (r0E E i) i c c := fun n x d s hn hx hd hs => by
    refine ⟨fun _ w w1 w2 => by omega, fun _ => ?_⟩
    have e0 : r0E E i 0 i = 0 := by simp [r0E, st1]
    have e1 : r0E E i 1 i = 15 := by simp [r0E, st1]
    have e2 : r0E E i 2 i = 127 := by simp [r0E, st1]
    have e3 : r0E E i 3 i = 255 := by simp [r0E, st1]
    rw [e0, e1, e2, e3]
    have a1 : ∀ x, x < 4 → 15 / 2 ^ x % 2 = 1 := by decide
    have a2 : ∀ x, x < 7 → 127 / 2 ^ x % 2 = 1 := by decide
    have a3 : ∀ x, x < 8 → 255 / 2 ^ x % 2 = 1 := by decide
    exact ⟨Nat.zero_le _, a1 x (by omega), a2 d (by omega), a3 s (by omega)⟩
  have fb : RFb (r0E E i) i := by
    unfold RFb
    simp [r0E, st1]
  have cd0 : ∀ w, w < c → CDb (r0E E i) w := fun w hw => by
    have := k4 w hw
    unfold CDb r0E
    rw [st1_n _ _ (by omega), st1_n _ _ (by omega), st1_n _ _ (by omega), st1_n _ _ (by omega), st1_n _ _ (by omega), st1_n _ _ (by omega), st1_n _ _ (by omega), st1_n _ _ (by omega)]
    exact this
  have reqc : ∀ (F G : LD) r lo hi, (∀ j, j < 4 → F j r = G j r) → (∀ w, w < hi → F 7 w = G 7 w ∧ F 8 w = G 8 w) → REq G r lo hi → REq F r lo hi := fun F G r lo hi f1 f2 hq n x d s hn hx hd hs => by
    rw [f1 0 (by omega), f1 1 (by omega), f1 2 (by omega), f1 3 (by omega), hq n x d s hn hx hd hs]
    constructor
    · intro q w w1 w2; rw [(f2 w w2).1, (f2 w w2).2]; exact q w w1 w2
    · intro q w w1 w2
      have := q w w1 w2
      rw [(f2 w w2).1, (f2 w w2).2] at this
      exact this
  show ROK (i + 1) y.1 (st1 (st1 (st1 y.2 4 i z.1) 5 i z.2) 6 (i + 1) y.1)
  obtain ⟨G, hG⟩ : ∃ G, G = st1 (st1 (st1 y.2 4 i z.1) 5 i z.2) 6 (i + 1) y.1 := ⟨_, rfl⟩
  rw [← hG]
  have fin : ∀ j w, j ≠ 4 → j ≠ 5 → (j ≠ 6 ∨ w ≠ i + 1) → G j w = y.2 j w := fun j w a1 a2 a3 => by
    rw [hG, st1_n _ _ (by omega), st1_n _ _ (by omega), st1_n _ _ (by omega)]
  have g4 : ∀ r, G 4 r = if r = i then z.1 else y.2 4 r := fun r => by
    rw [hG, st1_n _ _ (by omega), st1_n _ _ (by omega)]
    by_cases e : r = i
    · subst e; rw [st1_e, if_pos rfl]
    · rw [st1_n _ _ (by omega), if_neg e]
  have g5 : ∀ r, G 5 r = if r = i then z.2 else y.2 5 r := fun r => by
    rw [hG, st1_n _ _ (by omega)]
    by_cases e : r = i
    · subst e; rw [st1_e, if_pos rfl]
    · rw [st1_n _ _ (by omega), st1_n _ _ (by omega), if_neg e]
  have e6n : G 6 (i + 1) = y.1 := by rw [hG, st1_e]
  have e6i : G 6 i = c := by rw [fin 6 i (by omega) (by omega) (by omega), o 6 i (by omega), k2]
  clear hG
  refine ⟨by omega, e6n, fun r hr => ?_, fun w hw => ?_⟩
  · by_cases e : r = i
    · subst e
      rw [e6i, e6n, g4, g5, if_pos rfl, if_pos rfl]
      refine ⟨reqc _ y.2 r c y.1 (fun j hj => fin j r (by omega) (by omega) (by omega)) (fun w _ => ⟨fin 7 w (by omega) (by omega) (by omega), fin 8 w (by omega) (by omega) (by omega)⟩) (r2 base), ?_, ⟨q3.2.1, q3.2.2.1⟩, by omega, Nat.le_refl _⟩
      have := r3 fb
      unfold RFb at this ⊢
      rw [fin 0 r (by omega) (by omega) (by omega), fin 1 r (by omega) (by omega) (by omega), fin 2 r (by omega) (by omega) (by omega), fin 3 r (by omega) (by omega) (by omega)]
      exact this
    · obtain ⟨m1, m2, m3, m4, m5⟩ := k3 r (by omega)
      rw [fin 6 r (by omega) (by omega) (by omega), fin 6 (r + 1) (by omega) (by omega) (by omega), o 6 r (by omega), o 6 (r + 1) (by omega), g4, g5, if_neg e, if_neg e, o 4 r (by omega), o 5 r (by omega)]
      refine ⟨reqc _ E r _ _ (fun j hj => by rw [fin j r (by omega) (by omega) (by omega), o j r (by omega)]) (fun w hw => ⟨by rw [fin 7 w (by omega) (by omega) (by omega), o 7 w (by omega)], by rw [fin 8 w (by omega) (by omega) (by omega), o 8 w (by omega)]⟩) m1, ?_, m3, m4, by omega⟩
      unfold RFb at m2 ⊢
      rw [fin 0 r (by omega) (by omega) (by omega), fin 1 r (by omega) (by omega) (by omega), fin 2 r (by omega) (by omega) (by omega), fin 3 r (by omega) (by omega) (by omega), o 0 r (by omega), o 1 r (by omega), o 2 r (by omega), o 3 r (by omega)]
      exact m2
  · have := r4 cd0 w hw
    unfold CDb at this ⊢
    rw [fin 7 w (by omega) (by omega) (by omega), fin 8 w (by omega) (by omega) (by omega)]
    exact this
theorem pRules_i {b : BY} {n : Nat} : ∀ {g i c t t' : Nat} {E : LD} {x : Nat × Nat × LD}, pRules b n g i c E t = .inl (x, t') → ROK i c E → ROK x.1 x.2.1 x.2.2
  | 0, i, c, t, t', E, x, h, _ => by cases h
  | g + 1, i, c, t, t', E, x, h, hR => by
    have ep : pRules b n (g + 1) i c E t = if so b n t = 0 then .inl ((i, c, E), t) else if fW b n t 18 4 < 4 ∧ 20 ≤ i then .inr (2, pl b n t) else pb (pRule b n i c E t) fun x t1 => pRules b n g (i + 1) x.1 x.2 t1 := rfl
    rw [ep] at h
    by_cases s : so b n t = 0
    · rw [if_pos s] at h
      injection h with h2
      injection h2 with h3 h4
      subst h3
      exact hR
    · rw [if_neg s] at h
      by_cases q : fW b n t 18 4 < 4 ∧ 20 ≤ i
      · rw [if_pos q] at h; cases h
      · rw [if_neg q] at h
        obtain ⟨y, t2, h1, h2⟩ := pb_inl h
        have i20 : i < 20 := by
          apply Classical.byContradiction
          intro hi
          have w4 : ¬ fW b n t 18 4 < 4 := fun w => q ⟨w, by omega⟩
          obtain ⟨a, t1, a1, -⟩ := pb_inl (show pb _ _ = _ from h1)
          obtain ⟨z, t3, a2, -⟩ := pb_inl (show pb _ _ = _ from a1)
          have := (pCd_i a2).1
          have := (pCd_i a2).2.1
          omega
        exact pRules_i h2 ((pRule_i h1 i20).2.2.2 hR)
