/-! PURE: axes: how far a speed takes one, and the greatest speed that rests within -/
theorem brk_f {a : Nat} (ha : 1 ≤ a) : ∀ (w F G : Nat), w ≤ F → w ≤ G → brk a F w = brk a G w := by
  intro w
  induction w using Nat.strongRecOn with
  | ind w ih =>
    intro F G hF hG
    cases F with
    | zero =>
      have : w = 0 := by omega
      subst this
      cases G with
      | zero => rfl
      | succ G => show 0 = (if a < 0 then (0 - a) + brk a G (0 - a) else 0); rw [if_neg (by omega)]
    | succ F =>
      cases G with
      | zero =>
        have : w = 0 := by omega
        subst this
        show (if a < 0 then (0 - a) + brk a F (0 - a) else 0) = 0
        rw [if_neg (by omega)]
      | succ G =>
        show (if a < w then (w - a) + brk a F (w - a) else 0) = (if a < w then (w - a) + brk a G (w - a) else 0)
        by_cases c : a < w
        · rw [if_pos c, if_pos c, ih (w - a) (by omega) F G (by omega) (by omega)]
        · rw [if_neg c, if_neg c]
def dst (a x : Nat) : Nat := x + brk a x x
theorem brk_d {a : Nat} (ha : 1 ≤ a) (x : Nat) : brk a x x = if a < x then dst a (x - a) else 0 := by
  cases x with
  | zero => rw [if_neg (by omega)]; rfl
  | succ x =>
    show (if a < x + 1 then (x + 1 - a) + brk a x (x + 1 - a) else 0) = _
    by_cases c : a < x + 1
    · rw [if_pos c, if_pos c]
      unfold dst
      rw [brk_f ha (x + 1 - a) x (x + 1 - a) (by omega) (by omega)]
    · rw [if_neg c, if_neg c]
theorem dst_r {a : Nat} (ha : 1 ≤ a) (x : Nat) : dst a x = x + if a < x then dst a (x - a) else 0 := by
  show x + brk a x x = _
  rw [brk_d ha]
theorem dst_0 (a : Nat) : dst a 0 = 0 := rfl
theorem dst_m {a : Nat} (ha : 1 ≤ a) : ∀ x, dst a x < dst a (x + 1) := by
  intro x
  induction x using Nat.strongRecOn with
  | ind x ih =>
    rw [dst_r ha x, dst_r ha (x + 1)]
    by_cases c : a < x
    · rw [if_pos c, if_pos (by omega)]
      have := ih (x - a) (by omega)
      rw [show x - a + 1 = x + 1 - a by omega] at this
      omega
    · rw [if_neg c]; omega
theorem dst_le {a : Nat} (ha : 1 ≤ a) {x y : Nat} (h : x ≤ y) : dst a x ≤ dst a y := by
  induction y with
  | zero => have : x = 0 := by omega
            subst this; exact Nat.le_refl _
  | succ y ih =>
    by_cases c : x = y + 1
    · subst c; exact Nat.le_refl _
    · have := ih (by omega)
      have := dst_m ha y
      omega
def tri : Nat → Nat
  | 0 => 0
  | s + 1 => tri s + (s + 1)
theorem tri_2 : ∀ s, s * (s + 1) = 2 * tri s
  | 0 => rfl
  | s + 1 => by
    have h := tri_2 s
    show (s + 1) * (s + 1 + 1) = 2 * (tri s + (s + 1))
    have e : 2 * (tri s + (s + 1)) = s * (s + 1) + 2 * (s + 1) := by omega
    rw [e, ← Nat.add_mul, Nat.mul_comm]
/-- closed form -/
theorem dst_c {a : Nat} (ha : 1 ≤ a) : ∀ x, dst a x + a * tri ((x - 1) / a) = x + (x - 1) / a * x := by
  intro x
  induction x using Nat.strongRecOn with
  | ind x ih =>
    rw [dst_r ha x]
    by_cases c : a < x
    · rw [if_pos c]
      have h := ih (x - a) (by omega)
      obtain ⟨s, hs⟩ : ∃ s, s = (x - a - 1) / a := ⟨_, rfl⟩
      have e : (x - 1) / a = s + 1 := by
        rw [hs, show x - 1 = (x - a - 1) + a by omega, Nat.add_div_right _ (by omega)]
      rw [← hs] at h
      rw [e]
      have t : tri (s + 1) = tri s + (s + 1) := rfl
      rw [t, Nat.mul_add, Nat.add_mul s 1 x, Nat.one_mul]
      have m : s * (x - a) + s * a = s * x := by rw [← Nat.mul_add, show x - a + a = x by omega]
      have m2 : a * (s + 1) = s * a + a := by rw [Nat.mul_add, Nat.mul_one, Nat.mul_comm]
      omega
    · rw [if_neg c, Nat.div_eq_of_lt (by omega)]
      show x + 0 + a * 0 = x + 0 * x
      omega
theorem dst_b {a x : Nat} (ha : 1 ≤ a) (hx : x ≤ 2000) : dst a x ≤ 4002000 ∧ (x - 1) / a ≤ 2000 ∧ (x - 1) / a * x ≤ 4000000 ∧ a * tri ((x - 1) / a) ≤ 4002000 := by
  have h := dst_c ha x
  have s1 : (x - 1) / a ≤ 2000 := Nat.le_trans (Nat.div_le_self _ _) (by omega)
  have s2 : (x - 1) / a * x ≤ 2000 * 2000 := Nat.mul_le_mul s1 hx
  omega
/-! the greatest that rests within -/
def bst (a d least : Nat) : Nat → Nat
  | 0 => least
  | x + 1 => if x + 1 < least then least else if dst a (x + 1) ≤ d then x + 1 else bst a d least x
theorem bst_u {a : Nat} (ha : 1 ≤ a) {d least : Nat} : ∀ (top r : Nat), least ≤ r → r ≤ top → dst a r ≤ d → (r < top → d < dst a (r + 1)) → bst a d least top = r
  | 0, r, h1, h2, h3, h4 => by show least = r; omega
  | x + 1, r, h1, h2, h3, h4 => by
    show (if x + 1 < least then least else if dst a (x + 1) ≤ d then x + 1 else bst a d least x) = r
    rw [if_neg (by omega)]
    by_cases c : r = x + 1
    · subst c; rw [if_pos h3]
    · have := h4 (by omega)
      have := dst_le ha (show r + 1 ≤ x + 1 by omega)
      rw [if_neg (by omega)]
      exact bst_u ha x r h1 (by omega) h3 (fun _ => h4 (by omega))
theorem bst_l {a : Nat} (ha : 1 ≤ a) {d least : Nat} : ∀ (top : Nat), (top ≤ least ∨ d < dst a least) → bst a d least top = least
  | 0, _ => rfl
  | x + 1, h => by
    show (if x + 1 < least then least else if dst a (x + 1) ≤ d then x + 1 else bst a d least x) = least
    by_cases c : x + 1 < least
    · rw [if_pos c]
    · rw [if_neg c]
      by_cases e : x + 1 = least
      · subst e
        by_cases q : dst a (x + 1) ≤ d
        · rw [if_pos q]
        · rw [if_neg q]
          exact bst_l ha x (Or.inl (by omega))
      · have := dst_le ha (show least ≤ x + 1 by omega)
        rw [if_neg (by omega)]
        exact bst_l ha x (by omega)
theorem bst_b {a d least : Nat} : ∀ (top : Nat), bst a d least top = least ∨ (least ≤ bst a d least top ∧ bst a d least top ≤ top ∧ dst a (bst a d least top) ≤ d)
  | 0 => Or.inl rfl
  | x + 1 => by
    have ih := bst_b (a := a) (d := d) (least := least) x
    show (if x + 1 < least then least else if dst a (x + 1) ≤ d then x + 1 else bst a d least x) = least ∨ (least ≤ (if x + 1 < least then least else if dst a (x + 1) ≤ d then x + 1 else bst a d least x) ∧ (if x + 1 < least then least else if dst a (x + 1) ≤ d then x + 1 else bst a d least x) ≤ x + 1 ∧ dst a (if x + 1 < least then least else if dst a (x + 1) ≤ d then x + 1 else bst a d least x) ≤ d)
    by_cases c : x + 1 < least
    · rw [if_pos c]; exact Or.inl rfl
    · rw [if_neg c]
      by_cases q : dst a (x + 1) ≤ d
      · rw [if_pos q]; exact Or.inr ⟨by omega, by omega, q⟩
      · rw [if_neg q]
        rcases ih with e | ⟨e1, e2, e3⟩
        · exact Or.inl e
        · exact Or.inr ⟨e1, by omega, e3⟩
/-! class: does a speed rest within -/
theorem rests_c {st : St} {o a x d : Nat} (ko : kd o = (0, 0)) (h4 : gI st o 4 = nI a) (ha : 1 ≤ a) (ha2 : a ≤ 999) (hx : x ≤ 2000) (hd : d ≤ 100000) (fu : Nat) : f_X0_restsWithin fu o (nI x) (nI d) st = some (nI (if dst a x ≤ d then 1 else 0), st) := by
  obtain ⟨b1, b2, b3, b4⟩ := dst_b ha hx
  have c := dst_c ha x
  have t2 := tri_2 ((x - 1) / a)
  have a1 : ¬ nI a = 0 := fun z => by have := (nI_eq (a := a) (b := 0) (by omega) (by omega)).mp z; omega
  have a0 : ¬ nI a ≤ 0 := fun z => by have := (nI_leI (a := a) (b := 0) (by omega) (by omega)).mp z; omega
  have fin : ∀ s, s = (x - 1) / a → b_X0_restsWithin_23 fu o (nI x) (nI d) (nI s) st = some (nI (if dst a x ≤ d then 1 else 0), st) := fun s hs => by
    rw [← hs] at b2 b3 b4 c t2
    have e1 : (nI a * nI s) * (nI s + 1) / 2 = nI (a * tri s) := by
      rw [show (1 : Int32) = nI 1 from rfl, nI_add, pk_mul, pk_mul, show a * s * (s + 1) = 2 * (a * tri s) by rw [Nat.mul_assoc, t2, Nat.mul_left_comm], show (2 : Int32) = nI 2 from rfl, pk_div (by omega) (by omega) (by omega), show 2 * (a * tri s) / 2 = a * tri s by omega]
    have e2 : (nI x + nI s * nI x) - nI (a * tri s) = nI (dst a x) := by
      rw [pk_mul, nI_add, pk_sub (by omega), show x + s * x - a * tri s = dst a x by omega]
    unfold b_X0_restsWithin_23 b_X0_restsWithin_51
    rw [ck_t (show (kd o).1 = 0 by rw [ko]), ck_t (by decide), h4, e1, e2]
    by_cases q : dst a x ≤ d
    · rw [if_pos q, if_neg (fun z => by have := (nI_ltI (a := d) (b := dst a x) (by omega) (by omega)).mp z; omega)]; rfl
    · rw [if_neg q, if_pos ((nI_ltI (a := d) (b := dst a x) (by omega) (by omega)).mpr (by omega))]; rfl
  unfold f_X0_restsWithin b_X0_restsWithin_22
  by_cases z : x = 0
  · rw [if_pos (show nI x ≤ 0 by rw [z]; exact Int32.le_refl _)]
    exact fin 0 (by rw [z, Nat.zero_sub, Nat.zero_div])
  · rw [if_neg (fun q => by have := (nI_leI (a := x) (b := 0) (by omega) (by omega)).mp q; omega), ck_t (show (kd o).1 = 0 by rw [ko]), h4, if_neg a0, ck_t (show (kd o).1 = 0 by rw [ko]), ck_t a1, show (1 : Int32) = nI 1 from rfl, pk_sub (show 1 ≤ x by omega), pk_div (by omega) (by omega) (by omega)]
    exact fin _ rfl
/-- halving -/
theorem pf74 {st : St} {o a d least top : Nat} (ko : kd o = (0, 0)) (h4 : gI st o 4 = nI a) (ha : 1 ≤ a) (ha2 : a ≤ 999) (ht : top ≤ 2000) (hd : d ≤ 100000) (fu : Nat) : ∀ (F i lo hi : Nat), i ≤ 12 → 12 < F + i → lo ≤ hi → least ≤ lo → hi ≤ top → dst a lo ≤ d → (hi < top → d < dst a (hi + 1)) → hi - lo < 2 ^ (12 - i) → b_X0_paceFor_74 fu F o (nI d) (nI lo) (nI hi) (nI i) st = some (nI (bst a d least top), st)
  | 0, i, lo, hi, h1, h2, _, _, _, _, _, _ => by omega
  | F + 1, i, lo, hi, h1, h2, h3, h4', h5, h6, h7, h8 => by
    have un : b_X0_paceFor_74 fu (F + 1) o (nI d) (nI lo) (nI hi) (nI i) st = b_X0_paceFor_74_b fu (b_X0_paceFor_74 fu F) o (nI d) (nI lo) (nI hi) (nI i) st := rfl
    rw [un]
    unfold b_X0_paceFor_74_b b_X0_paceFor_128
    have done : lo = hi → some (nI lo, st) = some (nI (bst a d least top), st) := fun e => by
      rw [bst_u ha top lo h4' (by omega) h6 (fun q => by rw [e]; exact h7 (by omega))]
    by_cases c : i = 12
    · rw [if_pos (show (12 : Int32) ≤ nI i by rw [c]; exact Int32.le_refl _)]
      rw [c] at h8
      exact done (by simp at h8; omega)
    · rw [if_neg (fun q => by have := (nI_leI (a := 12) (b := i) (by omega) (by omega)).mp q; omega)]
      by_cases e : lo = hi
      · rw [if_pos (show nI hi ≤ nI lo by rw [e]; exact Int32.le_refl _)]
        exact done e
      · rw [if_neg (fun q => by have := (nI_leI (a := hi) (b := lo) (by omega) (by omega)).mp q; omega), ck_t (by decide)]
        obtain ⟨m, hm⟩ : ∃ m, m = (lo + hi + 1) / 2 := ⟨_, rfl⟩
        have em : ((nI lo + nI hi) + 1) / 2 = nI m := by
          rw [nI_add, show (1 : Int32) = nI 1 from rfl, nI_add, show (2 : Int32) = nI 2 from rfl, pk_div (by omega) (by omega) (by omega), hm]
        have p2 : 2 ^ (12 - i) = 2 ^ (12 - (i + 1)) * 2 := by rw [← Nat.pow_succ]; congr 1; omega
        rw [em, bd_e, ck_t (show (kd o).1 = 0 by rw [ko]), rests_c ko h4 ha ha2 (by omega) hd fu, ca_s]
        unfold b_X0_paceFor_122
        have i1 : nI i + 1 = nI (i + 1) := nI_add i 1
        by_cases q : dst a m ≤ d
        · rw [if_pos q, if_neg (show ¬ nI 1 = 0 by decide), i1, bd_e]
          exact pf74 ko h4 ha ha2 ht hd fu F (i + 1) m hi (by omega) (by omega) (by omega) (by omega) h5 q h7 (by omega)
        · rw [if_neg q, if_pos (show nI 0 = 0 from rfl), show (1 : Int32) = nI 1 from rfl, pk_sub (show 1 ≤ m by omega), bd_e, show (nI 1 : Int32) = 1 from rfl, i1, bd_e]
          exact pf74 ko h4 ha ha2 ht hd fu F (i + 1) lo (m - 1) (by omega) (by omega) (by omega) h4' (by omega) h6 (fun _ => by rw [show m - 1 + 1 = m by omega]; omega) (by omega)
