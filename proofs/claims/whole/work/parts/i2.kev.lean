/-! PURE: what a lock says, in the reference: over its tokens -/
theorem sI_sI (st : St) (o k : Nat) (a b : Int32) : sI (sI st o k a) o k b = sI st o k b := by
  unfold sI u2
  simp only
  have : (fun x y => if x = o ∧ y = k then b else if x = o ∧ y = k then a else st.1 x y) = (fun x y => if x = o ∧ y = k then b else st.1 x y) := by
    funext x y
    by_cases h : x = o ∧ y = k
    · rw [if_pos h, if_pos h]
    · rw [if_neg h, if_neg h, if_neg h]
  rw [this]
def cu (st : St) (j : Nat) : St := sI st 153 71 (nI j)
theorem cu_s (st : St) (i j : Nat) : sI (cu st i) 153 71 (nI j) = cu st j := by
  unfold cu
  rw [sI_sI]
/-- the state in which it is read: axis m, tt tokens, events E and axes A -/
def EVS (b : BY) (n m tt : Nat) (E : Nat → Int32) (A : Nat → Nat → Int32) (st : St) : Prop := Top st ∧ m < 8 ∧ tt ≤ 60 ∧ so b n tt = 0 ∧ gI st 153 72 = nI m ∧ gI st 211 m = nI tt ∧ TKs b n m tt st ∧ (∀ k, k < 16 → gI st 210 k = E k ∧ (E k = 0 ∨ E k = 1)) ∧ ∀ k, k < 8 → gI st 198 k = A k 0 ∧ gI st 206 k = A k 8 ∧ gI st 207 k = A k 9
theorem ln_e {b : BY} {n m tt : Nat} {E : Nat → Int32} {A : Nat → Nat → Int32} {st : St} (h : EVS b n m tt E A st) (fu : Nat) {j : Nat} (hj : j ≤ tt) : f_X12_lockNext fu 153 (cu st j) = some (nI (so b n j), cu st j) := by
  obtain ⟨hT0, hm, ht, hz, h72, h211, hK, -, -⟩ := h
  have hT : Top (cu st j) := hT0.r rfl
  have g72 : gI (cu st j) 153 72 = nI m := by unfold cu; rw [gI_sI, if_neg (by decide)]; exact h72
  have g71 : gI (cu st j) 153 71 = nI j := by unfold cu; rw [gI_sI, if_pos (by decide)]
  have g211 : gI (cu st j) 211 m = nI tt := by unfold cu; rw [gI_sI_n _ _ _ (by decide)]; exact h211
  by_cases c : j = tt
  · subst c
    rw [hz]
    obtain ⟨s, hs⟩ : ∃ s, s = cu st j := ⟨_, rfl⟩
    rw [← hs] at hT g72 g71 g211 ⊢
    clear hK hs
    simp (disch := first | decide | omega) [↓bd_e, isb, ck_tt, NP, NF, NC, NB, NS, GS, kdR, tpR hT, f_X12_lockNext, b_X12_lockNext_37, g72, g71, g211]
  · have k1 := (hK j (by omega)).1
    have g212 : gI (cu st j) 212 (61 * m + j) = nI (so b n j) := by unfold cu; rw [gI_sI_n _ _ _ (by decide)]; exact k1
    obtain ⟨s, hs⟩ : ∃ s, s = cu st j := ⟨_, rfl⟩
    rw [← hs] at hT g72 g71 g211 g212 ⊢
    clear hK hs
    simp (disch := first | decide | omega) [↓bd_e, isb, ck_tt, NP, NF, NC, NB, NS, GS, kdR, tpR hT, f_X12_lockNext, b_X12_lockNext_37, g72, g71, g211, g212]
theorem lN_32 (v : Nat) : (lN v).toInt32 = nI v := LF.2.2.2.2.2.2 v
theorem lnum_e {b : BY} {n m tt : Nat} {E : Nat → Int32} {A : Nat → Nat → Int32} {st : St} (h : EVS b n m tt E A st) (fu : Nat) {j : Nat} (hj : j < tt) (h2 : so b n j = 2) : f_X12_lockNumber fu 153 (cu st j) = some (nI (nvt b n j), cu st (j + 1)) := by
  obtain ⟨hT0, hm, ht, hz, h72, h211, hK, -, -⟩ := h
  have hT : Top (cu st j) := hT0.r rfl
  have nb := nv_le b (pl b n j) (af b n (j + 1) - pl b n j)
  have g72 : gI (cu st j) 153 72 = nI m := by unfold cu; rw [gI_sI, if_neg (by decide)]; exact h72
  have g71 : gI (cu st j) 153 71 = nI j := by unfold cu; rw [gI_sI, if_pos (by decide)]
  have g213 : gL (cu st j) 213 (61 * m + j) = lN (nvt b n j) := (hK j hj).2.2 h2
  have cs := cu_s st j (j + 1)
  have l32 := lN_32 (nvt b n j)
  obtain ⟨v, hv⟩ : ∃ v, v = nvt b n j := ⟨_, rfl⟩
  rw [← hv] at g213 l32 ⊢
  rw [← cs]
  obtain ⟨s, hs⟩ : ∃ s, s = cu st j := ⟨_, rfl⟩
  rw [← hs] at hT g72 g71 g213 ⊢
  clear hK hs cs nb hv
  simp (disch := first | decide | omega) [↓bd_e, isb, ck_tt, NP, NF, NC, NB, NS, GS, kdR, tpR hT, f_X12_lockNumber, g72, g71, g213, l32]
abbrev RKe : Type := Nat → St → Option (Int32 × St)
def EP (E : Nat → Int32) (A : Nat → Nat → Int32) (st : St) (tt : Nat) (rN : RKe) (f : Nat → PR LK) : Prop := ∀ t x t', f t = .inl (x, t') → t' ≤ tt → rN 153 (cu st t) = some (nI (x.2 E A).toNat, cu st t')
theorem pAs_le {b : BY} {n : Nat} {f : Nat → PR LK} (hf : ∀ t x t', f t = .inl (x, t') → GD t x t') : ∀ (g : Nat) (a : LK) (t : Nat) (x : LK) (t' : Nat), pAs b n f g a t = .inl (x, t') → t ≤ t'
  | 0, a, t, x, t', h => by cases h
  | g + 1, a, t, x, t', h => by
    unfold pAs at h
    by_cases c : so b n t = 38
    · rw [if_pos c] at h
      obtain ⟨-, h⟩ := tk_i h
      obtain ⟨y, t2, h1, h⟩ := pb_inl h
      have := (hf _ _ _ h1).1
      have := pAs_le hf g _ _ _ _ h
      omega
    · rw [if_neg c] at h
      injection h with h
      injection h with e1 e2
      omega
theorem pOs_le {b : BY} {n : Nat} {f : Nat → PR LK} (hf : ∀ t x t', f t = .inl (x, t') → GD t x t') : ∀ (g : Nat) (a : LK) (t : Nat) (x : LK) (t' : Nat), pOs b n f g a t = .inl (x, t') → t ≤ t'
  | 0, a, t, x, t', h => by cases h
  | g + 1, a, t, x, t', h => by
    unfold pOs at h
    by_cases c : so b n t = 124
    · rw [if_pos c] at h
      obtain ⟨-, h⟩ := tk_i h
      obtain ⟨y, t2, h1, h⟩ := pb_inl h
      obtain ⟨z, t3, h2, h⟩ := pb_inl h
      have := (hf _ _ _ h1).1
      have := pAs_le hf _ _ _ _ _ h2
      have := pOs_le hf g _ _ _ _ h
      omega
    · rw [if_neg c] at h
      injection h with h
      injection h with e1 e2
      omega
theorem cu71 (st : St) (j : Nat) : sI (cu st j) 153 71 (gI (cu st j) 153 71 + 1) = cu st (j + 1) := by
  have : gI (cu st j) 153 71 = nI j := by unfold cu; rw [gI_sI, if_pos (by decide)]
  rw [this, show nI j + 1 = nI (j + 1) from nI_add j 1, cu_s]
theorem bN (b : Bool) : isb (nI b.toNat) := by cases b <;> decide
theorem ea_l {b : BY} {n m tt : Nat} {E : Nat → Int32} {A : Nat → Nat → Int32} {st : St} (h : EVS b n m tt E A st) {fu : Nat} {rO rA rN : RKe} {f : Nat → PR LK} (hN : EP E A st tt rN f) (hG : ∀ t y t', f t = .inl (y, t') → GD t y t') : ∀ (g F t : Nat) (a x : LK) (t' : Nat), g < F → pAs b n f g a t = .inl (x, t') → t' ≤ tt → b_X12_andOf_5 fu rO rA rN F 153 (nI (a.2 E A).toNat) (cu st t) = some (nI (x.2 E A).toNat, cu st t')
  | 0, F, t, a, x, t', hF, hp, ht => by cases hp
  | g + 1, 0, t, a, x, t', hF, hp, ht => by omega
  | g + 1, F + 1, t, a, x, t', hF, hp, ht => by
    have tl := pAs_le hG _ _ _ _ _ hp
    have un : b_X12_andOf_5 fu rO rA rN (F + 1) 153 (nI (a.2 E A).toNat) (cu st t) = b_X12_andOf_5_b fu rO rA rN (b_X12_andOf_5 fu rO rA rN F) 153 (nI (a.2 E A).toNat) (cu st t) := rfl
    have sb := so_b b n t
    rw [un]
    unfold b_X12_andOf_5_b
    rw [ck_t (show (kd 153).1 = 12 from rfl), ln_e h fu (by omega), ca_s]
    unfold pAs at hp
    by_cases c : so b n t = 38
    · rw [if_pos c] at hp
      obtain ⟨-, hp⟩ := tk_i hp
      obtain ⟨y, t2, h1, hp⟩ := pb_inl hp
      have tl2 := pAs_le hG _ _ _ _ _ hp
      have e1 := hN _ _ _ h1 (by omega)
      have ih := ea_l (fu := fu) (rO := rO) (rA := rA) h hN hG g F t2 (lAn a y) x t' (by omega) hp ht
      rw [c, if_pos (show nI 38 = 38 from rfl), ck_t (show (kd 153).1 = 12 from rfl), ck_t (show (kd 153).1 = 12 from rfl), cu71, bd_e, ck_t (show (kd 153).1 = 12 from rfl), e1, ca_s]
      unfold b_X12_andOf_41 b_X12_andOf_42
      rw [← ih]
      show _ = b_X12_andOf_5 fu rO rA rN F 153 (nI (a.2 E A && y.2 E A).toNat) (cu st t2)
      cases a.2 E A <;> cases y.2 E A <;> rfl
    · rw [if_neg c] at hp
      injection hp with hp
      injection hp with e1 e2
      subst e1 e2
      rw [if_neg (show ¬ nI (so b n t) = (38 : Int32) from fun z => c ((nI_eq (a := so b n t) (b := 38) (by omega) (by omega)).mp z)), ck_t (bN _)]
theorem eo_l {b : BY} {n m tt : Nat} {E : Nat → Int32} {A : Nat → Nat → Int32} {st : St} (h : EVS b n m tt E A st) {fu : Nat} {rO rA rN : RKe} {f : Nat → PR LK} (hN : EP E A st tt rA (pAnF b n f)) (hG : ∀ t y t', f t = .inl (y, t') → GD t y t') : ∀ (g F t : Nat) (a x : LK) (t' : Nat), g < F → pOs b n f g a t = .inl (x, t') → t' ≤ tt → b_X12_orOf_5 fu rO rA rN F 153 (nI (a.2 E A).toNat) (cu st t) = some (nI (x.2 E A).toNat, cu st t')
  | 0, F, t, a, x, t', hF, hp, ht => by cases hp
  | g + 1, 0, t, a, x, t', hF, hp, ht => by omega
  | g + 1, F + 1, t, a, x, t', hF, hp, ht => by
    have tl := pOs_le hG _ _ _ _ _ hp
    have un : b_X12_orOf_5 fu rO rA rN (F + 1) 153 (nI (a.2 E A).toNat) (cu st t) = b_X12_orOf_5_b fu rO rA rN (b_X12_orOf_5 fu rO rA rN F) 153 (nI (a.2 E A).toNat) (cu st t) := rfl
    have sb := so_b b n t
    rw [un]
    unfold b_X12_orOf_5_b
    rw [ck_t (show (kd 153).1 = 12 from rfl), ln_e h fu (by omega), ca_s]
    unfold pOs at hp
    by_cases c : so b n t = 124
    · rw [if_pos c] at hp
      obtain ⟨-, hp⟩ := tk_i hp
      obtain ⟨y, t2, h1, hp⟩ := pb_inl hp
      obtain ⟨z, t3, h2, hp⟩ := pb_inl hp
      have tl2 := pOs_le hG _ _ _ _ _ hp
      have e1 := hN (t + 1) z t3 (by unfold pAnF; rw [h1]; exact h2) (by omega)
      have ih := eo_l (fu := fu) (rO := rO) (rN := rN) h hN hG g F t3 (lOr a z) x t' (by omega) hp ht
      rw [c, if_pos (show nI 124 = 124 from rfl), ck_t (show (kd 153).1 = 12 from rfl), ck_t (show (kd 153).1 = 12 from rfl), cu71, bd_e, ck_t (show (kd 153).1 = 12 from rfl), e1, ca_s]
      unfold b_X12_orOf_37 b_X12_orOf_42
      rw [← ih]
      show _ = b_X12_orOf_5 fu rO rA rN F 153 (nI (a.2 E A || z.2 E A).toNat) (cu st t3)
      cases a.2 E A <;> cases z.2 E A <;> rfl
    · rw [if_neg c] at hp
      injection hp with hp
      injection hp with e1 e2
      subst e1 e2
      rw [if_neg (show ¬ nI (so b n t) = (124 : Int32) from fun z => c ((nI_eq (a := so b n t) (b := 124) (by omega) (by omega)).mp z)), ck_t (bN _)]
theorem ea_p {b : BY} {n m tt : Nat} {E : Nat → Int32} {A : Nat → Nat → Int32} {st : St} (h : EVS b n m tt E A st) {fu : Nat} (hf : 100 ≤ fu) {rO rA rN : RKe} {f : Nat → PR LK} (hN : EP E A st tt rN f) (hG : ∀ t y t', f t = .inl (y, t') → GD t y t') : EP E A st tt (fb_X12_andOf fu rO rA rN) (pAnF b n f) := by
  intro t x t' hp ht
  obtain ⟨y, t1, h1, h2⟩ := pb_inl (show pb _ _ = _ from hp)
  have tl := pAs_le hG _ _ _ _ _ h2
  unfold fb_X12_andOf
  rw [ck_t (show (kd 153).1 = 12 from rfl), hN _ _ _ h1 (by omega), ca_s]
  exact ea_l h hN hG 62 fu t1 y x t' (by omega) h2 ht
theorem eo_p {b : BY} {n m tt : Nat} {E : Nat → Int32} {A : Nat → Nat → Int32} {st : St} (h : EVS b n m tt E A st) {fu : Nat} (hf : 100 ≤ fu) {rO rA rN : RKe} {f : Nat → PR LK} (hN : EP E A st tt rA (pAnF b n f)) (hG : ∀ t y t', f t = .inl (y, t') → GD t y t') : EP E A st tt (fb_X12_orOf fu rO rA rN) (pOrF b n f) := by
  intro t x t' hp ht
  obtain ⟨y, t1, h1, h2⟩ := pb_inl (show pb _ _ = _ from hp)
  have tl := pOs_le hG _ _ _ _ _ h2
  unfold fb_X12_orOf
  rw [ck_t (show (kd 153).1 = 12 from rfl), hN _ _ _ h1 (by omega), ca_s]
  exact eo_l h hN hG 62 fu t1 y x t' (by omega) h2 ht
