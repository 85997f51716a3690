/-! PURE: runs of places with one value; sums; marks of seats -/
def seg (o a n : Nat) (v : Int32) (st : St) : St := (fun x y => if x = o ∧ a ≤ y ∧ y < a + n then v else st.1 x y, st.2.1, st.2.2)
theorem gI_seg (o a n : Nat) (v : Int32) (st : St) (x y : Nat) : gI (seg o a n v st) x y = if x = o ∧ a ≤ y ∧ y < a + n then v else gI st x y := rfl
theorem gR_seg (o a n : Nat) (v : Int32) (st : St) : gR (seg o a n v st) = gR st := rfl
theorem gL_seg (o a n : Nat) (v : Int32) (st : St) : gL (seg o a n v st) = gL st := rfl
theorem seg_0 (o a : Nat) (v : Int32) (st : St) : seg o a 0 v st = st := by
  unfold seg
  have : (fun x y => if x = o ∧ a ≤ y ∧ y < a + 0 then v else st.1 x y) = st.1 := by
    funext x y
    rw [if_neg (by omega)]
  rw [this]
theorem seg_s (o a n : Nat) (v : Int32) (st : St) : seg o (a + 1) n v (sI st o a v) = seg o a (n + 1) v st := by
  unfold seg sI u2
  have : (fun x y => if x = o ∧ a + 1 ≤ y ∧ y < a + 1 + n then v else if x = o ∧ y = a then v else st.1 x y) = (fun x y => if x = o ∧ a ≤ y ∧ y < a + (n + 1) then v else st.1 x y) := by
    funext x y
    by_cases hx : x = o
    · by_cases h1 : a + 1 ≤ y ∧ y < a + 1 + n
      · rw [if_pos ⟨hx, h1⟩, if_pos ⟨hx, by omega, by omega⟩]
      · rw [if_neg (fun q => h1 q.2)]
        by_cases h2 : y = a
        · rw [if_pos ⟨hx, h2⟩, if_pos ⟨hx, by omega, by omega⟩]
        · rw [if_neg (fun q => h2 q.2), if_neg (fun q => by omega)]
    · rw [if_neg (fun q => hx q.1), if_neg (fun q => hx q.1), if_neg (fun q => hx q.1)]
  simp only [this]
theorem Fr.sg (st : St) (o a n : Nat) (v : Int32) : Fr [(o, none)] st (seg o a n v st) := fun x y h => by
  simp [covers] at h
  refine ⟨?_, rfl, rfl⟩
  rw [gI_seg, if_neg]
  rintro ⟨rfl, -⟩
  exact h rfl
/-- reading: cells apart are never compared by places -/
theorem GS : (∀ (st : St) (o k a : Nat) (v : Int32), a ≠ o → gI (sI st o k v) a = gI st a) ∧ (∀ (st : St) (o k b : Nat) (v : Int32), gI (sI st o k v) o b = if b = k then v else gI st o b) ∧ (∀ (o a n : Nat) (v : Int32) (st : St) (x : Nat), x ≠ o → gI (seg o a n v st) x = gI st x) ∧ (∀ (o a n : Nat) (v : Int32) (st : St) (y : Nat), gI (seg o a n v st) o y = if a ≤ y ∧ y < a + n then v else gI st o y) ∧ (∀ (o a n : Nat) (v : Int32) (st : St), gR (seg o a n v st) = gR st) ∧ (∀ (o a n : Nat) (v : Int32) (st : St), gL (seg o a n v st) = gL st) := ⟨fun st o k a v h => gI_sI_n st k v h, fun st o k b v => by rw [gI_sI_o]; rfl, fun o a n v st x h => by funext y; rw [gI_seg, if_neg (fun q => h q.1)], fun o a n v st y => by rw [gI_seg]; simp, fun _ _ _ _ _ => rfl, fun _ _ _ _ _ => rfl⟩
theorem pk_ix0 (x : Int32) {n : Nat} (hn : n < 2147483648) : x < nI 0 ∨ (¬ x < nI 0 ∧ nI n ≤ x) ∨ ∃ j : Nat, j < n ∧ x = nI j := by
  by_cases h : x < nI 0
  · exact Or.inl h
  · rcases pk_ix x (n := n) (by omega) with q | q | q
    · exact absurd q h
    · exact Or.inr (Or.inl ⟨h, q⟩)
    · exact Or.inr (Or.inr q)
theorem mark_cl (fu : Nat) {sp n : Nat} (v : Int32) (hs : sp + n ≤ 1200) : ∀ (F k : Nat) (st : St), Top st → k ≤ n → n - k < F → b_X4_mark_3 fu F 115 (nI sp) (nI n) v (nI k) st = some (seg 119 (sp + k) (n - k) v st) := by
  intro F
  induction F with
  | zero => intro k st _ h1 h2; omega
  | succ F ih =>
    intro k st hT h1 h2
    show b_X4_mark_3_b fu (b_X4_mark_3 fu F) 115 (nI sp) (nI n) v (nI k) st = _
    rcases Nat.lt_or_ge k n with hk | hk
    · have := ih (k + 1) (sI st 119 (sp + k) v) (hT.r rfl) (by omega) (by omega)
      simp (disch := first | decide | omega) [isb, ck_tt, NP, NF, NC, NB, NS, GS, kdC, tpC hT, b_X4_mark_3_b, this]
      rw [show n - k = n - (k + 1) + 1 by omega, ← seg_s]
      rfl
    · have : n - k = 0 := by omega
      rw [this, seg_0]
      simp (disch := first | decide | omega) [isb, ck_tt, NP, NF, NC, NB, NS, GS, kdC, tpC hT, b_X4_mark_3_b, b_X4_mark_37]
theorem mark_c {st : St} (hT : Top st) {fu : Nat} (hf : 100 ≤ fu) {sp n : Nat} (v : Int32) (hs : sp + n ≤ 1200) (hn : n ≤ 30) : f_X4_mark fu 115 (nI sp) (nI n) v st = some (seg 119 sp n v st) := mark_cl fu v hs fu 0 st hT (Nat.zero_le _) (by omega)
theorem mark_rl (fu : Nat) {r f n : Nat} (v : Int32) (hr : r < 40) (hs : f + n ≤ 30) : ∀ (F i : Nat) (st : St), Top st → f ≤ i → i ≤ f + n → f + n - i < F → b_X12_mark_3 fu F 153 (nI r) (nI f) (nI n) v (nI i) st = some (seg 217 (30 * r + i) (f + n - i) v st) := by
  intro F
  induction F with
  | zero => intro k st _ h1 h2; omega
  | succ F ih =>
    intro i st hT h0 h1 h2
    show b_X12_mark_3_b fu (b_X12_mark_3 fu F) 153 (nI r) (nI f) (nI n) v (nI i) st = _
    rcases Nat.lt_or_ge i (f + n) with hk | hk
    · have := ih (i + 1) (sI st 217 (30 * r + i) v) (hT.r rfl) (by omega) (by omega) (by omega)
      simp (disch := first | decide | omega) [isb, ck_tt, NP, NF, NC, NB, NS, GS, kdR, tpR hT, b_X12_mark_3_b, this]
      rw [show f + n - i = f + n - (i + 1) + 1 by omega, ← seg_s]
      rfl
    · have : f + n - i = 0 := by omega
      rw [this, seg_0]
      simp (disch := first | decide | omega) [isb, ck_tt, NP, NF, NC, NB, NS, GS, kdR, tpR hT, b_X12_mark_3_b]
theorem mark_r {st : St} (hT : Top st) {fu : Nat} (hf : 100 ≤ fu) {r f n : Nat} (v : Int32) (hr : r < 40) (hs : f + n ≤ 30) : f_X12_mark fu 153 (nI r) (nI f) (nI n) v st = some (seg 217 (30 * r + f) n v st) := by
  have := mark_rl fu v hr hs fu f st hT (Nat.le_refl _) (by omega) (by omega)
  rw [show f + n - f = n by omega] at this
  exact this
/-- sums -/
def sm : Nat → (Nat → Nat) → Nat
  | 0, _ => 0
  | n + 1, f => sm n f + f n
theorem sm_c {f g : Nat → Nat} : ∀ {n : Nat}, (∀ i, i < n → f i = g i) → sm n f = sm n g
  | 0, _ => rfl
  | n + 1, h => by
    show sm n f + f n = sm n g + g n
    rw [sm_c (fun i hi => h i (by omega)), h n (by omega)]
/-- one place changed -/
theorem sm_u {f g : Nat → Nat} {i : Nat} : ∀ {n : Nat}, i < n → (∀ j, j < n → j ≠ i → g j = f j) → sm n g + f i = sm n f + g i
  | 0, h, _ => by omega
  | n + 1, h, hg => by
    show sm n g + g n + f i = sm n f + f n + g i
    rcases Nat.lt_or_ge i n with q | q
    · have := sm_u (n := n) q (fun j hj hn => hg j (by omega) hn)
      have := hg n (by omega) (by omega)
      omega
    · have e : i = n := by omega
      subst e
      have := sm_c (f := g) (g := f) (n := i) (fun j hj => hg j (by omega) (by omega))
      omega
theorem sm_g {f : Nat → Nat} {i : Nat} : ∀ {n : Nat}, i < n → f i ≤ sm n f
  | 0, h => by omega
  | n + 1, h => by
    show f i ≤ sm n f + f n
    rcases Nat.lt_or_ge i n with q | q
    · have := sm_g (f := f) q
      omega
    · have e : i = n := by omega
      subst e
      omega
theorem sm_b {f : Nat → Nat} {b : Nat} : ∀ {n : Nat}, (∀ i, i < n → f i ≤ b) → sm n f ≤ n * b
  | 0, _ => by simp [sm]
  | n + 1, h => by
    show sm n f + f n ≤ (n + 1) * b
    have := sm_b (f := f) (b := b) (n := n) (fun i hi => h i (by omega))
    have := h n (by omega)
    rw [Nat.succ_mul]
    omega
