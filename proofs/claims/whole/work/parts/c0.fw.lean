/-! PURE: readers as functions of the token's number: what is read and the next token, or the fault and its place -/
abbrev PR (α : Type) : Type := (α × Nat) ⊕ (Nat × Nat)
def pNum (b : BY) (n lo hi t : Nat) : PR Nat := if so b n t = 2 then (if lo ≤ nvt b n t ∧ nvt b n t ≤ hi then .inl (nvt b n t, t + 1) else .inr (2, pl b n t)) else .inr (1, pl b n t)
def pSg (b : BY) (n c t : Nat) : PR Unit := if so b n t = c then .inl ((), t + 1) else .inr (1, pl b n t)
noncomputable def wB (b : BY) (n t w : Nat) : Bool := @decide (isW b n t w) (Classical.propDecidable _)
theorem wB_t {b : BY} {n t w : Nat} : wB b n t w = true ↔ isW b n t w := by unfold wB; simp
theorem wB_f {b : BY} {n t w : Nat} : wB b n t w = false ↔ ¬ isW b n t w := by unfold wB; simp
noncomputable def pWd (b : BY) (n w t : Nat) : PR Unit := if wB b n t w then .inl ((), t + 1) else .inr (1, pl b n t)
theorem pNum_i {b : BY} {n lo hi t v t' : Nat} (h : pNum b n lo hi t = .inl (v, t')) : so b n t = 2 ∧ v = nvt b n t ∧ lo ≤ v ∧ v ≤ hi ∧ t' = t + 1 := by
  unfold pNum at h
  by_cases h1 : so b n t = 2
  · rw [if_pos h1] at h
    by_cases h2 : lo ≤ nvt b n t ∧ nvt b n t ≤ hi
    · rw [if_pos h2] at h
      injection h with h
      injection h with h3 h4
      subst h3
      exact ⟨h1, rfl, h2.1, h2.2, h4.symm⟩
    · rw [if_neg h2] at h; cases h
  · rw [if_neg h1] at h; cases h
theorem pNum_b {b : BY} {n lo hi t f p : Nat} (h : pNum b n lo hi t = .inr (f, p)) : p = pl b n t ∧ 1 ≤ f ∧ f ≤ 2 := by
  unfold pNum at h
  by_cases h1 : so b n t = 2
  · rw [if_pos h1] at h
    by_cases h2 : lo ≤ nvt b n t ∧ nvt b n t ≤ hi
    · rw [if_pos h2] at h; cases h
    · rw [if_neg h2] at h
      injection h with h
      injection h with h3 h4
      exact ⟨h4.symm, by omega, by omega⟩
  · rw [if_neg h1] at h
    injection h with h
    injection h with h3 h4
    exact ⟨h4.symm, by omega, by omega⟩
theorem pSg_i {b : BY} {n c t t' : Nat} {x : Unit} (h : pSg b n c t = .inl (x, t')) : so b n t = c ∧ t' = t + 1 := by
  unfold pSg at h
  by_cases h1 : so b n t = c
  · rw [if_pos h1] at h
    injection h with h
    injection h with h3 h4
    exact ⟨h1, h4.symm⟩
  · rw [if_neg h1] at h; cases h
theorem pSg_b {b : BY} {n c t f p : Nat} (h : pSg b n c t = .inr (f, p)) : p = pl b n t ∧ f = 1 ∧ so b n t ≠ c := by
  unfold pSg at h
  by_cases h1 : so b n t = c
  · rw [if_pos h1] at h; cases h
  · rw [if_neg h1] at h
    injection h with h
    injection h with h3 h4
    exact ⟨h4.symm, h3.symm, h1⟩
theorem pWd_i {b : BY} {n w t t' : Nat} {x : Unit} (h : pWd b n w t = .inl (x, t')) : isW b n t w ∧ t' = t + 1 := by
  unfold pWd at h
  by_cases h1 : wB b n t w = true
  · rw [if_pos h1] at h
    injection h with h
    injection h with h3 h4
    exact ⟨wB_t.mp h1, h4.symm⟩
  · rw [if_neg h1] at h; cases h
theorem pWd_b {b : BY} {n w t f p : Nat} (h : pWd b n w t = .inr (f, p)) : p = pl b n t ∧ f = 1 ∧ ¬ isW b n t w := by
  unfold pWd at h
  by_cases h1 : wB b n t w = true
  · rw [if_pos h1] at h; cases h
  · rw [if_neg h1] at h
    injection h with h
    injection h with h3 h4
    exact ⟨h4.symm, h3.symm, fun x => h1 (wB_t.mpr x)⟩
theorem isW_u {b : BY} {n t w v : Nat} (hw : w < 24) (hv : v < 24) (h1 : isW b n t w) (h2 : isW b n t v) : w = v := by
  have d : ∀ w, w < 24 → ∀ v, v < 24 → LN w = LN v → (∀ i, i < 18 → i < LN w → CH w i = CH v i) → w = v := by decide +kernel
  obtain ⟨-, a1, a2⟩ := h1
  obtain ⟨-, b1, b2⟩ := h2
  have e : LN w = LN v := by omega
  refine d w hw v hv e (fun i _ hi => ?_)
  rw [← a2 i hi, ← b2 i (by omega)]
theorem isW_s {b : BY} {n t w : Nat} (h : isW b n t w) : so b n t ≠ 0 := by rw [h.1]; decide
theorem Fr.tt {W : List PL} {a b c : St} (h1 : Fr W a b) (h2 : Fr W b c) : Fr W a c := fun o k hk => by
  obtain ⟨a1, a2, a3⟩ := h1 o k hk
  obtain ⟨b1, b2, b3⟩ := h2 o k hk
  exact ⟨b1.trans a1, b2.trans a2, b3.trans a3⟩
theorem Fr.sub {W V : List PL} {a b : St} (h : Fr W a b) (hs : ∀ x, x ∈ W → x ∈ V) : Fr V a b := fun o k hk => h o k (List.any_eq_false.mpr fun x hx => List.any_eq_false.mp hk x (hs x hx))
theorem Fr.fr {W : List PL} {st w : St} (h : Fr W st w) (o : Nat) (hd : W.all (fun b => !(b.1 == o)) = true) : gR w o = gR st o := funext fun k => (h o k (List.any_eq_false.mpr fun b hb => by
  have := List.all_eq_true.mp hd b hb
  simp at this
  simp [covers]
  intro e; exact absurd e this)).2.2
theorem Fr.fl {W : List PL} {st w : St} (h : Fr W st w) (o : Nat) (hd : W.all (fun b => !(b.1 == o)) = true) : gL w o = gL st o := funext fun k => (h o k (List.any_eq_false.mpr fun b hb => by
  have := List.all_eq_true.mp hd b hb
  simp at this
  simp [covers]
  intro e; exact absurd e this)).2.1
/-! the class -/
def CO {α : Type} (b : BY) (n : Nat) (r : PR α) (Q : α → Prop) (u : St) : Prop := match r with
  | .inl x => TC b n 4000 x.2 u ∧ Q x.1
  | .inr e => TD b n 4000 e.1 e.2 u
theorem number_p {st : St} (hT : Top st) {b : BY} {n t : Nat} (h : TC b n 4000 t st) {fu : Nat} (hf : 4100 ≤ fu) {lo hi : Nat} (hl : lo ≤ 100000) (hh : hi ≤ 100000) (hlh : lo ≤ hi) : ∃ v u, f_X9_number fu 2 (nI lo) (nI hi) st = some (nI v, u) ∧ Fr WT st u ∧ Top u ∧ lo ≤ v ∧ v ≤ hi ∧ CO b n (pNum b n lo hi t) (fun a => v = a) u := by
  obtain ⟨N1, N2, N3⟩ := number_c hT h hf hl hh
  unfold pNum
  by_cases h1 : so b n t = 2
  · rw [if_pos h1]
    by_cases h2 : lo ≤ nvt b n t ∧ nvt b n t ≤ hi
    · rw [if_pos h2]
      obtain ⟨u, u1, u2⟩ := N1 h1 h2.1 h2.2
      obtain ⟨a1, a2, a3⟩ := u2.go h.1.2.1 (by omega)
      exact ⟨_, u, u1, a1, a2, h2.1, h2.2, a3, rfl⟩
    · rw [if_neg h2]
      obtain ⟨u, u1, a1, a2, a3⟩ := N2 h1 h2
      exact ⟨_, u, u1, a1, a2, Nat.le_refl _, hlh, a3⟩
  · rw [if_neg h1]
    obtain ⟨u, u1, a1, a2, a3⟩ := N3 h1
    exact ⟨_, u, u1, a1, a2, Nat.le_refl _, hlh, a3⟩
theorem takes_p {st : St} (hT : Top st) {b : BY} {n t : Nat} (h : TC b n 4000 t st) {fu : Nat} (hf : 4100 ≤ fu) {c : Nat} (hc : 3 < c) (hc2 : c < 200) : ∃ u, f_X9_takes fu 2 (nI c) st = some (nI (if so b n t = c then 1 else 0), u) ∧ Fr WT st u ∧ Top u ∧ TC b n 4000 (if so b n t = c then t + 1 else t) u := by
  obtain ⟨T1, T2⟩ := takes_c hT h hf hc hc2
  by_cases h1 : so b n t = c
  · rw [if_pos h1, if_pos h1]
    obtain ⟨u, u1, u2⟩ := T1 h1
    obtain ⟨a1, a2, a3⟩ := u2.go h.1.2.1 (by omega)
    exact ⟨u, u1, a1, a2, a3⟩
  · rw [if_neg h1, if_neg h1]
    exact ⟨st, T2 h1, Fr.rf, hT, h⟩
theorem need_p {st : St} (hT : Top st) {b : BY} {n t : Nat} (h : TC b n 4000 t st) {fu : Nat} (hf : 4100 ≤ fu) {c : Nat} (hc : 3 < c) (hc2 : c < 200) : ∃ u, f_X9_need fu 2 (nI c) st = some u ∧ Fr WT st u ∧ Top u ∧ CO b n (pSg b n c t) (fun _ => True) u := by
  obtain ⟨T1, T2⟩ := need_c hT h hf hc hc2
  unfold pSg
  by_cases h1 : so b n t = c
  · rw [if_pos h1]
    obtain ⟨u, u1, u2⟩ := T1 h1
    obtain ⟨a1, a2, a3⟩ := u2.go h.1.2.1 (by omega)
    exact ⟨u, u1, a1, a2, a3, trivial⟩
  · rw [if_neg h1]
    obtain ⟨u, u1, a1, a2, a3⟩ := T2 h1
    exact ⟨u, u1, a1, a2, a3⟩
theorem needWord_p {st : St} (hT : Top st) {b : BY} {n t : Nat} (h : TC b n 4000 t st) {fu : Nat} (hf : 4100 ≤ fu) {w : Nat} (hw : w < 24) : ∃ u, f_X9_needWord fu 2 w st = some u ∧ Fr WT st u ∧ Top u ∧ CO b n (pWd b n w t) (fun _ => True) u := by
  obtain ⟨T1, T2⟩ := needWord_c hT h hf hw
  unfold pWd
  by_cases h1 : wB b n t w = true
  · rw [if_pos h1]
    obtain ⟨u, u1, u2⟩ := T1 (wB_t.mp h1)
    obtain ⟨a1, a2, a3⟩ := u2.go h.1.2.1 (isW_s (wB_t.mp h1))
    exact ⟨u, u1, a1, a2, a3, trivial⟩
  · rw [if_neg h1]
    obtain ⟨u, u1, a1, a2, a3⟩ := T2 (fun x => h1 (wB_t.mpr x))
    exact ⟨u, u1, a1, a2, a3⟩
theorem isWord_p {st : St} (hT : Top st) {b : BY} {n t : Nat} (h : TC b n 4000 t st) {fu : Nat} (hf : 100 ≤ fu) {w : Nat} (hw : w < 24) : f_X9_isWord fu 2 w st = some (nI (wB b n t w).toNat, st) := by
  obtain ⟨a, c⟩ := isWord_c hT h hf hw
  cases e : wB b n t w
  · exact c (wB_f.mp e)
  · exact a (wB_t.mp e)
/-! the reference: at most M tokens more, or stopped, behind a fault -/
def DM (b : BY) (n T f p M : Nat) (st : St) : Prop := ∃ t s, RfD b n T f p t s st ∧ (s = 1 ∨ T ≤ t + M)
theorem DM.mono {b : BY} {n T f p M M' : Nat} {st : St} (h : DM b n T f p M st) (hm : M ≤ M') : DM b n T f p M' st := by
  obtain ⟨t, s, h1, h2⟩ := h
  exact ⟨t, s, h1, by omega⟩
theorem DM.same {b : BY} {n T f p M : Nat} {st u : St} (h : DM b n T f p M st) (hs : Same S_rf st u) : DM b n T f p M u := by
  obtain ⟨t, s, ⟨h1, h3⟩, h2⟩ := h
  exact ⟨t, s, ⟨h1.same hs, h3⟩, h2⟩
def RO {α : Type} (b : BY) (n T M : Nat) (r : PR α) (Q : α → Prop) (u : St) : Prop := match r with
  | .inl x => RS b n T x.2 u ∧ Q x.1
  | .inr e => DM b n T e.1 e.2 M u
theorem RfA.rd {b : BY} {n T t f p s : Nat} {st : St} (h : RfA b n T t f p s st) : gI st 153 5 = nI t ∧ t ≤ 4000 ∧ gI st 155 t = nI (so b n t) ∧ gI st 157 t = nI (pl b n t) ∧ so b n t < 200 ∧ gI st 153 8 = nI s ∧ s ≤ 1 ∧ (so b n t = 0 ↔ t = T) ∧ pl b n t ≤ 4000 := by
  have a := h.1.sot h.2.2.1
  have x := h.2.2.1
  have y := h.1.2.2.2.2.1
  have z := h.1.2.2.2.2.2
  have sb := so_b b n t
  have := (pl_b b n t).2
  exact ⟨h.2.1, by omega, a.1, a.2.1, by omega, h.2.2.2.2.2.2.2.1, h.2.2.2.2.2.2.2.2, a.2.2, by omega⟩
theorem num_p {st : St} (hT : Top st) {b : BY} {n T t : Nat} (h : RS b n T t st) (fu : Nat) {lo hi : Nat} (hl : lo ≤ 100000) (hh : hi ≤ 100000) : ∃ v u, f_X12_number fu 153 (nI lo) (nI hi) st = some (nI v, u) ∧ v ≤ 100000 ∧ Fr W5 st u ∧ Top u ∧ RO b n T (T - t - 1) (pNum b n lo hi t) (fun a => v = a) u := by
  obtain ⟨N1, N2, N3⟩ := num_s hT h fu hl hh
  have vb := nv_le b (pl b n t) (af b n (t + 1) - pl b n t)
  unfold pNum
  by_cases h1 : so b n t = 2
  · rw [if_pos h1]
    by_cases h2 : lo ≤ nvt b n t ∧ nvt b n t ≤ hi
    · rw [if_pos h2]
      obtain ⟨u, u1, a1, a2, a3⟩ := N1 h1 h2.1 h2.2
      exact ⟨_, u, u1, vb, a1, a2, a3, rfl⟩
    · rw [if_neg h2]
      obtain ⟨u, u1, a1, a2, a3⟩ := N2 h1 h2
      exact ⟨_, u, u1, vb, a1, a2, _, _, a3, Or.inr (by omega)⟩
  · rw [if_neg h1]
    obtain ⟨u, u1, a1, a2, a3⟩ := N3 h1
    exact ⟨_, u, u1, hl, a1, a2, _, _, a3, Or.inl rfl⟩
theorem takeS_p {st : St} (hT : Top st) {b : BY} {n T t : Nat} (h : RS b n T t st) (fu : Nat) {c : Nat} (hc : 3 < c) (hc2 : c < 200) : ∃ u, f_X12_takeSign fu 153 (nI c) st = some (nI (if so b n t = c then 1 else 0), u) ∧ Fr W5 st u ∧ Top u ∧ RS b n T (if so b n t = c then t + 1 else t) u := by
  obtain ⟨a, d⟩ := takeS_s hT h fu hc hc2
  by_cases h1 : so b n t = c
  · rw [if_pos h1, if_pos h1]; exact a h1
  · rw [if_neg h1, if_neg h1]; exact d h1
theorem needS_q {st : St} (hT : Top st) {b : BY} {n T t : Nat} (h : RS b n T t st) (fu : Nat) {c : Nat} (hc : 3 < c) (hc2 : c < 200) : ∃ u, f_X12_needSign fu 153 (nI c) st = some u ∧ Fr W5 st u ∧ Top u ∧ RO b n T (T - t - 1) (pSg b n c t) (fun _ => True) u := by
  obtain ⟨a, d⟩ := needS_s hT h fu hc hc2
  unfold pSg
  by_cases h1 : so b n t = c
  · rw [if_pos h1]
    obtain ⟨u, u1, a1, a2, a3⟩ := a h1
    exact ⟨u, u1, a1, a2, a3, trivial⟩
  · rw [if_neg h1]
    obtain ⟨u, u1, a1, a2, a3⟩ := d h1
    exact ⟨u, u1, a1, a2, _, _, a3, Or.inl rfl⟩
theorem takeW_p {st : St} (hT : Top st) {b : BY} {n T t : Nat} (h : RS b n T t st) {fu : Nat} (hf : 100 ≤ fu) {w : Nat} (hw : 1 ≤ w) (hw2 : w < 24) : ∃ u, f_X12_takeWord fu 153 w st = some (nI (wB b n t w).toNat, u) ∧ Fr W5 st u ∧ Top u ∧ RS b n T (if wB b n t w then t + 1 else t) u := by
  obtain ⟨a, d⟩ := takeW_s hT h hf hw hw2
  cases h1 : wB b n t w
  · exact d (wB_f.mp h1)
  · exact a (wB_t.mp h1)
theorem needW_q {st : St} (hT : Top st) {b : BY} {n T t : Nat} (h : RS b n T t st) {fu : Nat} (hf : 100 ≤ fu) {w : Nat} (hw : 1 ≤ w) (hw2 : w < 24) : ∃ u, f_X12_needWord fu 153 w st = some u ∧ Fr W5 st u ∧ Top u ∧ RO b n T (T - t - 1) (pWd b n w t) (fun _ => True) u := by
  obtain ⟨a, d⟩ := needW_s hT h hf hw hw2
  unfold pWd
  by_cases h1 : wB b n t w = true
  · rw [if_pos h1]
    obtain ⟨u, u1, a1, a2, a3⟩ := a (wB_t.mp h1)
    exact ⟨u, u1, a1, a2, a3, trivial⟩
  · rw [if_neg h1]
    obtain ⟨u, u1, a1, a2, a3⟩ := d (fun x => h1 (wB_t.mpr x))
    exact ⟨u, u1, a1, a2, _, _, a3, Or.inl rfl⟩
/-! behind a fault -/
theorem num_D {st : St} (hT : Top st) {b : BY} {n T f p M : Nat} (h : DM b n T f p M st) (fu : Nat) {lo hi : Nat} (hl : lo ≤ 100000) (hh : hi ≤ 100000) : ∃ v u, f_X12_number fu 153 (nI lo) (nI hi) st = some (nI v, u) ∧ v ≤ 100000 ∧ Fr W5 st u ∧ Top u ∧ DM b n T f p (M - 1) u := by
  obtain ⟨t, s, h1, h2⟩ := h
  obtain ⟨u, v, v1, u1, u2⟩ := num_d hT h1 fu hl hh
  refine ⟨v, u, u1, v1, ?_⟩
  rcases u2 with ⟨e, a1, a2, a3⟩ | ⟨a1, a2, a3⟩
  · exact ⟨a1, a2, _, _, a3, Or.inr (by omega)⟩
  · exact ⟨a1, a2, _, _, a3, Or.inl rfl⟩
theorem takeS_D {st : St} (hT : Top st) {b : BY} {n T f p M : Nat} (h : DM b n T f p M st) (fu : Nat) {c : Nat} (hc : 3 < c) (hc2 : c < 200) : ∃ r u, f_X12_takeSign fu 153 (nI c) st = some (nI r, u) ∧ r ≤ 1 ∧ (r = 1 → 1 ≤ M) ∧ Fr W5 st u ∧ Top u ∧ DM b n T f p (if r = 1 then M - 1 else M) u := by
  obtain ⟨t, s, h1, h2⟩ := h
  obtain ⟨u, d⟩ := takeS_d hT h1 fu hc hc2
  rcases d with ⟨u1, u0, a1, a2, a3⟩ | ⟨u1, a1, a2, a3⟩
  · have tT := a3.1.2.2.1
    exact ⟨1, u, u1, by omega, fun _ => by omega, a1, a2, _, _, a3, Or.inr (by rw [if_pos rfl]; omega)⟩
  · exact ⟨0, u, u1, by omega, fun h => absurd h (by decide), a1, a2, _, _, a3, h2⟩
theorem takeW_D {st : St} (hT : Top st) {b : BY} {n T f p M : Nat} (h : DM b n T f p M st) {fu : Nat} (hf : 100 ≤ fu) {w : Nat} (hw : 1 ≤ w) (hw2 : w < 24) : ∃ r u, f_X12_takeWord fu 153 w st = some (nI r, u) ∧ r ≤ 1 ∧ (r = 1 → 1 ≤ M) ∧ Fr W5 st u ∧ Top u ∧ DM b n T f p (if r = 1 then M - 1 else M) u := by
  obtain ⟨t, s, h1, h2⟩ := h
  obtain ⟨u, d⟩ := takeW_d hT h1 hf hw hw2
  rcases d with ⟨u1, u0, a1, a2, a3⟩ | ⟨u1, a1, a2, a3⟩
  · have tT := a3.1.2.2.1
    exact ⟨1, u, u1, by omega, fun _ => by omega, a1, a2, _, _, a3, Or.inr (by rw [if_pos rfl]; omega)⟩
  · exact ⟨0, u, u1, by omega, fun h => absurd h (by decide), a1, a2, _, _, a3, h2⟩
theorem needS_D {st : St} (hT : Top st) {b : BY} {n T f p M : Nat} (h : DM b n T f p M st) (fu : Nat) {c : Nat} (hc : 3 < c) (hc2 : c < 200) : ∃ u, f_X12_needSign fu 153 (nI c) st = some u ∧ Fr W5 st u ∧ Top u ∧ DM b n T f p (M - 1) u := by
  obtain ⟨t, s, h1, h2⟩ := h
  obtain ⟨u, u1, u2⟩ := needS_d hT h1 fu hc hc2
  refine ⟨u, u1, ?_⟩
  rcases u2 with ⟨e, a1, a2, a3⟩ | ⟨a1, a2, a3⟩
  · exact ⟨a1, a2, _, _, a3, Or.inr (by omega)⟩
  · exact ⟨a1, a2, _, _, a3, Or.inl rfl⟩
theorem needW_D {st : St} (hT : Top st) {b : BY} {n T f p M : Nat} (h : DM b n T f p M st) {fu : Nat} (hf : 100 ≤ fu) {w : Nat} (hw : 1 ≤ w) (hw2 : w < 24) : ∃ u, f_X12_needWord fu 153 w st = some u ∧ Fr W5 st u ∧ Top u ∧ DM b n T f p (M - 1) u := by
  obtain ⟨t, s, h1, h2⟩ := h
  obtain ⟨u, u1, u2⟩ := needW_d hT h1 hf hw hw2
  refine ⟨u, u1, ?_⟩
  rcases u2 with ⟨e, a1, a2, a3⟩ | ⟨a1, a2, a3⟩
  · exact ⟨a1, a2, _, _, a3, Or.inr (by omega)⟩
  · exact ⟨a1, a2, _, _, a3, Or.inl rfl⟩
theorem wrong_D {st : St} (hT : Top st) {b : BY} {n T f p M : Nat} (h : DM b n T f p M st) (fu : Nat) : ∃ u, f_X12_wrong fu 153 st = some u ∧ Fr W5 st u ∧ Top u ∧ DM b n T f p 0 u := by
  obtain ⟨t, s, h1, h2⟩ := h
  obtain ⟨u, u1, a1, a2, a3⟩ := wrong_d hT h1 fu
  exact ⟨u, u1, a1, a2, _, _, a3, Or.inl rfl⟩
theorem wrong_q {st : St} (hT : Top st) {b : BY} {n T t : Nat} (h : RS b n T t st) (fu : Nat) : ∃ u, f_X12_wrong fu 153 st = some u ∧ Fr W5 st u ∧ Top u ∧ DM b n T 1 (pl b n t) 0 u := by
  obtain ⟨u, u1, a1, a2, a3⟩ := wrong_0 hT h fu
  exact ⟨u, u1, a1, a2, _, _, a3, Or.inl rfl⟩
/-- a fault told at q: behind one that stands before q it changes nothing -/
theorem tell_D {st : St} (hT : Top st) {b : BY} {n T f p M : Nat} (h : DM b n T f p M st) (fu : Nat) {k q : Nat} (k1 : 1 ≤ k) (k3 : k ≤ 3) (hq : q ≤ n) (hc : p < q ∨ (p = q ∧ f ≤ k)) : f_X12_tell fu 153 (nI k) (nI q) st = some st := by
  obtain ⟨t, s, h1, h2⟩ := h
  exact (tell_r hT h1.1 fu k1 k3 hq).2 (by have := h1.2.1; omega)
/-- .. one that stands behind q is put aside -/
theorem tell_M {st : St} (hT : Top st) {b : BY} {n T f p M : Nat} (h : DM b n T f p M st) (fu : Nat) {k q : Nat} (k1 : 1 ≤ k) (k3 : k ≤ 3) (hc : q < p) : ∃ u, f_X12_tell fu 153 (nI k) (nI q) st = some u ∧ Fr W5 st u ∧ Top u ∧ DM b n T k q M u := by
  obtain ⟨t, s, h1, h2⟩ := h
  have pn := h1.1.2.2.2.2.2.2.1
  have hp := h1.2.2
  obtain ⟨u, u1, a1, a2, a3⟩ := tell_o hT h1.1 fu k1 k3 (by omega) (Or.inr (Or.inl hc)) (by omega)
  exact ⟨u, u1, a1, a2, _, _, a3, h2⟩
/-- .. and in step it is the first -/
theorem tell_S {st : St} (hT : Top st) {b : BY} {n T t : Nat} (h : RS b n T t st) (fu : Nat) {k q : Nat} (k1 : 1 ≤ k) (k3 : k ≤ 3) (hc : q < pl b n t) : ∃ u, f_X12_tell fu 153 (nI k) (nI q) st = some u ∧ Fr W5 st u ∧ Top u ∧ DM b n T k q (T - t) u := by
  have pn := (pl_b b n t).2
  have tT := h.2.2.1
  obtain ⟨u, u1, a1, a2, a3⟩ := tell_o hT h fu k1 k3 (by omega) (Or.inl rfl) (Or.inr hc)
  exact ⟨u, u1, a1, a2, _, _, a3, Or.inr (by omega)⟩
/-- what the heads of loops see of a dead state -/
theorem DM.see {b : BY} {n T f p M : Nat} {st : St} (h : DM b n T f p M st) : ∃ t s, gI st 153 5 = nI t ∧ t ≤ 4000 ∧ gI st 155 t = nI (so b n t) ∧ gI st 157 t = nI (pl b n t) ∧ so b n t < 200 ∧ gI st 153 8 = nI s ∧ s ≤ 1 ∧ (so b n t = 0 ↔ t = T) ∧ pl b n t ≤ n ∧ (s = 0 → p < pl b n t ∧ T ≤ t + M ∧ t ≤ T) ∧ gI st 153 6 = nI f ∧ 1 ≤ f ∧ f ≤ 3 ∧ gI st 153 7 = nI p ∧ p ≤ n ∧ n ≤ 4000 := by
  obtain ⟨t, s, h1, h2⟩ := h
  have r := h1.1.rd
  have n4 := h1.1.1.2.2.2.2.2
  obtain ⟨x1, x2, x3, x4, x5, x6, x7, x8, x9⟩ := r
  have y3 := h1.1.2.2.1
  have q1 := h1.1.2.2.2.1
  have q2 := h1.1.2.2.2.2.1
  have q3 := h1.1.2.2.2.2.2.1
  have q4 := h1.1.2.2.2.2.2.2.1
  have y2 := h1.2.2
  exact ⟨t, s, x1, x2, x3, x4, x5, x6, x7, x8, (pl_b b n t).2, fun e => ⟨by omega, by omega, y3⟩, q1, h1.2.1, q2, q3, q4, n4⟩
