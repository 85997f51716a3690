/-! PURE: the class's layers -/
theorem pig : ∀ (m n : Nat) (f : Nat → Nat), (∀ i, i < n → f i < m) → (∀ i j, i < j → j < n → f i ≠ f j) → n ≤ m := by
  intro m
  induction m with
  | zero =>
    intro n f h _
    rcases Nat.eq_zero_or_pos n with e | e
    · omega
    · exact absurd (h 0 e) (Nat.not_lt_zero _)
  | succ m ih =>
    intro n f h1 h2
    by_cases e : ∃ i, i < n ∧ f i = m
    · obtain ⟨k, hk, hm⟩ := e
      have := ih (n - 1) (fun i => if i < k then f i else f (i + 1)) (fun i hi => by
        show (if i < k then f i else f (i + 1)) < m
        by_cases q : i < k
        · rw [if_pos q]
          have a := h1 i (by omega)
          have b := h2 i k q hk
          omega
        · rw [if_neg q]
          have a := h1 (i + 1) (by omega)
          have b := h2 k (i + 1) (by omega) (by omega)
          omega) (fun i j hi hj => by
        show (if i < k then f i else f (i + 1)) ≠ (if j < k then f j else f (j + 1))
        by_cases q : i < k
        · rw [if_pos q]
          by_cases q2 : j < k
          · rw [if_pos q2]; exact h2 i j hi (by omega)
          · rw [if_neg q2]; exact h2 i (j + 1) (by omega) (by omega)
        · rw [if_neg q, if_neg (by omega)]; exact h2 (i + 1) (j + 1) (by omega) (by omega))
      omega
    · have := ih n f (fun i hi => by
        have a := h1 i hi
        have b : f i ≠ m := fun q => e ⟨i, hi, q⟩
        omega) h2
      omega
/-- how far the layers are: queue Q of t spots -/
def eB (E : Nat → Nat → Option Nat) (A l : Nat → Nat) (T : Nat) (la : Nat → Option Nat) (Q : Nat → Nat) (t : Nat) : Prop := (∀ i, i < t → Q i < 612 ∧ Q i % 51 ≤ T ∧ ∃ k, k ≤ i ∧ la (Q i) = some k) ∧ (∀ i j, i < j → j < t → Q i ≠ Q j) ∧ (∀ s, s < 612 → la s ≠ none → ∃ i, i < t ∧ Q i = s) ∧ (∀ s, s < 612 → la s = some 0 → ∃ v, v < 11 ∧ s = 51 * v ∧ 0 < l v) ∧ ∀ s k, s < 612 → la s = some (k + 1) → ∃ s0 j, s0 < 561 ∧ j < A s0 ∧ la s0 = some k ∧ E s0 j = some s
theorem eB.le {E : Nat → Nat → Option Nat} {A l : Nat → Nat} {T : Nat} {la : Nat → Option Nat} {Q : Nat → Nat} {t : Nat} (h : eB E A l T la Q t) : t ≤ 612 := pig 612 t Q (fun i hi => (h.1 i hi).1) h.2.1
theorem eB.lt {E : Nat → Nat → Option Nat} {A l : Nat → Nat} {T : Nat} {la : Nat → Option Nat} {Q : Nat → Nat} {t : Nat} (h : eB E A l T la Q t) {x : Nat} (hx : x < 612) (hn : la x = none) : t < 612 := by
  have nq : ∀ i, i < t → Q i ≠ x := fun i hi e => by
    obtain ⟨-, -, k, -, hk⟩ := h.1 i hi
    rw [e, hn] at hk; cases hk
  have := pig 612 (t + 1) (updN Q t x) (fun i hi => by
    by_cases e : i = t
    · rw [e, updN_s]; exact hx
    · rw [updN_n _ _ e]; exact (h.1 i (by omega)).1) (fun i j hi hj => by
    by_cases e : j = t
    · rw [e, updN_s, updN_n _ _ (by omega)]; exact nq i (by omega)
    · rw [updN_n _ _ e, updN_n _ _ (by omega)]; exact h.2.1 i j hi (by omega))
  omega
def updO (f : Nat → Option Nat) (k : Nat) (v : Option Nat) : Nat → Option Nat := fun j => if j = k then v else f j
theorem updO_s (f : Nat → Option Nat) (k : Nat) (v : Option Nat) : updO f k v k = v := if_pos rfl
theorem updO_n (f : Nat → Option Nat) {k j : Nat} (v : Option Nat) (h : j ≠ k) : updO f k v j = f j := if_neg h
/-- one spot more -/
theorem eB.add {E : Nat → Nat → Option Nat} {A l : Nat → Nat} {T : Nat} {la : Nat → Option Nat} {Q : Nat → Nat} {t : Nat} (h : eB E A l T la Q t) {x k : Nat} (hx : x < 612) (hn : la x = none) (hxT : x % 51 ≤ T) (hk : k ≤ t) (hw : (k = 0 ∧ ∃ v, v < 11 ∧ x = 51 * v ∧ 0 < l v) ∨ ∃ k0 s0 j, k = k0 + 1 ∧ s0 < 561 ∧ j < A s0 ∧ la s0 = some k0 ∧ E s0 j = some x) : eB E A l T (updO la x (some k)) (updN Q t x) (t + 1) := by
  have nq : ∀ i, i < t → Q i ≠ x := fun i hi e => by
    obtain ⟨-, -, k, -, hk⟩ := h.1 i hi
    rw [e, hn] at hk; cases hk
  refine ⟨fun i hi => ?_, fun i j hi hj => ?_, fun s hs hl => ?_, fun s hs hl => ?_, fun s k' hs hl => ?_⟩
  · by_cases e : i = t
    · rw [e, updN_s, updO_s]; exact ⟨hx, hxT, k, hk, rfl⟩
    · rw [updN_n _ _ e, updO_n _ _ (nq i (by omega))]; exact h.1 i (by omega)
  · by_cases e : j = t
    · rw [e, updN_s, updN_n _ _ (by omega)]; exact nq i (by omega)
    · rw [updN_n _ _ e, updN_n _ _ (by omega)]; exact h.2.1 i j hi (by omega)
  · by_cases e : s = x
    · exact ⟨t, by omega, by rw [updN_s, e]⟩
    · rw [updO_n _ _ e] at hl
      obtain ⟨i, a, b⟩ := h.2.2.1 s hs hl
      exact ⟨i, by omega, by rw [updN_n _ _ (by omega)]; exact b⟩
  · by_cases e : s = x
    · rw [e, updO_s] at hl
      rcases hw with ⟨-, q⟩ | ⟨k0, s0, j, q, -⟩
      · rw [e]; exact q
      · cases hl; omega
    · rw [updO_n _ _ e] at hl; exact h.2.2.2.1 s hs hl
  · by_cases e : s = x
    · rw [e, updO_s] at hl
      rcases hw with ⟨q, -⟩ | ⟨k0, s0, j, q, b1, b2, b3, b4⟩
      · cases hl; omega
      · have : k0 = k' := by cases hl; omega
        subst this
        exact ⟨s0, j, b1, b2, by rw [updO_n _ _ (fun c => by rw [c, hn] at b3; cases b3)]; exact b3, by rw [e]; exact b4⟩
    · rw [updO_n _ _ e] at hl
      obtain ⟨s0, j, b1, b2, b3, b4⟩ := h.2.2.2.2 s k' hs hl
      exact ⟨s0, j, b1, b2, by rw [updO_n _ _ (fun c => by rw [c, hn] at b3; cases b3)]; exact b3, b4⟩
def W_ly : List PL := [(148, none), (150, none)]
def eLC (la : Nat → Option Nat) (Q : Nat → Nat) (t : Nat) (st : St) : Prop := (∀ s, s < 612 → gI st 148 s = oE (la s)) ∧ ∀ i, i < t → gI st 150 i = nI (Q i)
theorem CD.fl {G : NW} {L : Nat → List Nat} {g : Nat → Nat} {st u : St} (h : CD G L g st) (f : Fr W_ly st u) : CD G L g u := h.fr (f.wd (by decide))
theorem lay_in {G : NW} (ok : G.ok) {L : Nat → List Nat} (hL : LKs G L) {g l : Nat → Nat} (fu : Nat) {T : Nat} (hT5 : T ≤ 50) (hz : ∀ a, a < 1632 → ¬ kV G T a → g a = 0) (k66 : Nat → Int32 → Int32 → Int32 → Int32 → St → Option (Int32 × St)) (X2 : Int32) {s h k : Nat} (hs : s < 561) (hk : k ≤ h) : ∀ F j (la : Nat → Option Nat) (Q : Nat → Nat) (t : Nat) (st : St), j ≤ aA L s → aA L s - j < F → Top st → CD G L g st → eLC la Q t st → eB (aN G L T g) (aA L) l T la Q t → h < t → Q h = s → la s = some k → ∃ la' Q' t' u, Top u ∧ CD G L g u ∧ eLC la' Q' t' u ∧ eB (aN G L T g) (aA L) l T la' Q' t' ∧ t ≤ t' ∧ (∀ i, i < t → Q' i = Q i) ∧ (∀ y, la y ≠ none → la' y = la y) ∧ (∀ i x, j ≤ i → i < aA L s → aN G L T g s i = some x → la' x ≠ none) ∧ Fr W_ly st u ∧ b_X10_layer_113 fu k66 F 139 (nI T) X2 (nI t) (nI h) (nI s) (nI (aA L s)) (nI j) st = k66 139 (nI T) X2 (nI t') (nI (h + 1)) u := by
  have hA : aA L s ≤ 22 := by unfold aA; have := (hL (s / 51) (by omega)).1; omega
  intro F
  induction F with
  | zero => intro j la Q t st h1 h2; omega
  | succ F ih =>
    intro j la Q t st h1 h2 hT hC hW hB ht hQ hl
    have t6 := hB.le
    by_cases e : j = aA L s
    · refine ⟨la, Q, t, st, hT, hC, hW, hB, Nat.le_refl _, fun _ _ => rfl, fun _ _ => rfl, fun i x a b => by omega, Fr.rf, ?_⟩
      show b_X10_layer_113_b fu k66 (b_X10_layer_113 fu k66 F) 139 (nI T) X2 (nI t) (nI h) (nI s) (nI (aA L s)) (nI j) st = _
      rw [e]
      simp (disch := first | decide | omega) [↓bd_e, isb, ck_tt, NP, NF, NC, NB, NS, GS, kdC, tpC hT, b_X10_layer_113_b, b_X10_layer_186]
    · have eo := endOf_c ok hL hT hC fu hT5 (show s < 612 by omega) (show j < aA L s by omega)
      have sT : s % 51 ≤ T := by have := (hB.1 h ht).2.1; rw [hQ] at this; exact this
      have s8 : gI st 148 s = nI k := by rw [hW.1 s (by omega), hl]; rfl
      have skip : (∀ x, aN G L T g s j = some x → la x ≠ none) → ∃ la' Q' t' u, Top u ∧ CD G L g u ∧ eLC la' Q' t' u ∧ eB (aN G L T g) (aA L) l T la' Q' t' ∧ t ≤ t' ∧ (∀ i, i < t → Q' i = Q i) ∧ (∀ y, la y ≠ none → la' y = la y) ∧ (∀ i x, j ≤ i → i < aA L s → aN G L T g s i = some x → la' x ≠ none) ∧ Fr W_ly st u ∧ b_X10_layer_113 fu k66 F 139 (nI T) X2 (nI t) (nI h) (nI s) (nI (aA L s)) (nI (j + 1)) st = k66 139 (nI T) X2 (nI t') (nI (h + 1)) u := fun hn => by
        obtain ⟨la', Q', t', u, b1, b2, b3, b4, b5, b6, b7, b8, b9, b10⟩ := ih (j + 1) la Q t st (by omega) (by omega) hT hC hW hB ht hQ hl
        refine ⟨la', Q', t', u, b1, b2, b3, b4, b5, b6, b7, fun i x c1 c2 c3 => ?_, b9, b10⟩
        by_cases q : i = j
        · subst q
          have := hn x c3
          rw [b7 x this]; exact this
        · exact b8 i x (by omega) c2 c3
      cases en : aN G L T g s j with
      | none =>
        rw [en] at eo
        have e2 : b_X10_layer_113 fu k66 (F + 1) 139 (nI T) X2 (nI t) (nI h) (nI s) (nI (aA L s)) (nI j) st = b_X10_layer_113 fu k66 F 139 (nI T) X2 (nI t) (nI h) (nI s) (nI (aA L s)) (nI (j + 1)) st := by
          show b_X10_layer_113_b fu k66 (b_X10_layer_113 fu k66 F) 139 (nI T) X2 (nI t) (nI h) (nI s) (nI (aA L s)) (nI j) st = _
          simp (disch := first | decide | omega) [↓bd_e, isb, ck_tt, NP, NF, NC, NB, NS, GS, kdC, tpC hT, b_X10_layer_113_b, b_X10_layer_180, ↓caO eo, oE_lt]
        rw [e2]
        exact skip fun x c => by rw [en] at c; cases c
      | some x =>
        rw [en] at eo
        have eo : f_X10_endOf fu 139 (nI s) (nI j) (nI T) st = some (nI x, st) := eo
        obtain ⟨⟨y1, y2, y3, y4⟩, -, -⟩ := aN_key ok hL hT5 hz (show s < 612 by omega) sT en
        have x8 := hW.1 x y2
        cases el : la x with
        | some k' =>
          rw [el] at x8
          have x8 : gI st 148 x = nI k' := x8
          have k6 : k' < 2147483648 := by
            obtain ⟨i, i1, i2⟩ := hB.2.2.1 x y2 (by rw [el]; exact fun c => by cases c)
            obtain ⟨-, -, k2, i3, i4⟩ := hB.1 i i1
            rw [i2, el] at i4
            cases i4
            omega
          have e2 : b_X10_layer_113 fu k66 (F + 1) 139 (nI T) X2 (nI t) (nI h) (nI s) (nI (aA L s)) (nI j) st = b_X10_layer_113 fu k66 F 139 (nI T) X2 (nI t) (nI h) (nI s) (nI (aA L s)) (nI (j + 1)) st := by
            show b_X10_layer_113_b fu k66 (b_X10_layer_113 fu k66 F) 139 (nI T) X2 (nI t) (nI h) (nI s) (nI (aA L s)) (nI j) st = _
            simp (disch := first | decide | omega) [↓bd_e, isb, ck_tt, NP, NF, NC, NB, NS, GS, kdC, tpC hT, b_X10_layer_113_b, b_X10_layer_180, ↓caO eo, x8]
          rw [e2]
          exact skip fun z c => by rw [en] at c; cases c; rw [el]; exact fun c => by cases c
        | none =>
          rw [el] at x8
          have x8 : gI st 148 x = -nI 1 := x8
          have t7 := hB.lt y2 el
          have hB1 := hB.add y2 el y3 (k := k + 1) (by omega) (Or.inr ⟨k, s, j, rfl, hs, by omega, hl, en⟩)
          obtain ⟨u1, hu1⟩ : ∃ u1, u1 = sI (sI st 148 x (nI (k + 1))) 150 t (nI x) := ⟨_, rfl⟩
          have fr1 : Fr W_ly st u1 := by rw [hu1]; exact ((Fr.ia st 148 _ _).tr (Fr.ia _ 150 _ _)).wd (by decide)
          have hT1 : Top u1 := hT.r (by rw [hu1]; rfl)
          have W1 : eLC (updO la x (some (k + 1))) (updN Q t x) (t + 1) u1 := by
            refine ⟨fun z hz => ?_, fun i hi => ?_⟩
            · rw [hu1, gI_sI_n _ _ _ (by decide), gI_sI]
              by_cases q : z = x
              · rw [if_pos ⟨rfl, q⟩, q, updO_s]; rfl
              · rw [if_neg fun c => q c.2, updO_n _ _ q]; exact hW.1 z hz
            · rw [hu1, gI_sI]
              by_cases q : i = t
              · rw [if_pos ⟨rfl, q⟩, q, updN_s]
              · rw [if_neg fun c => q c.2, updN_n _ _ q, gI_sI_n _ _ _ (by decide)]; exact hW.2 i (by omega)
          have sx : s ≠ x := fun c => y4 c.symm
          have e2 : b_X10_layer_113 fu k66 (F + 1) 139 (nI T) X2 (nI t) (nI h) (nI s) (nI (aA L s)) (nI j) st = b_X10_layer_113 fu k66 F 139 (nI T) X2 (nI (t + 1)) (nI h) (nI s) (nI (aA L s)) (nI (j + 1)) u1 := by
            show b_X10_layer_113_b fu k66 (b_X10_layer_113 fu k66 F) 139 (nI T) X2 (nI t) (nI h) (nI s) (nI (aA L s)) (nI j) st = _
            simp (disch := first | decide | omega) [↓bd_e, isb, ck_tt, NP, NF, NC, NB, NS, GS, kdC, tpC hT, b_X10_layer_113_b, b_X10_layer_180, ↓caO eo, x8, s8, hu1]
          rw [e2]
          obtain ⟨la', Q', t', u, b1, b2, b3, b4, b5, b6, b7, b8, b9, b10⟩ := ih (j + 1) _ _ (t + 1) u1 (by omega) (by omega) hT1 (hC.fl fr1) W1 hB1 (by omega) (by rw [updN_n _ _ (by omega)]; exact hQ) (by rw [updO_n _ _ sx]; exact hl)
          have nn : ∀ y, la y ≠ none → y ≠ x := fun y c d => c (by rw [d]; exact el)
          refine ⟨la', Q', t', u, b1, b2, b3, b4, by omega, fun i hi => ?_, fun y hy => ?_, fun i z c1 c2 c3 => ?_, (fr1.tr b9).wd (by decide), b10⟩
          · rw [b6 i (by omega), updN_n _ _ (by omega)]
          · have := b7 y (by rw [updO_n _ _ (nn y hy)]; exact hy)
            rw [this, updO_n _ _ (nn y hy)]
          · by_cases q : i = j
            · subst q
              rw [en] at c3
              cases c3
              rw [b7 x (by rw [updO_s]; exact fun c => by cases c), updO_s]
              exact fun c => by cases c
            · exact b8 i z (by omega) c2 c3
