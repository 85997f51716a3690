/-! PURE: levels over one tick, reference -/
def lvS (N l ch : Nat) (X : Nat → Nat → Nat) (w : St) : St := if X 3 ch = 0 ∨ X 2 ch + X 3 ch ≤ N then w else if X 2 ch + X 3 ch ≤ N + 1 then sI (sI w 190 (65 * l + (ch + 1)) (nI (X 0 ch))) 194 (65 * l + (ch + 1)) (nI 0) else sI w 190 (65 * l + (ch + 1)) (nI (LV (X 0 ch) (X 1 ch) (X 2 ch) (X 3 ch) (N + 1)))
theorem lvS_f (N l ch : Nat) (X : Nat → Nat → Nat) (w : St) : Fr [(190, some (65 * l + (ch + 1))), (194, some (65 * l + (ch + 1)))] w (lvS N l ch X w) ∧ gR (lvS N l ch X w) = gR w := by
  unfold lvS
  by_cases a : X 3 ch = 0 ∨ X 2 ch + X 3 ch ≤ N
  · rw [if_pos a]; exact ⟨Fr.rf, rfl⟩
  · rw [if_neg a]
    by_cases b : X 2 ch + X 3 ch ≤ N + 1
    · rw [if_pos b]; exact ⟨(Fr.i w 190 _ _).tr (Fr.i _ 194 _ _), rfl⟩
    · rw [if_neg b]; exact ⟨(Fr.i w 190 _ _).wd (by simp [within']), rfl⟩
theorem lvS_p {N l ch : Nat} {X : Nat → Nat → Nat} {w : St} (h : PLr l N X ch w) : PLr l (N + 1) X ch (lvS N l ch X w) := by
  obtain ⟨h1, h2, h3, h4⟩ := h
  unfold lvS
  by_cases a : X 3 ch = 0 ∨ X 2 ch + X 3 ch ≤ N
  · rw [if_pos a]
    have a' : X 3 ch = 0 ∨ X 2 ch + X 3 ch ≤ N + 1 := by omega
    rw [LV_off a] at h2
    exact ⟨h1, by rw [LV_off a']; exact h2, fun _ => h3 a, fun z => absurd a' z⟩
  · rw [if_neg a]
    obtain ⟨q1, q2, q3⟩ := h4 a
    by_cases b : X 2 ch + X 3 ch ≤ N + 1
    · rw [if_pos b]
      have a' : X 3 ch = 0 ∨ X 2 ch + X 3 ch ≤ N + 1 := Or.inr b
      refine ⟨?_, ?_, fun _ => ?_, fun z => absurd a' z⟩
      · rw [gI_sI_n _ _ _ (by decide), gI_sI_n _ _ _ (by decide)]; exact h1
      · rw [gI_sI_n _ _ _ (by decide), gI_sI, if_pos ⟨rfl, rfl⟩, LV_off a']
      · rw [gI_sI, if_pos ⟨rfl, rfl⟩]
    · rw [if_neg b]
      have a' : ¬ (X 3 ch = 0 ∨ X 2 ch + X 3 ch ≤ N + 1) := by omega
      refine ⟨?_, ?_, fun z => absurd z a', fun _ => ⟨?_, ?_, ?_⟩⟩
      · rw [gI_sI_n _ _ _ (by decide)]; exact h1
      · rw [gI_sI, if_pos ⟨rfl, rfl⟩]
      · rw [gI_sI_n _ _ _ (by decide)]; exact q1
      · rw [gI_sI_n _ _ _ (by decide)]; exact q2
      · rw [gI_sI_n _ _ _ (by decide)]; exact q3
theorem lv12_0 {w : St} (hT : Top w) {j : Nat} (hj : j < 260) (h : gI w 194 j = nI 0) (fu : Nat) (K : Nat → Int32 → St → Option St) : b_X12_oneTick_12_b fu K 153 (nI j) w = K 153 (nI (j + 1)) w := by
  simp (disch := first | decide | omega) [↓bd_e, isb, ck_tt, NP, NF, NC, NB, NS, GS, kdR, tpR hT, b_X12_oneTick_12_b, b_X12_oneTick_113, h]
theorem lv12_1 {w : St} (hT : Top w) {N l ch : Nat} {X : Nat → Nat → Nat} (hl : l < 4) (hc : ch < 64) (hN : N ≤ 100000) (x0 : X 0 ch ≤ 255) (x1 : X 1 ch ≤ 255) (x2 : X 2 ch ≤ N) (x3 : X 3 ch ≤ 9999) (n40 : gI w 153 40 = nI (N + 1)) (h : PLr l N X ch w) (fu : Nat) (K : Nat → Int32 → St → Option St) : b_X12_oneTick_12_b fu K 153 (nI (65 * l + (ch + 1))) w = K 153 (nI (65 * l + (ch + 1) + 1)) (lvS N l ch X w) := by
  obtain ⟨h1, h2, h3, h4⟩ := h
  obtain ⟨j, hj⟩ : ∃ j, j = 65 * l + (ch + 1) := ⟨_, rfl⟩
  have j260 : j < 260 := by omega
  unfold lvS
  rw [← hj] at h1 h3 h4 ⊢
  by_cases a : X 3 ch = 0 ∨ X 2 ch + X 3 ch ≤ N
  · rw [if_pos a]
    exact lv12_0 hT j260 (h3 a) fu K
  · rw [if_neg a]
    obtain ⟨q1, q2, q3⟩ := h4 a
    have z3 : ¬ X 3 ch = 0 := by omega
    by_cases b : X 2 ch + X 3 ch ≤ N + 1
    · rw [if_pos b]
      obtain ⟨A, hA⟩ : ∃ A, A = X 0 ch := ⟨_, rfl⟩
      obtain ⟨S, hS⟩ : ∃ S, S = X 2 ch := ⟨_, rfl⟩
      obtain ⟨P, hP⟩ : ∃ P, P = X 3 ch := ⟨_, rfl⟩
      rw [← hA] at h1 ⊢
      rw [← hS] at q3 b x2
      rw [← hP] at q1 b x3 z3
      clear h2 h3 h4 a hj hA hS hP q2 x0 x1
      simp (disch := first | decide | omega) [↓bd_e, isb, ck_tt, NP, NF, NC, NB, NS, GS, kdR, tpR hT, b_X12_oneTick_12_b, b_X12_oneTick_113, h1, q1, q3, n40]
    · rw [if_neg b]
      have on := (LV_on (tg := X 0 ch) (s0 := X 1 ch) (sn := X 2 ch) (sp := X 3 ch) (now := N + 1) (by omega) (by omega) (by omega)).1
      have le := LV_le (tg := X 0 ch) (s0 := X 1 ch) (sn := X 2 ch) (sp := X 3 ch) (now := N + 1) (by omega) x0 x1
      obtain ⟨V, hV⟩ : ∃ V, V = LV (X 0 ch) (X 1 ch) (X 2 ch) (X 3 ch) (N + 1) := ⟨_, rfl⟩
      obtain ⟨A, hA⟩ : ∃ A, A = X 0 ch := ⟨_, rfl⟩
      obtain ⟨B, hB⟩ : ∃ B, B = X 1 ch := ⟨_, rfl⟩
      obtain ⟨S, hS⟩ : ∃ S, S = X 2 ch := ⟨_, rfl⟩
      obtain ⟨P, hP⟩ : ∃ P, P = X 3 ch := ⟨_, rfl⟩
      rw [← hV] at on le ⊢
      rw [← hA] at h1 on x0
      rw [← hB] at q2 on x1
      rw [← hS] at q3 b on x2
      rw [← hP] at q1 b x3 z3 on
      clear h2 h3 h4 a hj hA hB hS hP hV
      obtain ⟨k, hk⟩ : ∃ k, k = N + 1 - S := ⟨_, rfl⟩
      have kk : ((N + 1 : Nat) : Int) - (S : Int) = (k : Int) := by omega
      have on : (V : Int) = (B : Int) + (2 * (((A : Int) - B) * k) + P) / (2 * P) := by
        rw [on, kk, Int.mul_assoc]
      have kb : k < P := by omega
      have k0 : k ≤ 9999 := by omega
      have e1 : ((nI A - nI B).toInt64) * (nI k).toInt64 = zL (((A : Int) - B) * k) := by
        rw [nI_z (by omega), nI_z (by omega), nI_z (by omega), zI_sub, zI_l (by omega), zI_l (by omega), zL_mul]
      have e2 : (nI P).toInt64 = zL P := by rw [nI_z (by omega), zI_l (by omega)]
      have pb : -2550000 ≤ ((A : Int) - B) * k ∧ ((A : Int) - B) * k ≤ 2550000 := by
        have u1 : ((A : Int) - B) * k ≤ 255 * k := Int.mul_le_mul_of_nonneg_right (by omega) (by omega)
        have u2 : (-255) * (k : Int) ≤ ((A : Int) - B) * k := Int.mul_le_mul_of_nonneg_right (by omega) (by omega)
        omega
      have nr := nearL (st := w) fu (a := ((A : Int) - B) * k) (b := (P : Int)) (by omega) (by omega)
      rw [← e1, ← e2] at nr
      obtain ⟨q, hq⟩ : ∃ q : Int, q = (2 * (((A : Int) - B) * k) + P) / (2 * P) := ⟨_, rfl⟩
      rw [← hq] at nr on
      have e3 : nI B + (zL q).toInt32 = nI V := by
        rw [zL_i (by omega), nI_z (by omega), zI_add, ← on, nI_z (by omega)]
      have e4 : nI (N + 1) - nI S = nI k := by rw [hk]; exact pk_sub (by omega)
      clear on e1 e2 pb hq kk hk
      simp (disch := first | decide | omega) [↓bd_e, isb, ck_tt, NP, NF, NC, NB, NS, GS, kdR, tpR hT, b_X12_oneTick_12_b, b_X12_oneTick_113, h1, q1, q2, q3, n40, e4, ↓caO nr, e3]
theorem PLr.j {l N c : Nat} {X : Nat → Nat → Nat} {s u : St} (h : PLr l N X c s) {j : Nat} (fr : Fr [(190, some j), (194, some j)] s u) (hj : j ≠ 65 * l + (c + 1)) : PLr l N X c u := by
  unfold PLr at h ⊢
  rw [fr.ki 190 _ (by simp [covers] <;> omega), fr.ki 191 _ (by simp [covers]), fr.ki 192 _ (by simp [covers]), fr.ki 193 _ (by simp [covers]), fr.ki 194 _ (by simp [covers] <;> omega)]
  exact h
theorem lv12 {N : Nat} (hN : N ≤ 100000) {X : Nat → Nat → Nat → Nat} (hB : ∀ l, l < 4 → XB N (X l)) (fu : Nat) : ∀ (F j : Nat) (w : St), j ≤ 260 → 260 < F + j → Top w → gI w 153 40 = nI (N + 1) → (∀ l, l < 4 → gI w 194 (65 * l) = nI 0) → (∀ l, l < 4 → ∀ ch, ch < 64 → PLr l (if 65 * l + (ch + 1) < j then N + 1 else N) (X l) ch w) → ∃ w', b_X12_oneTick_12 fu F 153 (nI j) w = b_X12_oneTick_121 fu fu 153 (nI 0) w' ∧ Fr [(190, none), (194, none)] w w' ∧ Top w' ∧ (∀ l, l < 4 → gI w' 194 (65 * l) = nI 0) ∧ ∀ l, l < 4 → ∀ ch, ch < 64 → PLr l (N + 1) (X l) ch w' := by
  intro F
  induction F with
  | zero => intro j w h1 h2; omega
  | succ F ih =>
    intro j w hj hF hT n40 h0 hP
    have un : b_X12_oneTick_12 fu (F + 1) 153 (nI j) w = b_X12_oneTick_12_b fu (b_X12_oneTick_12 fu F) 153 (nI j) w := rfl
    rw [un]
    by_cases c : j = 260
    · subst c
      refine ⟨w, ?_, Fr.rf, hT, h0, fun l hl ch hc => ?_⟩
      · clear ih un h0 hP
        simp (disch := first | decide | omega) [↓bd_e, isb, ck_tt, NP, NF, NC, NB, NS, GS, kdR, tpR hT, b_X12_oneTick_12_b]
      · have := hP l hl ch hc
        rw [if_pos (by omega)] at this
        exact this
    · by_cases z : j % 65 = 0
      · have e : gI w 194 j = nI 0 := by
          have := h0 (j / 65) (by omega)
          rw [show 65 * (j / 65) = j by omega] at this
          exact this
        rw [lv12_0 hT (by omega) e fu]
        refine ih (j + 1) w (by omega) (by omega) hT n40 h0 (fun l hl ch hc => ?_)
        have := hP l hl ch hc
        by_cases d : 65 * l + (ch + 1) < j
        · rw [if_pos d] at this; rw [if_pos (by omega)]; exact this
        · rw [if_neg d] at this; rw [if_neg (by omega)]; exact this
      · obtain ⟨l, ch, hl, hc, rfl⟩ : ∃ l ch, l < 4 ∧ ch < 64 ∧ j = 65 * l + (ch + 1) := ⟨j / 65, j % 65 - 1, by omega, by omega, by omega⟩
        obtain ⟨b0, b1, b2, b3⟩ := hB l hl ch hc
        have p := hP l hl ch hc
        rw [if_neg (by omega)] at p
        rw [lv12_1 hT hl hc hN b0 b1 b2 b3 n40 p fu]
        obtain ⟨f1, f2⟩ := lvS_f N l ch (X l) w
        obtain ⟨w', e1, e2, e3, e4, e5⟩ := ih (65 * l + (ch + 1) + 1) (lvS N l ch (X l) w) (by omega) (by omega) (hT.r f2) (by rw [f1.ki 153 40 (by simp [covers])]; exact n40) (fun l' hl' => by rw [f1.ki 194 _ (by simp [covers] <;> omega)]; exact h0 l' hl') (fun l' hl' ch' hc' => by
          by_cases d : l' = l ∧ ch' = ch
          · obtain ⟨rfl, rfl⟩ := d
            rw [if_pos (by omega)]
            exact lvS_p p
          · have := (hP l' hl' ch' hc').j f1 (by omega)
            by_cases d2 : 65 * l' + (ch' + 1) < 65 * l + (ch + 1)
            · rw [if_pos d2] at this; rw [if_pos (by omega)]; exact this
            · rw [if_neg d2] at this; rw [if_neg (by omega)]; exact this)
        exact ⟨w', e1, (f1.wd (by simp [within'])).tt e2, e3, e4, e5⟩
