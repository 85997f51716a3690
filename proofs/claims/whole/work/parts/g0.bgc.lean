/-! PURE: lists: a cue begins, class: the channels -/
theorem scO_b {c a : Nat} {D : LD} (hL : LOK c a D) (ch lo : Nat) : ∀ n, n ≤ a → (scO D ch lo n).getD 0 ≤ 255
  | 0, _ => by simp [scO]
  | n + 1, h => by
    have ih := scO_b hL ch lo n (by omega)
    have hA := hL.2.2.2.2.2 n (by omega)
    show ((if n < lo then none else if (D 11 n).testBit ch then some (D 10 n) else scO D ch lo n).getD 0) ≤ 255
    by_cases c1 : n < lo
    · rw [if_pos c1]; simp
    · rw [if_neg c1]
      by_cases t : (D 11 n).testBit ch = true
      · rw [if_pos t]
        have : D 8 n = 0 := by
          apply Classical.byContradiction
          intro z
          have := (hA.2.2.2.1 z).1
          rw [this, Nat.zero_testBit] at t
          cases t
        exact hA.2.2.2.2 (Or.inl this)
      · rw [if_neg t]; exact ih
theorem trk_b {c a : Nat} {D : LD} (hL : LOK c a D) {i : Nat} (hi : i < c) (ch : Nat) : trk D i ch ≤ 255 := scO_b hL ch _ _ (hL.d6 i hi).2
def W83 (l : Nat) : List PL := [(57 + 18 * l, none), (58 + 18 * l, none), (59 + 18 * l, none), (60 + 18 * l, none), (26, none)]
theorem W83_q {q : Nat} (hq : SQ q) {l j : Nat} (hl : l < 4) (hj : j ≤ 12) : (W83 l).all (fun b => !(b.1 == q + j)) = true := by
  have e0 : 57 + 18 * l ≠ q + j := fun z => (hq.ne hl hj (m := 0) (by omega)).1 (by omega)
  have e1 : 58 + 18 * l ≠ q + j := fun z => (hq.ne hl hj (m := 1) (by omega)).1 (by omega)
  have e2 : 59 + 18 * l ≠ q + j := fun z => (hq.ne hl hj (m := 2) (by omega)).1 (by omega)
  have e3 : 60 + 18 * l ≠ q + j := fun z => (hq.ne hl hj (m := 3) (by omega)).1 (by omega)
  have e4 : 26 ≠ q + j := by have := hq.b; omega
  simp [W83, e0, e1, e2, e3, e4]
theorem fdS_f (l ch h g N v : Nat) (st : St) : Fr (W83 l) st (sI (fdS l ch h g N v st) 26 ch (nI l)) := by
  refine Fr.wd (((((Fr.i st (58 + 18 * l) ch (nI h)).tr (Fr.i _ (57 + 18 * l) ch (nI g))).tr (Fr.i _ (59 + 18 * l) ch (nI N))).tr (Fr.i _ (60 + 18 * l) ch (nI v))).tr (Fr.i _ 26 ch (nI l))) ?_
  simp [within', W83]
theorem fdS_g {l ch h g N v : Nat} {st : St} (c : Nat) : gI (sI (fdS l ch h g N v st) 26 ch (nI l)) 26 c = (if c = ch then nI l else gI st 26 c) ∧ gI (sI (fdS l ch h g N v st) 26 ch (nI l)) (57 + 18 * l) c = (if c = ch then nI g else gI st (57 + 18 * l) c) ∧ gI (sI (fdS l ch h g N v st) 26 ch (nI l)) (58 + 18 * l) c = (if c = ch then nI h else gI st (58 + 18 * l) c) ∧ gI (sI (fdS l ch h g N v st) 26 ch (nI l)) (59 + 18 * l) c = (if c = ch then nI N else gI st (59 + 18 * l) c) ∧ gI (sI (fdS l ch h g N v st) 26 ch (nI l)) (60 + 18 * l) c = (if c = ch then nI v else gI st (60 + 18 * l) c) := by
  unfold fdS
  simp only [gI_sI]
  have a1 : ¬ 26 = 57 + 18 * l := by omega
  have a2 : ¬ 26 = 58 + 18 * l := by omega
  have a3 : ¬ 26 = 59 + 18 * l := by omega
  have a4 : ¬ 26 = 60 + 18 * l := by omega
  have b1 : ¬ 57 + 18 * l = 26 := by omega
  have b2 : ¬ 58 + 18 * l = 26 := by omega
  have b3 : ¬ 59 + 18 * l = 26 := by omega
  have b4 : ¬ 60 + 18 * l = 26 := by omega
  simp [a1, a2, a3, a4, b1, b2, b3, b4]
def XS (l ch : Nat) (X Y : Nat → Nat → Nat) (st : St) : Prop := ∀ c, c < 64 → gI st (57 + 18 * l) c = nI (if c < ch then Y 0 c else X 0 c) ∧ gI st (58 + 18 * l) c = nI (if c < ch then Y 1 c else X 1 c) ∧ gI st (59 + 18 * l) c = nI (if c < ch then Y 2 c else X 2 c) ∧ gI st (60 + 18 * l) c = nI (if c < ch then Y 3 c else X 3 c)
theorem bg83 {s0 : St} {l N q c a i : Nat} {D : LD} {X : Nat → Nat → Nat} (hl : l < 4) (hN : N ≤ 100000) (hB : XB N X) (hq : SQ q) (rQ : gR s0 (43 + 18 * l) 0 = q) (h5 : gI s0 (43 + 18 * l) 5 = nI i) (hS : SC q c a D s0) (hL : LOK c a D) (hi : i < c) (hG : ∀ ch, ch < 64 → gI s0 27 ch = nI (trk D i ch)) (fu : Nat) : ∀ (F ch : Nat) (st : St), ch ≤ 64 → 64 < F + ch → Top st → Fr (W83 l) s0 st → XS l ch X (nxF D i N X) st → (∀ c, gI st 26 c = if c < ch ∧ trk D i c ≠ X 0 c then nI l else gI s0 26 c) → ∃ u, b_X1_begin_83 fu F 24 (nI l) (nI N) (43 + 18 * l) q (nI i) (nI ch) st = b_X1_begin_145 fu fu 24 (nI N) q (nI i) (nI (D 7 i)) u ∧ Fr (W83 l) s0 u ∧ Top u ∧ XS l 64 X (nxF D i N X) u ∧ ∀ c, gI u 26 c = if c < 64 ∧ trk D i c ≠ X 0 c then nI l else gI s0 26 c
  | 0, ch, st, h1, h2, _, _, _, _ => by omega
  | F + 1, ch, st, h1, h2, hT, fr, hX, hO => by
    have hS1 : SC q c a D st := hS.c (fun j hj => ⟨fr.fi (q + j) (W83_q hq hl hj), fr.fl (q + j) (W83_q hq hl hj)⟩)
    have qb := hq.b
    have qR := sqR hq hT
    have qK := sqK hq
    have c60 := hL.1
    have w43 : (W83 l).all (fun b => !(b.1 == 43 + 18 * l)) = true := by
      have e4 : 26 ≠ 43 + 18 * l := by omega
      simp [W83, e4]
    have rQ1 : gR st (43 + 18 * l) 0 = q := by rw [fr.fr (43 + 18 * l) w43]; exact rQ
    have h51 : gI st (43 + 18 * l) 5 = nI i := by rw [fr.fi (43 + 18 * l) w43]; exact h5
    have w27 : (W83 l).all (fun b => !(b.1 == 27)) = true := by
      have e0 : ¬ 57 + 18 * l = 27 := by omega
      have e1 : ¬ 58 + 18 * l = 27 := by omega
      have e2 : ¬ 59 + 18 * l = 27 := by omega
      have e3 : ¬ 60 + 18 * l = 27 := by omega
      simp [W83, e0, e1, e2, e3]
    obtain ⟨r0, r1, -⟩ := plR hl hT
    obtain ⟨k0, k1, -⟩ := plK hl
    show ∃ u, b_X1_begin_83_b fu (b_X1_begin_83 fu F) 24 (nI l) (nI N) (43 + 18 * l) q (nI i) (nI ch) st = _ ∧ _
    rcases Nat.lt_or_ge ch 64 with hc | hc
    · have g27 : gI st 27 ch = nI (trk D i ch) := by rw [fr.fi 27 w27]; exact hG ch hc
      have tb := trk_b hL hi ch
      obtain ⟨x0, x1, x2, x3⟩ := hX ch hc
      rw [if_neg (Nat.lt_irrefl _)] at x0 x1 x2 x3
      have b0 := (hB ch hc).1
      by_cases e : trk D i ch = X 0 ch
      · have nx : ∀ k, nxF D i N X k ch = X k ch := fun k => by unfold nxF; rw [if_pos e]
        obtain ⟨u, g1, g2⟩ := bg83 hl hN hB hq rQ h5 hS hL hi hG fu F (ch + 1) st (by omega) (by omega) hT fr (fun c' hc' => by
          obtain ⟨y0, y1, y2, y3⟩ := hX c' hc'
          by_cases d : c' = ch
          · subst d
            rw [if_pos (by omega), if_pos (by omega), if_pos (by omega), if_pos (by omega), nx, nx, nx, nx]
            exact ⟨x0, x1, x2, x3⟩
          · rw [y0, y1, y2, y3]
            by_cases d2 : c' < ch
            · rw [if_pos d2, if_pos d2, if_pos d2, if_pos d2, if_pos (by omega), if_pos (by omega), if_pos (by omega), if_pos (by omega)]
              exact ⟨rfl, rfl, rfl, rfl⟩
            · rw [if_neg d2, if_neg d2, if_neg d2, if_neg d2, if_neg (by omega), if_neg (by omega), if_neg (by omega), if_neg (by omega)]
              exact ⟨rfl, rfl, rfl, rfl⟩) (fun c' => by
          rw [hO c']
          by_cases d : c' = ch
          · subst d
            rw [if_neg (by omega), if_neg (fun z => z.2 e)]
          · by_cases d2 : c' < ch ∧ trk D i c' ≠ X 0 c'
            · rw [if_pos d2, if_pos ⟨by omega, d2.2⟩]
            · rw [if_neg d2, if_neg (fun z => d2 ⟨by omega, z.2⟩)])
        refine ⟨u, ?_, g2⟩
        rw [← g1]
        clear hS hS1 hG hB hX hO g1 g2 hL
        simp (disch := first | decide | omega) [↓bd_e, isb, ck_tt, NP, NF, NC, NB, NS, GS, kdC, tpC hT, b_X1_begin_83_b, b_X1_begin_129, r1, k0, k1, g27, x0, e]
      · have fd := fade_c hT hl hN hc tb x0 x1 x2 x3 hB hq rQ1 h51 hS1 hL hi fu
        have fr1 := fr.tt (fdS_f l ch (LV (X 0 ch) (X 1 ch) (X 2 ch) (X 3 ch) N) (trk D i ch) N (if LV (X 0 ch) (X 1 ch) (X 2 ch) (X 3 ch) N < trk D i ch then D 1 i else D 2 i) st)
        have n0 : nxF D i N X 0 ch = trk D i ch := by unfold nxF; rw [if_neg e, if_pos rfl]
        have n1 : nxF D i N X 1 ch = LV (X 0 ch) (X 1 ch) (X 2 ch) (X 3 ch) N := by unfold nxF; rw [if_neg e]; rfl
        have n2 : nxF D i N X 2 ch = N := by unfold nxF; rw [if_neg e]; rfl
        have n3 : nxF D i N X 3 ch = if LV (X 0 ch) (X 1 ch) (X 2 ch) (X 3 ch) N < trk D i ch then D 1 i else D 2 i := by unfold nxF; rw [if_neg e]; rfl
        rw [← n3, ← n1] at fd fr1
        have gg := fun c' => fdS_g (l := l) (ch := ch) (h := nxF D i N X 1 ch) (g := trk D i ch) (N := N) (v := nxF D i N X 3 ch) (st := st) c'
        obtain ⟨s2, hs2⟩ : ∃ s2, s2 = sI (fdS l ch (nxF D i N X 1 ch) (trk D i ch) N (nxF D i N X 3 ch) st) 26 ch (nI l) := ⟨_, rfl⟩
        have hT2 : Top s2 := hT.r (by rw [hs2]; rfl)
        rw [← hs2] at fr1
        simp only [← hs2] at gg
        obtain ⟨u, g1, g2⟩ := bg83 hl hN hB hq rQ h5 hS hL hi hG fu F (ch + 1) s2 (by omega) (by omega) hT2 fr1 (fun c' hc' => by
          obtain ⟨y0, y1, y2, y3⟩ := hX c' hc'
          obtain ⟨-, z0, z1, z2, z3⟩ := gg c'
          rw [z0, z1, z2, z3]
          by_cases d : c' = ch
          · subst d
            rw [if_pos rfl, if_pos rfl, if_pos rfl, if_pos rfl, if_pos (by omega), if_pos (by omega), if_pos (by omega), if_pos (by omega), n0, n2]
            exact ⟨rfl, rfl, rfl, rfl⟩
          · rw [if_neg d, if_neg d, if_neg d, if_neg d, y0, y1, y2, y3]
            by_cases d2 : c' < ch
            · rw [if_pos d2, if_pos d2, if_pos d2, if_pos d2, if_pos (by omega), if_pos (by omega), if_pos (by omega), if_pos (by omega)]
              exact ⟨rfl, rfl, rfl, rfl⟩
            · rw [if_neg d2, if_neg d2, if_neg d2, if_neg d2, if_neg (by omega), if_neg (by omega), if_neg (by omega), if_neg (by omega)]
              exact ⟨rfl, rfl, rfl, rfl⟩) (fun c' => by
          rw [(gg c').1]
          by_cases d : c' = ch
          · subst d
            rw [if_pos rfl, if_pos ⟨by omega, e⟩]
          · rw [if_neg d, hO c']
            by_cases d2 : c' < ch ∧ trk D i c' ≠ X 0 c'
            · rw [if_pos d2, if_pos ⟨by omega, d2.2⟩]
            · rw [if_neg d2, if_neg (fun z => d2 ⟨by omega, z.2⟩)])
        refine ⟨u, ?_, g2⟩
        rw [← g1, hs2]
        clear hS hS1 hG hB hX hO g1 g2 hL gg fr1
        have hT9 : Top (fdS l ch (nxF D i N X 1 ch) (trk D i ch) N (nxF D i N X 3 ch) st) := hT.r rfl
        have t24 := tp_24_1 hT9
        obtain ⟨s9, hs9⟩ : ∃ s9, s9 = fdS l ch (nxF D i N X 1 ch) (trk D i ch) N (nxF D i N X 3 ch) st := ⟨_, rfl⟩
        rw [← hs9] at fd t24 ⊢
        simp (disch := first | decide | omega) [↓bd_e, isb, ck_tt, NP, NF, NC, NB, NS, GS, kdC, tpC hT, b_X1_begin_83_b, b_X1_begin_129, r1, k0, k1, g27, x0, e, ↓cvO fd, t24]
    · have : ch = 64 := by omega
      subst this
      refine ⟨st, ?_, fr, hT, hX, hO⟩
      have f7 := hS1.2.2.2 i (by omega)
      clear hS hS1 hG hB hX hO hL
      simp (disch := first | decide | omega) [↓bd_e, isb, ck_tt, NP, NF, NC, NB, NS, GS, kdC, tpC hT, b_X1_begin_83_b, qR, qK, f7]
