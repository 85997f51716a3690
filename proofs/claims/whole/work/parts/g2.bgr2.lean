/-! PURE: lists: a cue begins, reference: the channels' loop -/
theorem PLr.c {l N c : Nat} {X : Nat → Nat → Nat} {s u : St} (h : PLr l N X c s) (e0 : gI u 190 (65 * l + (c + 1)) = gI s 190 (65 * l + (c + 1))) (e1 : gI u 191 (65 * l + (c + 1)) = gI s 191 (65 * l + (c + 1))) (e2 : gI u 192 (65 * l + (c + 1)) = gI s 192 (65 * l + (c + 1))) (e3 : gI u 193 (65 * l + (c + 1)) = gI s 193 (65 * l + (c + 1))) (e4 : gI u 194 (65 * l + (c + 1)) = gI s 194 (65 * l + (c + 1))) : PLr l N X c u := by
  unfold PLr at h ⊢
  rw [e0, e1, e2, e3, e4]
  exact h
theorem PLr.nx {l N c : Nat} {D : LD} {i : Nat} {X : Nat → Nat → Nat} {s : St} (h : PLr l N X c s) (e : trk D i c = X 0 c) : PLr l N (nxF D i N X) c s := by
  have nx : ∀ k, nxF D i N X k c = X k c := fun k => by unfold nxF; rw [if_pos e]
  unfold PLr at h ⊢
  rw [nx, nx, nx, nx]
  exact h
/-- after the channels: the follow, then the acts -/
def af21 (fu : Nat) (rp : Nat → Int32 → Int32 → Int32 → St → Option St) (rb : Nat → Int32 → St → Option St) (l N : Nat) (D : LD) (i : Nat) (u : St) : Option St := b_X12_begins_202 fu rp rb fu 153 (nI l) (nI (l * 60 + i)) (nI 0) (if D 4 i = 0 then u else sI u 188 l (nI (N + D 4 i)))
theorem bg21 {s0 : St} {l N c a i : Nat} {D : LD} {X : Nat → Nat → Nat} (hl : l < 4) (hN : N ≤ 100000) (hB : XB N X) (hK : RK l c a D s0) (hL : LOK c a D) (hi : i < c) (n40 : gI s0 153 40 = nI N) (fu : Nat) (rp : Nat → Int32 → Int32 → Int32 → St → Option St) (rb : Nat → Int32 → St → Option St) : ∀ (F ch : Nat) (st : St), ch ≤ 64 → 64 < F + ch → Top st → Fr W21 s0 st → O21 l s0 st → (∀ c, c < ch → PLr l N (nxF D i N X) c st) → (∀ c, ch ≤ c → c < 64 → PLr l N X c st) → (∀ c, 48 ≤ c → c < 64 → gI st 195 (c + 1) = if c < ch ∧ trk D i c ≠ X 0 c then nI l else gI s0 195 (c + 1)) → ∃ u, b_X12_begins_21 fu rp rb F 153 (nI l) (nI (l * 60 + i)) (nI (ch + 1)) st = af21 fu rp rb l N D i u ∧ Fr W21 s0 u ∧ Top u ∧ O21 l s0 u ∧ (∀ c, c < 64 → PLr l N (nxF D i N X) c u) ∧ ∀ c, 48 ≤ c → c < 64 → gI u 195 (c + 1) = if trk D i c ≠ X 0 c then nI l else gI s0 195 (c + 1)
  | 0, ch, st, h1, h2, _, _, _, _, _, _ => by omega
  | F + 1, ch, st, h1, h2, hT, fr, hO, hY, hX, hW => by
    have c60 := hL.1
    have cf := (hL.2.2.2.2.1 i hi).1
    obtain ⟨kj, -, -, kt⟩ := hK.2.1 i hi
    show ∃ u, b_X12_begins_21_b fu rp rb (b_X12_begins_21 fu rp rb F) 153 (nI l) (nI (l * 60 + i)) (nI (ch + 1)) st = _ ∧ _
    rcases Nat.lt_or_ge ch 64 with hc | hc
    · obtain ⟨b0, b1, b2, b3⟩ := hB ch hc
      have one := bg21_1 hT (c := c) (a := a) hl hN (i := i) (by omega) hc b0 b1 b2 (trk_b hL hi ch) cf.2.2.1 cf.2.2.2.1 (hX ch (Nat.le_refl _) hc) (by rw [fr.fi 153 (by decide)]; exact n40) (by rw [fr.fi 167 (by decide)]; exact kt ch hc) (by rw [fr.fi 160 (by decide)]; exact kj 1 (by omega)) (by rw [fr.fi 161 (by decide)]; exact kj 2 (by omega)) fu rp rb (b_X12_begins_21 fu rp rb F)
      rw [one]
      clear one
      by_cases e : trk D i ch = X 0 ch
      · rw [if_pos e]
        obtain ⟨u, g1, g2⟩ := bg21 hl hN hB hK hL hi n40 fu rp rb F (ch + 1) st (by omega) (by omega) hT fr hO (fun c' hc' => by
          by_cases d : c' = ch
          · subst d
            exact (hX c' (Nat.le_refl _) hc).nx e
          · exact hY c' (by omega)) (fun c' q1 q2 => hX c' (by omega) q2) (fun c' q1 q2 => by
          rw [hW c' q1 q2]
          by_cases d : c' = ch
          · subst d
            rw [if_neg (by omega), if_neg (fun z => z.2 e)]
          · by_cases d2 : c' < ch ∧ trk D i c' ≠ X 0 c'
            · rw [if_pos d2, if_pos ⟨by omega, d2.2⟩]
            · rw [if_neg d2, if_neg (fun z => d2 ⟨by omega, z.2⟩)])
        exact ⟨u, g1, g2⟩
      · rw [if_neg e]
        have n0 : nxF D i N X 0 ch = trk D i ch := by unfold nxF; rw [if_neg e, if_pos rfl]
        have n1 : nxF D i N X 1 ch = LV (X 0 ch) (X 1 ch) (X 2 ch) (X 3 ch) N := by unfold nxF; rw [if_neg e]; rfl
        have n2 : nxF D i N X 2 ch = N := by unfold nxF; rw [if_neg e]; rfl
        have p190 := (hX ch (Nat.le_refl _) hc).2.1
        rw [← n1] at p190
        have gg := fdR_g l ch (65 * l + (ch + 1)) (trk D i ch) (nxF D i N X 1 ch) N (nxF D i N X 3 ch) st
        obtain ⟨ff, fg⟩ := fdR_f l ch (65 * l + (ch + 1)) (trk D i ch) (nxF D i N X 1 ch) N (nxF D i N X 3 ch) st
        obtain ⟨s2, hs2⟩ : ∃ s2, s2 = fdR3 l ch (fdR2 (65 * l + (ch + 1)) (trk D i ch) (nxF D i N X 3 ch) (fdR (65 * l + (ch + 1)) (trk D i ch) (nxF D i N X 1 ch) N (nxF D i N X 3 ch) st)) := ⟨_, rfl⟩
        rw [← hs2] at ff fg ⊢
        simp only [← hs2] at gg
        have ne : ∀ j, j ≠ 65 * l + (ch + 1) → gI s2 190 j = gI st 190 j ∧ gI s2 191 j = gI st 191 j ∧ gI s2 192 j = gI st 192 j ∧ gI s2 193 j = gI st 193 j ∧ gI s2 194 j = gI st 194 j := fun j hj => by
          obtain ⟨a1, a2, a3, a4, a5, -⟩ := gg j
          rw [a1, a2, a3, a4, a5, if_neg hj, if_neg hj, if_neg hj, if_neg hj, if_neg (fun z => hj z.1)]
          exact ⟨rfl, rfl, rfl, rfl, rfl⟩
        have own : PLr l N (nxF D i N X) ch s2 := by
          obtain ⟨a1, a2, a3, a4, a5, -⟩ := gg (65 * l + (ch + 1))
          rw [if_pos rfl] at a1 a2 a3 a4
          unfold PLr
          rw [a1, a2, a3, a4, a5, p190, n0, n2]
          refine ⟨rfl, ?_, fun z => ?_, fun z => ⟨rfl, rfl, rfl⟩⟩
          · by_cases v0 : nxF D i N X 3 ch = 0
            · rw [if_pos ⟨rfl, v0⟩, LV_off (Or.inl v0)]
            · rw [if_neg (fun z => v0 z.2), LV_now (by omega)]
          · have : nxF D i N X 3 ch = 0 := by omega
            rw [this]
        obtain ⟨u, g1, g2⟩ := bg21 hl hN hB hK hL hi n40 fu rp rb F (ch + 1) s2 (by omega) (by omega) (hT.r fg) (fr.tt ff) (fun j hj => by
          obtain ⟨a0, a1, a2, a3, a4⟩ := ne j (by omega)
          rw [a0, a1, a2, a3, a4]
          exact hO j hj) (fun c' hc' => by
          by_cases d : c' = ch
          · subst d
            exact own
          · obtain ⟨a0, a1, a2, a3, a4⟩ := ne (65 * l + (c' + 1)) (by omega)
            exact (hY c' (by omega)).c a0 a1 a2 a3 a4) (fun c' q1 q2 => by
          obtain ⟨a0, a1, a2, a3, a4⟩ := ne (65 * l + (c' + 1)) (by omega)
          exact (hX c' (by omega) q2).c a0 a1 a2 a3 a4) (fun c' q1 q2 => by
          rw [(gg (c' + 1)).2.2.2.2.2]
          by_cases d : c' = ch
          · subst d
            rw [if_pos ⟨rfl, q1⟩, if_pos ⟨by omega, e⟩]
          · rw [if_neg (by omega), hW c' q1 q2]
            by_cases d2 : c' < ch ∧ trk D i c' ≠ X 0 c'
            · rw [if_pos d2, if_pos ⟨by omega, d2.2⟩]
            · rw [if_neg d2, if_neg (fun z => d2 ⟨by omega, z.2⟩)])
        exact ⟨u, g1, g2⟩
    · have : ch = 64 := by omega
      subst this
      have t4 : gI st 163 (l * 60 + i) = nI (D 4 i) := by rw [fr.fi 163 (by decide)]; exact kj 4 (by omega)
      have t40 : gI st 153 40 = nI N := by rw [fr.fi 153 (by decide)]; exact n40
      have b4 : D 4 i ≤ 9999 := cf.2.2.2.2.2.1
      refine ⟨st, ?_, fr, hT, hO, fun c' h => hY c' h, fun c' q1 q2 => ?_⟩
      · clear hX hY hO hW hB hK hL kj kt cf
        unfold af21
        by_cases d4 : D 4 i = 0
        · rw [if_pos d4]
          simp (disch := first | decide | omega) [↓bd_e, isb, ck_tt, NP, NF, NC, NB, NS, GS, kdR, tpR hT, b_X12_begins_21_b, b_X12_begins_192, t4, d4]
        · rw [if_neg d4]
          simp (disch := first | decide | omega) [↓bd_e, isb, ck_tt, NP, NF, NC, NB, NS, GS, kdR, tpR hT, b_X12_begins_21_b, b_X12_begins_192, t4, t40, d4]
      · rw [hW c' q1 q2]
        by_cases d : trk D i c' ≠ X 0 c'
        · rw [if_pos ⟨q2, d⟩, if_pos d]
        · rw [if_neg (fun z => d z.2), if_neg d]
