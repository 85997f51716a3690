/-! PURE: the reference's edges of one time -/
def RW (G : NW) (st : St) : Prop := gI st 153 113 = nI G.n ∧ ∀ w, w < G.n → gI st 250 w = nI (G.fr w) ∧ gI st 251 w = nI (G.to w) ∧ gI st 252 w = nI (G.wd w) ∧ gI st 253 w = nI (G.tm w)
theorem RW.fr {G : NW} {st u : St} {W : List PL} (h : RW G st) (f : Fr W st u) (h0 : W.any (covers · 153 113) = false) (h1 : W.all (fun b => !(b.1 == 250)) = true) (h2 : W.all (fun b => !(b.1 == 251)) = true) (h3 : W.all (fun b => !(b.1 == 252)) = true) (h4 : W.all (fun b => !(b.1 == 253)) = true) : RW G u := by
  unfold RW at h ⊢
  rw [f.ki 153 113 h0, f.fi 250 h1, f.fi 251 h2, f.fi 252 h3, f.fi 253 h4]
  exact h
theorem kX.m {G : NW} {t w v a : Nat} (h : kX G t 0 0 a) : kX G t w v a := by
  unfold kX at h ⊢
  rcases h with ⟨a1, a2, a3⟩ | ⟨a1, a2, a3⟩
  · exact Or.inl ⟨a1, a2, by omega⟩
  · exact Or.inr ⟨a1, a2, by omega⟩
set_option maxRecDepth 100000 in
theorem ways_l {G : NW} (ok : G.ok) (fu : Nat) (k66 : Nat → Int32 → Int32 → St → Option (Int32 × St)) {t : Nat} (ht : t ≤ 50) {g : Nat → Nat} (hz : ∀ a, a < 1632 → ¬ kX G t 0 0 a → g a = 0) (X1 : Int32) : ∀ F w N kap adj (st : St), w ≤ G.n → G.n - w < F → Top st → RW G st → RE G (kX G t w 0) N kap adj g st → ∃ N' kap' adj' u, RE G (kX G t G.n 0) N' kap' adj' g u ∧ Fr W_ed st u ∧ gR u = gR st ∧ b_X12_empty_74 fu k66 F 153 X1 (nI t) (nI w) st = b_X12_empty_139 fu k66 fu 153 X1 (nI t) (nI 0) u := by
  have n20 := ok.1
  intro F
  induction F with
  | zero => intro w N kap adj st h1 h2; omega
  | succ F ih =>
    intro w N kap adj st h1 h2 hT hW hR
    have w0 := hW.1
    by_cases e : w = G.n
    · refine ⟨N, kap, adj, st, by rw [← e]; exact hR, Fr.rf, rfl, ?_⟩
      show b_X12_empty_74_b fu k66 (b_X12_empty_74 fu k66 F) 153 X1 (nI t) (nI w) st = _
      rw [e]
      simp (disch := first | decide | omega) [↓bd_e, isb, ck_tt, NP, NF, NC, NB, NS, GS, kdR, tpR hT, b_X12_empty_74_b, w0]
    · have wl : w < G.n := by omega
      obtain ⟨w1, w2, w3, w4⟩ := hW.2 w wl
      obtain ⟨o1, o2, o3, o4, o5, o6, o7⟩ := ok.2 w wl
      by_cases q : G.tm w ≤ t
      · obtain ⟨x1, x2⟩ := kX_w1 (v := 0) wl n20 ht o6 q
        have k5 : kV G 50 (51 * w + (t - G.tm w)) := kX_50 ht ((x2 _).mp (Or.inr rfl))
        have eS : kS G (51 * w + (t - G.tm w)) = 51 * G.fr w + t - G.tm w := by
          unfold kS
          rw [if_pos (by omega), show (51 * w + (t - G.tm w)) / 51 = w by omega, show (51 * w + (t - G.tm w)) % 51 = t - G.tm w by omega]
          omega
        have eD : kD G (51 * w + (t - G.tm w)) = 51 * G.to w + t := by
          unfold kD
          rw [if_pos (by omega), show (51 * w + (t - G.tm w)) / 51 = w by omega, show (51 * w + (t - G.tm w)) % 51 = t - G.tm w by omega]
          omega
        have eC : cp G (51 * w + (t - G.tm w)) = G.wd w := by
          unfold cp
          rw [if_pos (by omega), show (51 * w + (t - G.tm w)) / 51 = w by omega]
        obtain ⟨adj1, u1, a1, a2, a3, a4⟩ := edge_r ok hT hR fu (k := 51 * w + (t - G.tm w)) (fun a ha => kX_50 ht ha) x1 k5 (hz _ (by omega) fun c => x1 c.m)
        rw [eS, eD, eC] at a1
        obtain ⟨N', kap', adj', u, b1, b2, b3, b4⟩ := ih (w + 1) (N + 1) _ adj1 u1 (by omega) (by omega) (hT.r a3) (hW.fr a2 (by decide) (by decide) (by decide) (by decide) (by decide)) (a4.c x2)
        refine ⟨N', kap', adj', u, b1, a2.tt b2, b3.trans a3, ?_⟩
        rw [← b4]
        show b_X12_empty_74_b fu k66 (b_X12_empty_74 fu k66 F) 153 X1 (nI t) (nI w) st = _
        simp (disch := first | decide | omega) [↓bd_e, isb, ck_tt, NP, NF, NC, NB, NS, GS, kdR, tpR hT, b_X12_empty_74_b, b_X12_empty_131, w0, w1, w2, w3, w4, ↓cvO a1]
      · obtain ⟨N', kap', adj', u, b1, b2, b3, b4⟩ := ih (w + 1) N kap adj st (by omega) (by omega) hT hW (hR.c (kX_w0 (by omega)))
        refine ⟨N', kap', adj', u, b1, b2, b3, ?_⟩
        rw [← b4]
        show b_X12_empty_74_b fu k66 (b_X12_empty_74 fu k66 F) 153 X1 (nI t) (nI w) st = _
        simp (disch := first | decide | omega) [↓bd_e, isb, ck_tt, NP, NF, NC, NB, NS, GS, kdR, tpR hT, b_X12_empty_74_b, b_X12_empty_131, w0, w4]
set_option maxRecDepth 100000 in
theorem waits_l {G : NW} (ok : G.ok) (fu : Nat) (k66 : Nat → Int32 → Int32 → St → Option (Int32 × St)) {t : Nat} (ht : t ≤ 50) {g : Nat → Nat} (hz : ∀ a, a < 1632 → ¬ kX G t 0 0 a → g a = 0) (X1 : Int32) : ∀ F v N kap adj (st : St), v ≤ 12 → 12 - v < F → Top st → RE G (kX G t G.n v) N kap adj g st → ∃ N' kap' adj' u, RE G (kV G t) N' kap' adj' g u ∧ Fr W_ed st u ∧ gR u = gR st ∧ b_X12_empty_139 fu k66 F 153 X1 (nI t) (nI v) st = b_X12_empty_178 fu k66 fu 153 X1 (nI t) (nI 1) u := by
  intro F
  induction F with
  | zero => intro w N kap adj st h1 h2; omega
  | succ F ih =>
    intro v N kap adj st h1 h2 hT hR
    by_cases e : v = 12
    · refine ⟨N, kap, adj, st, by rw [e] at hR; exact hR.c (kX_V t), Fr.rf, rfl, ?_⟩
      show b_X12_empty_139_b fu k66 (b_X12_empty_139 fu k66 F) 153 X1 (nI t) (nI v) st = _
      rw [e]
      simp (disch := first | decide | omega) [↓bd_e, isb, ck_tt, NP, NF, NC, NB, NS, GS, kdR, tpR hT, b_X12_empty_139_b, b_X12_empty_176]
    · by_cases z : t = 0
      · subst z
        refine ⟨N, kap, adj, st, (hR.c (kX_v0 (v' := 12))).c (kX_V 0), Fr.rf, rfl, ?_⟩
        show b_X12_empty_139_b fu k66 (b_X12_empty_139 fu k66 F) 153 X1 (nI 0) (nI v) st = _
        simp (disch := first | decide | omega) [↓bd_e, isb, ck_tt, NP, NF, NC, NB, NS, GS, kdR, tpR hT, b_X12_empty_139_b, b_X12_empty_176]
      · obtain ⟨x1, x2⟩ := kX_v1 (G := G) (w := G.n) (show v < 12 by omega) ht (by omega)
        have k5 : kV G 50 (1020 + (51 * v + (t - 1))) := kX_50 ht ((x2 _).mp (Or.inr rfl))
        have eS : kS G (1020 + (51 * v + (t - 1))) = 51 * v + t - 1 := by
          unfold kS
          rw [if_neg (by omega)]
          omega
        have eD : kD G (1020 + (51 * v + (t - 1))) = 51 * v + t := by
          unfold kD
          rw [if_neg (by omega)]
          omega
        have eC : cp G (1020 + (51 * v + (t - 1))) = 6000 := by
          unfold cp
          rw [if_neg (by omega)]
        obtain ⟨adj1, u1, a1, a2, a3, a4⟩ := edge_r ok hT hR fu (k := 1020 + (51 * v + (t - 1))) (fun a ha => kX_50 ht ha) x1 k5 (hz _ (by omega) fun c => x1 c.m)
        rw [eS, eD, eC] at a1
        obtain ⟨N', kap', adj', u, b1, b2, b3, b4⟩ := ih (v + 1) (N + 1) _ adj1 u1 (by omega) (by omega) (hT.r a3) (a4.c x2)
        refine ⟨N', kap', adj', u, b1, a2.tt b2, b3.trans a3, ?_⟩
        rw [← b4]
        show b_X12_empty_139_b fu k66 (b_X12_empty_139 fu k66 F) 153 X1 (nI t) (nI v) st = _
        simp (disch := first | decide | omega) [↓bd_e, isb, ck_tt, NP, NF, NC, NB, NS, GS, kdR, tpR hT, b_X12_empty_139_b, ↓cvO a1]
