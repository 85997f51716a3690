/-! PURE: the reference's waves -/
set_option maxRecDepth 100000 in
theorem many_l {G : NW} (ok : G.ok) {fu : Nat} (hf : 9000 ≤ fu) {T : Nat} (hT5 : T ≤ 50) {c : Nat → Nat} (k66 : Nat → Int32 → Int32 → St → Option (Int32 × St)) : ∀ F (l g : Nat → Nat) r (st : St), sn 11 l + 2 ≤ F → sn 11 l ≤ 660 → 0 < r → r ≤ 6000 → RI G T c l g st → ∃ l' g' u, RI G T c l' g' u ∧ Stuck G T l' (iN g') ∧ sn 11 l' ≤ sn 11 l ∧ Fr W_o2 st u ∧ b_X12_empty_178 fu k66 F 153 (nI (sn 11 l)) (nI T) (nI r) st = (if sn 11 l' = 0 then some (nI T, u) else k66 153 (nI (sn 11 l')) (nI (T + 1)) u) := by
  intro F
  induction F with
  | zero => intro l g r st h1; omega
  | succ F ih =>
    intro l g r st h1 h6 h2 h3 hI
    have hT := hI.1
    obtain ⟨u1, a1, a2 | ⟨x, l', g', a2, a3, a4, a5⟩⟩ := out2_r ok hf hT5 hI
    · obtain ⟨a2, a3, a4⟩ := a2
      refine ⟨l, g, u1, a3, a2, Nat.le_refl _, a1, ?_⟩
      obtain ⟨F, rfl⟩ : ∃ F', F = F' + 1 := ⟨F - 1, by omega⟩
      obtain ⟨n, hn⟩ : ∃ n, n = sn 11 l := ⟨_, rfl⟩
      rw [← hn] at h6
      rw [← hn]
      have e1 : b_X12_empty_178 fu k66 (F + 1 + 1) 153 (nI n) (nI T) (nI r) st = b_X12_empty_178 fu k66 (F + 1) 153 (nI n) (nI T) (nI 0) u1 := by
        show b_X12_empty_178_b fu k66 (b_X12_empty_178 fu k66 (F + 1)) 153 (nI n) (nI T) (nI r) st = _
        simp (disch := first | decide | omega) [↓bd_e, isb, ck_tt, NP, NF, NC, NB, NS, GS, kdR, tpR hT, b_X12_empty_178_b, ↓caO a4]
      rw [e1]
      show b_X12_empty_178_b fu k66 (b_X12_empty_178 fu k66 F) 153 (nI n) (nI T) (nI 0) u1 = _
      by_cases q : n = 0
      · rw [if_pos q, q]
        simp (disch := first | decide | omega) [↓bd_e, isb, ck_tt, NP, NF, NC, NB, NS, GS, kdR, tpR hT, b_X12_empty_178_b]
      · rw [if_neg q]
        simp (disch := first | decide | omega) [↓bd_e, isb, ck_tt, NP, NF, NC, NB, NS, GS, kdR, tpR hT, b_X12_empty_178_b]
    · obtain ⟨l2, g2, u, b1, b2, b3, b4, b5⟩ := ih l' g' x u1 (by omega) (by omega) a2 (by omega) a4
      refine ⟨l2, g2, u, b1, b2, by omega, a1.tt b4, ?_⟩
      rw [← b5, show sn 11 l' = sn 11 l - x by omega]
      have x6 : x ≤ sn 11 l := by omega
      obtain ⟨n, hn⟩ : ∃ n, n = sn 11 l := ⟨_, rfl⟩
      rw [← hn] at h6 x6
      rw [← hn]
      show b_X12_empty_178_b fu k66 (b_X12_empty_178 fu k66 F) 153 (nI n) (nI T) (nI r) st = _
      simp (disch := first | decide | omega) [↓bd_e, isb, ck_tt, NP, NF, NC, NB, NS, GS, kdR, tpR hT, b_X12_empty_178_b, ↓caO a5]
def RJ (G : NW) (T : Nat) (c l g : Nat → Nat) (st : St) : Prop := Top st ∧ RW G st ∧ (∃ N kap adj, RE G (kX G T 0 0) N kap adj g st) ∧ (∀ v, v < 11 → gI st 261 v = nI (l v)) ∧ FI G T c l (iN g) ∧ (∀ s, 561 ≤ s → s < 612 → bl G (iN g) s ≤ 0) ∧ (∀ v, v < 11 → l v ≤ c v ∧ c v ≤ 60) ∧ ∀ a, a < 1632 → ¬ kX G T 0 0 a → g a = 0
def W_re : List PL := [(153, some 123), (255, none), (256, none), (257, none), (258, none), (259, none), (260, none), (261, none)]
set_option maxRecDepth 100000 in
theorem wave_l {G : NW} (ok : G.ok) {fu : Nat} (hf : 9000 ≤ fu) {c : Nat → Nat} : ∀ F T (l g : Nat → Nat) (st : St), 51 - T < F → T ≤ 51 → sn 11 l ≤ 660 → RJ G T c l g st → (∀ T', T' < T → ¬ Feas G c T') → ∃ r u, LTm G c r ∧ Fr W_re st u ∧ b_X12_empty_66 fu F 153 (nI (sn 11 l)) (nI T) st = some (r, u) := by
  intro F
  induction F with
  | zero => intro T l g st h; omega
  | succ F ih =>
    intro T l g st h1 hT6 hl6 hI hN
    obtain ⟨hT, hW, ⟨N, kap, adj, hR⟩, hl, hF, hO, hc, hz⟩ := hI
    have n20 := ok.1
    by_cases q : T = 51
    · refine ⟨-nI 1, st, Or.inr ⟨rfl, fun U hU => hN U (by omega)⟩, Fr.rf, ?_⟩
      obtain ⟨n, hn⟩ : ∃ n, n = sn 11 l := ⟨_, rfl⟩
      rw [← hn]
      show b_X12_empty_66_b fu (b_X12_empty_66 fu F) 153 (nI n) (nI T) st = _
      rw [q]
      simp (disch := first | decide | omega) [↓bd_e, isb, ck_tt, NP, NF, NC, NB, NS, GS, kdR, tpR hT, b_X12_empty_66_b]
    · have q5 : T ≤ 50 := by omega
      obtain ⟨N1, kap1, adj1, u1, a1, a2, a3, a4⟩ := ways_l ok fu (b_X12_empty_66 fu F) q5 hz (nI (sn 11 l)) fu 0 N kap adj st (by omega) (by omega) hT hW hR
      obtain ⟨N2, kap2, adj2, u2, b1, b2, b3, b4⟩ := waits_l ok fu (b_X12_empty_66 fu F) q5 hz (nI (sn 11 l)) fu 0 N1 kap1 adj1 u1 (by omega) (by omega) (hT.r a3) a1
      have f2 : Fr W_ed st u2 := a2.tt b2
      have I2 : RI G T c l g u2 := ⟨hT.r (b3.trans a3), hW.fr f2 (by decide) (by decide) (by decide) (by decide) (by decide), ⟨N2, kap2, adj2, b1⟩, fun v hv => by rw [f2.fi 261 (by decide)]; exact hl v hv, hF, hO, hc⟩
      obtain ⟨l', g', u, c1, c2, c3, c4, c5⟩ := many_l ok hf q5 (b_X12_empty_66 fu F) fu l g 1 u2 (by omega) hl6 (by omega) (by omega) I2
      have run : b_X12_empty_66 fu (F + 1) 153 (nI (sn 11 l)) (nI T) st = (if sn 11 l' = 0 then some (nI T, u) else b_X12_empty_66 fu F 153 (nI (sn 11 l')) (nI (T + 1)) u) := by
        rw [← c5, ← b4, ← a4]
        obtain ⟨n, hn⟩ : ∃ n, n = sn 11 l := ⟨_, rfl⟩
        rw [← hn]
        show b_X12_empty_66_b fu (b_X12_empty_66 fu F) 153 (nI n) (nI T) st = _
        simp (disch := first | decide | omega) [↓bd_e, isb, ck_tt, NP, NF, NC, NB, NS, GS, kdR, tpR hT, b_X12_empty_66_b]
      have fA : Fr W_re st u := (f2.tr c4).wd (by decide)
      rw [run]
      obtain ⟨d1, d2, ⟨N3, kap3, adj3, d3⟩, d4, d5, d6, d7⟩ := c1
      by_cases z : sn 11 l' = 0
      · refine ⟨nI T, u, Or.inl ⟨T, q5, rfl, ⟨_, d5.z (sn_z z)⟩, hN⟩, fA, ?_⟩
        rw [if_pos z]
      · have nf : ¬ Feas G c T := fun ⟨f, hF⟩ => z (z_sn (stuck_no ok q5 d5 c2 hF))
        obtain ⟨r, u5, e1, e2, e3⟩ := ih (T + 1) l' g' u (by omega) (by omega) (by omega) ⟨d1, d2, ⟨N3, kap3, adj3, d3.c (kV_X T)⟩, d4, d5.mono (by omega), d6, d7, fun a ha hx => by
          have : ((g' a : Nat) : Int) = 0 := d5.2.2.1 a ha fun c => hx ((kV_X T a).mp c)
          omega⟩ (fun U hU => by
          by_cases e : U = T
          · rw [e]; exact nf
          · exact hN U (by omega))
        refine ⟨r, u5, e1, fA.tt e2, ?_⟩
        rw [if_neg z]; exact e3
set_option maxRecDepth 100000 in
theorem heads_l (fu : Nat) : ∀ F i (st : St), i ≤ 612 → 612 - i < F → Top st → (∀ s, s < i → gI st 255 s = -nI 1) → ∃ u, (∀ s, s < 612 → gI u 255 s = -nI 1) ∧ Fr [(255, none)] st u ∧ gR u = gR st ∧ b_X12_empty_7 fu F 153 (nI i) st = b_X12_empty_31 fu fu 153 (nI 0) (nI 0) u := by
  intro F
  induction F with
  | zero => intro i st h1 h2; omega
  | succ F ih =>
    intro i st h1 h2 hT h
    by_cases e : i = 612
    · refine ⟨st, fun s hs => h s (by omega), Fr.rf, rfl, ?_⟩
      show b_X12_empty_7_b fu (b_X12_empty_7 fu F) 153 (nI i) st = _
      rw [e]
      simp (disch := first | decide | omega) [↓bd_e, isb, ck_tt, NP, NF, NC, NB, NS, GS, kdR, tpR hT, b_X12_empty_7_b]
    · obtain ⟨u, a1, a2, a3, a4⟩ := ih (i + 1) (sI st 255 i (-nI 1)) (by omega) (by omega) (hT.r rfl) (fun s hs => by
        rw [gI_sI]
        by_cases q : s = i
        · rw [if_pos ⟨rfl, q⟩]
        · rw [if_neg fun c => q c.2]; exact h s (by omega))
      refine ⟨u, a1, (Fr.ia st 255 i (-nI 1)).tt a2, a3, ?_⟩
      rw [← a4]
      show b_X12_empty_7_b fu (b_X12_empty_7 fu F) 153 (nI i) st = _
      simp (disch := first | decide | omega) [↓bd_e, isb, ck_tt, NP, NF, NC, NB, NS, GS, kdR, tpR hT, b_X12_empty_7_b]
set_option maxRecDepth 100000 in
theorem crowd_l (fu : Nat) {c : Nat → Nat} (hc : ∀ v, v < 11 → c v ≤ 60) : ∀ F v (st : St), v ≤ 11 → 11 - v < F → Top st → (∀ w, w < 11 → gI st 254 w = nI (c w)) → (∀ w, w < v → gI st 261 w = nI (c w)) → ∃ u, (∀ w, w < 11 → gI u 261 w = nI (c w)) ∧ Fr [(261, none)] st u ∧ gR u = gR st ∧ b_X12_empty_31 fu F 153 (nI (sn v c)) (nI v) st = b_X12_empty_66 fu fu 153 (nI (sn 11 c)) (nI 0) u := by
  intro F
  induction F with
  | zero => intro v st h1 h2; omega
  | succ F ih =>
    intro v st h1 h2 hT h4 h5
    by_cases e : v = 11
    · refine ⟨st, fun w hw => h5 w (by omega), Fr.rf, rfl, ?_⟩
      rw [e]
      obtain ⟨n, hn⟩ : ∃ n, n = sn 11 c := ⟨_, rfl⟩
      rw [← hn]
      show b_X12_empty_31_b fu (b_X12_empty_31 fu F) 153 (nI n) (nI 11) st = _
      simp (disch := first | decide | omega) [↓bd_e, isb, ck_tt, NP, NF, NC, NB, NS, GS, kdR, tpR hT, b_X12_empty_31_b]
    · have v11 : v < 11 := by omega
      have x4 := h4 v v11
      have c6 := hc v v11
      obtain ⟨u, a1, a2, a3, a4⟩ := ih (v + 1) (sI st 261 v (nI (c v))) (by omega) (by omega) (hT.r rfl) (fun w hw => by
        rw [gI_sI, if_neg (fun c => absurd c.1 (by decide))]; exact h4 w hw) (fun w hw => by
        rw [gI_sI]
        by_cases q : w = v
        · rw [if_pos ⟨rfl, q⟩, q]
        · rw [if_neg fun c => q c.2]; exact h5 w (by omega))
      refine ⟨u, a1, (Fr.ia st 261 v (nI (c v))).tt a2, a3, ?_⟩
      rw [← a4]
      show b_X12_empty_31_b fu (b_X12_empty_31 fu F) 153 (nI (sn v c)) (nI v) st = b_X12_empty_31 fu F 153 (nI (sn v c + c v)) (nI (v + 1)) (sI st 261 v (nI (c v)))
      obtain ⟨n, hn⟩ : ∃ n, n = sn v c := ⟨_, rfl⟩
      rw [← hn]
      simp (disch := first | decide | omega) [↓bd_e, isb, ck_tt, NP, NF, NC, NB, NS, GS, kdR, tpR hT, b_X12_empty_31_b, x4]
theorem bl_0 (G : NW) (s : Nat) : bl G (iN fun _ => 0) s = 0 := by
  show bal 1632 (kS G) (kD G) (iN fun _ => 0) s = 0
  unfold bal
  refine Eq.trans (si_c fun a _ => ?_) (si_0 1632)
  simp
theorem empty_r {G : NW} (ok : G.ok) {fu : Nat} (hf : 9000 ≤ fu) {c : Nat → Nat} (hc : ∀ v, v < 11 → c v ≤ 60) {st : St} (hT : Top st) (hW : RW G st) (h4 : ∀ v, v < 11 → gI st 254 v = nI (c v)) : ∃ r u, LTm G c r ∧ Fr W_re st u ∧ f_X12_empty fu 153 st = some (r, u) := by
  obtain ⟨u0, hu0⟩ : ∃ u0, u0 = sI st 153 123 0 := ⟨_, rfl⟩
  have f0 : Fr [(153, some 123)] st u0 := by rw [hu0]; exact Fr.i _ _ _ _
  have g0 : gR u0 = gR st := by rw [hu0]; rfl
  obtain ⟨u1, a1, a2, a3, a4⟩ := heads_l fu fu 0 u0 (by omega) (by omega) (hT.r g0) (fun s hs => by omega)
  have f1 : Fr W_ed st u1 := (f0.tr a2).wd (by decide)
  obtain ⟨u2, b1, b2, b3, b4⟩ := crowd_l fu hc fu 0 u1 (by omega) (by omega) (hT.r (a3.trans g0)) (fun w hw => by rw [f1.fi 254 (by decide)]; exact h4 w hw) (fun w hw => by omega)
  have f2 : Fr W_re st u2 := (f1.tr b2).wd (by decide)
  have k0 : gI u2 153 123 = nI (2 * 0) := by
    rw [b2.ki 153 123 (by decide), a2.ki 153 123 (by decide), hu0, gI_sI, if_pos ⟨rfl, rfl⟩]; rfl
  have R0 : RE G (kX G 0 0 0) 0 (fun _ => 0) (fun _ => []) (fun _ => 0) u2 := by
    refine ⟨k0, ⟨fun j hj => by omega, fun i j _ hj => by omega, fun a ha => absurd ha (kX_0 a)⟩, fun e he => by omega, fun s hs => ?_, fun s e hs => ⟨fun c => absurd c (by simp), fun c => by omega⟩, fun s => Nat.le_refl _, fun j hj => by omega⟩
    show gI u2 255 s = -nI 1
    rw [b2.fi 255 (by decide)]; exact a1 s hs
  obtain ⟨r, u, c1, c2, c3⟩ := wave_l ok hf (c := c) fu 0 c (fun _ => 0) u2 (by omega) (by omega) (sn_60 hc) ⟨hT.r (b3.trans (a3.trans g0)), hW.fr f2 (by decide) (by decide) (by decide) (by decide) (by decide), ⟨_, _, _, R0⟩, b1, FI_0, fun s _ _ => Int.le_of_eq (bl_0 G s), fun v hv => ⟨Nat.le_refl _, hc v hv⟩, fun _ _ _ => rfl⟩ (fun U hU => by omega)
  refine ⟨r, u, c1, f2.tt c2, ?_⟩
  rw [← c3, ← b4]
  show ck _ (bd _ fun s1 => b_X12_empty_7 fu fu 153 0 s1) = _
  rw [ck_t (by decide), bd_e]
  rw [hu0] at a4
  exact a4
