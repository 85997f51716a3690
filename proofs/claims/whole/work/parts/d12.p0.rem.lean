/-! PURE: the reference sends once -/
def RI (G : NW) (T : Nat) (c l g : Nat → Nat) (st : St) : Prop := Top st ∧ RW G st ∧ (∃ N kap adj, RE G (kV G T) N kap adj g st) ∧ (∀ v, v < 11 → gI st 261 v = nI (l v)) ∧ FI G T c l (iN g) ∧ (∀ s, 561 ≤ s → s < 612 → bl G (iN g) s ≤ 0) ∧ ∀ v, v < 11 → l v ≤ c v ∧ c v ≤ 60
def W_o2 : List PL := [(258, none), (259, none), (260, none), (261, none)]
set_option maxRecDepth 100000 in
theorem out2_r {G : NW} (ok : G.ok) {fu : Nat} (hf : 9000 ≤ fu) {T : Nat} (hT5 : T ≤ 50) {c l g : Nat → Nat} {st : St} (hI : RI G T c l g st) : ∃ u, Fr W_o2 st u ∧ ((Stuck G T l (iN g) ∧ RI G T c l g u ∧ f_X12_out2 fu 153 (nI T) st = some (nI 0, u)) ∨ ∃ x l' g', 0 < x ∧ sn 11 l' + x = sn 11 l ∧ RI G T c l' g' u ∧ f_X12_out2 fu 153 (nI T) st = some (nI x, u)) := by
  obtain ⟨hT, hW, ⟨N, kap, adj, hR⟩, hl, hF, hO, hc⟩ := hI
  have hN : N ≤ 1632 := pig 1632 N kap (fun i hi => (hR.2.1.1 i hi).lt) hR.2.1.2.1
  have hcp : ∀ j, j < N → cp G (kap j) ≤ 6000 := fun j hj => cp_le ok (hR.2.1.1 j hj)
  have hD : ∀ e, e < 2 * N → rD G kap e < 612 ∧ rR G kap g e ≤ 6000 := fun e he => by
    have d := (hR.2.1.1 (e / 2) (by omega)).dst ok hT5
    have c1 := hcp (e / 2) (by omega)
    have c2 := hR.2.2.2.2.2.2 (e / 2) (by omega)
    unfold rD rR
    by_cases q : e % 2 = 0
    · rw [if_pos q, if_pos q]; omega
    · rw [if_neg q, if_neg q]; omega
  have hSl : ∀ e, e < 2 * N → rS G kap e < 612 := fun e he => by
    have d := (hR.2.1.1 (e / 2) (by omega)).dst ok hT5
    unfold rS
    by_cases q : e % 2 = 0
    · rw [if_pos q]; omega
    · rw [if_neg q]; omega
  obtain ⟨u1, a1, a2, a3, a4⟩ := fill2_l fu (nI T) fu 0 st (by omega) (by omega) hT (fun s hs => by omega)
  have hT1 : Top u1 := hT.r a3
  obtain ⟨b, C, Q, u2, b1, b2, b3, b4, b5, b6⟩ := starts_l fu hT5 (M := 2 * N) (es := rS G kap) (ed := rD G kap) (er := rR G kap g) (l := l) (fun v hv => by have := hc v hv; omega) fu 0 0 (fun _ => none) (fun _ => 0) u1 (by omega) (by omega) (by omega) hT1 (fun v hv => by rw [a2.fi 261 (by decide)]; exact hl v hv) ⟨fun i hi => by omega, fun i j _ hj => by omega, fun s _ h => absurd rfl h, fun s _ h => absurd h (by simp), fun i e hi => by omega⟩ ⟨fun s hs => a1 s hs, fun i hi => by omega⟩ (fun s h => absurd rfl h) (fun w hw => by omega)
  have f12 : Fr W_bf st u2 := (a2.wd (by decide)).tt b4
  obtain ⟨b', C', Q', u3, c1, c2, c3, c4, c5, c6, c7⟩ := outer_l (X := kV G T) (adj := adj) (l := l) hf hN hD (goal := 561 + T) (by omega) fu 0 b C Q u2 (by omega) (by omega) (hT1.r b5) (hR.bf f12) b1 b2 (fun k hk => by omega) b3
  have f13 : Fr W_bf st u3 := f12.tt c5
  have g13 : gR u3 = gR st := c6.trans (b5.trans a3)
  have hT3 : Top u3 := hT.r g13
  have R3 := hR.bf f13
  have l3 : ∀ v, v < 11 → gI u3 261 v = nI (l v) := fun v hv => by rw [f13.fi 261 (by decide)]; exact hl v hv
  have run : f_X12_out2 fu 153 (nI T) st = b_X12_out2_200 fu 153 (nI (561 + T)) u3 := by
    show b_X12_out2_2 fu fu 153 (nI T) (nI 0) st = _
    rw [a4, b6, c7]
  have g9 := c2.1 (561 + T) (by omega)
  cases hC : C' (561 + T) with
  | none =>
    refine ⟨u3, f13.wd (by decide), Or.inl ⟨?_, ⟨hT3, hW.fr f13 (by decide) (by decide) (by decide) (by decide) (by decide), ⟨N, kap, adj, R3⟩, l3, hF, hO, hc⟩, ?_⟩⟩
    · exact stuck_r ok hT5 hF hO hc hR.2.1 c1 c3 (fun e he h1 h2 => c4 hC e he (hSl e he) h1 h2) hC
    · rw [run]
      rw [hC] at g9
      have g9 : gI u3 259 (561 + T) = -nI 2 := g9
      have hT := hT3
      simp (disch := first | decide | omega) [↓bd_e, isb, ck_tt, NP, NF, NC, NB, NS, GS, kdR, tpR hT, b_X12_out2_200, g9]
  | some y =>
    obtain ⟨i, i1, i2⟩ := c1.2.2.1 (561 + T) (by omega) (by rw [hC]; exact fun c => by cases c)
    obtain ⟨m, P, E, p1, p2, p3⟩ := c1.path (i + 1) i (by omega) i1
    have b6' : b' ≤ 612 := pig 612 b' Q' (fun i hi => (c1.1 i hi).1) c1.2.1
    have hPm := p3.1 m (Nat.le_refl _)
    obtain ⟨v, v1, v2, v3⟩ := c1.2.2.2.1 _ (c1.1 _ hPm).1 p3.2.2
    have hcv := hc v v1
    obtain ⟨z, d1, d2, d3, d4, d5⟩ := back_l fu hN hD hT3 R3 c1 c2 p3 v1 v2 (l3 v v1) v3 (by omega) (561 + T) fu 0 6000 (by omega) (by omega) (by omega) (by omega)
    have q0 : Q' (P 0) = 561 + T := by rw [p1, i2]
    rw [q0] at d5
    obtain ⟨dk, F2, O2⟩ := aug_r hF hO hR.2.1 hR.2.2.2.2.2.2 c1 p3 v1 v2 (by rw [q0]; omega) d3 (fun j hj => d4 j (by omega) hj)
    obtain ⟨u4, hu4⟩ : ∃ u4, u4 = sI u3 261 v (nI (l v - z)) := ⟨_, rfl⟩
    have fr4 : Fr [(261, none)] u3 u4 := by rw [hu4]; exact Fr.ia _ _ _ _
    have g4 : gR u4 = gR u3 := by rw [hu4]; rfl
    obtain ⟨u5, x1, x2, x3, x4⟩ := push_l fu hN hD c1 p3 (z := z) (by omega) (fun j hj => d4 j (by omega) hj) dk hcp fu 0 u4 (by omega) (by omega) (hT3.r g4) (R3.fr (fr4.ki 153 123 (by decide)) (fr4.fi 255 (by decide)) (fr4.fi 256 (by decide)) (fr4.fi 257 (by decide)) (fr4.fi 258 (by decide))) (fun s hs => by rw [fr4.fi 259 (by decide)]; exact c2.1 s hs)
    rw [q0] at x4
    have f15 : Fr W_o2 st u5 := ((f13.tr fr4).tr x2).wd (by decide)
    refine ⟨u5, f15, Or.inr ⟨z, fun u => if u = v then l u - z else l u, _, d1, sn_dn v1 d3, ⟨hT3.r (x3.trans g4), hW.fr f15 (by decide) (by decide) (by decide) (by decide) (by decide), ⟨N, kap, adj, x1⟩, fun w hw => ?_, F2, O2, fun w hw => ?_⟩, ?_⟩⟩
    · rw [x2.fi 261 (by decide), hu4, gI_sI]
      show _ = nI (if w = v then l w - z else l w)
      by_cases q : w = v
      · rw [if_pos ⟨rfl, q⟩, if_pos q, q]
      · rw [if_neg fun c => q c.2, if_neg q]; exact l3 w hw
    · have := hc w hw
      show (if w = v then l w - z else l w) ≤ c w ∧ c w ≤ 60
      by_cases q : w = v
      · rw [if_pos q]; omega
      · rw [if_neg q]; exact this
    · have ne : (gI u3 259 (561 + T) = -nI 2) = False := by
        rw [g9, hC]
        cases y with
        | none => exact m12
        | some e' =>
          have := (c1.2.2.2.2 i e' i1 (by rw [i2]; exact hC)).1
          exact eq_m2 (by omega)
      rw [run]
      have e1 : b_X12_out2_200 fu 153 (nI (561 + T)) u3 = b_X12_out2_223 fu fu 153 (nI (561 + T)) (nI 6000) (nI (561 + T)) u3 := by
        have hT := hT3
        simp (disch := first | decide | omega) [↓bd_e, isb, ck_tt, NP, NF, NC, NB, NS, GS, kdR, tpR hT, b_X12_out2_200, ne]
      rw [e1, d5]
      have lv := l3 v v1
      have dv : 51 * v / 51 = v := by omega
      have e2 : b_X12_out2_319 fu 153 (nI (561 + T)) (nI (51 * v)) (nI z) u3 = b_X12_out2_340 fu fu 153 (nI z) (nI (561 + T)) u4 := by
        have hT := hT3
        rw [hu4]
        simp (disch := first | decide | omega) [↓bd_e, isb, ck_tt, NP, NF, NC, NB, NS, GS, kdR, tpR hT, b_X12_out2_319, dv, lv]
      rw [e2, x4]
