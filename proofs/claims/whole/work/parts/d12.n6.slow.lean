/-! PURE: the class's first time to try -/
theorem rx_up {G : NW} {d : Nat → Nat} (h : ∀ v, d v ≤ 1000000) (w v : Nat) : rx G d w v ≤ 1000000 := Nat.le_trans (rx_anti G d v (Nat.zero_le w)) (h v)
theorem slow_w {G : NW} (ok : G.ok) {L : Nat → List Nat} {g : Nat → Nat} (fu : Nat) (k34 : Nat → Int32 → Int32 → St → Option (Int32 × St)) {d : Nat → Nat} (hd : ∀ v, d v ≤ 1000000) {k : Nat} (hk : k ≤ 12) : ∀ F w ch (st : St), w ≤ G.n → G.n - w < F → Top st → CD G L g st → (∀ v, v < 12 → gI st 149 v = nI (rx G d w v)) → ch ≤ 1 → (ch = 0 → ∀ v, v < 12 → rx G d w v = d v) → ∃ ch' u, ch' ≤ 1 ∧ (ch' = 0 → ∀ v, v < 12 → rx G d G.n v = d v) ∧ (∀ v, v < 12 → gI u 149 v = nI (rx G d G.n v)) ∧ Top u ∧ CD G L g u ∧ Fr [(149, none)] st u ∧ b_X10_slowest_48 fu k34 F 139 (nI ch) (nI k) (nI w) st = k34 139 (nI ch') (nI (k + 1)) u := by
  intro F
  induction F with
  | zero => intro w ch st _ h; omega
  | succ F ih =>
    intro w ch st h1 h2 hT hC h9 hc h0
    have hn := ok.1
    have c1 := hC.1
    by_cases e : w = G.n
    · refine ⟨ch, st, hc, by rw [← e]; exact h0, by rw [← e]; exact h9, hT, hC, Fr.rf, ?_⟩
      show b_X10_slowest_48_b fu k34 (b_X10_slowest_48 fu k34 F) 139 (nI ch) (nI k) (nI w) st = _
      rw [e]
      simp (disch := first | decide | omega) [↓bd_e, isb, ck_tt, NP, NF, NC, NB, NS, GS, kdC, tpC hT, b_X10_slowest_48_b, c1]
    · have w1 : w < G.n := by omega
      have o := ok.2 w w1
      obtain ⟨x1, x2, x3, x4⟩ := hC.2.1 w w1
      have t1 := h9 (G.to w) (by omega)
      have t2 := h9 (G.fr w) (by omega)
      have u1 := rx_up (G := G) hd w (G.to w)
      have u2 := rx_up (G := G) hd w (G.fr w)
      by_cases q : rx G d w (G.to w) + G.tm w < rx G d w (G.fr w)
      · have ev : ∀ v, rx G d (w + 1) v = if v = G.fr w then rx G d w (G.to w) + G.tm w else rx G d w v := fun v => by
          show (if v = G.fr w ∧ rx G d w (G.to w) + G.tm w < rx G d w (G.fr w) then rx G d w (G.to w) + G.tm w else rx G d w v) = _
          by_cases z : v = G.fr w
          · rw [if_pos ⟨z, q⟩, if_pos z]
          · rw [if_neg fun c => z c.1, if_neg z]
        obtain ⟨s1, hs1⟩ : ∃ s1, s1 = sI st 149 (G.fr w) (nI (rx G d w (G.to w) + G.tm w)) := ⟨_, rfl⟩
        have fr1 : Fr [(149, none)] st s1 := by rw [hs1]; exact Fr.ia st 149 _ _
        have e2 : b_X10_slowest_48 fu k34 (F + 1) 139 (nI ch) (nI k) (nI w) st = b_X10_slowest_48 fu k34 F 139 (nI 1) (nI k) (nI (w + 1)) s1 := by
          show b_X10_slowest_48_b fu k34 (b_X10_slowest_48 fu k34 F) 139 (nI ch) (nI k) (nI w) st = _
          simp (disch := first | decide | omega) [↓bd_e, isb, ck_tt, NP, NF, NC, NB, NS, GS, kdC, tpC hT, b_X10_slowest_48_b, b_X10_slowest_107, c1, x1, x2, x4, t1, t2, hs1]
        obtain ⟨ch', u, b1, b2, b3, b4, b5, b6, b7⟩ := ih (w + 1) 1 s1 (by omega) (by omega) (hT.r (by rw [hs1]; rfl)) (hC.fr (fr1.wd (by decide))) (fun v hv => by
          rw [hs1, gI_sI, ev]
          by_cases z : v = G.fr w
          · rw [if_pos ⟨rfl, z⟩, if_pos z]
          · rw [if_neg fun c => z c.2, if_neg z]; exact h9 v hv) (Nat.le_refl _) (fun c => by omega)
        exact ⟨ch', u, b1, b2, b3, b4, b5, (fr1.tr b6).wd (by decide), by rw [e2]; exact b7⟩
      · have ev : ∀ v, rx G d (w + 1) v = rx G d w v := fun v => by
          show (if v = G.fr w ∧ rx G d w (G.to w) + G.tm w < rx G d w (G.fr w) then rx G d w (G.to w) + G.tm w else rx G d w v) = _
          rw [if_neg fun c => q c.2]
        have e2 : b_X10_slowest_48 fu k34 (F + 1) 139 (nI ch) (nI k) (nI w) st = b_X10_slowest_48 fu k34 F 139 (nI ch) (nI k) (nI (w + 1)) st := by
          show b_X10_slowest_48_b fu k34 (b_X10_slowest_48 fu k34 F) 139 (nI ch) (nI k) (nI w) st = _
          simp (disch := first | decide | omega) [↓bd_e, isb, ck_tt, NP, NF, NC, NB, NS, GS, kdC, tpC hT, b_X10_slowest_48_b, b_X10_slowest_107, c1, x1, x2, x4, t1, t2]
        rw [e2]
        exact ih (w + 1) ch st (by omega) (by omega) hT hC (fun v hv => by rw [ev]; exact h9 v hv) hc (fun c v hv => by rw [ev]; exact h0 c v hv)
theorem tn_up {G : NW} {d : Nat → Nat} (h : ∀ v, d v ≤ 1000000) (k v : Nat) : tn G d k v ≤ 1000000 := Nat.le_trans (tn_anti G d v (Nat.zero_le k)) (h v)
theorem slow_t {G : NW} (ok : G.ok) {L : Nat → List Nat} {g : Nat → Nat} {fu : Nat} (hf : 100 ≤ fu) {d : Nat → Nat} (hd : ∀ v, d v ≤ 1000000) : ∀ F k ch (st : St), k ≤ 12 → 12 - k < F → Top st → CD G L g st → (∀ v, v < 12 → gI st 149 v = nI (tn G d k v)) → ch ≤ 1 → (ch = 0 → stable G (tn G d k)) → ∃ k' u, stable G (tn G d k') ∧ (∀ v, v < 12 → gI u 149 v = nI (tn G d k' v)) ∧ Top u ∧ CD G L g u ∧ Fr [(149, none)] st u ∧ b_X10_slowest_34 fu F 139 (nI ch) (nI k) st = b_X10_slowest_119 fu 139 u := by
  intro F
  induction F with
  | zero => intro k ch st _ h; omega
  | succ F ih =>
    intro k ch st h1 h2 hT hC h9 hc h0
    have hn := ok.1
    by_cases e : k = 12
    · refine ⟨12, st, tn_12 ok d, fun v hv => by rw [h9 v hv, e], hT, hC, Fr.rf, ?_⟩
      show b_X10_slowest_34_b fu (b_X10_slowest_34 fu F) 139 (nI ch) (nI k) st = _
      rw [e]
      simp (disch := first | decide | omega) [↓bd_e, isb, ck_tt, NP, NF, NC, NB, NS, GS, kdC, tpC hT, b_X10_slowest_34_b]
    · by_cases z : ch = 0
      · refine ⟨k, st, h0 z, h9, hT, hC, Fr.rf, ?_⟩
        show b_X10_slowest_34_b fu (b_X10_slowest_34 fu F) 139 (nI ch) (nI k) st = _
        rw [z]
        simp (disch := first | decide | omega) [↓bd_e, isb, ck_tt, NP, NF, NC, NB, NS, GS, kdC, tpC hT, b_X10_slowest_34_b]
      · obtain ⟨ch', u, b1, b2, b3, b4, b5, b6, b7⟩ := slow_w ok fu (b_X10_slowest_34 fu F) (d := tn G d k) (tn_up hd k) (k := k) (by omega) fu 0 0 st (Nat.zero_le _) (by omega) hT hC h9 (Nat.zero_le _) (fun _ _ _ => rfl)
        have c1 : ch = 1 := by omega
        have e2 : b_X10_slowest_34 fu (F + 1) 139 (nI ch) (nI k) st = b_X10_slowest_34 fu F 139 (nI ch') (nI (k + 1)) u := by
          rw [← b7]
          show b_X10_slowest_34_b fu (b_X10_slowest_34 fu F) 139 (nI ch) (nI k) st = _
          rw [c1]
          simp (disch := first | decide | omega) [↓bd_e, isb, ck_tt, NP, NF, NC, NB, NS, GS, kdC, tpC hT, b_X10_slowest_34_b]
        obtain ⟨k', u', d1, d2, d3, d4, d5, d6⟩ := ih (k + 1) ch' u (by omega) (by omega) b4 b5 b3 b1 (fun c => by
          have st0 : stable G (tn G d k) := stable_of ok (b2 c)
          intro w hw
          have o := ok.2 w hw
          have e1 : tn G d (k + 1) (G.fr w) = tn G d k (G.fr w) := b2 c _ (by omega)
          have e2 : tn G d (k + 1) (G.to w) = tn G d k (G.to w) := b2 c _ (by omega)
          rw [e1, e2]; exact st0 w hw)
        exact ⟨k', u', d1, d2, d3, d4, (b6.tr d5).wd (by decide), by rw [e2]; exact d6⟩
theorem max_n {st : St} (fu : Nat) {a b : Nat} (ha : a < 2147483648) (hb : b < 2147483648) : f_J9_max_7cf53 fu (nI a) (nI b) st = some (nI (if a < b then b else a), st) := by
  by_cases h : a < b
  · rw [if_pos h]; simp (disch := omega) [f_J9_max_7cf53, b_J9_max_7cf53_10, NF, NC]
  · rw [if_neg h]; simp (disch := omega) [f_J9_max_7cf53, b_J9_max_7cf53_10, NF, NC]
theorem slow_m {fu : Nat} {d c : Nat → Nat} (hd : ∀ v, d v ≤ 1000000) {st : St} (hT : Top st) (h9 : ∀ v, v < 12 → gI st 149 v = nI (d v)) (h4 : ∀ v, v < 11 → gI st 144 v = nI (c v) ∧ c v ≤ 60) : ∀ F v M, v ≤ 11 → 11 - v < F → M ≤ 1000000 → ∃ M', M' ≤ 1000000 ∧ (∀ T, M ≤ T → (∀ w, w < 11 → 0 < c w → d w ≤ T) → M' ≤ T) ∧ b_X10_slowest_123 fu F 139 (nI M) (nI v) st = some (nI M', st) := by
  intro F
  induction F with
  | zero => intro v M _ h; omega
  | succ F ih =>
    intro v M h1 h2 hM
    by_cases e : v = 11
    · refine ⟨M, hM, fun T a _ => a, ?_⟩
      show b_X10_slowest_123_b fu (b_X10_slowest_123 fu F) 139 (nI M) (nI v) st = _
      rw [e]
      simp (disch := first | decide | omega) [↓bd_e, isb, ck_tt, NP, NF, NC, NB, NS, GS, kdC, tpC hT, b_X10_slowest_123_b]
    · have v11 : v < 11 := by omega
      obtain ⟨x1, x2⟩ := h4 v v11
      have x9 := h9 v (by omega)
      have dv := hd v
      rcases Nat.eq_zero_or_pos (c v) with z | z
      · rw [z] at x1
        have e2 : b_X10_slowest_123 fu (F + 1) 139 (nI M) (nI v) st = b_X10_slowest_123 fu F 139 (nI M) (nI (v + 1)) st := by
          show b_X10_slowest_123_b fu (b_X10_slowest_123 fu F) 139 (nI M) (nI v) st = _
          simp (disch := first | decide | omega) [↓bd_e, isb, ck_tt, NP, NF, NC, NB, NS, GS, kdC, tpC hT, b_X10_slowest_123_b, b_X10_slowest_149, x1]
        rw [e2]
        exact ih (v + 1) M (by omega) (by omega) hM
      · have mx := max_n (st := st) fu (a := M) (b := d v) (by omega) (by omega)
        obtain ⟨M1, hM1⟩ : ∃ M1, M1 = (if M < d v then d v else M) := ⟨_, rfl⟩
        rw [← hM1] at mx
        have m1 : M1 ≤ 1000000 ∧ ∀ T, M ≤ T → d v ≤ T → M1 ≤ T := by
          rw [hM1]
          by_cases q : M < d v
          · rw [if_pos q]; exact ⟨dv, fun T _ a => a⟩
          · rw [if_neg q]; exact ⟨hM, fun T a _ => a⟩
        have e2 : b_X10_slowest_123 fu (F + 1) 139 (nI M) (nI v) st = b_X10_slowest_123 fu F 139 (nI M1) (nI (v + 1)) st := by
          show b_X10_slowest_123_b fu (b_X10_slowest_123 fu F) 139 (nI M) (nI v) st = _
          simp (disch := first | decide | omega) [↓bd_e, isb, ck_tt, NP, NF, NC, NB, NS, GS, kdC, tpC hT, b_X10_slowest_123_b, b_X10_slowest_149, x1, x9, ↓caO mx]
        obtain ⟨M', a1, a2, a3⟩ := ih (v + 1) M1 (by omega) (by omega) m1.1
        exact ⟨M', a1, fun T b1 b2 => a2 T (m1.2 T b1 (b2 v v11 z)) b2, by rw [e2]; exact a3⟩
def d00 : Nat → Nat := fun v => if v = 11 then 0 else 1000000
theorem slow_i {G : NW} {L : Nat → List Nat} {g : Nat → Nat} {fu : Nat} : ∀ F v (st : St), v ≤ 11 → 11 - v < F → Top st → CD G L g st → (∀ w, w < v → gI st 149 w = nI 1000000) → ∃ u, (∀ w, w < 12 → gI u 149 w = nI (d00 w)) ∧ Top u ∧ CD G L g u ∧ Fr [(149, none)] st u ∧ b_X10_slowest_2 fu F 139 (nI v) st = b_X10_slowest_34 fu fu 139 (nI 1) (nI 0) u := by
  intro F
  induction F with
  | zero => intro v st _ h; omega
  | succ F ih =>
    intro v st h1 h2 hT hC h9
    by_cases e : v = 11
    · obtain ⟨s1, hs1⟩ : ∃ s1, s1 = sI st 149 11 (nI 0) := ⟨_, rfl⟩
      have fr1 : Fr [(149, none)] st s1 := by rw [hs1]; exact Fr.ia st 149 _ _
      refine ⟨s1, fun w hw => ?_, hT.r (by rw [hs1]; rfl), hC.fr (fr1.wd (by decide)), fr1, ?_⟩
      · rw [hs1, gI_sI]
        unfold d00
        by_cases q : w = 11
        · rw [if_pos ⟨rfl, q⟩, if_pos q]
        · rw [if_neg fun c => q c.2, if_neg q]; exact h9 w (by omega)
      · show b_X10_slowest_2_b fu (b_X10_slowest_2 fu F) 139 (nI v) st = _
        rw [e, hs1]
        simp (disch := first | decide | omega) [↓bd_e, isb, ck_tt, NP, NF, NC, NB, NS, GS, kdC, tpC hT, b_X10_slowest_2_b]
    · obtain ⟨s1, hs1⟩ : ∃ s1, s1 = sI st 149 v (nI 1000000) := ⟨_, rfl⟩
      have fr1 : Fr [(149, none)] st s1 := by rw [hs1]; exact Fr.ia st 149 _ _
      have e2 : b_X10_slowest_2 fu (F + 1) 139 (nI v) st = b_X10_slowest_2 fu F 139 (nI (v + 1)) s1 := by
        show b_X10_slowest_2_b fu (b_X10_slowest_2 fu F) 139 (nI v) st = _
        rw [hs1]
        simp (disch := first | decide | omega) [↓bd_e, isb, ck_tt, NP, NF, NC, NB, NS, GS, kdC, tpC hT, b_X10_slowest_2_b]
      obtain ⟨u, a1, a2, a3, a4, a5⟩ := ih (v + 1) s1 (by omega) (by omega) (hT.r (by rw [hs1]; rfl)) (hC.fr (fr1.wd (by decide))) (fun w hw => by
        rw [hs1, gI_sI]
        by_cases q : w = v
        · rw [if_pos ⟨rfl, q⟩]
        · rw [if_neg fun c => q c.2]; exact h9 w (by omega))
      exact ⟨u, a1, a2, a3, (fr1.tr a4).wd (by decide), by rw [e2]; exact a5⟩
theorem slowest_c {G : NW} (ok : G.ok) {L : Nat → List Nat} {g c : Nat → Nat} {fu : Nat} (hf : 100 ≤ fu) {st : St} (hT : Top st) (hC : CD G L g st) (h4 : ∀ v, v < 11 → gI st 144 v = nI (c v) ∧ c v ≤ 60) : ∃ M u, M ≤ 1000000 ∧ (∀ T, T ≤ 50 → Feas G c T → M ≤ T) ∧ Top u ∧ CD G L g u ∧ Fr [(149, none)] st u ∧ f_X10_slowest fu 139 st = some (nI M, u) := by
  have hd : ∀ v, d00 v ≤ 1000000 := fun v => by
    unfold d00
    by_cases q : v = 11
    · rw [if_pos q]; omega
    · rw [if_neg q]; exact Nat.le_refl _
  obtain ⟨u1, a1, a2, a3, a4, a5⟩ := slow_i (fu := fu) fu 0 st (by omega) (by omega) hT hC (fun w hw => by omega)
  obtain ⟨k', u2, b1, b2, b3, b4, b5, b6⟩ := slow_t ok hf hd fu 0 1 u1 (by omega) (by omega) a2 a3 a1 (Nat.le_refl _) (fun q => by omega)
  have f12 : Fr [(149, none)] st u2 := (a4.tr b5).wd (by decide)
  obtain ⟨M, c1, c2, c3⟩ := slow_m (fu := fu) (c := c) (tn_up (G := G) hd k') b3 b2 (fun v hv => by rw [f12.fi 144 (by decide)]; exact h4 v hv) fu 0 0 (by omega) (by omega) (Nat.zero_le _)
  have z11 : tn G d00 k' 11 = 0 := by
    have := tn_anti G d00 11 (Nat.zero_le k')
    have e : tn G d00 0 11 = 0 := rfl
    omega
  refine ⟨M, u2, c1, fun T hT5 ⟨f, hF⟩ => c2 T (Nat.zero_le _) (far_no ok hT5 hF z11 b1), b3, b4, f12, ?_⟩
  show b_X10_slowest_2 fu fu 139 0 st = _
  rw [show (0 : Int32) = nI 0 from rfl, a5, b6]
  exact c3
