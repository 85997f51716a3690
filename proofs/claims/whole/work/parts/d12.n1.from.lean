/-! PURE: the class sends from one node -/
def CI (G : NW) (L : Nat → List Nat) (T : Nat) (c l g : Nat → Nat) (st : St) : Prop := Top st ∧ CD G L g st ∧ (∀ v, v < 11 → gI st 145 v = nI (l v)) ∧ FI G T c l (iN g) ∧ (∀ v, v < 11 → l v ≤ c v ∧ c v ≤ 60) ∧ ∀ a, g a + sn 11 l ≤ sn 11 c
theorem sn_60 {c : Nat → Nat} (h : ∀ v, v < 11 → c v ≤ 60) : sn 11 c ≤ 660 := sn_le (n := 11) (f := c) (g := fun _ => 60) h
theorem sn_dn {n v x : Nat} {l : Nat → Nat} (hv : v < n) (hx : x ≤ l v) : sn n (fun u => if u = v then l u - x else l u) + x = sn n l := by
  induction n with
  | zero => omega
  | succ n ih =>
    show sn n (fun u => if u = v then l u - x else l u) + (if n = v then l n - x else l n) + x = sn n l + l n
    by_cases e : n = v
    · subst e
      rw [if_pos rfl]
      have : sn n (fun u => if u = n then l u - x else l u) = sn n l := by
        have a1 := sn_le (n := n) (f := fun u => if u = n then l u - x else l u) (g := l) fun i hi => by
          show (if i = n then l i - x else l i) ≤ l i
          rw [if_neg (by omega)]; exact Nat.le_refl _
        have a2 := sn_le (n := n) (f := l) (g := fun u => if u = n then l u - x else l u) fun i hi => by
          show l i ≤ (if i = n then l i - x else l i)
          rw [if_neg (by omega)]; exact Nat.le_refl _
        omega
      omega
    · rw [if_neg e]
      have := ih (by omega)
      omega
def W_sd : List PL := [(145, none), (146, none), (147, none), (148, none), (149, none), (150, none)]
theorem walkFr {st u : St} (h : Fr W_wk st u) : gI u 145 = gI st 145 := h.fi 145 (by decide)
set_option maxRecDepth 100000 in
theorem from_l {G : NW} (ok : G.ok) {L : Nat → List Nat} (hL : LKs G L) (hS : sn 612 (aA L) ≤ 3264) {fu : Nat} (hf : 9000 ≤ fu) {T : Nat} (hT5 : T ≤ 50) {c : Nat → Nat} {la : Nat → Option Nat} (hb : ∀ u k, u < 612 → la u = some k → k ≤ 611) (ht : ∀ s, s < 612 → la s ≠ none → s % 51 ≤ T) {v : Nat} (hv : v < 11) (h0 : la (51 * v) = some 0) : ∀ F (D : Prop) (l g tr : Nat → Nat) (S n : Nat) (st : St), l v < F → n + l v ≤ 60 → S + l v ≤ 1000 → CI G L T c l g st → (∀ s, s < 612 → gI st 148 s = oE (la s)) → (∀ s, s < 612 → gI st 149 s = nI (tr s)) → (∀ s, s < 612 → tr s ≤ aA L s) → (D → eDI (aN G L T g) (aA L) la tr) → ∃ l' g' tr' u, CI G L T c l' g' u ∧ (∀ s, s < 612 → gI u 148 s = oE (la s)) ∧ (∀ s, s < 612 → gI u 149 s = nI (tr' s)) ∧ (∀ s, s < 612 → tr' s ≤ aA L s) ∧ Fr W_sd st u ∧ (∀ s, tr s ≤ tr' s) ∧ (∀ w, w ≠ v → l' w = l w) ∧ l' v ≤ l v ∧ (l' v = l v → g' = g ∧ l' = l ∧ (D → eDI (aN G L T g) (aA L) la tr') ∧ (0 < l v → aA L (51 * v) ≤ tr' (51 * v))) ∧ b_X10_sendFrom_5 fu F 139 (nI v) (nI T) (nI S) (nI n) st = some (nI (S + (l v - l' v)), u) := by
  intro F
  induction F with
  | zero => intro D l g tr S n st h; omega
  | succ F ih =>
    intro D l g tr S n st h1 h2 h3 hI h8 h9 hr hD
    obtain ⟨hT, hC, hl, hF, hc, hg⟩ := hI
    have l5 := hl v hv
    rcases Nat.eq_zero_or_pos (l v) with z | z
    · refine ⟨l, g, tr, st, ⟨hT, hC, hl, hF, hc, hg⟩, h8, h9, hr, Fr.rf, fun _ => Nat.le_refl _, fun _ _ => rfl, Nat.le_refl _, fun _ => ⟨rfl, rfl, hD, fun q => by omega⟩, ?_⟩
      show b_X10_sendFrom_5_b fu (b_X10_sendFrom_5 fu F) 139 (nI v) (nI T) (nI S) (nI n) st = _
      rw [z] at l5
      by_cases q : 60 ≤ n
      · simp (disch := first | decide | omega) [↓bd_e, isb, ck_tt, NP, NF, NC, NB, NS, GS, kdC, tpC hT, b_X10_sendFrom_5_b, b_X10_sendFrom_117, l5]
      · simp (disch := first | decide | omega) [↓bd_e, isb, ck_tt, NP, NF, NC, NB, NS, GS, kdC, tpC hT, b_X10_sendFrom_5_b, b_X10_sendFrom_117, l5]
    · have hz : ∀ a, a < 1632 → ¬ kV G T a → g a = 0 := fun a ha hk => by
        have : ((g a : Nat) : Int) = 0 := hF.2.2.1 a ha hk
        omega
      have hx : ∀ s j x, s < 561 → la s ≠ none → aN G L T g s j = some x → x < 612 := fun s j x a1 a2 a3 => (aN_key ok hL hT5 hz (by omega) (ht s (by omega) a2) a3).1.2.1
      have st1 : ∀ r u, f_X10_walk fu 139 (nI (51 * v)) (nI T) st = some (r, u) → b_X10_sendFrom_5 fu (F + 1) 139 (nI v) (nI T) (nI S) (nI n) st = (if 0 ≤ r then (ck (¬ gR u 139 5 = 0) <| ck ((kd 139).1 = 10) <| bd (gR u 139 5) fun o4 => ck ((kd o4).1 = 100 ∧ inb (nI v) (kd o4).2) <| ck ((kd 139).1 = 10) <| ca (f_X10_narrowest fu 139 r (gI u o4 (ix (nI v))) u) fun r5 s6 => b_X10_sendFrom_57 fu (b_X10_sendFrom_5 fu F) fu 139 (nI v) (nI T) (nI S) (nI n) r r5 0 s6) else b_X10_sendFrom_117 fu (nI S) u) := fun r u e => by
        show b_X10_sendFrom_5_b fu (b_X10_sendFrom_5 fu F) 139 (nI v) (nI T) (nI S) (nI n) st = _
        unfold b_X10_sendFrom_5_b
        rw [if_neg (show ¬ (60 : Int32) ≤ nI n from fun q => absurd ((nI_leI (a := 60) (b := n) (by omega) (by omega)).mp q) (by omega)), tp_139_5 hT, ck_t (by decide), ck_t (by decide), bd_e, ck_t ⟨by decide, by simp (disch := first | decide | omega) [NF, NC, NB, kdC]⟩, show ix (nI v) = v from ix_nI (by omega), l5, if_neg (show ¬ nI (l v) ≤ 0 from fun q => absurd ((nI_leI (a := l v) (b := 0) (by omega) (by omega)).mp q) (by omega)), ck_t (by decide), show nI v * 51 = nI (51 * v) from (NF.2.2.2.1 v 51).trans (by rw [Nat.mul_comm]), caO e]
      obtain ⟨tr', u, w1, w2, w3, w4, wm, w5⟩ := walk_c (D := D) ok hL hS hf hT5 hb hx hv hT hC h8 h9 hr h0 hD
      have u5 := walkFr w1
      rcases w5 with ⟨p, m, p0, pm, W, E, e⟩ | ⟨x8, x9, xr, xd, e⟩
      · have lm := (E.1 m (Nat.le_refl _))
        have m6 := hb _ _ lm.1 lm.2
        obtain ⟨x, n1, n2, n3, n4⟩ := narrow_l ok hL w3 w2 fu m6 W E fu 0 (l v) (Nat.zero_le _) (by omega) (by have := hc v hv; omega)
        have n3 := n3 z
        have c6 := hc v hv
        have P := path_of ok hL hT5 hz E ht fun k hk => n2 k (Nat.zero_le _) hk
        have sx := sn_dn (n := 11) (l := l) hv n1
        have s6 := sn_60 fun v hv => (hc v hv).2
        obtain ⟨u2, b1, b2, b3, b4, b5⟩ := pushes_l ok hL fu hT5 hv m6 (show x ≤ 60 by omega) (fun a => by have := hg a; omega) E P (b_X10_sendFrom_5 fu F) (nI S) (nI n) fu 0 u (Nat.zero_le _) (by omega) w3 w2 W
        have g5 : gI u2 145 = gI st 145 := (b1.fi 145 (by decide)).trans u5
        obtain ⟨u3, hu3⟩ : ∃ u3, u3 = sI u2 145 v (nI (l v - x)) := ⟨_, rfl⟩
        have e3 : b_X10_sendFrom_5 fu (F + 1) 139 (nI v) (nI T) (nI S) (nI n) st = b_X10_sendFrom_5 fu F 139 (nI v) (nI T) (nI (S + x)) (nI (n + 1)) u3 := by
          rw [st1 _ _ e, if_pos (show (0 : Int32) ≤ nI m from (nI_leI (a := 0) (b := m) (by omega) (by omega)).mpr (Nat.zero_le _)), tp_139_5 w3, ck_t (by decide), ck_t (by decide), bd_e, ck_t ⟨by decide, by simp (disch := first | decide | omega) [NF, NC, NB, kdC]⟩, show ix (nI v) = v from ix_nI (by omega), u5, l5, ck_t (by decide), caO (show f_X10_narrowest fu 139 (nI m) (nI (l v)) u = some (nI x, u) from n4)]
          refine b5.trans ?_
          rw [g5, l5, NF.2.2.1 _ _ n1, nI_add, show nI n + 1 = nI (n + 1) from nI_add n 1, ← hu3]
        have hI3 : CI G L T c (fun w => if w = v then l w - x else l w) (pu (fun i => aK G L (p i) (tr' (p i))) (fun i => aF L (p i) (tr' (p i))) x g m) u3 := by
          refine ⟨b2.r (by rw [hu3]; rfl), by rw [hu3]; exact b3.s145 _ _, fun w hw => ?_, pu_FI hF P hv p0 pm n1, fun w hw => ?_, fun a => ?_⟩
          · show gI u3 145 w = nI (if w = v then l w - x else l w)
            rw [hu3, gI_sI]
            by_cases q : w = v
            · rw [if_pos ⟨rfl, q⟩, if_pos q, q]
            · rw [if_neg fun y => q y.2, if_neg q, g5]; exact hl w hw
          · have := hc w hw
            show (if w = v then l w - x else l w) ≤ c w ∧ c w ≤ 60
            by_cases q : w = v
            · rw [if_pos q]; omega
            · rw [if_neg q]; exact this
          · have := pu_up P a
            have := hg a
            omega
        have f3 : ∀ o, o ≠ 145 → gI u3 o = gI u2 o := fun o ho => by rw [hu3, gI_sI_n _ _ _ ho]
        obtain ⟨l', g', tr2, u4, k1, k2, k3, k4, kf, km, k5, k6, k7, k8⟩ := ih False (fun w => if w = v then l w - x else l w) _ tr' (S + x) (n + 1) u3 (by show (if v = v then l v - x else l v) < F; rw [if_pos rfl]; omega) (by show n + 1 + (if v = v then l v - x else l v) ≤ 60; rw [if_pos rfl]; omega) (by show S + x + (if v = v then l v - x else l v) ≤ 1000; rw [if_pos rfl]; omega) hI3 (fun s hs => by rw [f3 148 (by decide)]; exact b4.1 s hs) (fun s hs => by rw [f3 149 (by decide)]; exact b4.2.1 s hs) E.2.2 (fun q => q.elim)
        have k6 : l' v ≤ (if v = v then l v - x else l v) := k6
        rw [if_pos rfl] at k6
        have f4 : Fr [(145, none)] u2 u3 := by rw [hu3]; exact Fr.ia u2 145 _ _
        refine ⟨l', g', tr2, u4, k1, k2, k3, k4, (((w1.tr b1).tr f4).tr kf).wd (by decide), fun s => Nat.le_trans (wm s) (km s), fun w hw => ?_, by omega, fun q => by omega, ?_⟩
        · have := k5 w hw
          rw [this]
          show (if w = v then l w - x else l w) = l w
          rw [if_neg hw]
        · rw [e3, k8]
          show some (nI (S + x + ((if v = v then l v - x else l v) - l' v)), u4) = _
          rw [if_pos rfl, show S + x + (l v - x - l' v) = S + (l v - l' v) by omega]
      · refine ⟨l, g, tr', u, ⟨w3, w2, fun w hw => by rw [u5]; exact hl w hw, hF, hc, hg⟩, x8, x9, xr, w1.wd (by decide), wm, fun _ _ => rfl, Nat.le_refl _, fun _ => ⟨rfl, rfl, w4, fun _ => xd⟩, ?_⟩
        rw [st1 _ _ e, if_neg (show ¬ (0 : Int32) ≤ -nI 1 by decide), show S + (l v - l v) = S by omega]
        rfl
