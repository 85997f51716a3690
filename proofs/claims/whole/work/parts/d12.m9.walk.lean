/-! PURE: the class's walk by layers -/
def W_wk : List PL := [(148, none), (149, none), (150, none)]
theorem CD.fr {G : NW} {L : Nat → List Nat} {g : Nat → Nat} {st u : St} (h : CD G L g st) (f : Fr W_wk st u) : CD G L g u := by
  unfold CD at h ⊢
  rw [f.fi 139 (by decide), f.fi 140 (by decide), f.fi 141 (by decide), f.fi 142 (by decide), f.fi 143 (by decide), f.fi 151 (by decide), f.fi 152 (by decide), f.fi 146 (by decide), f.fi 147 (by decide)]
  exact h
theorem CD.s145 {G : NW} {L : Nat → List Nat} {g : Nat → Nat} {st : St} (h : CD G L g st) (k : Nat) (x : Int32) : CD G L g (sI st 145 k x) := by
  have f : Fr [(145, none)] st (sI st 145 k x) := Fr.ia st 145 _ _
  unfold CD at h ⊢
  rw [f.fi 139 (by decide), f.fi 140 (by decide), f.fi 141 (by decide), f.fi 142 (by decide), f.fi 143 (by decide), f.fi 151 (by decide), f.fi 152 (by decide), f.fi 146 (by decide), f.fi 147 (by decide)]
  exact h
/-- where a walk stands -/
def eWT (la : Nat → Option Nat) (tr p : Nat → Nat) (m : Nat) (st : St) : Prop := (∀ s, s < 612 → gI st 148 s = oE (la s)) ∧ (∀ s, s < 612 → gI st 149 s = nI (tr s)) ∧ ∀ i, i ≤ m → gI st 150 i = nI (p i)
theorem walk_l {D : Prop} {G : NW} (ok : G.ok) {L : Nat → List Nat} (hL : LKs G L) {g : Nat → Nat} {fu : Nat} (hf : 100 ≤ fu) {T : Nat} (hT5 : T ≤ 50) {la : Nat → Option Nat} (hb : ∀ u k, u < 612 → la u = some k → k ≤ 611) (hx : ∀ s j x, s < 561 → la s ≠ none → aN G L T g s j = some x → x < 612) : ∀ F (tr p : Nat → Nat) (m n : Nat) (st : St), Top st → CD G L g st → eWT la tr p m st → eWS (aN G L T g) (aA L) la tr p m → (D → eDI (aN G L T g) (aA L) la tr) → eM (aA L) tr m < F → n + eM (aA L) tr m < 1000000 → ∃ tr' u, Fr W_wk st u ∧ CD G L g u ∧ Top u ∧ (D → eDI (aN G L T g) (aA L) la tr') ∧ (∀ s, tr s ≤ tr' s) ∧ ((∃ p' m', p' 0 = p 0 ∧ 561 ≤ p' m' ∧ eWT la tr' p' m' u ∧ eWS (aN G L T g) (aA L) la tr' p' m' ∧ b_X10_walk_12 fu F 139 (nI T) (nI m) (nI n) st = some (nI m', u)) ∨ (eWT la tr' p 0 u ∧ (∀ s, s < 612 → tr' s ≤ aA L s) ∧ p 0 < 561 ∧ aA L (p 0) ≤ tr' (p 0) ∧ b_X10_walk_12 fu F 139 (nI T) (nI m) (nI n) st = some (-nI 1, u))) := by
  intro F
  induction F with
  | zero => intro tr p m n st _ _ _ _ _ h _; omega
  | succ F ih =>
    intro tr p m n st hT hC hW hE hD h1 h2
    obtain ⟨w1, w2, w3⟩ := hW
    obtain ⟨pm, lm⟩ := hE.1 m (Nat.le_refl _)
    have m6 := hb _ _ pm lm
    have q0 := w3 m (Nat.le_refl _)
    rcases Nat.lt_or_ge (p m) 561 with hp | hp
    · have st1 : b_X10_walk_12 fu (F + 1) 139 (nI T) (nI m) (nI n) st = ca (f_X10_nextBy fu 139 (nI (p m)) (nI T) st) (fun r5 s6 => if r5 < 0 then b_X10_walk_76 fu (b_X10_walk_12 fu F) 139 (nI T) (nI m) (nI n) s6 else if 612 ≤ nI m + 1 then b_X10_walk_76 fu (b_X10_walk_12 fu F) 139 (nI T) (nI m) (nI n) s6 else bd (nI m + 1) fun v13 => ck (¬ gR s6 139 10 = 0) <| ck ((kd 139).1 = 10) <| bd (gR s6 139 10) fun o14 => ck ((kd o14).1 = 100 ∧ inb v13 (kd o14).2) <| bd (sI s6 o14 (ix v13) r5) fun s15 => b_X10_walk_100 fu (b_X10_walk_12 fu F) 139 (nI T) v13 (nI n) s15) := by
        show b_X10_walk_12_b fu (b_X10_walk_12 fu F) 139 (nI T) (nI m) (nI n) st = _
        unfold b_X10_walk_12_b
        rw [if_neg (show ¬ (1000000 : Int32) ≤ nI n from fun q => absurd ((nI_leI (a := 1000000) (b := n) (by omega) (by omega)).mp q) (by omega)), tp_139_10 hT, ck_t (by decide), ck_t (by decide), bd_e, show ix (nI m) = m from ix_nI (by omega), q0, bd_e, ck_t ⟨by decide, by simp (disch := first | decide | omega) [NF, NC, NB, kdC]⟩, ck_t (by decide), if_neg (show ¬ nI (p m) / 51 = 11 from by rw [show nI (p m) / 51 = nI (p m / 51) from NF.2.2.2.2 _ 51 ⟨by omega, by omega, by omega⟩]; exact fun q => absurd ((nI_eq (a := p m / 51) (b := 11) (by omega) (by omega)).mp q) (by omega)), ck_t (by decide)]
      rcases nextBy_c ok hL hT hC hf hT5 pm w1 lm hb (fun j x a => hx (p m) j x hp (by rw [lm]; exact fun c => by cases c) a) (w2 _ pm) (hE.2.2 _ pm) with ⟨j, x, a1, a2, a3, a4, a5, a6⟩ | ⟨a5, a6⟩
      · have x6 := hx (p m) j x hp (by rw [lm]; exact fun c => by cases c) a3
        have m7 := hb _ _ x6 a4
        obtain ⟨n1, n2⟩ := hE.next hD hp a1 a2 a3 a4 x6 a5
        have n3 := eM_next (A := aA L) (tr := tr) (s := p m) (j := j) (m := m) a1 (by omega)
        obtain ⟨u1, hu1⟩ : ∃ u1, u1 = sI (sI st 149 (p m) (nI j)) 150 (m + 1) (nI x) := ⟨_, rfl⟩
        have fr1 : Fr W_wk st u1 := by rw [hu1]; exact ((Fr.ia st 149 _ _).tr (Fr.ia _ 150 _ _)).wd (by decide)
        have hT1 : Top u1 := hT.r (by rw [hu1]; rfl)
        have W1 : eWT la (updN tr (p m) j) (updN p (m + 1) x) (m + 1) u1 := by
          refine ⟨fun s hs => ?_, fun s hs => ?_, fun i hi => ?_⟩
          · rw [hu1, gI_sI_n _ _ _ (by decide), gI_sI_n _ _ _ (by decide)]; exact w1 s hs
          · rw [hu1, gI_sI_n _ _ _ (by decide), gI_sI]
            by_cases e : s = p m
            · rw [if_pos ⟨rfl, e⟩, e, updN_s]
            · rw [if_neg fun q => e q.2, updN_n _ _ e]; exact w2 s hs
          · rw [hu1, gI_sI]
            by_cases e : i = m + 1
            · rw [if_pos ⟨rfl, e⟩, e, updN_s]
            · rw [if_neg fun q => e q.2, updN_n _ _ e, gI_sI_n _ _ _ (by decide)]; exact w3 i (by omega)
        have st2 : b_X10_walk_12 fu (F + 1) 139 (nI T) (nI m) (nI n) st = b_X10_walk_12 fu F 139 (nI T) (nI (m + 1)) (nI (n + 1)) u1 := by
          rw [st1, caO a6]
          simp (disch := first | decide | omega) [↓bd_e, isb, ck_tt, NP, NF, NC, NB, NS, GS, kdC, tpC hT, b_X10_walk_100, hu1]
        rw [st2]
        have mo : ∀ s, tr s ≤ updN tr (p m) j s := fun s => by
          by_cases e : s = p m
          · rw [e, updN_s]; exact a1
          · rw [updN_n _ _ e]; exact Nat.le_refl _
        obtain ⟨tr', u, b1, b2, b3, b4, bm, b5⟩ := ih (updN tr (p m) j) (updN p (m + 1) x) (m + 1) (n + 1) u1 hT1 (hC.fr fr1) W1 n1 n2 (by omega) (by omega)
        rw [updN_n p _ (show 0 ≠ m + 1 by omega)] at b5
        refine ⟨tr', u, (fr1.tr b1).wd (by decide), b2, b3, b4, fun s => Nat.le_trans (mo s) (bm s), ?_⟩
        rcases b5 with q | ⟨q1, q2⟩
        · exact Or.inl q
        · refine Or.inr ⟨⟨q1.1, q1.2.1, fun i hi => ?_⟩, q2⟩
          have := q1.2.2 i hi
          rw [updN_n p _ (show i ≠ m + 1 by omega)] at this
          exact this
      · obtain ⟨n1, n2⟩ := hE.dead hD a5
        obtain ⟨u0, hu0⟩ : ∃ u0, u0 = sI st 149 (p m) (nI (aA L (p m))) := ⟨_, rfl⟩
        have fr0 : Fr W_wk st u0 := by rw [hu0]; exact (Fr.ia st 149 _ _).wd (by decide)
        have hT0 : Top u0 := hT.r (by rw [hu0]; rfl)
        have W0 : eWT la (updN tr (p m) (aA L (p m))) p m u0 := by
          refine ⟨fun s hs => ?_, fun s hs => ?_, fun i hi => ?_⟩
          · rw [hu0, gI_sI_n _ _ _ (by decide)]; exact w1 s hs
          · rw [hu0, gI_sI]
            by_cases e : s = p m
            · rw [if_pos ⟨rfl, e⟩, e, updN_s]
            · rw [if_neg fun q => e q.2, updN_n _ _ e]; exact w2 s hs
          · rw [hu0, gI_sI_n _ _ _ (by decide)]; exact w3 i hi
        rw [← hu0] at a6
        have mo : ∀ s, tr s ≤ updN tr (p m) (aA L (p m)) s := fun s => by
          by_cases e : s = p m
          · rw [e, updN_s]; exact hE.2.2 _ pm
          · rw [updN_n _ _ e]; exact Nat.le_refl _
        cases m with
        | zero =>
          refine ⟨_, u0, fr0, hC.fr fr0, hT0, n2, mo, Or.inr ⟨W0, n1.2.2, hp, by rw [updN_s]; exact Nat.le_refl _, ?_⟩⟩
          rw [st1, caO a6]
          simp (disch := first | decide | omega) [↓bd_e, isb, ck_tt, NP, NF, NC, NB, NS, GS, kdC, tpC hT, b_X10_walk_76]
        | succ m =>
          have pk := hE.2.1 m (by omega)
          have ne := hE.ne (i := m + 1) (j := m) (by omega) (by omega) (by omega)
          obtain ⟨k1, k2⟩ := n1.back n2 hp (by rw [updN_s]; exact Nat.le_refl _)
          rw [updN_n tr _ (Ne.symm ne)] at k1 k2
          have n3 := eM_back (A := aA L) (tr := tr) (s := p m) (u := p (m + 1)) (m := m) (by omega) pk.2.1 ne (hE.2.2 _ pm)
          obtain ⟨u1, hu1⟩ : ∃ u1, u1 = sI u0 149 (p m) (nI (tr (p m) + 1)) := ⟨_, rfl⟩
          have fr1 : Fr W_wk u0 u1 := by rw [hu1]; exact (Fr.ia u0 149 _ _).wd (by decide)
          have hT1 : Top u1 := hT0.r (by rw [hu1]; rfl)
          have g1 : gI u0 149 (p m) = nI (tr (p m)) := by rw [W0.2.1 _ (by omega), updN_n tr _ (Ne.symm ne)]
          have g2 : gI u0 150 m = nI (p m) := W0.2.2 m (by omega)
          have a22 : aA L (p m) ≤ 22 := by unfold aA; have := (hL (p m / 51) (by omega)).1; omega
          have W1 : eWT la (updN (updN tr (p (m + 1)) (aA L (p (m + 1)))) (p m) (tr (p m) + 1)) p m u1 := by
            refine ⟨fun s hs => ?_, fun s hs => ?_, fun i hi => ?_⟩
            · rw [hu1, gI_sI_n _ _ _ (by decide)]; exact W0.1 s hs
            · rw [hu1, gI_sI]
              by_cases e : s = p m
              · rw [if_pos ⟨rfl, e⟩, e, updN_s]
              · rw [if_neg fun q => e q.2, updN_n _ _ e]; exact W0.2.1 s hs
            · rw [hu1, gI_sI_n _ _ _ (by decide)]; exact W0.2.2 i (by omega)
          have st2 : b_X10_walk_12 fu (F + 1) 139 (nI T) (nI (m + 1)) (nI n) st = b_X10_walk_12 fu F 139 (nI T) (nI m) (nI (n + 1)) u1 := by
            rw [st1, caO a6]
            have p6 : p m < 612 := by omega
            have hT := hT0
            rw [if_pos (show -nI 1 < (0 : Int32) by decide)]
            unfold b_X10_walk_76
            rw [if_neg (show ¬ nI (m + 1) = 0 from fun q => absurd ((nI_eq (a := m + 1) (b := 0) (by omega) (by omega)).mp q) (by omega)), show nI (m + 1) + -1 = nI m from (Int32.sub_eq_add_neg (nI (m + 1)) (nI 1)).symm.trans (NF.2.2.1 (m + 1) 1 (by omega))]
            simp (disch := first | decide | omega) [↓bd_e, isb, ck_tt, NP, NF, NC, NB, NS, GS, kdC, tpC hT, g1, g2, b_X10_walk_100, hu1]
          rw [st2]
          have mo2 : ∀ s, tr s ≤ updN (updN tr (p (m + 1)) (aA L (p (m + 1)))) (p m) (tr (p m) + 1) s := fun s => by
            by_cases e : s = p m
            · rw [e, updN_s]; omega
            · rw [updN_n _ _ e]; exact mo s
          obtain ⟨tr', u, b1, b2, b3, b4, bm, b5⟩ := ih _ p m (n + 1) u1 hT1 ((hC.fr fr0).fr fr1) W1 k1 k2 (by omega) (by omega)
          exact ⟨tr', u, ((fr0.tr fr1).tr b1).wd (by decide), b2, b3, b4, fun s => Nat.le_trans (mo2 s) (bm s), b5⟩
    · refine ⟨tr, st, Fr.rf, hC, hT, hD, fun s => Nat.le_refl _, Or.inl ⟨p, m, rfl, hp, ⟨w1, w2, w3⟩, hE, ?_⟩⟩
      have e11 : p m / 51 = 11 := by omega
      show b_X10_walk_12_b fu (b_X10_walk_12 fu F) 139 (nI T) (nI m) (nI n) st = _
      simp (disch := first | decide | omega) [↓bd_e, isb, ck_tt, NP, NF, NC, NB, NS, GS, kdC, tpC hT, b_X10_walk_12_b, q0, e11]
/-- a walk from those who are left at v -/
theorem walk_c {D : Prop} {G : NW} (ok : G.ok) {L : Nat → List Nat} (hL : LKs G L) (hS : sn 612 (aA L) ≤ 3264) {g : Nat → Nat} {fu : Nat} (hf : 9000 ≤ fu) {T : Nat} (hT5 : T ≤ 50) {la : Nat → Option Nat} (hb : ∀ u k, u < 612 → la u = some k → k ≤ 611) (hx : ∀ s j x, s < 561 → la s ≠ none → aN G L T g s j = some x → x < 612) {tr : Nat → Nat} {v : Nat} (hv : v < 11) {st : St} (hT : Top st) (hC : CD G L g st) (h8 : ∀ s, s < 612 → gI st 148 s = oE (la s)) (h9 : ∀ s, s < 612 → gI st 149 s = nI (tr s)) (hr : ∀ s, s < 612 → tr s ≤ aA L s) (h0 : la (51 * v) = some 0) (hD : D → eDI (aN G L T g) (aA L) la tr) : ∃ tr' u, Fr W_wk st u ∧ CD G L g u ∧ Top u ∧ (D → eDI (aN G L T g) (aA L) la tr') ∧ (∀ s, tr s ≤ tr' s) ∧ ((∃ p' m', p' 0 = 51 * v ∧ 561 ≤ p' m' ∧ eWT la tr' p' m' u ∧ eWS (aN G L T g) (aA L) la tr' p' m' ∧ f_X10_walk fu 139 (nI (51 * v)) (nI T) st = some (nI m', u)) ∨ ((∀ s, s < 612 → gI u 148 s = oE (la s)) ∧ (∀ s, s < 612 → gI u 149 s = nI (tr' s)) ∧ (∀ s, s < 612 → tr' s ≤ aA L s) ∧ aA L (51 * v) ≤ tr' (51 * v) ∧ f_X10_walk fu 139 (nI (51 * v)) (nI T) st = some (-nI 1, u))) := by
  obtain ⟨u0, hu0⟩ : ∃ u0, u0 = sI st 150 0 (nI (51 * v)) := ⟨_, rfl⟩
  have fr0 : Fr W_wk st u0 := by rw [hu0]; exact (Fr.ia st 150 _ _).wd (by decide)
  have hT0 : Top u0 := hT.r (by rw [hu0]; rfl)
  have W0 : eWT la tr (fun _ => 51 * v) 0 u0 := by
    refine ⟨fun s hs => ?_, fun s hs => ?_, fun i hi => ?_⟩
    · rw [hu0, gI_sI_n _ _ _ (by decide)]; exact h8 s hs
    · rw [hu0, gI_sI_n _ _ _ (by decide)]; exact h9 s hs
    · rw [hu0, gI_sI, if_pos ⟨rfl, by omega⟩]
  have E0 : eWS (aN G L T g) (aA L) la tr (fun _ => 51 * v) 0 := ⟨fun i hi => ⟨show 51 * v < 612 by omega, by rw [show i = 0 by omega]; exact h0⟩, fun i hi => absurd hi (Nat.not_lt_zero _), hr⟩
  have e : f_X10_walk fu 139 (nI (51 * v)) (nI T) st = b_X10_walk_12 fu fu 139 (nI T) (nI 0) (nI 0) u0 := by
    simp (disch := first | decide | omega) [↓bd_e, isb, ck_tt, NP, NF, NC, NB, NS, GS, kdC, tpC hT, f_X10_walk, hu0]
  have m0 : eM (aA L) tr 0 ≤ 7140 := by
    have := sn_le (n := 612) (f := fun s => aA L s - tr s) (g := aA L) fun i _ => Nat.sub_le _ _
    unfold eM
    omega
  obtain ⟨tr', u, b1, b2, b3, b4, bm, b5⟩ := walk_l (fu := fu) ok hL (by omega) hT5 hb hx fu tr (fun _ => 51 * v) 0 0 u0 hT0 (hC.fr fr0) W0 E0 hD (by omega) (by omega)
  refine ⟨tr', u, (fr0.tr b1).wd (by decide), b2, b3, b4, bm, ?_⟩
  rw [e]
  rcases b5 with q | ⟨q1, q2, q3, q4, q5⟩
  · exact Or.inl q
  · exact Or.inr ⟨q1.1, q1.2.1, q2, q4, q5⟩
