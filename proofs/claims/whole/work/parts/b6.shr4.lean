/-! PURE: shares: the text, in the reference: the parties, the call -/
def WZ : List PL := [(153, some 5), (153, some 6), (153, some 7), (153, some 8), (246, none), (247, none), (248, none), (249, none)]
theorem WZ_t {a b c : St} (h1 : Fr WZ a b) (h2 : Fr WZ b c) : Fr WZ a c := (h1.tr h2).wd (by decide)
theorem WZ_p {a b : St} (h : Fr WPs a b) : Fr WZ a b := h.wd (by decide)
theorem WZ_5 {a b : St} (h : Fr W5 a b) : Fr WZ a b := h.wd (by decide)
theorem WZ_9 (a : St) (k : Nat) (v : Int32) : Fr WZ a (sI a 249 k v) := (Fr.ia a 249 k v).wd (by decide)
set_option maxRecDepth 100000 in
theorem rf_9 (a : St) (k : Nat) (v : Int32) : Same S_rf a (sI a 249 k v) := (Fr.ia a 249 k v).same (by decide)
set_option maxRecDepth 100000 in
theorem WZ_top {a b : St} (hT : Top a) (h : Fr WZ a b) : Top b := hT.fr (h.same (by decide))
def SrN (S : Nat → Bool) (st : St) : Prop := ∀ p, p < 3 → gI st 249 p = nI (S p).toNat
theorem SrN.p {S : Nat → Bool} {a b : St} (h : SrN S a) (fr : Fr WPs a b) : SrN S b := fun p hp => by rw [fr.fi 249 (by decide)]; exact h p hp
theorem SrN.w5 {S : Nat → Bool} {a b : St} (h : SrN S a) (fr : Fr W5 a b) : SrN S b := fun p hp => by rw [fr.fi 249 (by decide)]; exact h p hp
theorem SrA.n9 {A : Nat → Nat} {a : St} (h : SrA A a) (k : Nat) (v : Int32) : SrA A (sI a 249 k v) := h
/-- the end: the answer of a text with a fault -/
theorem s239_d {s : St} (hT : Top s) {b : BY} {n T f p t s' : Nat} (h : RfD b n T f p t s' s) (fu : Nat) (m : Int32) : b_X12_shares_239 fu 153 m s = some (-10 - nI p, s) := by
  have g6 := h.1.2.2.2.1
  have g7 := h.1.2.2.2.2.2.1
  have f1 := h.2.1
  have f3 := h.1.2.2.2.2.1
  have m10 : (-10 : Int32) = -nI 10 := rfl
  clear h
  simp (disch := first | decide | omega) [isb, ck_tt, NP, NF, NC, NB, NS, GS, kdR, tpR hT, b_X12_shares_239, g6, g7, m10]
/-- dead: the rest of the text -/
theorem s61_d {b : BY} {n T f p : Nat} {fu : Nat} (hf : 5100 ≤ fu) : ∀ (F t s : Nat) (m : Nat) (st : St), Top st → RfD b n T f p t s st → T - t + 2 < F → ∃ u, b_X12_shares_61 fu F 153 (nI m) st = some (-10 - nI p, u) ∧ Fr WZ st u ∧ Top u ∧ gI u 153 6 = nI f := by
  intro F
  induction F with
  | zero => intro t s m st _ _ h; omega
  | succ F ih =>
    intro t s m st hT h hF
    show ∃ u, b_X12_shares_61_b fu (b_X12_shares_61 fu F) 153 (nI m) st = some (-10 - nI p, u) ∧ _
    obtain ⟨g1, g2, g3⟩ := place_r h.1
    have g8 := h.1.2.2.2.2.2.2.2.1
    have g6 := h.1.2.2.2.1
    have s1 := h.1.2.2.2.2.2.2.2.2
    have tT := h.1.2.2.1
    have Tn := h.1.1.2.2.2.2.1
    have hn := h.1.1.2.2.2.2.2
    have so155 := (h.1.1.sot tT).1
    have sb := so_b b n t
    have pb := pl_b b n t
    have e239 := s239_d hT h fu (nI m)
    by_cases e1 : s = 1
    · subst e1
      refine ⟨st, ?_, Fr.rf, hT, g6⟩
      rw [← e239]
      clear h ih e239
      simp (disch := first | decide | omega) [isb, ck_tt, NP, NF, NC, NB, NS, GS, kdR, tpR hT, b_X12_shares_61_b, g8]
    · have e0 : s = 0 := by omega
      subst e0
      by_cases s0 : so b n t = 0
      · refine ⟨st, ?_, Fr.rf, hT, g6⟩
        rw [← e239]
        rw [s0] at so155
        clear h ih e239
        simp (disch := first | decide | omega) [isb, ck_tt, NP, NF, NC, NB, NS, GS, kdR, tpR hT, b_X12_shares_61_b, g8, g3, so155]
      · have plt : p < pl b n t := by have := h.2.2; omega
        obtain ⟨a, v, v1, a1, a2⟩ := num_d hT h fu (lo := 0) (hi := 2) (by omega) (by omega)
        -- from here to the next party: x4 = pp
        have go : ∀ (c : St) (tc sc pp m' : Nat), Fr WZ st c → Top c → RfD b n T f p tc sc c → pp ≤ 2 → t ≤ tc → (sc = 0 → t + 1 ≤ tc) → b_X12_shares_61_b fu (b_X12_shares_61 fu F) 153 (nI m) st = b_X12_shares_154 fu (b_X12_shares_61 fu F) 153 (nI m') (nI pp) c → ∃ u, b_X12_shares_61_b fu (b_X12_shares_61 fu F) 153 (nI m) st = some (-10 - nI p, u) ∧ Fr WZ st u ∧ Top u ∧ gI u 153 6 = nI f := fun c tc sc pp m' frc hTc hDc hpp tle tle2 e => by
          obtain ⟨d, d1, d2⟩ := needS_d hTc hDc fu (c := 58) (by omega) (by omega)
          obtain ⟨td, sd, frd, hTd, hDd, tle3, sd1⟩ : ∃ td sd, Fr W5 c d ∧ Top d ∧ RfD b n T f p td sd d ∧ tc ≤ td ∧ (sd = 0 → sc = 0) := by
            rcases d2 with ⟨z, y2, y3, y4⟩ | ⟨y2, y3, y4⟩
            · exact ⟨_, _, y2, y3, y4, by omega, fun _ => z⟩
            · exact ⟨_, _, y2, y3, y4, by omega, fun z => by omega⟩
          obtain ⟨w, tw, sw, w1, w2, w3, w4, w5, w6⟩ := s166_d (b := b) (n := n) (T := T) (f := f) (p := p) (fu := fu) (by omega) (b_X12_shares_61 fu F) (nI m') hpp fu 0 td sd (nI 1) d hTd hDd (by omega) (by omega) (by omega)
          have sw1 := w4.1.2.2.2.2.2.2.2.2
          have twT := w4.1.2.2.1
          have frw : Fr WZ st w := WZ_t frc (WZ_t (WZ_5 frd) (WZ_p w2))
          have e2 : b_X12_shares_154 fu (b_X12_shares_61 fu F) 153 (nI m') (nI pp) c = b_X12_shares_61 fu F 153 (nI m') w := by
            rw [← w1]
            clear h ih e239 hDc hDd w4 w1
            simp (disch := first | decide | omega) [isb, ck_tt, NP, NF, NC, NB, NS, GS, kdR, tpR hT, b_X12_shares_154, d1]
          rw [e, e2]
          by_cases z : sw = 0
          · have sd0 : sd = 0 := by
              apply Classical.byContradiction
              intro q
              have := w6 (by have := hDd.1.2.2.2.2.2.2.2.2; omega)
              omega
            have := tle2 (sd1 sd0)
            obtain ⟨u, u1, u2, u3, u4⟩ := ih tw sw m' w w3 w4 (by omega)
            exact ⟨u, u1, WZ_t frw u2, u3, u4⟩
          · have z1 : sw = 1 := by omega
            subst z1
            obtain ⟨G, rfl⟩ : ∃ G, F = G + 1 := ⟨F - 1, by omega⟩
            have c8 := w4.1.2.2.2.2.2.2.2.1
            refine ⟨w, ?_, frw, w3, w4.1.2.2.2.1⟩
            rw [← s239_d w3 w4 fu (nI m')]
            show b_X12_shares_61_b fu (b_X12_shares_61 fu G) 153 (nI m') w = _
            clear h ih e239 hDc hDd w4 w1 e2 e
            simp (disch := first | decide | omega) [isb, ck_tt, NP, NF, NC, NB, NS, GS, kdR, tpR hT, b_X12_shares_61_b, c8]
        rcases a2 with ⟨-, x1, x2, x3⟩ | ⟨x1, x2, x3⟩
        · -- a number: not stopped
          have c8 := x3.1.2.2.2.2.2.2.2.1
          by_cases v2 : v ≤ 2
          · have tn := tell_n x2 x3 fu (k := 3) (q := pl b n t) (by omega) (by omega) pb.2 plt
            have f9 := WZ_9 a v (nI 1)
            refine go (sI a 249 v (nI 1)) (t + 1) 0 v (m + 1) (WZ_t (WZ_5 x1) f9) (WZ_top x2 f9) ⟨x3.1.same (rf_9 a v (nI 1)), x3.2⟩ v2 (by omega) (fun _ => by omega) ?_
            have hTa := x2
            clear h ih e239 go x3 f9
            by_cases q : gI a 249 v = nI 0
            · simp (disch := first | decide | omega) [isb, ck_tt, NP, NF, NC, NB, NS, GS, kdR, tpR hT, b_X12_shares_61_b, b_X12_shares_111, b_X12_shares_144, b_X12_shares_151, g8, g3, so155, g1, a1, c8, tpR hTa, q]
            · simp (disch := first | decide | omega) [isb, ck_tt, NP, NF, NC, NB, NS, GS, kdR, tpR hT, b_X12_shares_61_b, b_X12_shares_111, b_X12_shares_144, b_X12_shares_151, g8, g3, so155, g1, a1, c8, tpR hTa, q, tn]
          · refine go a (t + 1) 0 0 (m + 1) (WZ_5 x1) x2 x3 (by omega) (by omega) (fun _ => by omega) ?_
            have hTa := x2
            clear h ih e239 go x3
            simp (disch := first | decide | omega) [isb, ck_tt, NP, NF, NC, NB, NS, GS, kdR, tpR hT, b_X12_shares_61_b, b_X12_shares_106, b_X12_shares_111, b_X12_shares_151, g8, g3, so155, g1, a1, c8]
        · have c8 := x3.1.2.2.2.2.2.2.2.1
          by_cases v2 : v ≤ 2
          · refine go a t 1 v m (WZ_5 x1) x2 x3 v2 (by omega) (fun z => by omega) ?_
            clear h ih e239 go x3
            simp (disch := first | decide | omega) [isb, ck_tt, NP, NF, NC, NB, NS, GS, kdR, tpR hT, b_X12_shares_61_b, b_X12_shares_111, g8, g3, so155, g1, a1, c8]
          · refine go a t 1 0 m (WZ_5 x1) x2 x3 (by omega) (by omega) (fun z => by omega) ?_
            clear h ih e239 go x3
            simp (disch := first | decide | omega) [isb, ck_tt, NP, NF, NC, NB, NS, GS, kdR, tpR hT, b_X12_shares_61_b, b_X12_shares_106, b_X12_shares_111, g8, g3, so155, g1, a1, c8]
