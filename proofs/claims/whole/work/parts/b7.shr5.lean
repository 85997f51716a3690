/-! PURE: shares: the reference in step, and the call -/
theorem s61_s {b : BY} {n T : Nat} {fu : Nat} (hf : 5100 ≤ fu) : ∀ (j F i t : Nat) (S : Nat → Bool) (A : Nat → Nat) (st : St), i + j = 4 → nS S = i → Top st → RS b n T t st → SrA A st → SrN S st → T + 20 + j < F → (∀ S' A', EnOK b n j S t A S' A' → ∃ u t', b_X12_shares_61 fu F 153 (nI i) st = b_X12_shares_239 fu 153 (nI (nS S')) u ∧ Fr WZ st u ∧ Top u ∧ RS b n T t' u ∧ SrA A' u) ∧ (∀ f p, EnBad b n j S t A f p → ∃ u, b_X12_shares_61 fu F 153 (nI i) st = some (-10 - nI p, u) ∧ Fr WZ st u ∧ Top u ∧ gI u 153 6 = nI f) := by
  intro j
  induction j with
  | zero => exact fun F i t S A st _ _ _ _ _ _ _ => ⟨fun S' A' ok => ok.elim, fun f p bad => bad.elim⟩
  | succ j ih =>
    intro F i t S A st hij hS hT h hA hN hF
    obtain ⟨G, rfl⟩ : ∃ G, F = G + 1 := ⟨F - 1, by omega⟩
    have un : b_X12_shares_61 fu (G + 1) 153 (nI i) st = b_X12_shares_61_b fu (b_X12_shares_61 fu G) 153 (nI i) st := rfl
    obtain ⟨g1, g2, g3⟩ := place_r h
    have g8 := h.2.2.2.2.2.2.2.1
    have tT := h.2.2.1
    have Tn := h.1.2.2.2.2.1
    have hn := h.1.2.2.2.2.2
    have so155 := (h.1.sot tT).1
    have sb := so_b b n t
    have pb := pl_b b n t
    obtain ⟨N1, N2, N3⟩ := num_s hT h fu (lo := 0) (hi := 2) (by omega) (by omega)
    -- a dead state behind needSign(':'), with x4 = pp, or ahead of it
    have dead : ∀ (c : St) (tc sc pp m' f p : Nat), Fr WZ st c → Top c → RfD b n T f p tc sc c → pp ≤ 2 → b_X12_shares_61_b fu (b_X12_shares_61 fu G) 153 (nI i) st = b_X12_shares_154 fu (b_X12_shares_61 fu G) 153 (nI m') (nI pp) c → ∃ u, b_X12_shares_61 fu (G + 1) 153 (nI i) st = some (-10 - nI p, u) ∧ Fr WZ st u ∧ Top u ∧ gI u 153 6 = nI f := fun c tc sc pp m' f p frc hTc hDc hpp e => by
      obtain ⟨d, d1, d2⟩ := needS_d hTc hDc fu (c := 58) (by omega) (by omega)
      obtain ⟨td, sd, frd, hTd, hDd⟩ : ∃ td sd, Fr W5 c d ∧ Top d ∧ RfD b n T f p td sd d := by
        rcases d2 with ⟨z, y2, y3, y4⟩ | ⟨y2, y3, y4⟩
        · exact ⟨_, _, y2, y3, y4⟩
        · exact ⟨_, _, y2, y3, y4⟩
      obtain ⟨w, tw, sw, w1, w2, w3, w4, w5, w6⟩ := s166_d (b := b) (n := n) (T := T) (f := f) (p := p) (fu := fu) (by omega) (b_X12_shares_61 fu G) (nI m') hpp fu 0 td sd (nI 1) d hTd hDd (by omega) (by omega) (by omega)
      obtain ⟨u, u1, u2, u3, u4⟩ := s61_d (b := b) (n := n) (T := T) (f := f) (p := p) hf G tw sw m' w w3 w4 (by omega)
      refine ⟨u, ?_, WZ_t frc (WZ_t (WZ_5 frd) (WZ_t (WZ_p w2) u2)), u3, u4⟩
      rw [un, e, ← u1, ← w1]
      clear h ih hDc hDd w4 w1 u1 N1 N2 N3 hA hN
      simp (disch := first | decide | omega) [isb, ck_tt, NP, NF, NC, NB, NS, GS, kdR, tpR hT, b_X12_shares_154, d1]
    -- a good head
    have head : En1 b n t S → ∃ c, Fr WZ st c ∧ Top c ∧ RS b n T (t + 2) c ∧ SrA A c ∧ SrN (sB1 S (nvt b n t)) c ∧ b_X12_shares_61_b fu (b_X12_shares_61 fu G) 153 (nI i) st = b_X12_shares_166 fu (b_X12_shares_61 fu G) fu 153 (nI (i + 1)) (nI (nvt b n t)) (nI 0) (nI 1) c := fun ⟨s2, v2, hSp, s58⟩ => by
      obtain ⟨a, a1, x1, x2, x3⟩ := N1 s2 (Nat.zero_le _) v2
      obtain ⟨v, hv⟩ : ∃ v, v = nvt b n t := ⟨_, rfl⟩
      rw [← hv] at a1 v2 hSp ⊢
      have f9 := WZ_9 a v (nI 1)
      have hT9 := WZ_top x2 f9
      have h9 : RS b n T (t + 1) (sI a 249 v (nI 1)) := RfA.same x3 (rf_9 a v (nI 1))
      obtain ⟨d, d1, y2, y3, y4⟩ := (needS_s hT9 h9 fu (c := 58) (by omega) (by omega)).1 s58
      refine ⟨d, WZ_t (WZ_5 x1) (WZ_t f9 (WZ_5 y2)), y3, y4, (SrA.n9 (hA.w5 x1) v (nI 1)).w5 y2, fun p hp => ?_, ?_⟩
      · rw [y2.fi 249 (by decide), gI_sI]
        unfold sB1
        by_cases q : p = v
        · subst q; simp
        · rw [if_neg (fun z => q z.2), if_neg q]; exact (hN.w5 x1) p hp
      · have c8 := x3.2.2.2.2.2.2.2.1
        have n9 := (hN.w5 x1) v (by omega)
        rw [hSp] at n9
        have n9' : gI a 249 v = nI 0 := n9
        have hTa := x2
        clear h ih N1 N2 N3 hA hN dead x3 h9 y4 f9 n9
        simp (disch := first | decide | omega) [isb, ck_tt, NP, NF, NC, NB, NS, GS, kdR, tpR hT, b_X12_shares_61_b, b_X12_shares_111, b_X12_shares_144, b_X12_shares_151, b_X12_shares_154, g8, g3, so155, g1, a1, c8, tpR hTa, n9', d1]
    refine ⟨fun S' A' ok => ?_, fun f p bad => ?_⟩
    · rcases ok with ⟨s0, rfl, rfl⟩ | ⟨t1, A1, e1, ts, s59, ok⟩
      · refine ⟨st, t, ?_, Fr.rf, hT, h, hA⟩
        rw [un, hS]
        rw [s0] at so155
        clear h ih N1 N2 N3 hA hN dead head
        simp (disch := first | decide | omega) [isb, ck_tt, NP, NF, NC, NB, NS, GS, kdR, tpR hT, b_X12_shares_61_b, g8, g3, so155]
      · obtain ⟨c, frc, hTc, hSc, hAc, hNc, e⟩ := head e1
        obtain ⟨w, w1, w2, w3, w4, w5, w6⟩ := (s166_s (b := b) (n := n) (T := T) (fu := fu) (by omega) (b_X12_shares_61 fu G) (nI (i + 1)) e1.2.1 4 fu 0 (t + 2) A c (by omega) (by omega) hTc hSc hAc).1 t1 A1 ts
        obtain ⟨d, d1, y2, y3, y4⟩ := (needS_s w3 w4 fu (c := 59) (by omega) (by omega)).1 s59
        obtain ⟨u, t', u1, u2, u3⟩ := (ih G (i + 1) (t1 + 1) (sB1 S (nvt b n t)) A1 d (by omega) (by rw [nS_s S e1.2.1 e1.2.2.1]; omega) y3 y4 (w5.w5 y2) ((hNc.p w2).w5 y2) (by omega)).1 S' A' ok
        refine ⟨u, t', ?_, WZ_t frc (WZ_t (WZ_p w2) (WZ_t (WZ_5 y2) u2)), u3⟩
        rw [un, e, w1, ← u1]
        clear h ih N1 N2 N3 hA hN dead head w4 y4 hSc
        simp (disch := first | decide | omega) [isb, ck_tt, NP, NF, NC, NB, NS, GS, kdR, tpR hT, b_X12_shares_230, d1]
    · obtain ⟨s0, bad⟩ := bad
      rcases bad with ⟨s2, rfl, rfl⟩ | ⟨s2, v2, rfl, rfl⟩ | ⟨s2, v2, hSp, rfl, rfl⟩ | ⟨s2, v2, hSp, s58, rfl, rfl⟩ | ⟨e1, bd⟩ | ⟨t1, A1, e1, ts, s59, rfl, rfl⟩ | ⟨t1, A1, e1, ts, s59, bd⟩
      · obtain ⟨a, a1, x1, x2, x3⟩ := N3 s2
        have c8 := x3.1.2.2.2.2.2.2.2.1
        refine dead a t 1 0 i 1 (pl b n t) (WZ_5 x1) x2 x3 (by omega) ?_
        clear h ih N1 N2 N3 hA hN dead head x3
        simp (disch := first | decide | omega) [isb, ck_tt, NP, NF, NC, NB, NS, GS, kdR, tpR hT, b_X12_shares_61_b, b_X12_shares_111, g8, g3, so155, g1, a1, c8]
      · obtain ⟨a, a1, x1, x2, x3⟩ := N2 s2 (fun z => by omega)
        have c8 := x3.1.2.2.2.2.2.2.2.1
        have vb := nv_le b (pl b n t) (af b n (t + 1) - pl b n t)
        obtain ⟨v, hv⟩ : ∃ v, v = nvt b n t := ⟨_, rfl⟩
        have vb' : v ≤ 100000 := by rw [hv]; exact vb
        rw [← hv] at a1 v2
        refine dead a (t + 1) 0 0 (i + 1) 2 (pl b n t) (WZ_5 x1) x2 x3 (by omega) ?_
        clear h ih N1 N2 N3 hA hN dead head x3 hv vb
        simp (disch := first | decide | omega) [isb, ck_tt, NP, NF, NC, NB, NS, GS, kdR, tpR hT, b_X12_shares_61_b, b_X12_shares_106, b_X12_shares_111, b_X12_shares_151, g8, g3, so155, g1, a1, c8]
      · obtain ⟨a, a1, x1, x2, x3⟩ := N1 s2 (Nat.zero_le _) v2
        obtain ⟨v, hv⟩ : ∃ v, v = nvt b n t := ⟨_, rfl⟩
        rw [← hv] at a1 v2 hSp
        obtain ⟨d, d1, y2, y3, y4⟩ := tell_o x2 x3 fu (k := 3) (q := pl b n t) (by omega) (by omega) pb.2 (Or.inl rfl) (Or.inr (pl_s s0))
        have f9 := WZ_9 d v (nI 1)
        have c8 := x3.2.2.2.2.2.2.2.1
        have n9 := (hN.w5 x1) v (by omega)
        rw [hSp] at n9
        have n9' : gI a 249 v = nI 1 := n9
        refine dead (sI d 249 v (nI 1)) (t + 1) 0 v (i + 1) 3 (pl b n t) (WZ_t (WZ_5 x1) (WZ_t (WZ_5 y2) f9)) (WZ_top y3 f9) ⟨y4.1.same (rf_9 d v (nI 1)), y4.2⟩ v2 ?_
        have hTa := x2
        have hTd := y3
        clear h ih N1 N2 N3 hA hN dead head x3 y4 f9 n9 hv
        simp (disch := first | decide | omega) [isb, ck_tt, NP, NF, NC, NB, NS, GS, kdR, tpR hT, b_X12_shares_61_b, b_X12_shares_111, b_X12_shares_144, b_X12_shares_151, g8, g3, so155, g1, a1, c8, tpR hTa, tpR hTd, n9', d1]
      · obtain ⟨a, a1, x1, x2, x3⟩ := N1 s2 (Nat.zero_le _) v2
        obtain ⟨v, hv⟩ : ∃ v, v = nvt b n t := ⟨_, rfl⟩
        rw [← hv] at a1 v2 hSp
        have f9 := WZ_9 a v (nI 1)
        have hT9 := WZ_top x2 f9
        have h9 : RS b n T (t + 1) (sI a 249 v (nI 1)) := RfA.same x3 (rf_9 a v (nI 1))
        obtain ⟨d, d1, y2, y3, y4⟩ := (needS_s hT9 h9 fu (c := 58) (by omega) (by omega)).2 s58
        obtain ⟨w, tw, sw, w1, w2, w3, w4, w5, w6⟩ := s166_d (b := b) (n := n) (T := T) (f := 1) (p := pl b n (t + 1)) (fu := fu) (by omega) (b_X12_shares_61 fu G) (nI (i + 1)) v2 fu 0 (t + 1) 1 (nI 1) d y3 y4 (by omega) (by omega) (by omega)
        obtain ⟨u, u1, u2, u3, u4⟩ := s61_d (b := b) (n := n) (T := T) (f := 1) (p := pl b n (t + 1)) hf G tw sw (i + 1) w w3 w4 (by omega)
        refine ⟨u, ?_, WZ_t (WZ_5 x1) (WZ_t f9 (WZ_t (WZ_5 y2) (WZ_t (WZ_p w2) u2))), u3, u4⟩
        have c8 := x3.2.2.2.2.2.2.2.1
        have n9 := (hN.w5 x1) v (by omega)
        rw [hSp] at n9
        have n9' : gI a 249 v = nI 0 := n9
        have hTa := x2
        rw [un, ← u1, ← w1]
        clear h ih N1 N2 N3 hA hN dead head x3 h9 y4 f9 n9 w4 u1 w1 hv
        simp (disch := first | decide | omega) [isb, ck_tt, NP, NF, NC, NB, NS, GS, kdR, tpR hT, b_X12_shares_61_b, b_X12_shares_111, b_X12_shares_144, b_X12_shares_151, b_X12_shares_154, g8, g3, so155, g1, a1, c8, tpR hTa, n9', d1]
      · obtain ⟨c, frc, hTc, hSc, hAc, hNc, e⟩ := head e1
        obtain ⟨w, t2, s2, w1, w2, w3, w4, w5⟩ := (s166_s (b := b) (n := n) (T := T) (fu := fu) (by omega) (b_X12_shares_61 fu G) (nI (i + 1)) e1.2.1 4 fu 0 (t + 2) A c (by omega) (by omega) hTc hSc hAc).2 f p bd
        obtain ⟨u, u1, u2, u3, u4⟩ := s61_d (b := b) (n := n) (T := T) (f := f) (p := p) hf G t2 s2 (i + 1) w w3 w4 (by omega)
        exact ⟨u, by rw [un, e, w1]; exact u1, WZ_t frc (WZ_t (WZ_p w2) u2), u3, u4⟩
      · obtain ⟨c, frc, hTc, hSc, hAc, hNc, e⟩ := head e1
        obtain ⟨w, w1, w2, w3, w4, w5, w6⟩ := (s166_s (b := b) (n := n) (T := T) (fu := fu) (by omega) (b_X12_shares_61 fu G) (nI (i + 1)) e1.2.1 4 fu 0 (t + 2) A c (by omega) (by omega) hTc hSc hAc).1 t1 A1 ts
        obtain ⟨d, d1, y2, y3, y4⟩ := (needS_s w3 w4 fu (c := 59) (by omega) (by omega)).2 s59
        obtain ⟨u, u1, u2, u3, u4⟩ := s61_d (b := b) (n := n) (T := T) (f := 1) (p := pl b n t1) hf G t1 1 (i + 1) d y3 y4 (by omega)
        refine ⟨u, ?_, WZ_t frc (WZ_t (WZ_p w2) (WZ_t (WZ_5 y2) u2)), u3, u4⟩
        rw [un, e, w1, ← u1]
        clear h ih N1 N2 N3 hA hN dead head w4 y4 hSc u1
        simp (disch := first | decide | omega) [isb, ck_tt, NP, NF, NC, NB, NS, GS, kdR, tpR hT, b_X12_shares_230, d1]
      · obtain ⟨c, frc, hTc, hSc, hAc, hNc, e⟩ := head e1
        obtain ⟨w, w1, w2, w3, w4, w5, w6⟩ := (s166_s (b := b) (n := n) (T := T) (fu := fu) (by omega) (b_X12_shares_61 fu G) (nI (i + 1)) e1.2.1 4 fu 0 (t + 2) A c (by omega) (by omega) hTc hSc hAc).1 t1 A1 ts
        obtain ⟨d, d1, y2, y3, y4⟩ := (needS_s w3 w4 fu (c := 59) (by omega) (by omega)).1 s59
        obtain ⟨u, u1, u2, u3⟩ := (ih G (i + 1) (t1 + 1) (sB1 S (nvt b n t)) A1 d (by omega) (by rw [nS_s S e1.2.1 e1.2.2.1]; omega) y3 y4 (w5.w5 y2) ((hNc.p w2).w5 y2) (by omega)).2 f p bd
        refine ⟨u, ?_, WZ_t frc (WZ_t (WZ_p w2) (WZ_t (WZ_5 y2) u2)), u3⟩
        rw [un, e, w1, ← u1]
        clear h ih N1 N2 N3 hA hN dead head w4 y4 hSc u1
        simp (disch := first | decide | omega) [isb, ck_tt, NP, NF, NC, NB, NS, GS, kdR, tpR hT, b_X12_shares_230, d1]
