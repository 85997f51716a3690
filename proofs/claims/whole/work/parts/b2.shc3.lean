/-! PURE: shares: the text, in the class: the loop and the call -/
set_option maxRecDepth 100000 in
theorem sh_loop {b : BY} {n : Nat} {fu : Nat} (hf : 4100 ≤ fu) {o q : Nat} (hq2 : (o = 135 ∧ q = 136) ∨ (o = 136 ∧ q = 135)) : ∀ (j F i t : Nat) (S : Nat → Bool) (A : Nat → Nat) (st : St), i + j = 4 → j < F → Top st → TC b n 4000 t st → gR st 134 0 = o → gR st 134 1 = q → SqA q A st → ABd S A → nS S = i → ∃ u, b_X5_read_19 fu F 134 2 (nI (mS S)) (nI i) st = some u ∧ Top u ∧ Fr (WQ q) st u ∧ ((∃ S' A', EnOK b n j S t A S' A' ∧ ABd S' A' ∧ SqA q A' u ∧ gR u 134 0 = q ∧ gR u 134 1 = o ∧ gI u 134 2 = nI (nS S') ∧ gI u 2 8 = nI 0) ∨ (∃ f p, EnBad b n j S t A f p ∧ TD b n 4000 f p u ∧ gR u 134 0 = o ∧ gR u 134 1 = q)) := by
  have hq3 : q = 135 ∨ q = 136 := by omega
  have ho0 : o ≠ 0 := by omega
  have hq0 : q ≠ 0 := by omega
  have q2 : q ≠ 2 := by omega
  intro j
  induction j with
  | zero =>
    intro F i t S A st hij hF hT h _ _ hA hb hi
    have := nS_le S
    omega
  | succ j ih =>
    intro F i t S A st hij hF hT h ho hq hA hb hi
    obtain ⟨G, rfl⟩ : ∃ G, F = G + 1 := ⟨F - 1, by omega⟩
    have i3 : i ≤ 3 := by have := nS_le S; omega
    have un : b_X5_read_19 fu (G + 1) 134 2 (nI (mS S)) (nI i) st = b_X5_read_19_b fu (b_X5_read_19 fu G) 134 2 (nI (mS S)) (nI i) st := rfl
    have c2 := h.2.2.2.2.1
    have c3 := h.2.2.1
    have c8 := h.2.1.1
    have hn := h.1.2.1
    have r134 : ∀ s k, Fr (WS q) st s → gR s 134 k = gR st 134 k := fun s k fr => (fr 134 k (by rcases hq3 with rfl | rfl <;> simp [WS, covers])).2.2
    by_cases s0 : so b n t = 0
    · -- the end of the text
      rw [s0, show kc 0 = 0 from rfl] at c2
      have bc := bc_c (st := sR (sR st 134 0 q) 134 1 o) fu S
      refine ⟨sI (sR (sR st 134 0 q) 134 1 o) 134 2 (nI (nS S)), ?_, ?_, (((Fr.r st 134 0 q).tr (Fr.r _ 134 1 o)).tr (Fr.i _ 134 2 _)).wd (by simp [within', WQ, WS]), Or.inl ⟨S, A, Or.inl ⟨s0, rfl, rfl⟩, hb, ?_, ?_, ?_, ?_, ?_⟩⟩
      · rw [un]
        clear h hA hb ih r134
        simp (disch := first | decide | omega) [isb, ck_tt, NP, NF, NC, NB, NS, GS, kdC, tpC hT, b_X5_read_19_b, b_X5_read_102, b_X5_read_135, c2, c8, ho, hq, ho0, hq0, bc]
      · refine hT.fr (Fr.same (W := [(134, some 0), (134, some 1), (134, some 2)]) ((((Fr.r st 134 0 q).tr (Fr.r _ 134 1 o)).tr (Fr.i _ 134 2 _)).wd (by decide)) (by decide))
      · intro x hx
        rw [gI_sI_n _ _ _ (by omega), gI_sR, gI_sR]
        exact hA x hx
      · rw [gR_sI, gR_sR, gR_sR]; simp
      · rw [gR_sI, gR_sR]; simp
      · rw [gI_sI]; simp
      · rw [gI_sI_n _ _ _ (by decide), gI_sR, gI_sR]; exact c8
    · have k0 : kc (so b n t) ≠ 0 ∧ kc (so b n t) < 10 := by
        unfold kc
        by_cases h1 : so b n t = 3
        · rw [if_pos h1]; omega
        · rw [if_neg h1]
          by_cases h2 : 3 < so b n t
          · rw [if_pos h2]; omega
          · rw [if_neg h2]; omega
      obtain ⟨H, rfl⟩ : ∃ H, G = H + 1 := ⟨G - 1, by omega⟩
      -- a dead tape
      have dead : ∀ (s : St) (f p p' : Nat), Fr (WS q) st s → Top s → TD b n 4000 f p s → p' ≤ 2 → EnBad b n (j + 1) S t A f p → b_X5_read_19_b fu (b_X5_read_19 fu (H + 1)) 134 2 (nI (mS S)) (nI i) st = b_X5_read_68 fu (b_X5_read_19 fu (H + 1)) 134 2 (nI (mS S)) (nI i) (nI p') s → ∃ u, b_X5_read_19 fu (H + 1 + 1) 134 2 (nI (mS S)) (nI i) st = some u ∧ Top u ∧ Fr (WQ q) st u ∧ ((∃ S' A', EnOK b n (j + 1) S t A S' A' ∧ ABd S' A' ∧ SqA q A' u ∧ gR u 134 0 = q ∧ gR u 134 1 = o ∧ gI u 134 2 = nI (nS S') ∧ gI u 2 8 = nI 0) ∨ (∃ f p, EnBad b n (j + 1) S t A f p ∧ TD b n 4000 f p u ∧ gR u 134 0 = o ∧ gR u 134 1 = q)) := fun s f p p' fr hTs hD hp hE e => by
        obtain ⟨u, u1, u2, u3, u4⟩ := sh68_d hTs hD hf (by rw [r134 s 1 fr]; exact hq) hq3 H S (i := i) i3 hp
        refine ⟨u, by rw [un, e]; exact u1, u2, WQ_s (WS_t fr u3), Or.inr ⟨f, p, hE, u4, ?_, ?_⟩⟩
        · rw [r134 u 0 (WS_t fr u3)]; exact ho
        · rw [r134 u 1 (WS_t fr u3)]; exact hq
      obtain ⟨N1, N2, N3⟩ := number_c hT h hf (lo := 0) (hi := 2) (by omega) (by omega)
      by_cases s2 : so b n t = 2
      · by_cases v2 : nvt b n t ≤ 2
        · obtain ⟨s, u1, u2⟩ := N1 s2 (Nat.zero_le _) v2
          obtain ⟨fr, hTs, hC⟩ := u2.go hn s0
          obtain ⟨p', hp'⟩ : ∃ p', p' = nvt b n t := ⟨_, rfl⟩
          have u1' : f_X9_number fu 2 (nI 0) (nI 2) st = some (nI p', s) := by rw [hp']; exact u1
          have v2' : p' ≤ 2 := by omega
          have d8 := hC.2.1.1
          have ml : mS S ≤ 7 := mk3_le (S 0) (S 1) (S 2)
          have bn := bitN (M := mS S) (x := p') (by omega)
          rw [mS_bit S v2'] at bn
          cases hS : S p'
          · rw [hS] at bn
            simp only [Bool.toNat_false] at bn
            have e68 : b_X5_read_19_b fu (b_X5_read_19 fu (H + 1)) 134 2 (nI (mS S)) (nI i) st = b_X5_read_68 fu (b_X5_read_19 fu (H + 1)) 134 2 (nI (mS S)) (nI i) (nI p') s := by
              clear h hA hb ih r134 dead N1 N2 N3 hC u2
              simp (disch := first | decide | omega) [isb, ck_tt, NP, NF, NC, NB, NS, GS, kdC, tpC hT, b_X5_read_19_b, c2, c3, u1', d8, bn]
            obtain ⟨D1, D2⟩ := need_c hTs hC hf (c := 58) (by omega) (by omega)
            by_cases s58 : so b n (t + 1) = 58
            · obtain ⟨s1, w1, w2⟩ := D1 s58
              obtain ⟨fr1, hT1, hC1⟩ := w2.go hn (by omega)
              have e1n : En1 b n t S := ⟨s2, by omega, by rw [← hp']; exact hS, s58⟩
              have fr1' := WTt fr fr1
              have q1 : gR s1 134 1 = q := by rw [r134 s1 1 (WS_w fr1')]; exact hq
              have A1 : SqA q A s1 := fun x hx => by
                rw [show gI s1 q = gI st q by rcases hq3 with rfl | rfl <;> exact fr1'.fi _ (by decide)]
                exact hA x hx
              obtain ⟨s3, x1, x2, x3, x4⟩ := readTerms_l (b := b) (n := n) hf (B := 5 * p') hq3 (by omega) 4 fu 0 (t + 2) A s1 (by omega) (by omega) hT1 hC1 q1 A1 (fun x hx => by have := (hb x hx).2.1; omega)
              have x1' : f_X5_readTerms fu 134 2 (nI (5 * p')) s1 = some s3 := x1
              have fr3 : Fr (WS q) st s3 := WS_t (WS_w fr1') x3
              have mo := mS_or S v2'
              have m5 : p' * 5 = 5 * p' := Nat.mul_comm _ _
              rcases x4 with ⟨t1, A2, ok, hA2, hC3⟩ | ⟨f, p, bd, hD3⟩
              · obtain ⟨E1, E2⟩ := need_c x2 hC3 hf (c := 59) (by omega) (by omega)
                by_cases s59 : so b n t1 = 59
                · obtain ⟨s4, y1, y2⟩ := E1 s59
                  obtain ⟨fr4, hT4, hC4⟩ := y2.go hn (by omega)
                  have fr4' : Fr (WS q) st s4 := WS_t fr3 (WS_w fr4)
                  have A4 : SqA q A2 s4 := fun x hx => by
                    rw [show gI s4 q = gI s3 q by rcases hq3 with rfl | rfl <;> exact fr4.fi _ (by decide)]
                    exact hA2 x hx
                  have hb' := ABd_s v2' hb hS ok
                  obtain ⟨u, r1, r2, r3, r4⟩ := ih (H + 1) (i + 1) (t1 + 1) (sB1 S p') A2 s4 (by omega) (by omega) hT4 hC4 (by rw [r134 s4 0 fr4']; exact ho) (by rw [r134 s4 1 fr4']; exact hq) A4 hb' (by rw [nS_s S v2' hS]; omega)
                  refine ⟨u, ?_, r2, WQ_t (WQ_s fr4') r3, ?_⟩
                  · rw [un, e68, ← r1]
                    clear h hA hb ih r134 dead N1 N2 N3 hC u2 D1 D2 E1 E2 hC1 hC3 hC4 w2 y2 ok A1 A4 hA2 hb' r1 r2 r3 r4 e68 un x1 x3 fr3 fr4' e1n
                    simp (disch := first | decide | omega) [isb, ck_tt, NP, NF, NC, NB, NS, GS, kdC, tpC hT, b_X5_read_68, mo, w1, m5, x1', y1]
                  · rcases r4 with ⟨S', A', a1, a2⟩ | ⟨f, p, a1, a2⟩
                    · refine Or.inl ⟨S', A', Or.inr ⟨t1, A2, e1n, ?_, s59, ?_⟩, a2⟩
                      · rw [← hp']; exact ok
                      · rw [← hp']; exact a1
                    · refine Or.inr ⟨f, p, ⟨s0, Or.inr (Or.inr (Or.inr (Or.inr (Or.inr (Or.inr ⟨t1, A2, e1n, ?_, s59, ?_⟩)))))⟩, a2⟩
                      · rw [← hp']; exact ok
                      · rw [← hp']; exact a1
                · obtain ⟨s4, y1, fr4, hT4, hD4⟩ := E2 s59
                  have fr4' : Fr (WS q) st s4 := WS_t fr3 (WS_w fr4)
                  have en := sh_end_d hT4 hD4 fu H (mS (sB1 S p')) (i + 1) (by omega)
                  refine ⟨s4, ?_, hT4, WQ_s fr4', Or.inr ⟨1, pl b n t1, ⟨s0, Or.inr (Or.inr (Or.inr (Or.inr (Or.inr (Or.inl ⟨t1, A2, e1n, by rw [← hp']; exact ok, s59, rfl, rfl⟩)))))⟩, hD4, by rw [r134 s4 0 fr4']; exact ho, by rw [r134 s4 1 fr4']; exact hq⟩⟩
                  rw [un, e68]
                  clear h hA hb ih r134 dead N1 N2 N3 hC u2 D1 D2 E1 E2 hC1 hC3 hD4 w2 ok A1 hA2 e68 un x1 x3 fr3 fr4' e1n
                  simp (disch := first | decide | omega) [isb, ck_tt, NP, NF, NC, NB, NS, GS, kdC, tpC hT, b_X5_read_68, mo, w1, m5, x1', y1, en]
              · obtain ⟨s4, y1, fr4, hT4, hD4⟩ := need_d x2 hD3 fu (nI 59)
                have fr4' : Fr (WS q) st s4 := WS_t fr3 (WS_w fr4)
                have en := sh_end_d hT4 hD4 fu H (mS (sB1 S p')) (i + 1) (by omega)
                refine ⟨s4, ?_, hT4, WQ_s fr4', Or.inr ⟨f, p, ⟨s0, Or.inr (Or.inr (Or.inr (Or.inr (Or.inl ⟨e1n, bd⟩))))⟩, hD4, by rw [r134 s4 0 fr4']; exact ho, by rw [r134 s4 1 fr4']; exact hq⟩⟩
                rw [un, e68]
                clear h hA hb ih r134 dead N1 N2 N3 hC u2 D1 D2 hC1 hD3 hD4 w2 bd A1 e68 un x1 x3 fr3 fr4' e1n
                simp (disch := first | decide | omega) [isb, ck_tt, NP, NF, NC, NB, NS, GS, kdC, tpC hT, b_X5_read_68, mo, w1, m5, x1', y1, en]
            · obtain ⟨s1, w1, fr1, hT1, hD1⟩ := D2 s58
              -- need has failed: the rest of the turn is dead
              obtain ⟨K, hK⟩ : ∃ K, fu = K + 1 := ⟨fu - 1, by omega⟩
              have fr1' := WTt fr fr1
              have q1 : gR s1 134 1 = q := by rw [r134 s1 1 (WS_w fr1')]; exact hq
              obtain ⟨s2', x1, hT2, fr2, hD2⟩ := readTerms_d hT1 hD1 (fu := fu) q1 hq3 (B := 5 * p') (by omega) K (i := 0) (by omega)
              have x1' : f_X5_readTerms fu 134 2 (nI (5 * p')) s1 = some s2' := by
                show b_X5_readTerms_2 fu fu 134 2 (nI (5 * p')) (nI 0) s1 = some s2'
                rw [show b_X5_readTerms_2 fu fu = b_X5_readTerms_2 fu (K + 1) by rw [← hK]]
                exact x1
              obtain ⟨s4, y1, fr4, hT4, hD4⟩ := need_d hT2 hD2 fu (nI 59)
              have fr4' : Fr (WS q) st s4 := WS_t (WS_w fr1') (WS_t fr2 (WS_w fr4))
              have en := sh_end_d hT4 hD4 fu H (mS (sB1 S p')) (i + 1) (by omega)
              have mo := mS_or S v2'
              have m5 : p' * 5 = 5 * p' := Nat.mul_comm _ _
              refine ⟨s4, ?_, hT4, WQ_s fr4', Or.inr ⟨1, pl b n (t + 1), ⟨s0, Or.inr (Or.inr (Or.inr (Or.inl ⟨s2, by omega, by rw [← hp']; exact hS, s58, rfl, rfl⟩)))⟩, hD4, by rw [r134 s4 0 fr4']; exact ho, by rw [r134 s4 1 fr4']; exact hq⟩⟩
              rw [un, e68]
              clear h hA hb ih r134 dead N1 N2 N3 hC u2 D1 D2 hD1 hD2 hD4 e68 un x1 fr4' hK
              simp (disch := first | decide | omega) [isb, ck_tt, NP, NF, NC, NB, NS, GS, kdC, tpC hT, b_X5_read_68, mo, w1, m5, x1', y1, en]
          · rw [hS] at bn
            simp only [Bool.toNat_true] at bn
            obtain ⟨s1, w1, fr1, hT1, hD1⟩ := fail_c hTs hC.1 d8 fu (f := 3) (p := pl b n t) (by omega) (by omega) (pl_b b n t).2
            refine dead s1 3 (pl b n t) p' (WS_w (WTt fr fr1)) hT1 hD1 v2' ⟨s0, Or.inr (Or.inr (Or.inl ⟨s2, by omega, by rw [← hp']; exact hS, rfl, rfl⟩))⟩ ?_
            clear h hA hb ih r134 dead N1 N2 N3 hC u2 hD1 un
            simp (disch := first | decide | omega) [isb, ck_tt, NP, NF, NC, NB, NS, GS, kdC, tpC hT, b_X5_read_19_b, c2, c3, u1', d8, bn, w1]
        · obtain ⟨s, u1, fr, hTs, hD⟩ := N2 s2 (fun x => v2 x.2)
          have d8 := hD.2.1
          refine dead s 2 (pl b n t) 0 (WS_w fr) hTs hD (by omega) ⟨s0, Or.inr (Or.inl ⟨s2, by omega, rfl, rfl⟩)⟩ ?_
          clear h hA hb ih r134 dead N1 N2 N3 hD un
          simp (disch := first | decide | omega) [isb, ck_tt, NP, NF, NC, NB, NS, GS, kdC, tpC hT, b_X5_read_19_b, c2, c3, u1, d8]
      · obtain ⟨s, u1, fr, hTs, hD⟩ := N3 s2
        have d8 := hD.2.1
        refine dead s 1 (pl b n t) 0 (WS_w fr) hTs hD (by omega) ⟨s0, Or.inl ⟨s2, rfl, rfl⟩⟩ ?_
        clear h hA hb ih r134 dead N1 N2 N3 hD un
        simp (disch := first | decide | omega) [isb, ck_tt, NP, NF, NC, NB, NS, GS, kdC, tpC hT, b_X5_read_19_b, c2, c3, u1, d8]
/-- the places that shares may change, in the class -/
def WA : List PL := [(2, some 1), (2, some 2), (2, some 3), (2, some 4), (2, some 5), (2, some 6), (2, some 7), (2, some 8), (2, some 9), (135, none), (136, none), (134, some 0), (134, some 1), (134, some 2)]
set_option maxRecDepth 100000 in
theorem shares_c {st : St} (hT : Top st) {b : BY} {n : Nat} (h1 : gI st 2 1 = nI n) (h2 : n ≤ 4000) (h3 : ∀ i, i < n → gI st 3 i = b i) (h4 : ∀ i, i < n → b i ≤ nI 127) {fu : Nat} (hf : 4100 ≤ fu) {o q : Nat} (hq2 : (o = 135 ∧ q = 136) ∨ (o = 136 ∧ q = 135)) (ho : gR st 134 0 = o) (hq : gR st 134 1 = q) : ∃ r u, f_X11_shares fu 1 st = some (r, u) ∧ Top u ∧ Fr WA st u ∧ gI u 2 1 = nI 0 ∧ ((∃ S' A', EnOK b n 4 (fun _ => false) 0 (fun _ => 0) S' A' ∧ ABd S' A' ∧ SqA q A' u ∧ gR u 134 0 = q ∧ gR u 134 1 = o ∧ r = nI (nS S') ∧ gI u 2 8 = nI 0) ∨ (∃ f p, EnBad b n 4 (fun _ => false) 0 (fun _ => 0) f p ∧ r = -10 - nI p ∧ gI u 2 8 = nI f ∧ gI u o = gI st o ∧ gR u 134 0 = o ∧ gR u 134 1 = q)) := by
  have hq3 : q = 135 ∨ q = 136 := by omega
  have hq0 : q ≠ 0 := by omega
  have hk : kd q = (100, 15) := by rcases hq3 with rfl | rfl <;> rfl
  obtain ⟨s1, e1, fr1, g1, v1⟩ := fill_c hk (by omega) fu (by omega) 0 st
  have hT1 : Top s1 := hT.r g1
  have a1 : gI s1 2 1 = nI n := by rw [show gI s1 2 = gI st 2 by rcases hq3 with rfl | rfl <;> exact fr1.fi _ (by decide)]; exact h1
  have a3 : ∀ i, i < n → gI s1 3 i = b i := fun i hi => by rw [show gI s1 3 = gI st 3 by rcases hq3 with rfl | rfl <;> exact fr1.fi _ (by decide)]; exact h3 i hi
  obtain ⟨s2, e2, fr2, hT2, hC2⟩ := open_c hT1 a1 h2 a3 h4 hf (lim := 4000) (by omega)
  have R2 : ∀ k, gR s2 134 k = gR st 134 k := fun k => by rw [(fr2 134 k (by simp [WT, covers])).2.2, g1]
  have A2 : SqA q (fun _ => 0) s2 := fun x hx => by
    rw [show gI s2 q = gI s1 q by rcases hq3 with rfl | rfl <;> exact fr2.fi _ (by decide), v1]
    show (if x < 15 then (0 : Int32) else gI st q x) = nI 0
    rw [if_pos hx]; rfl
  obtain ⟨u, r1, r2, r3, r4⟩ := sh_loop (b := b) (n := n) hf hq2 4 fu 0 0 (fun _ => false) (fun _ => 0) s2 (by omega) (by omega) hT2 hC2 (by rw [R2]; exact ho) (by rw [R2]; exact hq) A2 (fun x _ => ⟨fun _ => rfl, Nat.zero_le _, fun _ => Nat.zero_le _⟩) rfl
  have rd : f_X5_read fu 134 2 st = some u := by
    have e1' : f_J7_fill_53178 fu q (nI 0) st = some s1 := e1
    have r1' : b_X5_read_19 fu fu 134 2 (nI 0) (nI 0) s2 = some u := r1
    clear hC2 r1 r2 r3 r4 A2 R2 fr1 fr2 a3 h3 h4 v1 e1
    simp (disch := first | decide | omega) [isb, ck_tt, NP, NF, NC, NB, NS, GS, kdC, tpC hT, f_X5_read, hq, hq0, e1', e2, r1']
  have fru : Fr WA st u := by
    refine ((fr1.tr fr2).tr r3).wd ?_
    rcases hq3 with rfl | rfl <;> decide
  have fin : ∀ w : St, Fr [(2, some 1)] u w → Fr WA st w := fun w fr => (fru.tr fr).wd (by decide)
  have f1 : Fr [(2, some 1)] u (sI u 2 1 (nI 0)) := Fr.i u 2 1 _
  have hTu : Top (sI u 2 1 (nI 0)) := r2.r rfl
  have base : ∀ r : Int32, f_X11_closeText fu 1 (gI u 134 2) u = some (r, sI u 2 1 (nI 0)) → f_X11_shares fu 1 st = some (r, sI u 2 1 (nI 0)) := fun r hc => by
    have hTT := r2
    clear hC2 r1 r3 r4 A2 R2 fr1 fr2 a3 h3 h4 v1 e1 fru fin
    simp (disch := first | decide | omega) [isb, ck_tt, NP, NF, NC, NB, NS, GS, kdC, tpC hT, f_X11_shares, rd, tpC hTT, hc]
  rcases r4 with ⟨S', A', x1, x2, x3, x4, x5, x6, x7⟩ | ⟨f, p, x1, x2, x3, x4⟩
  · refine ⟨nI (nS S'), sI u 2 1 (nI 0), base _ ?_, hTu, fin _ f1, by rw [gI_sI]; simp, Or.inl ⟨S', A', x1, x2, fun x hx => ?_, ?_, ?_, rfl, ?_⟩⟩
    · have hT := r2
      clear hC2 r1 r3 A2 R2 fr1 fr2 a3 h3 h4 v1 e1 fru fin base x3
      simp (disch := first | decide | omega) [isb, ck_tt, NP, NF, NC, NB, NS, GS, kdC, tpC hT, f_X11_closeText, b_X11_closeText_32, x6, x7]
    · rw [show gI (sI u 2 1 (nI 0)) q = gI u q from gI_sI_n _ _ _ (by omega)]; exact x3 x hx
    · exact x4
    · exact x5
    · rw [gI_sI]; simp; exact x7
  · obtain ⟨dX, d8, d1, d3, d9, dp, -⟩ := x2
    refine ⟨-10 - nI p, sI u 2 1 (nI 0), base _ ?_, hTu, fin _ f1, by rw [gI_sI]; simp, Or.inr ⟨f, p, x1, rfl, ?_, ?_, x3, x4⟩⟩
    · have hT := r2
      have m10 : (-10 : Int32) = -nI 10 := rfl
      clear hC2 r1 r3 A2 R2 fr1 fr2 a3 h3 h4 v1 e1 fru fin base dX
      simp (disch := first | decide | omega) [isb, ck_tt, NP, NF, NC, NB, NS, GS, kdC, tpC hT, f_X11_closeText, b_X11_closeText_32, d8, d9, m10]
    · rw [gI_sI]; simp; exact d8
    · rw [show gI (sI u 2 1 (nI 0)) o = gI u o from gI_sI_n _ _ _ (by omega)]
      rcases hq2 with ⟨rfl, rfl⟩ | ⟨rfl, rfl⟩
      · exact ((fr1.tr fr2).tr r3).fi 135 (by decide)
      · exact ((fr1.tr fr2).tr r3).fi 136 (by decide)
