/-! PURE: prices: the loops -/
abbrev RG.hb (g : RG) (n x d s i : Nat) : Prop := g.L i ≤ n ∧ g.K i / 2 ^ x % 2 = 1 ∧ g.D i / 2 ^ d % 2 = 1 ∧ g.S i / 2 ^ s % 2 = 1
def RG.prf (g : RG) (n x d s : Nat) : Nat → Nat → Nat → Nat
  | 0, _, p => p
  | k + 1, i, p => RG.prf g n x d s k (i + 1) (if g.hb n x d s i then cap (chg (g.sg i) (g.b i) p n) else p)
theorem prf_b (g : RG) (n x d s : Nat) : ∀ k i p, p ≤ 1000000 → g.prf n x d s k i p ≤ 1000000
  | 0, _, p, h => h
  | k + 1, i, p, h => by
    show g.prf n x d s k (i + 1) _ ≤ _
    apply prf_b
    by_cases q : g.hb n x d s i
    · rw [if_pos q]; exact cap_le _
    · rw [if_neg q]; exact h
theorem m2 (a : Nat) : a % 2 = 0 ∨ a % 2 = 1 := by omega
theorem pr_cl {st : St} (hT : Top st) (fu : Nat) {g : RG} (hg : g.at_ st) {n x d s : Nat} (hn : n ≤ 10) (hx : x ≤ 3) (hd : d ≤ 6) (hs : s ≤ 7) : ∀ (F i p : Nat), i ≤ g.cnt → g.cnt - i < F → p ≤ 1000000 → b_X6_priceOf_14 fu F 121 (nI s) (nI n) (nI x) (nI d) (nI p) (nI i) st = some (nI (g.prf n x d s (g.cnt - i) i p), st) := by
  intro F
  obtain ⟨g1, -, g3, g4, g5, -, g7⟩ := hg
  have hk : kd g.o = (100, 120) := by rcases g3 with ⟨e, -⟩ | ⟨e, -⟩ <;> rw [e] <;> rfl
  have ho : ¬ g.o = 0 := by omega
  induction F with
  | zero => intro i p h1 h2; omega
  | succ F ih =>
    intro i p hi hF hp
    show b_X6_priceOf_14_b fu (b_X6_priceOf_14 fu F) 121 (nI s) (nI n) (nI x) (nI d) (nI p) (nI i) st = _
    rcases Nat.lt_or_ge i g.cnt with q | q
    · obtain ⟨⟨r1, r2, r3, r4, r5, r6⟩, ⟨b1, b2, b3, b4, b5, b6, b7⟩, -⟩ := g7 i q
      have e0 := ih (i + 1) p (by omega) (by omega) hp
      have e1 := ih (i + 1) (cap (chg (g.sg i) (g.b i) p n)) (by omega) (by omega) (cap_le _)
      have ec := chg_c (st := st) fu b5 b6 b7 hp hn
      have em := mn_c (st := st) fu (v := chg (g.sg i) (g.b i) p n) (chg_b b6 b7 hp hn)
      have k1 := bitN (M := g.K i) (x := x) (by omega)
      have k2 := bitN (M := g.D i) (x := d) (by omega)
      have k3 := bitN (M := g.S i) (x := s) (by omega)
      have m6 : i * 6 = 6 * i := Nat.mul_comm _ _
      rw [show g.cnt - i = g.cnt - (i + 1) + 1 by omega]
      show _ = some (nI (g.prf n x d s (g.cnt - (i + 1)) (i + 1) _), st)
      clear ih g7
      by_cases q1 : g.L i ≤ n
      · rcases m2 (g.K i / 2 ^ x) with q2 | q2
        · rw [if_neg (fun h => by have := h.2.1; omega), ← e0]
          rw [q2] at k1
          simp (disch := first | decide | omega) [isb, ck_tt, NP, NF, NC, NB, NS, GS, kdC, tpC hT, b_X6_priceOf_14_b, b_X6_priceOf_101, b_X6_priceOf_102, b_X6_priceOf_140, g1, hk, ho, g5, m6, r1, r2, k1]
        · rw [q2] at k1
          rcases m2 (g.D i / 2 ^ d) with q3 | q3
          · rw [if_neg (fun h => by have := h.2.2.1; omega), ← e0]
            rw [q3] at k2
            simp (disch := first | decide | omega) [isb, ck_tt, NP, NF, NC, NB, NS, GS, kdC, tpC hT, b_X6_priceOf_14_b, b_X6_priceOf_101, b_X6_priceOf_102, b_X6_priceOf_140, g1, hk, ho, g5, m6, r1, r2, r3, k1, k2]
          · rw [q3] at k2
            rcases m2 (g.S i / 2 ^ s) with q4 | q4
            · rw [if_neg (fun h => by have := h.2.2.2; omega), ← e0]
              rw [q4] at k3
              simp (disch := first | decide | omega) [isb, ck_tt, NP, NF, NC, NB, NS, GS, kdC, tpC hT, b_X6_priceOf_14_b, b_X6_priceOf_101, b_X6_priceOf_102, b_X6_priceOf_140, g1, hk, ho, g5, m6, r1, r2, r3, r4, k1, k2, k3]
            · rw [if_pos ⟨q1, q2, q3, q4⟩, ← e1]
              rw [q4] at k3
              simp (disch := first | decide | omega) [isb, ck_tt, NP, NF, NC, NB, NS, GS, kdC, tpC hT, b_X6_priceOf_14_b, b_X6_priceOf_101, b_X6_priceOf_102, b_X6_priceOf_140, g1, hk, ho, g5, m6, r1, r2, r3, r4, r5, r6, k1, k2, k3, ec, em]
      · rw [if_neg (fun h => q1 h.1), ← e0]
        simp (disch := first | decide | omega) [isb, ck_tt, NP, NF, NC, NB, NS, GS, kdC, tpC hT, b_X6_priceOf_14_b, b_X6_priceOf_101, b_X6_priceOf_102, b_X6_priceOf_140, g1, hk, ho, g5, m6, r1]
    · have e : g.cnt - i = 0 := by omega
      rw [e]
      simp (disch := first | decide | omega) [isb, ck_tt, NP, NF, NC, NB, NS, GS, kdC, tpC hT, b_X6_priceOf_14_b, b_X6_priceOf_146, g5]
      rfl
theorem price_c {st : St} (hT : Top st) {fu : Nat} (hf : 100 ≤ fu) {g : RG} (hg : g.at_ st) {j m r s n x d p : Nat} (hj : j < 60) (hr : r < 40) (hm : m < 30) (hn : n ≤ 10) (hx : x ≤ 3) (hd : d ≤ 6) (hs : s ≤ 7) (hp : p ≤ 99999) (e1 : gI st 125 j = nI (30 * r + m)) (e2 : gI st 117 r = nI s) (e3 : gI st 126 j = nI n) (e4 : gI st 127 j = nI x) (e5 : gI st 128 j = nI d) (e6 : gI st 116 s = nI p) : f_X2_price fu 124 (nI j) st = some (nI (g.prf n x d s g.cnt 0 (cap (n * p))), st) := by
  have hnp : n * p ≤ 10 * 99999 := Nat.mul_le_mul hn hp
  have dv : (30 * r + m) / 30 = r := by omega
  have em := mn_c (st := st) fu (v := n * p) (by omega)
  have hc := hg.2.2.2.1
  have el := pr_cl hT fu hg hn hx hd hs fu 0 (cap (n * p)) (by omega) (by omega) (cap_le _)
  rw [Nat.sub_zero] at el
  simp (disch := first | decide | omega) [isb, ck_tt, NP, NF, NC, NB, NS, GS, kdC, tpC hT, f_X2_price, e1, e2, e3, e4, e5, e6, dv, f_X6_priceOf, em, el]
/-- the reference's conditions -/
theorem pr_rc {st : St} (hT : Top st) (fu : Nat) (k : Nat → Int32 → Int32 → Int32 → Int32 → Int64 → Int32 → St → Option (Int64 × St)) {i sg b r0 r1 n x d s p : Nat} {kn cn : Nat → Nat} (hi : i < 20) (hn : n ≤ 10) (hx : x ≤ 3) (hd : d ≤ 6) (hs : s ≤ 7) (hp : p ≤ 1000000) (b5 : sg = 37 ∨ sg = 43 ∨ sg = 45 ∨ sg = 64) (b6 : b ≤ 99999) (b7 : sg = 37 → b ≤ 200) (f1 : gI st 234 i = nI sg) (f2 : gI st 235 i = nI b) (f4 : gI st 233 (i + 1) = nI r1) (f6 : r1 ≤ 4000) (f7 : ∀ c, r0 ≤ c → c < r1 → gI st 236 c = nI (kn c) ∧ gI st 237 c = nI (cn c) ∧ 1 ≤ kn c ∧ kn c ≤ 4 ∧ cn c ≤ 10) : ∀ (F c : Nat), r0 ≤ c → c ≤ r1 → r1 - c < F →
    b_X12_priceOf_39 fu k F 153 (nI s) (nI n) (nI x) (nI d) (lN p) (nI i) (nI 0) (nI c) st = k 153 (nI s) (nI n) (nI x) (nI d) (lN p) (nI (i + 1)) st ∧
    ((∀ c', c ≤ c' → c' < r1 → cnd (kn c') (cn c') n x d s) → b_X12_priceOf_39 fu k F 153 (nI s) (nI n) (nI x) (nI d) (lN p) (nI i) (nI 1) (nI c) st = k 153 (nI s) (nI n) (nI x) (nI d) (lN (cap (chg sg b p n))) (nI (i + 1)) st) ∧
    ((¬ ∀ c', c ≤ c' → c' < r1 → cnd (kn c') (cn c') n x d s) → b_X12_priceOf_39 fu k F 153 (nI s) (nI n) (nI x) (nI d) (lN p) (nI i) (nI 1) (nI c) st = k 153 (nI s) (nI n) (nI x) (nI d) (lN p) (nI (i + 1)) st) := by
  intro F
  induction F with
  | zero => intro c h1 h2 h3; omega
  | succ F ih =>
    intro c h0 h1 h2
    have un : ∀ a, b_X12_priceOf_39 fu k (F + 1) 153 (nI s) (nI n) (nI x) (nI d) (lN p) (nI i) a (nI c) st = b_X12_priceOf_39_b fu k (b_X12_priceOf_39 fu k F) 153 (nI s) (nI n) (nI x) (nI d) (lN p) (nI i) a (nI c) st := fun _ => rfl
    rcases Nat.lt_or_ge c r1 with q | q
    · obtain ⟨a1, a2, a3⟩ := ih (c + 1) (by omega) (by omega) (by omega)
      obtain ⟨t1, t2, t3, t4, t5⟩ := f7 c h0 q
      clear ih f7
      have z : b_X12_priceOf_39 fu k (F + 1) 153 (nI s) (nI n) (nI x) (nI d) (lN p) (nI i) (nI 0) (nI c) st = k 153 (nI s) (nI n) (nI x) (nI d) (lN p) (nI (i + 1)) st := by
        rw [un, ← a1]
        simp (disch := first | decide | omega) [isb, ck_tt, NP, NF, NC, NB, NS, GS, kdR, tpR hT, b_X12_priceOf_39_b, b_X12_priceOf_132, b_X12_priceOf_133, f4, t1, t2]
      have one : (cnd (kn c) (cn c) n x d s → b_X12_priceOf_39 fu k (F + 1) 153 (nI s) (nI n) (nI x) (nI d) (lN p) (nI i) (nI 1) (nI c) st = b_X12_priceOf_39 fu k F 153 (nI s) (nI n) (nI x) (nI d) (lN p) (nI i) (nI 1) (nI (c + 1)) st) ∧ (¬ cnd (kn c) (cn c) n x d s → b_X12_priceOf_39 fu k (F + 1) 153 (nI s) (nI n) (nI x) (nI d) (lN p) (nI i) (nI 1) (nI c) st = b_X12_priceOf_39 fu k F 153 (nI s) (nI n) (nI x) (nI d) (lN p) (nI i) (nI 0) (nI (c + 1)) st) := by
        have k4 : kn c = 1 ∨ kn c = 2 ∨ kn c = 3 ∨ kn c = 4 := by omega
        rw [un]
        unfold cnd
        rcases k4 with h | h | h | h
        · rw [h] at t1 ⊢
          refine ⟨fun y => ?_, fun y => ?_⟩
          · simp at y
            simp (disch := first | decide | omega) [isb, ck_tt, NP, NF, NC, NB, NS, GS, kdR, tpR hT, b_X12_priceOf_39_b, b_X12_priceOf_132, b_X12_priceOf_128, b_X12_priceOf_133, f4, t1, t2]
          · simp at y
            simp (disch := first | decide | omega) [isb, ck_tt, NP, NF, NC, NB, NS, GS, kdR, tpR hT, b_X12_priceOf_39_b, b_X12_priceOf_132, b_X12_priceOf_128, b_X12_priceOf_133, f4, t1, t2]
        · rw [h] at t1 ⊢
          refine ⟨fun y => ?_, fun y => ?_⟩
          · simp at y
            subst y
            simp (disch := first | decide | omega) [isb, ck_tt, NP, NF, NC, NB, NS, GS, kdR, tpR hT, b_X12_priceOf_39_b, b_X12_priceOf_132, b_X12_priceOf_128, b_X12_priceOf_133, f4, t1, t2]
          · simp at y
            simp (disch := first | decide | omega) [isb, ck_tt, NP, NF, NC, NB, NS, GS, kdR, tpR hT, b_X12_priceOf_39_b, b_X12_priceOf_132, b_X12_priceOf_128, b_X12_priceOf_133, f4, t1, t2]
        · rw [h] at t1 ⊢
          refine ⟨fun y => ?_, fun y => ?_⟩
          · simp at y
            subst y
            simp (disch := first | decide | omega) [isb, ck_tt, NP, NF, NC, NB, NS, GS, kdR, tpR hT, b_X12_priceOf_39_b, b_X12_priceOf_132, b_X12_priceOf_128, b_X12_priceOf_133, f4, t1, t2]
          · simp at y
            simp (disch := first | decide | omega) [isb, ck_tt, NP, NF, NC, NB, NS, GS, kdR, tpR hT, b_X12_priceOf_39_b, b_X12_priceOf_132, b_X12_priceOf_128, b_X12_priceOf_133, f4, t1, t2]
        · rw [h] at t1 ⊢
          refine ⟨fun y => ?_, fun y => ?_⟩
          · simp at y
            subst y
            simp (disch := first | decide | omega) [isb, ck_tt, NP, NF, NC, NB, NS, GS, kdR, tpR hT, b_X12_priceOf_39_b, b_X12_priceOf_132, b_X12_priceOf_128, b_X12_priceOf_133, f4, t1, t2]
          · simp at y
            simp (disch := first | decide | omega) [isb, ck_tt, NP, NF, NC, NB, NS, GS, kdR, tpR hT, b_X12_priceOf_39_b, b_X12_priceOf_132, b_X12_priceOf_128, b_X12_priceOf_133, f4, t1, t2]
      refine ⟨z, fun h => ?_, fun h => ?_⟩
      · rw [one.1 (h c (Nat.le_refl _) q)]
        exact a2 (fun c' y1 y2 => h c' (by omega) y2)
      · by_cases y : cnd (kn c) (cn c) n x d s
        · rw [one.1 y]
          refine a3 (fun h2 => h (fun c' y1 y2 => ?_))
          rcases Nat.eq_or_lt_of_le y1 with e | e
          · rw [← e]; exact y
          · exact h2 c' e y2
        · rw [one.2 y]
          exact a1
    · have e : c = r1 := by omega
      subst e
      clear ih f7
      refine ⟨?_, fun _ => ?_, fun h => absurd (fun c' y1 y2 => by omega) h⟩
      · rw [un]
        simp (disch := first | decide | omega) [isb, ck_tt, NP, NF, NC, NB, NS, GS, kdR, tpR hT, b_X12_priceOf_39_b, b_X12_priceOf_250, f4]
      · rw [un]
        have ec := cap_c (st := st) fu (v := chg sg b p n) (by have := chg_b b6 b7 hp hn; omega)
        rcases b5 with rfl | rfl | rfl | rfl
        · have hpb : p * b ≤ 1000000 * 200 := Nat.mul_le_mul hp (b7 rfl)
          have en := nearN (st := st) fu (a := p * b) (b := 100) (by omega)
          have ech : chg 37 b p n = (2 * (p * b) + 2 * 100 / 2) / (2 * 100) := by simp [chg, Nat.mul_assoc]
          have ec2 : f_X12_capped fu (lN ((2 * (p * b) + 100) / 200)) st = some (lN (cap (chg 37 b p n)), st) := by rw [← ec, ech]
          have ez : (0 ≤ (2 * (p * b) + 100) / 200) = True := eq_true (Nat.zero_le _)
          simp (disch := first | decide | omega) [isb, ck_tt, NP, NF, NC, NB, NS, GS, kdR, tpR hT, b_X12_priceOf_39_b, b_X12_priceOf_230, b_X12_priceOf_245, b_X12_priceOf_250, f4, f1, f2, LF, LC, en, ec2, ez]
        · have ech : chg 43 b p n = p + b := by simp [chg]
          rw [ech] at ec ⊢
          simp (disch := first | decide | omega) [isb, ck_tt, NP, NF, NC, NB, NS, GS, kdR, tpR hT, b_X12_priceOf_39_b, b_X12_priceOf_230, b_X12_priceOf_245, b_X12_priceOf_250, f4, f1, f2, LF, LC, ec]
        · have ech : chg 45 b p n = p - b := by simp [chg]
          rw [ech] at ec ⊢
          rcases Nat.lt_or_ge p b with y | y
          · have ln := lneg (a := p) (b := b) (by omega)
            rw [show p - b = 0 by omega] at ec ⊢
            simp (disch := first | decide | omega) [isb, ck_tt, NP, NF, NC, NB, NS, GS, kdR, tpR hT, b_X12_priceOf_39_b, b_X12_priceOf_230, b_X12_priceOf_245, b_X12_priceOf_250, f4, f1, f2, LF, LC, ec, ln]
          · simp (disch := first | decide | omega) [isb, ck_tt, NP, NF, NC, NB, NS, GS, kdR, tpR hT, b_X12_priceOf_39_b, b_X12_priceOf_230, b_X12_priceOf_245, b_X12_priceOf_250, f4, f1, f2, LF, LC, ec]
        · have hbn : b * n ≤ 99999 * 10 := Nat.mul_le_mul b6 hn
          have ech : chg 64 b p n = b * n := by simp [chg]
          rw [ech] at ec ⊢
          simp (disch := first | decide | omega) [isb, ck_tt, NP, NF, NC, NB, NS, GS, kdR, tpR hT, b_X12_priceOf_39_b, b_X12_priceOf_230, b_X12_priceOf_245, b_X12_priceOf_250, f4, f1, f2, LF, LC, ec]
theorem pr_rl {st : St} (hT : Top st) {fu : Nat} (hf : 4100 ≤ fu) {g : RG} (hg : g.at_ st) {n x d s : Nat} (hn : n ≤ 10) (hx : x ≤ 3) (hd : d ≤ 6) (hs : s ≤ 7) : ∀ (F i p : Nat), i ≤ g.cnt → g.cnt - i < F → p ≤ 1000000 → b_X12_priceOf_18 fu F 153 (nI s) (nI n) (nI x) (nI d) (lN p) (nI i) st = some (lN (g.prf n x d s (g.cnt - i) i p), st) := by
  intro F
  obtain ⟨-, -, -, g4, -, g6, g7⟩ := hg
  induction F with
  | zero => intro i p h1 h2; omega
  | succ F ih =>
    intro i p hi hF hp
    show b_X12_priceOf_18_b fu (b_X12_priceOf_18 fu F) 153 (nI s) (nI n) (nI x) (nI d) (lN p) (nI i) st = _
    rcases Nat.lt_or_ge i g.cnt with q | q
    · obtain ⟨-, ⟨b1, b2, b3, b4, b5, b6, b7⟩, ⟨f1, f2, f3, f4, f5, f6⟩, f7, f8⟩ := g7 i q
      have e0 := ih (i + 1) p (by omega) (by omega) hp
      have e1 := ih (i + 1) (cap (chg (g.sg i) (g.b i) p n)) (by omega) (by omega) (cap_le _)
      obtain ⟨-, c1, c2⟩ := pr_rc hT fu (b_X12_priceOf_18 fu F) (by omega) hn hx hd hs hp b5 b6 b7 f1 f2 f4 f6 f7 fu (g.r0 i) (Nat.le_refl _) f5 (by omega)
      have hiff := f8 n x d s hn hx hd hs
      have st1 : b_X12_priceOf_18_b fu (b_X12_priceOf_18 fu F) 153 (nI s) (nI n) (nI x) (nI d) (lN p) (nI i) st = b_X12_priceOf_39 fu (b_X12_priceOf_18 fu F) fu 153 (nI s) (nI n) (nI x) (nI d) (lN p) (nI i) (nI 1) (nI (g.r0 i)) st := by
        clear ih g7 f7 f8 c1 c2 hiff
        simp (disch := first | decide | omega) [isb, ck_tt, NP, NF, NC, NB, NS, GS, kdR, tpR hT, b_X12_priceOf_18_b, g6, f3]
      rw [st1, show g.cnt - i = g.cnt - (i + 1) + 1 by omega]
      show _ = some (lN (g.prf n x d s (g.cnt - (i + 1)) (i + 1) _), st)
      by_cases y : g.hb n x d s i
      · rw [if_pos y, c1 (hiff.mp y), e1]
      · rw [if_neg y, c2 (fun h => y (hiff.mpr h)), e0]
    · have e : g.cnt - i = 0 := by omega
      rw [e]
      clear ih g7
      simp (disch := first | decide | omega) [isb, ck_tt, NP, NF, NC, NB, NS, GS, kdR, tpR hT, b_X12_priceOf_18_b, g6]
      rfl
theorem price_r {st : St} (hT : Top st) {fu : Nat} (hf : 4100 ≤ fu) {g : RG} (hg : g.at_ st) {j s n x d p : Nat} (hj : j < 60) (hn : n ≤ 10) (hx : x ≤ 3) (hd : d ≤ 6) (hs : s ≤ 7) (hp : p ≤ 99999) (e2 : gI st 224 j = nI s) (e3 : gI st 222 j = nI n) (e4 : gI st 225 j = nI x) (e5 : gI st 226 j = nI d) (e6 : gI st 214 s = nI p) : f_X12_priceOfHold fu 153 (nI j) st = some (nI (g.prf n x d s g.cnt 0 (cap (n * p))), st) := by
  have hnp : n * p ≤ 10 * 99999 := Nat.mul_le_mul hn hp
  have em := cap_c (st := st) fu (v := n * p) (by omega)
  have hc := hg.2.2.2.1
  have el := pr_rl hT hf hg hn hx hd hs fu 0 (cap (n * p)) (by omega) (by omega) (cap_le _)
  rw [Nat.sub_zero] at el
  simp (disch := first | decide | omega) [isb, ck_tt, NP, NF, NC, NB, NS, GS, kdR, tpR hT, f_X12_priceOfHold, e2, e3, e4, e5, e6, f_X12_priceOf, em, el, LF]
