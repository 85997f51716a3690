/-! PURE: prices -/
theorem bitN {M x : Nat} (h : M < 2147483648 ∧ x ≤ 7) : ((nI M) >>> (nI x &&& nI 31)) &&& nI 1 = nI (M / 2 ^ x % 2) := by
  have h7 : x = 0 ∨ x = 1 ∨ x = 2 ∨ x = 3 ∨ x = 4 ∨ x = 5 ∨ x = 6 ∨ x = 7 := by omega
  have hM := h.1
  have q : ∀ (s : Int32) (k : Nat), (s.toBitVec.smod 32).toNat = k → (nI M >>> s) &&& nI 1 = nI (M / 2 ^ k % 2) := fun s k hs => by
    rw [pk_shrN (by omega) s k hs, pk_andN (m := nI 1) (Nat.lt_of_le_of_lt (Nat.div_le_self _ _) (by omega)) 1 (by decide +kernel)]
  rcases h7 with rfl | rfl | rfl | rfl | rfl | rfl | rfl | rfl <;> exact q _ _ (by decide +kernel)
theorem nearN {st : St} (fu : Nat) {a b : Nat} (h : a ≤ 1000000000000 ∧ 0 < b ∧ b ≤ 1000000000) : f_X12_nearest fu (lN a) (lN b) st = some (lN ((2 * a + b) / (2 * b)), st) := by
  have := nearL (st := st) fu (a := (a : Int)) (b := (b : Int)) (by omega) (by omega)
  rw [← lN_z (by omega), ← lN_z (by omega)] at this
  rw [this]
  have e : (2 * (a : Int) + b) / (2 * b) = (((2 * a + b) / (2 * b) : Nat) : Int) := by
    rw [Int.natCast_ediv]
    congr 1
  rw [e, ← lN_z]
  exact Nat.lt_of_le_of_lt (Nat.div_le_self _ _) (by omega)
theorem lneg {a b : Nat} (h : a < b ∧ b < 9223372036854775808) : (lN 0 ≤ lN a - lN b) = False := by
  apply eq_false
  intro q
  rw [Int64.le_iff_toInt_le, lN_z (n := a) (by omega), lN_z (n := b) (by omega), zL_sub, zL_t (by omega), lN_t (by omega)] at q
  omega
theorem lpos {a b : Nat} (h : b ≤ a ∧ a < 9223372036854775808) : (lN 0 ≤ lN (a - b)) = True := by
  apply eq_true
  rw [Int64.le_iff_toInt_le, lN_t (by omega), lN_t (by omega)]
  omega
def cnd (t v n x d s : Nat) : Prop := if t = 1 then v ≤ n else if t = 2 then x = v else if t = 3 then d = v else s = v
def chg (sg b p n : Nat) : Nat := if sg = 37 then (2 * p * b + 100) / 200 else if sg = 43 then p + b else if sg = 45 then p - b else b * n
def cap (v : Nat) : Nat := if v ≤ 1000000 then v else 1000000
def RUL (st : St) (o i L K D S sg b r0 r1 : Nat) (kn cn : Nat → Nat) : Prop := (gI st o (6 * i) = nI L ∧ gI st o (6 * i + 1) = nI K ∧ gI st o (6 * i + 2) = nI D ∧ gI st o (6 * i + 3) = nI S ∧ gI st o (6 * i + 4) = nI sg ∧ gI st o (6 * i + 5) = nI b) ∧ (L ≤ 10 ∧ K ≤ 15 ∧ D ≤ 127 ∧ S ≤ 255 ∧ (sg = 37 ∨ sg = 43 ∨ sg = 45 ∨ sg = 64) ∧ b ≤ 99999 ∧ (sg = 37 → b ≤ 200)) ∧ (gI st 234 i = nI sg ∧ gI st 235 i = nI b ∧ gI st 233 i = nI r0 ∧ gI st 233 (i + 1) = nI r1 ∧ r0 ≤ r1 ∧ r1 ≤ 4000) ∧ (∀ c, r0 ≤ c → c < r1 → gI st 236 c = nI (kn c) ∧ gI st 237 c = nI (cn c) ∧ 1 ≤ kn c ∧ kn c ≤ 4 ∧ cn c ≤ 10) ∧ ∀ n x d s, n ≤ 10 → x ≤ 3 → d ≤ 6 → s ≤ 7 → ((L ≤ n ∧ K / 2 ^ x % 2 = 1 ∧ D / 2 ^ d % 2 = 1 ∧ S / 2 ^ s % 2 = 1) ↔ ∀ c, r0 ≤ c → c < r1 → cnd (kn c) (cn c) n x d s)
abbrev RG : Type := Nat × Nat × Nat × (Nat → Nat) × (Nat → Nat) × (Nat → Nat) × (Nat → Nat) × (Nat → Nat) × (Nat → Nat) × (Nat → Nat) × (Nat → Nat) × (Nat → Nat) × (Nat → Nat)
def RG.o (g : RG) : Nat := g.1
def RG.q (g : RG) : Nat := g.2.1
def RG.cnt (g : RG) : Nat := g.2.2.1
def RG.L (g : RG) : Nat → Nat := g.2.2.2.1
def RG.K (g : RG) : Nat → Nat := g.2.2.2.2.1
def RG.D (g : RG) : Nat → Nat := g.2.2.2.2.2.1
def RG.S (g : RG) : Nat → Nat := g.2.2.2.2.2.2.1
def RG.sg (g : RG) : Nat → Nat := g.2.2.2.2.2.2.2.1
def RG.b (g : RG) : Nat → Nat := g.2.2.2.2.2.2.2.2.1
def RG.r0 (g : RG) : Nat → Nat := g.2.2.2.2.2.2.2.2.2.1
def RG.r1 (g : RG) : Nat → Nat := g.2.2.2.2.2.2.2.2.2.2.1
def RG.kn (g : RG) : Nat → Nat := g.2.2.2.2.2.2.2.2.2.2.2.1
def RG.cn (g : RG) : Nat → Nat := g.2.2.2.2.2.2.2.2.2.2.2.2
def RG.at_ (g : RG) (st : St) : Prop := gR st 121 0 = g.o ∧ gR st 121 1 = g.q ∧ ((g.o = 122 ∧ g.q = 123) ∨ (g.o = 123 ∧ g.q = 122)) ∧ g.cnt ≤ 20 ∧ gI st 121 2 = nI g.cnt ∧ gI st 153 94 = nI g.cnt ∧ ∀ i, i < g.cnt → RUL st g.o i (g.L i) (g.K i) (g.D i) (g.S i) (g.sg i) (g.b i) (g.r0 i) (g.r1 i) g.kn g.cn
def P_rul (st : St) : Prop := ∃ g : RG, g.at_ st
def S_rul : List PL := [(121, none), (122, none), (123, none), (153, some 94), (233, none), (234, none), (235, none), (236, none), (237, none)]
theorem RG.fr {g : RG} {st u : St} (h : g.at_ st) (hs : Same S_rul st u) : g.at_ u := by
  obtain ⟨h1, h2, h3, h4, h5, h6, h7⟩ := h
  have eo : gI u g.o = gI st g.o := by
    rcases h3 with ⟨e, -⟩ | ⟨e, -⟩
    · rw [e]; exact hs.fi (by decide)
    · rw [e]; exact hs.fi (by decide)
  refine ⟨?_, ?_, h3, h4, ?_, ?_, ?_⟩
  · rw [hs.r (by decide)]; exact h1
  · rw [hs.r (by decide)]; exact h2
  · rw [hs.i (by decide)]; exact h5
  · rw [hs.i (by decide)]; exact h6
  · unfold RUL
    rw [eo, hs.fi (o := 233) (by decide), hs.fi (o := 234) (by decide), hs.fi (o := 235) (by decide), hs.fi (o := 236) (by decide), hs.fi (o := 237) (by decide)]
    exact h7
theorem P_rul.fr {st u : St} (h : P_rul st) (hs : Same S_rul st u) : P_rul u := by
  obtain ⟨g, h⟩ := h
  exact ⟨g, RG.fr h hs⟩
theorem cap_le (v : Nat) : cap v ≤ 1000000 := by
  unfold cap
  by_cases q : v ≤ 1000000
  · rw [if_pos q]; exact q
  · rw [if_neg q]; omega
theorem cap_c {st : St} (fu : Nat) {v : Nat} (h : v < 1000000000000) : f_X12_capped fu (lN v) st = some (lN (cap v), st) := by
  unfold cap
  by_cases q : v ≤ 1000000
  · simp (disch := omega) [f_X12_capped, b_X12_capped_15, NF, LF, LC, q]
  · simp (disch := omega) [f_X12_capped, b_X12_capped_15, NF, LF, LC, q]
theorem mn_c {st : St} (fu : Nat) {v : Nat} (hv : v < 2147483648) : f_J9_min_7cf53 fu (nI 1000000) (nI v) st = some (nI (cap v), st) := by
  unfold cap
  by_cases q : v ≤ 1000000
  · rcases Nat.lt_or_ge v 1000000 with q2 | q2
    · simp (disch := omega) [f_J9_min_7cf53, b_J9_min_7cf53_10, NF, NC, q]
    · have : v = 1000000 := by omega
      subst this
      simp (disch := omega) [f_J9_min_7cf53, b_J9_min_7cf53_10, NF, NC]
  · simp (disch := omega) [f_J9_min_7cf53, b_J9_min_7cf53_10, NF, NC, q]
theorem chg_b {sg b p n : Nat} (hb : b ≤ 99999) (h2 : sg = 37 → b ≤ 200) (hp : p ≤ 1000000) (hn : n ≤ 10) : chg sg b p n < 2147483648 := by
  unfold chg
  by_cases h : sg = 37
  · have hpb : 2 * p * b ≤ 2 * 1000000 * 200 := Nat.mul_le_mul (by omega) (h2 h)
    rw [if_pos h]; omega
  · have hbn : b * n ≤ 99999 * 10 := Nat.mul_le_mul hb hn
    rw [if_neg h]
    by_cases h43 : sg = 43
    · rw [if_pos h43]; omega
    · rw [if_neg h43]
      by_cases h45 : sg = 45
      · rw [if_pos h45]; omega
      · rw [if_neg h45]; omega
theorem chg_c {st : St} (fu : Nat) {sg b p n : Nat} (hs : sg = 37 ∨ sg = 43 ∨ sg = 45 ∨ sg = 64) (hb : b ≤ 99999) (h2 : sg = 37 → b ≤ 200) (hp : p ≤ 1000000) (hn : n ≤ 10) : f_X6_changed fu (nI p) (nI sg) (nI b) (nI n) st = some (nI (chg sg b p n), st) := by
  rcases hs with rfl | rfl | rfl | rfl
  · have hb2 := h2 rfl
    have hpb : 2 * p * b ≤ 2 * 1000000 * 200 := Nat.mul_le_mul (by omega) hb2
    simp (disch := omega) [f_X6_changed, NF, NC, ck_tt, chg]
  · simp (disch := omega) [f_X6_changed, NF, NC, ck_tt, chg]
  · rcases Nat.lt_or_ge p b with q | q
    · have hn := pk_sneg (a := p) (b := b) (by omega) q
      have hn2 : ¬ (nI 0 < nI p - nI b) := nlt_of_le (by rw [i32_le]; rw [i32_lt] at hn; exact Int.le_of_lt hn)
      have e : p - b = 0 := by omega
      simp (disch := omega) [f_X6_changed, NF, NC, ck_tt, f_J9_max_7cf53, b_J9_max_7cf53_10, hn2, NP, chg, e]
    · rcases Nat.eq_zero_or_pos (p - b) with z | z
      · have : p = b := by omega
        subst this
        simp (disch := omega) [f_X6_changed, NF, NC, ck_tt, f_J9_max_7cf53, b_J9_max_7cf53_10, NP, chg]
      · simp (disch := omega) [f_X6_changed, NF, NC, ck_tt, f_J9_max_7cf53, b_J9_max_7cf53_10, NP, chg]
  · have hbn : b * n ≤ 99999 * 10 := Nat.mul_le_mul hb hn
    simp (disch := omega) [f_X6_changed, NF, NC, ck_tt, chg]
