/-! PURE: prices -/
theorem bitN {M x : Nat} (h : M < 2147483648 ∧ x ≤ 7) : ((nI M) >>> (nI x &&& nI 31)) &&& nI 1 = nI (M / 2 ^ x % 2) := by
  have h7 : x = 0 ∨ x = 1 ∨ x = 2 ∨ x = 3 ∨ x = 4 ∨ x = 5 ∨ x = 6 ∨ x = 7 := by omega
  have hM := h.1
  have q : ∀ (s : Int32) (k : Nat), (s.toBitVec.smod 32).toNat = k → (nI M >>> s) &&& nI 1 = nI (M / 2 ^ k % 2) := fun s k hs => by
    rw [pk_shrN (by omega) s k hs, pk_andN (m := nI 1) (Nat.lt_of_le_of_lt (Nat.div_le_self _ _) (by omega)) 1 (by decide +kernel)]
  rcases h7 with rfl | rfl | rfl | rfl | rfl | rfl | rfl | rfl <;> exact q _ _ (by decide +kernel)
theorem nearN {st : St} (fu : Nat) {a b : Nat} (h : a ≤ 1000000000000 ∧ 0 < b ∧ b ≤ 1000000000) : f_X12_nearest fu (lN a) (lN b) st = some (lN ((2 * a + b) / (2 * b)), st) := by
  have := nearL (st := st) fu (a := (a : Int)) (b := (b : Int)) (by omega) (by omega)
  rw [← lN_z (by omega), ← lN_z (by omega)] at this
  rw [this]
  have e : (2 * (a : Int) + b) / (2 * b) = (((2 * a + b) / (2 * b) : Nat) : Int) := by
    rw [Int.natCast_ediv]
    congr 1
  rw [e, ← lN_z]
  exact Nat.lt_of_le_of_lt (Nat.div_le_self _ _) (by omega)
theorem lneg {a b : Nat} (h : a < b ∧ b < 9223372036854775808) : (lN 0 ≤ lN a - lN b) = False := by
  apply eq_false
  intro q
  rw [Int64.le_iff_toInt_le, lN_z (n := a) (by omega), lN_z (n := b) (by omega), zL_sub, zL_t (by omega), lN_t (by omega)] at q
  omega
theorem lpos {a b : Nat} (h : b ≤ a ∧ a < 9223372036854775808) : (lN 0 ≤ lN (a - b)) = True := by
  apply eq_true
  rw [Int64.le_iff_toInt_le, lN_t (by omega), lN_t (by omega)]
  omega
def cnd (t v n x d s : Nat) : Prop := if t = 1 then v ≤ n else if t = 2 then x = v else if t = 3 then d = v else s = v
def chg (sg b p n : Nat) : Nat := if sg = 37 then (2 * p * b + 100) / 200 else if sg = 43 then p + b else if sg = 45 then p - b else b * n
def cap (v : Nat) : Nat := if v ≤ 1000000 then v else 1000000
def RL (st : St) (o i L K D S sg b r0 r1 : Nat) (ck cn : Nat → Nat) : Prop := (gI st o (6 * i) = nI L ∧ gI st o (6 * i + 1) = nI K ∧ gI st o (6 * i + 2) = nI D ∧ gI st o (6 * i + 3) = nI S ∧ gI st o (6 * i + 4) = nI sg ∧ gI st o (6 * i + 5) = nI b) ∧ (L ≤ 10 ∧ K ≤ 15 ∧ D ≤ 127 ∧ S ≤ 255 ∧ (sg = 37 ∨ sg = 43 ∨ sg = 45 ∨ sg = 64) ∧ b ≤ 99999 ∧ (sg = 37 → b ≤ 200)) ∧ (gI st 234 i = nI sg ∧ gI st 235 i = nI b ∧ gI st 233 i = nI r0 ∧ gI st 233 (i + 1) = nI r1 ∧ r0 ≤ r1 ∧ r1 ≤ 4000) ∧ (∀ c, r0 ≤ c → c < r1 → gI st 236 c = nI (ck c) ∧ gI st 237 c = nI (cn c) ∧ 1 ≤ ck c ∧ ck c ≤ 4 ∧ cn c ≤ 10) ∧ ∀ n x d s, n ≤ 10 → x ≤ 3 → d ≤ 6 → s ≤ 7 → ((L ≤ n ∧ K / 2 ^ x % 2 = 1 ∧ D / 2 ^ d % 2 = 1 ∧ S / 2 ^ s % 2 = 1) ↔ ∀ c, r0 ≤ c → c < r1 → cnd (ck c) (cn c) n x d s)
def P_rul (st : St) : Prop := ∃ (o q cnt : Nat) (L K D S sg b r0 r1 : Nat → Nat) (ck cn : Nat → Nat), gR st 121 0 = o ∧ gR st 121 1 = q ∧ ((o = 122 ∧ q = 123) ∨ (o = 123 ∧ q = 122)) ∧ cnt ≤ 20 ∧ gI st 121 2 = nI cnt ∧ gI st 153 94 = nI cnt ∧ ∀ i, i < cnt → RL st o i (L i) (K i) (D i) (S i) (sg i) (b i) (r0 i) (r1 i) ck cn
def S_rul : List PL := [(121, none), (122, none), (123, none), (153, some 94), (233, none), (234, none), (235, none), (236, none), (237, none)]
theorem P_rul.fr {st u : St} (h : P_rul st) (hs : Same S_rul st u) : P_rul u := by
  obtain ⟨o, q, cnt, L, K, D, S, sg, b, r0, r1, ck, cn, h1, h2, h3, h4, h5, h6, h7⟩ := h
  have eo : gI u o = gI st o := by
    rcases h3 with ⟨rfl, -⟩ | ⟨rfl, -⟩
    · exact hs.fi (by decide)
    · exact hs.fi (by decide)
  refine ⟨o, q, cnt, L, K, D, S, sg, b, r0, r1, ck, cn, ?_, ?_, h3, h4, ?_, ?_, ?_⟩
  · rw [hs.r (by decide)]; exact h1
  · rw [hs.r (by decide)]; exact h2
  · rw [hs.i (by decide)]; exact h5
  · rw [hs.i (by decide)]; exact h6
  · unfold RL
    rw [eo, hs.fi (o := 233) (by decide), hs.fi (o := 234) (by decide), hs.fi (o := 235) (by decide), hs.fi (o := 236) (by decide), hs.fi (o := 237) (by decide)]
    exact h7
theorem cap_c {st : St} (fu : Nat) {v : Nat} (h : v < 1000000000000) : f_X12_capped fu (lN v) st = some (lN (cap v), st) := by
  unfold cap
  by_cases q : v ≤ 1000000
  · simp (disch := omega) [f_X12_capped, b_X12_capped_15, NF, LF, LC, q]
  · simp (disch := omega) [f_X12_capped, b_X12_capped_15, NF, LF, LC, q]
theorem chg_c {st : St} (fu : Nat) {sg b p n : Nat} (hs : sg = 37 ∨ sg = 43 ∨ sg = 45 ∨ sg = 64) (hb : b ≤ 99999) (h2 : sg = 37 → b ≤ 200) (hp : p ≤ 1000000) (hn : n ≤ 10) : ca (f_X6_changed fu (nI p) (nI sg) (nI b) (nI n) st) (fun r s => f_J9_min_7cf53 fu 1000000 r s) = some (nI (cap (chg sg b p n)), st) := by
  have mn : ∀ v : Nat, v < 2147483648 → f_J9_min_7cf53 fu 1000000 (nI v) st = some (nI (cap v), st) := fun v hv => by
    unfold cap
    by_cases q : v ≤ 1000000
    · rcases Nat.lt_or_ge v 1000000 with q2 | q2
      · simp (disch := omega) [f_J9_min_7cf53, b_J9_min_7cf53_10, NF, NC, q]
      · have : v = 1000000 := by omega
        subst this
        simp (disch := omega) [f_J9_min_7cf53, b_J9_min_7cf53_10, NF, NC]
    · simp (disch := omega) [f_J9_min_7cf53, b_J9_min_7cf53_10, NF, NC, q]
  rcases hs with rfl | rfl | rfl | rfl
  · have hb2 := h2 rfl
    have hpb : 2 * p * b ≤ 2 * 1000000 * 200 := Nat.mul_le_mul (by omega) hb2
    have e : f_X6_changed fu (nI p) (nI 37) (nI b) (nI n) st = some (nI ((2 * p * b + 100) / 200), st) := by
      simp (disch := omega) [f_X6_changed, NF, NC, ck_tt]
    rw [e, ca_s, mn _ (by omega)]
    simp [chg]
  · have e : f_X6_changed fu (nI p) (nI 43) (nI b) (nI n) st = some (nI (p + b), st) := by
      simp (disch := omega) [f_X6_changed, NF, NC, ck_tt]
    rw [e, ca_s, mn _ (by omega)]
    simp [chg]
  · have e : f_X6_changed fu (nI p) (nI 45) (nI b) (nI n) st = some (nI (p - b), st) := by
      rcases Nat.lt_or_ge p b with q | q
      · have hn := pk_sneg (a := p) (b := b) (by omega) q
        have hn2 : ¬ (nI 0 < nI p - nI b) := nlt_of_le (by rw [i32_le]; rw [i32_lt] at hn; exact Int.le_of_lt hn)
        rw [show p - b = 0 by omega]
        simp (disch := omega) [f_X6_changed, NF, NC, ck_tt, f_J9_max_7cf53, b_J9_max_7cf53_10, hn2, NP]
      · rcases Nat.eq_zero_or_pos (p - b) with z | z
        · have : p = b := by omega
          subst this
          simp (disch := omega) [f_X6_changed, NF, NC, ck_tt, f_J9_max_7cf53, b_J9_max_7cf53_10, NP]
        · simp (disch := omega) [f_X6_changed, NF, NC, ck_tt, f_J9_max_7cf53, b_J9_max_7cf53_10, NP]
    rw [e, ca_s, mn _ (by omega)]
    simp [chg]
  · have hbn : b * n ≤ 99999 * 10 := Nat.mul_le_mul hb hn
    have e : f_X6_changed fu (nI p) (nI 64) (nI b) (nI n) st = some (nI (b * n), st) := by
      simp (disch := omega) [f_X6_changed, NF, NC, ck_tt]
    rw [e, ca_s, mn _ (by omega)]
    simp [chg]
