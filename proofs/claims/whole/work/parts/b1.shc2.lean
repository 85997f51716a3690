/-! PURE: shares: the text, in the class: the parties -/
def mk3 (s0 s1 s2 : Bool) : Nat := s0.toNat + 2 * s1.toNat + 4 * s2.toNat
abbrev mS (S : Nat → Bool) : Nat := mk3 (S 0) (S 1) (S 2)
abbrev nS (S : Nat → Bool) : Nat := (S 0).toNat + (S 1).toNat + (S 2).toNat
def sB1 (S : Nat → Bool) (p : Nat) : Nat → Bool := fun x => if x = p then true else S x
theorem mk3_le : ∀ s0 s1 s2 : Bool, mk3 s0 s1 s2 ≤ 7 := by decide
theorem mS_bit (S : Nat → Bool) {p : Nat} (hp : p ≤ 2) : mS S / 2 ^ p % 2 = (S p).toNat := by
  have h : ∀ s0 s1 s2 : Bool, mk3 s0 s1 s2 / 2 ^ 0 % 2 = s0.toNat ∧ mk3 s0 s1 s2 / 2 ^ 1 % 2 = s1.toNat ∧ mk3 s0 s1 s2 / 2 ^ 2 % 2 = s2.toNat := by decide
  have : p = 0 ∨ p = 1 ∨ p = 2 := by omega
  obtain ⟨a, b, c⟩ := h (S 0) (S 1) (S 2)
  rcases this with rfl | rfl | rfl
  · exact a
  · exact b
  · exact c
theorem mS_or (S : Nat → Bool) {p : Nat} (hp : p ≤ 2) : nI (mS S) ||| (nI 1 <<< (nI p &&& nI 31)) = nI (mS (sB1 S p)) := by
  have h : ∀ s0 s1 s2 : Bool, (nI (mk3 s0 s1 s2) ||| (nI 1 <<< (nI 0 &&& nI 31)) = nI (mk3 true s1 s2)) ∧ (nI (mk3 s0 s1 s2) ||| (nI 1 <<< (nI 1 &&& nI 31)) = nI (mk3 s0 true s2)) ∧ (nI (mk3 s0 s1 s2) ||| (nI 1 <<< (nI 2 &&& nI 31)) = nI (mk3 s0 s1 true)) := by decide +kernel
  have : p = 0 ∨ p = 1 ∨ p = 2 := by omega
  obtain ⟨a, b, c⟩ := h (S 0) (S 1) (S 2)
  rcases this with rfl | rfl | rfl
  · exact a
  · exact b
  · exact c
theorem nS_s (S : Nat → Bool) {p : Nat} (hp : p ≤ 2) (h : S p = false) : nS (sB1 S p) = nS S + 1 := by
  have : p = 0 ∨ p = 1 ∨ p = 2 := by omega
  rcases this with rfl | rfl | rfl
  · show true.toNat + (S 1).toNat + (S 2).toNat = (S 0).toNat + (S 1).toNat + (S 2).toNat + 1
    rw [h]; simp; omega
  · show (S 0).toNat + true.toNat + (S 2).toNat = (S 0).toNat + (S 1).toNat + (S 2).toNat + 1
    rw [h]; simp; omega
  · show (S 0).toNat + (S 1).toNat + true.toNat = (S 0).toNat + (S 1).toNat + (S 2).toNat + 1
    rw [h]; simp
theorem nS_le (S : Nat → Bool) : nS S ≤ 3 := by
  have h : ∀ x : Bool, x.toNat ≤ 1 := by decide
  have := h (S 0)
  have := h (S 1)
  have := h (S 2)
  show (S 0).toNat + (S 1).toNat + (S 2).toNat ≤ 3
  omega
theorem bc_c {st : St} (fu : Nat) (S : Nat → Bool) : f_J6_bitCount_0f7a4 fu (nI (mS S)) st = some (nI (nS S), st) := by
  have e : ∀ s0 s1 s2 : Bool, f_J6_bitCount_0f7a4 0 (nI (mk3 s0 s1 s2)) st0 = some (nI (s0.toNat + s1.toNat + s2.toNat), st0) := by
    intro s0 s1 s2
    cases s0 <;> cases s1 <;> cases s2 <;> exact congrArg (fun x => some (x, st0)) (by decide +kernel)
  have f : ∀ x (s : St), f_J6_bitCount_0f7a4 fu x s = (f_J6_bitCount_0f7a4 0 x st0).map (fun r => (r.1, s)) := fun _ _ => rfl
  rw [f, e]
  rfl
def En1 (b : BY) (n t : Nat) (S : Nat → Bool) : Prop := so b n t = 2 ∧ nvt b n t ≤ 2 ∧ S (nvt b n t) = false ∧ so b n (t + 1) = 58
/-- at most j parties more -/
def EnOK (b : BY) (n : Nat) : Nat → (Nat → Bool) → Nat → (Nat → Nat) → (Nat → Bool) → (Nat → Nat) → Prop
  | 0, _, _, _, _, _ => False
  | j + 1, S, t, A, S', A' => (so b n t = 0 ∧ S' = S ∧ A' = A) ∨ ∃ t1 A1, En1 b n t S ∧ TsOK b n (5 * nvt b n t) 4 (t + 2) t1 A A1 ∧ so b n t1 = 59 ∧ EnOK b n j (sB1 S (nvt b n t)) (t1 + 1) A1 S' A'
def EnBad (b : BY) (n : Nat) : Nat → (Nat → Bool) → Nat → (Nat → Nat) → Nat → Nat → Prop
  | 0, _, _, _, _, _ => False
  | j + 1, S, t, A, f, p => so b n t ≠ 0 ∧ ((so b n t ≠ 2 ∧ f = 1 ∧ p = pl b n t) ∨ (so b n t = 2 ∧ 2 < nvt b n t ∧ f = 2 ∧ p = pl b n t) ∨ (so b n t = 2 ∧ nvt b n t ≤ 2 ∧ S (nvt b n t) = true ∧ f = 3 ∧ p = pl b n t) ∨ (so b n t = 2 ∧ nvt b n t ≤ 2 ∧ S (nvt b n t) = false ∧ so b n (t + 1) ≠ 58 ∧ f = 1 ∧ p = pl b n (t + 1)) ∨ (En1 b n t S ∧ TsBad b n 4 (t + 2) f p) ∨ (∃ t1 A1, En1 b n t S ∧ TsOK b n (5 * nvt b n t) 4 (t + 2) t1 A A1 ∧ so b n t1 ≠ 59 ∧ f = 1 ∧ p = pl b n t1) ∨ (∃ t1 A1, En1 b n t S ∧ TsOK b n (5 * nvt b n t) 4 (t + 2) t1 A A1 ∧ so b n t1 = 59 ∧ EnBad b n j (sB1 S (nvt b n t)) (t1 + 1) A1 f p))
/-- no entry of the parties that are not named; no more than four terms -/
def ABd (S : Nat → Bool) (A : Nat → Nat) : Prop := ∀ x, x < 15 → (S (x / 5) = false → A x = 0) ∧ A x ≤ 400000 ∧ (x % 5 ≠ 4 → A x ≤ 400)
theorem TsOK_b {b : BY} {n B : Nat} (hB : B = 0 ∨ B = 5 ∨ B = 10) : ∀ (j t t' : Nat) (A A' : Nat → Nat), TsOK b n B j t t' A A' → ∀ x, (x < B ∨ B + 5 ≤ x → A' x = A x) ∧ A' x ≤ A x + 100000 * j ∧ (x % 5 ≠ 4 → A' x ≤ A x + 100 * j)
  | 0, _, _, _, _, h, _ => h.elim
  | j + 1, t, t', A, A', h, x => by
    obtain ⟨t1, k, v, -, k4, v9, v1, h⟩ := h
    have e : ∀ y, ad A (B + k) v y = if y = B + k then A y + v else A y := fun _ => rfl
    have hx := e x
    rcases h with ⟨-, -, rfl⟩ | ⟨-, h⟩
    · by_cases q : x = B + k
      · rw [if_pos q] at hx
        have : x % 5 ≠ 4 → k ≠ 4 := by omega
        refine ⟨fun _ => by omega, by omega, fun z => ?_⟩
        have := v1 (this z)
        omega
      · rw [if_neg q] at hx
        exact ⟨fun _ => hx, by omega, fun _ => by omega⟩
    · obtain ⟨a, c, d⟩ := TsOK_b hB j _ _ _ _ h x
      by_cases q : x = B + k
      · rw [if_pos q] at hx
        have : x % 5 ≠ 4 → k ≠ 4 := by omega
        refine ⟨fun _ => by omega, by omega, fun z => ?_⟩
        have := v1 (this z)
        have := d z
        omega
      · rw [if_neg q] at hx
        exact ⟨fun z => by rw [a z]; exact hx, by omega, fun z => by have := d z; omega⟩
theorem ABd_s {b : BY} {n p t t' : Nat} {S : Nat → Bool} {A A' : Nat → Nat} (hp : p ≤ 2) (hA : ABd S A) (hS : S p = false) (h : TsOK b n (5 * p) 4 t t' A A') : ABd (sB1 S p) A' := fun x hx => by
  obtain ⟨a, c, d⟩ := TsOK_b (by omega) 4 _ _ _ _ h x
  obtain ⟨e1, e2, e3⟩ := hA x hx
  by_cases q : x / 5 = p
  · have z := e1 (by rw [q]; exact hS)
    refine ⟨fun y => ?_, by omega, fun y => by have := d y; omega⟩
    unfold sB1 at y
    rw [if_pos q] at y
    exact absurd y (by decide)
  · have z := a (by omega)
    rw [z]
    refine ⟨fun y => e1 ?_, e2, e3⟩
    unfold sB1 at y
    rw [if_neg q] at y
    exact y
/-- the places that the call may change, in the class -/
def WQ (q : Nat) : List PL := WS q ++ [(134, some 0), (134, some 1), (134, some 2)]
theorem WQ_s {q : Nat} {a b : St} (h : Fr (WS q) a b) : Fr (WQ q) a b := h.wd (by simp [within', WQ, WS])
theorem WQ_t {q : Nat} {a b c : St} (h1 : Fr (WQ q) a b) (h2 : Fr (WQ q) b c) : Fr (WQ q) a c := (h1.tr h2).wd (by simp [within', WQ, WS])
theorem sh_end_d {s : St} (hT : Top s) {b : BY} {n f p : Nat} (h : TD b n 4000 f p s) (fu F : Nat) (M i : Nat) (hi : i ≤ 4) : b_X5_read_19 fu (F + 1) 134 2 (nI M) (nI i) s = some s := by
  have c2 := h.2.2.2.2.2.2
  have c8 := h.2.1
  have f1 := h.2.2.1
  have f3 := h.2.2.2.1
  show b_X5_read_19_b fu (b_X5_read_19 fu F) 134 2 (nI M) (nI i) s = some s
  clear h
  by_cases e : i = 4
  · subst e
    simp (disch := first | decide | omega) [isb, ck_tt, NP, NF, NC, NB, NS, GS, kdC, tpC hT, b_X5_read_19_b, b_X5_read_102, b_X5_read_135, c8]
  · simp (disch := first | decide | omega) [isb, ck_tt, NP, NF, NC, NB, NS, GS, kdC, tpC hT, b_X5_read_19_b, b_X5_read_102, b_X5_read_135, c8, c2]
/-- from a dead tape to the end -/
theorem sh68_d {s : St} (hT : Top s) {b : BY} {n f p : Nat} (h : TD b n 4000 f p s) {fu : Nat} (hf : 4100 ≤ fu) {q : Nat} (hq : gR s 134 1 = q) (hq2 : q = 135 ∨ q = 136) (F : Nat) (S : Nat → Bool) {i p' : Nat} (hi : i ≤ 3) (hp : p' ≤ 2) : ∃ u, b_X5_read_68 fu (b_X5_read_19 fu (F + 1)) 134 2 (nI (mS S)) (nI i) (nI p') s = some u ∧ Top u ∧ Fr (WS q) s u ∧ TD b n 4000 f p u := by
  obtain ⟨s1, u1, fr1, hT1, hD1⟩ := need_d hT h fu (nI 58)
  have q1 : gR s1 134 1 = q := by rw [(fr1 134 1 (by decide)).2.2]; exact hq
  obtain ⟨G, hG⟩ : ∃ G, fu = G + 1 := ⟨fu - 1, by omega⟩
  obtain ⟨s2, u2, hT2, fr2, hD2⟩ := readTerms_d hT1 hD1 (fu := fu) q1 hq2 (B := 5 * p') (by omega) G (i := 0) (by omega)
  have u2' : f_X5_readTerms fu 134 2 (nI (5 * p')) s1 = some s2 := by
    show b_X5_readTerms_2 fu fu 134 2 (nI (5 * p')) (nI 0) s1 = some s2
    rw [show b_X5_readTerms_2 fu fu = b_X5_readTerms_2 fu (G + 1) by rw [← hG]]
    exact u2
  obtain ⟨s3, u3, fr3, hT3, hD3⟩ := need_d hT2 hD2 fu (nI 59)
  have en := sh_end_d hT3 hD3 fu F (mS (sB1 S p')) (i + 1) (by omega)
  have mo := mS_or S hp
  have m5 : p' * 5 = 5 * p' := Nat.mul_comm _ _
  refine ⟨s3, ?_, hT3, WS_t (WS_w fr1) (WS_t fr2 (WS_w fr3)), hD3⟩
  clear h hD1 hD2 hD3 fr1 fr2 fr3 u2
  simp (disch := first | decide | omega) [isb, ck_tt, NP, NF, NC, NB, NS, GS, kdC, tpC hT, b_X5_read_68, mo, u1, m5, u2', u3, en]
