/-! PURE: the text of a lock: class -/
theorem ixN {s : Nat} (h : s < 2147483648) : ix (nI s) = s := ix_nI h
theorem nI_shl (a : Nat) (b : Int32) {s : Nat} (hb : (b.toBitVec.smod 32).toNat = s) : nI a <<< b = nI (a * 2 ^ s) := by
  apply Int32.toBitVec_inj.mp
  rw [Int32.toBitVec_shiftLeft]
  apply BitVec.eq_of_toNat_eq
  have e : ∀ n, (nI n).toBitVec.toNat = n % 2 ^ 32 := fun n => by
    show (BitVec.ofNat 32 n).toNat = _
    exact BitVec.toNat_ofNat n 32
  rw [BitVec.shiftLeft_eq', BitVec.toNat_shiftLeft, hb, e, e, Nat.shiftLeft_eq, Nat.mod_mul_mod]
theorem nI_orN (a b : Nat) : nI a ||| nI b = nI (a ||| b) := by
  apply Int32.toBitVec_inj.mp
  rw [Int32.toBitVec_or]
  apply BitVec.eq_of_toNat_eq
  have e : ∀ n, (nI n).toBitVec.toNat = n % 2 ^ 32 := fun n => by
    show (BitVec.ofNat 32 n).toNat = _
    exact BitVec.toNat_ofNat n 32
  rw [BitVec.toNat_or, e, e, e, Nat.or_mod_two_pow]
theorem code_v {k a v : Nat} (hk : k < 8) (ha : a < 16) : (nI k ||| (nI a <<< ((3 : Int32) &&& 31))) ||| (nI v <<< ((7 : Int32) &&& 31)) = nI (k + 8 * a + 128 * v) := by
  rw [nI_shl a _ (s := 3) (by decide), nI_shl v _ (s := 7) (by decide), nI_orN, nI_orN]
  congr 1
  have h1 := Nat.shiftLeft_add_eq_or_of_lt (b := k) (i := 3) (by simpa using hk) a
  rw [Nat.shiftLeft_eq] at h1
  have h2 := Nat.shiftLeft_add_eq_or_of_lt (b := k + 8 * a) (i := 7) (by simp <;> omega) v
  rw [Nat.shiftLeft_eq] at h2
  have h3 : k ||| a * 2 ^ 3 = k + 8 * a := by rw [Nat.or_comm, ← h1]; omega
  rw [h3, Nat.or_comm, ← h2]
  omega
def QK (q : Nat) : Prop := q ≠ 0 ∧ kd q = (100, 60)
theorem QK.h {q : Nat} (h : QK q) : 4 < q := by
  obtain ⟨h1, h2⟩ := h
  apply Classical.byContradiction
  intro c
  have : q = 1 ∨ q = 2 ∨ q = 3 ∨ q = 4 := by omega
  rcases this with rfl | rfl | rfl | rfl <;> exact absurd h2 (by decide)
def WK (q : Nat) : List PL := [(2, some 2), (2, some 3), (2, some 4), (2, some 5), (2, some 6), (2, some 8), (2, some 9), (4, some 4), (q, none)]
theorem WK_t {q : Nat} {a b c : St} (h1 : Fr (WK q) a b) (h2 : Fr (WK q) b c) : Fr (WK q) a c := (h1.tr h2).wd (by simp [within', WK])
theorem WK_w {q : Nat} {a b : St} (h : Fr WT a b) : Fr (WK q) a b := h.wd (by simp [within', WK, WT])
theorem WK_e {q : Nat} {a b : St} (h : Fr [(4, some 4), (q, none)] a b) : Fr (WK q) a b := h.wd (by simp [within', WK])
def DQ (q : Nat) (st : St) : Prop := gR st 4 3 = q ∧ ∃ s, s ≤ 60 ∧ gI st 4 4 = nI s
def CG (q : Nat) (c : List Nat) (st : St) : Prop := gR st 4 3 = q ∧ gI st 4 4 = nI c.length ∧ ∀ i (h : i < c.length), gI st q i = nI c[i]
theorem CG.dq {q : Nat} {c : List Nat} {st : St} (h : CG q c st) (hl : c.length ≤ 60) : DQ q st := ⟨h.1, _, hl, h.2.1⟩
theorem DQ.w {q : Nat} {st u : St} (h : DQ q st) (fr : Fr WT st u) : DQ q u := by
  have e := WT_o fr (o := 4) (by omega)
  obtain ⟨h1, s, h2, h3⟩ := h
  exact ⟨by rw [e.2.2]; exact h1, s, h2, by rw [e.1]; exact h3⟩
theorem CG.w {q : Nat} {c : List Nat} {st u : St} (h : CG q c st) (hq : QK q) (fr : Fr WT st u) : CG q c u := by
  have q4 := hq.h
  have e := WT_o fr (o := 4) (by omega)
  have e2 := WT_o fr (o := q) (by omega)
  obtain ⟨h1, h2, h3⟩ := h
  exact ⟨by rw [e.2.2]; exact h1, by rw [e.1]; exact h2, fun i hi => by rw [e2.1]; exact h3 i hi⟩
theorem emit_u {st : St} (hT : Top st) {q s : Nat} (hq : QK q) (h1 : gR st 4 3 = q) (h2 : gI st 4 4 = nI s) (hs : s < 60) (k a v : Int32) (fu : Nat) : f_X7_emit fu 4 k a v st = some (sI (sI st q s ((k ||| (a <<< ((3 : Int32) &&& 31))) ||| (v <<< ((7 : Int32) &&& 31)))) 4 4 (nI (s + 1))) := by
  have q4 := hq.h
  obtain ⟨q0, qk⟩ := hq
  have ib : inb (nI s) 60 := by simp (disch := first | decide | omega) [NF, NC, NB, inb]
  have g4 : gI (sI st q s ((k ||| (a <<< ((3 : Int32) &&& 31))) ||| (v <<< ((7 : Int32) &&& 31)))) 4 4 = nI s := by
    rw [gI_sI_n _ _ _ (by omega)]; exact h2
  unfold f_X7_emit b_X7_emit_38
  rw [ck_t (show (kd 4).1 = 7 from rfl), h2, if_neg (fun z => by have := (nI_leI (a := 60) (b := s) (by omega) (by omega)).mp z; omega), h1, ck_t q0, ck_t (show (kd 4).1 = 7 from rfl), bd_e, ck_t (show (kd 4).1 = 7 from rfl), ck_t (show (kd q).1 = 100 ∧ inb (nI s) (kd q).2 by rw [qk]; exact ⟨rfl, ib⟩), ixN (by omega), bd_e, ck_t (show (kd 4).1 = 7 from rfl), ck_t (show (kd 4).1 = 7 from rfl), g4, show nI s + 1 = nI (s + 1) from nI_add s 1, bd_e]
theorem emit_f {st : St} {q : Nat} (s : Nat) (x y : Int32) : Fr [(4, some 4), (q, none)] st (sI (sI st q s x) 4 4 y) := ((Fr.ia st q s x).tr (Fr.i _ 4 4 y)).wd (by simp [within'])
theorem emit_c {st : St} (hT : Top st) {q : Nat} (hq : QK q) {c : List Nat} (h : CG q c st) (hl : c.length < 60) {k a v : Nat} (hk : k < 8) (ha : a < 16) (fu : Nat) : ∃ u, f_X7_emit fu 4 (nI k) (nI a) (nI v) st = some u ∧ Fr (WK q) st u ∧ Top u ∧ CG q (c ++ [k + 8 * a + 128 * v]) u ∧ gI u 2 = gI st 2 ∧ gI u 3 = gI st 3 := by
  have q4 := hq.h
  have e := emit_u hT hq h.1 h.2.1 hl (nI k) (nI a) (nI v) fu
  rw [code_v hk ha] at e
  refine ⟨_, e, WK_e (emit_f _ _ _), hT.r rfl, ⟨h.1, ?_, fun i hi => ?_⟩, ?_, ?_⟩
  · rw [gI_sI]; simp
  · rw [gI_sI_n _ _ _ (by omega), gI_sI]
    by_cases c' : i = c.length
    · subst c'
      rw [if_pos ⟨rfl, rfl⟩]; simp
    · have hi' : i < c.length := by simp at hi; omega
      rw [if_neg (by omega), List.getElem_append_left hi']
      exact h.2.2 i hi'
  · rw [gI_sI_n _ _ _ (by omega), gI_sI_n _ _ _ (by omega)]
  · rw [gI_sI_n _ _ _ (by omega), gI_sI_n _ _ _ (by omega)]
/-- behind a fault -/
theorem emit_d {st : St} (hT : Top st) {q : Nat} (hq : QK q) (h : DQ q st) {b : BY} {n f p : Nat} (hD : TD b n 60 f p st) (k a v : Int32) (fu : Nat) : ∃ u, f_X7_emit fu 4 k a v st = some u ∧ Fr (WK q) st u ∧ Top u ∧ DQ q u ∧ TD b n 60 f p u := by
  have q4 := hq.h
  obtain ⟨h1, s, h2, h3⟩ := h
  by_cases c : s = 60
  · refine ⟨st, ?_, Fr.rf, hT, ⟨h1, s, h2, h3⟩, hD⟩
    unfold f_X7_emit b_X7_emit_38
    rw [ck_t (show (kd 4).1 = 7 from rfl), h3, if_pos (show (60 : Int32) ≤ nI s by rw [c]; exact Int32.le_refl _)]
  · refine ⟨_, emit_u hT hq h1 h3 (by omega) k a v fu, WK_e (emit_f _ _ _), hT.r rfl, ⟨h1, s + 1, by omega, by rw [gI_sI]; simp⟩, hD.f2 ?_ ?_⟩
    · rw [gI_sI_n _ _ _ (by omega), gI_sI_n _ _ _ (by omega)]
    · rw [gI_sI_n _ _ _ (by omega), gI_sI_n _ _ _ (by omega)]
/-- the class in step, or behind a fault, as a reader says -/
def COl {α : Type} (b : BY) (n : Nat) (r : PR α) (Q : α → Prop) (u : St) : Prop := match r with
  | .inl x => TC b n 60 x.2 u ∧ Q x.1
  | .inr e => TD b n 60 e.1 e.2 u
theorem NX.t {b : BY} {n t : Nat} {st u : St} (h : NX b n 60 t st u) : Fr WT st u ∧ Top u ∧ COl b n (tk b n t fun t1 => .inl ((), t1)) (fun _ => True) u := by
  obtain ⟨h1, h2, h3, h4⟩ := h
  refine ⟨h1, h2, ?_⟩
  unfold tk
  by_cases c : t < 60
  · rw [if_pos c]; exact ⟨h3 c, trivial⟩
  · rw [if_neg c]; exact h4 (by omega)
theorem number_l {st : St} (hT : Top st) {b : BY} {n t : Nat} (h : TC b n 60 t st) {fu : Nat} (hf : 4100 ≤ fu) {lo hi : Nat} (hl : lo ≤ 100000) (hh : hi ≤ 100000) (hlh : lo ≤ hi) : ∃ v u, f_X9_number fu 2 (nI lo) (nI hi) st = some (nI v, u) ∧ Fr WT st u ∧ Top u ∧ lo ≤ v ∧ v ≤ hi ∧ COl b n (pN b n lo hi t) (fun a => v = a) u := by
  obtain ⟨N1, N2, N3⟩ := number_c hT h hf hl hh
  unfold pN pNum
  by_cases h1 : so b n t = 2
  · rw [if_pos h1]
    by_cases h2 : lo ≤ nvt b n t ∧ nvt b n t ≤ hi
    · rw [if_pos h2]
      obtain ⟨u, u1, u2⟩ := N1 h1 h2.1 h2.2
      obtain ⟨a1, a2, a3⟩ := u2.t
      refine ⟨_, u, u1, a1, a2, h2.1, h2.2, ?_⟩
      rw [pb_i]
      unfold tk at a3 ⊢
      by_cases c : t < 60
      · rw [if_pos c] at a3 ⊢; exact ⟨a3.1, rfl⟩
      · rw [if_neg c] at a3 ⊢; exact a3
    · rw [if_neg h2]
      obtain ⟨u, u1, a1, a2, a3⟩ := N2 h1 h2
      exact ⟨_, u, u1, a1, a2, Nat.le_refl _, hlh, a3⟩
  · rw [if_neg h1]
    obtain ⟨u, u1, a1, a2, a3⟩ := N3 h1
    exact ⟨_, u, u1, a1, a2, Nat.le_refl _, hlh, a3⟩
theorem need_l {st : St} (hT : Top st) {b : BY} {n t : Nat} (h : TC b n 60 t st) {fu : Nat} (hf : 4100 ≤ fu) {c : Nat} (hc : 3 < c) (hc2 : c < 200) : ∃ u, f_X9_need fu 2 (nI c) st = some u ∧ Fr WT st u ∧ Top u ∧ COl b n (pS b n c t) (fun _ => True) u := by
  obtain ⟨T1, T2⟩ := need_c hT h hf hc hc2
  unfold pS pSg
  by_cases h1 : so b n t = c
  · rw [if_pos h1]
    obtain ⟨u, u1, u2⟩ := T1 h1
    obtain ⟨a1, a2, a3⟩ := u2.t
    exact ⟨u, u1, a1, a2, a3⟩
  · rw [if_neg h1]
    obtain ⟨u, u1, a1, a2, a3⟩ := T2 h1
    exact ⟨u, u1, a1, a2, a3⟩
/-! a term -/
theorem t44_d {s : St} (hT : Top s) {q : Nat} (hq : QK q) (hQ : DQ q s) {b : BY} {n f p : Nat} (hD : TD b n 60 f p s) (x y : Int32) (fu : Nat) : ∃ u, b_X7_readTerm_44 fu 2 x 4 y s = some u ∧ Fr (WK q) s u ∧ Top u ∧ DQ q u ∧ TD b n 60 f p u := by
  obtain ⟨s1, e1, fr1, hT1, hD1⟩ := number_d hT hD fu 0 99999
  obtain ⟨u, e2, fr2, hT2, hQ2, hD2⟩ := emit_d hT1 hq (hQ.w fr1) hD1 y x 0 fu
  refine ⟨u, ?_, WK_t (WK_w fr1) fr2, hT2, hQ2, hD2⟩
  unfold b_X7_readTerm_44 b_X7_readTerm_118
  rw [ck_t (show (kd 2).1 = 9 from rfl), e1, ca_s, ck_t (show (kd 4).1 = 7 from rfl), e2, cv_s]
theorem t34_d {s : St} (hT : Top s) {q : Nat} (hq : QK q) (hQ : DQ q s) {b : BY} {n f p : Nat} (hD : TD b n 60 f p s) (x y : Int32) (fu : Nat) : ∃ u, b_X7_readTerm_34 fu 4 2 x y s = some u ∧ Fr (WK q) s u ∧ Top u ∧ DQ q u ∧ TD b n 60 f p u := by
  unfold b_X7_readTerm_34
  by_cases c : y = 0
  · rw [if_pos c]; exact t44_d hT hq hQ hD x 4 fu
  · rw [if_neg c]; exact t44_d hT hq hQ hD x 3 fu
/-- .. in step: the bound, and the code -/
theorem t44_p {s : St} (hT : Top s) {q : Nat} (hq : QK q) {c : List Nat} (hC : CG q c s) {b : BY} {n t : Nat} (h : TC b n 60 t s) {a k : Nat} (ha : a < 16) (hk : k < 8) (hl : c.length + 1 ≤ t) {fu : Nat} (hf : 4100 ≤ fu) : ∃ u, b_X7_readTerm_44 fu 2 (nI a) 4 (nI k) s = some u ∧ Fr (WK q) s u ∧ Top u ∧ DQ q u ∧ COl b n (pb (pN b n 0 99999 t) fun v t1 => .inl (lLf (k + 8 * a + 128 * v), t1)) (fun x => CG q (c ++ x.1) u) u := by
  have t60 := h.2.1.2.2.2
  obtain ⟨v, s1, e1, fr1, hT1, -, v2, co⟩ := number_l hT h hf (lo := 0) (hi := 99999) (by omega) (by omega) (by omega)
  have hC1 := hC.w hq fr1
  have hd : ∀ u, f_X7_emit fu 4 (nI k) (nI a) (nI v) s1 = some u → b_X7_readTerm_44 fu 2 (nI a) 4 (nI k) s = some u := fun u e => by
    unfold b_X7_readTerm_44 b_X7_readTerm_118
    rw [ck_t (show (kd 2).1 = 9 from rfl), show f_X9_number fu 2 0 99999 s = some (nI v, s1) from e1, ca_s, ck_t (show (kd 4).1 = 7 from rfl), e, cv_s]
  cases hp : pN b n 0 99999 t with
  | inr e =>
    rw [hp] at co
    obtain ⟨u, e2, fr2, hT2, hQ2, hD2⟩ := emit_d hT1 hq (hC1.dq (by omega)) co (nI k) (nI a) (nI v) fu
    exact ⟨u, hd u e2, WK_t (WK_w fr1) fr2, hT2, hQ2, hD2⟩
  | inl x =>
    rw [hp] at co
    obtain ⟨c1, c2⟩ := co
    have c2 : v = x.1 := c2
    obtain ⟨u, e2, fr2, hT2, hC2, g2, g3⟩ := emit_c (v := v) hT1 hq hC1 (by omega) hk ha fu
    refine ⟨u, hd u e2, WK_t (WK_w fr1) fr2, hT2, hC2.dq (by simp; omega), c1.f2 g2 g3, ?_⟩
    show CG q (c ++ [k + 8 * a + 128 * x.1]) u
    rw [← c2]; exact hC2
