/-! PURE: locks, in class and reference; lock -/
def QC (q : Nat) : Prop := ∃ i, i < 9 ∧ q = 7 + 2 * i
theorem QC.k {q : Nat} (h : QC q) : QK q := by
  obtain ⟨i, hi, rfl⟩ := h
  have : ∀ i, i < 9 → 7 + 2 * i ≠ 0 ∧ kd (7 + 2 * i) = (100, 60) := by decide
  exact this i hi
/-- locks as data: none, or codes and what they say -/
def LCk (L : Nat → Option LK) (st : St) : Prop := ∀ m, m < 8 → match L m with
  | none => CK m [] st
  | some x => CK m x.1 st ∧ Run x.1 x.2
def LRk (L : Nat → Option LK) (st : St) : Prop := ∀ m, m < 8 → match L m with
  | none => gI st 211 m = nI 0
  | some x => ∃ b n t, pLock b n = .inl (x, t) ∧ gI st 211 m = nI t ∧ TKs b n m t st
def lkV (l : Option LK) (E : Nat → Int32) (A : Nat → Nat → Int32) : Bool := match l with
  | none => true
  | some x => x.2 E A
theorem lkC {L : Nat → Option LK} {st : St} (h : LCk L st) (hT : Top st) (hE : ∀ k, gI st 6 k = 0 ∨ gI st 6 k = 1) {m : Nat} (hm : m < 8) {fu : Nat} (hf : 100 ≤ fu) : f_X7_lockTrue fu 4 (nI m) st = some (nI (lkV (L m) (gI st 6) (axA st)).toNat, st) := by
  have q := h m hm
  cases e : L m with
  | none =>
    rw [e] at q
    exact lockTrue_c hT hE hm (c := []) q (v := fun _ _ => true) (Or.inl rfl) hf
  | some x =>
    rw [e] at q
    have r := lockTrue_c hT hE hm q.1 (Or.inr q.2) hf
    rw [if_neg (fun z => by have := q.2.1; rw [z] at this; exact absurd this (by decide))] at r
    exact r
theorem lkR {L : Nat → Option LK} {st : St} (h : LRk L st) (hT : Top st) {E : Nat → Int32} {A : Nat → Nat → Int32} (hE : ∀ k, k < 16 → gI st 210 k = E k ∧ (E k = 0 ∨ E k = 1)) (hA : ∀ k, k < 8 → gI st 198 k = A k 0 ∧ gI st 206 k = A k 8 ∧ gI st 207 k = A k 9) {m : Nat} (hm : m < 8) {fu : Nat} (hf : 100 ≤ fu) : ∃ u, f_X12_isTrue fu 153 (nI m) st = some (nI (lkV (L m) E A).toNat, u) ∧ Fr WLk st u ∧ Top u := by
  have q := h m hm
  cases e : L m with
  | none =>
    rw [e] at q
    refine ⟨st, ?_, Fr.rf, hT⟩
    have q' : gI st 211 m = nI 0 := q
    clear hE hA h q
    show _ = some (nI 1, st)
    simp (disch := first | decide | omega) [↓bd_e, isb, ck_tt, NP, NF, NC, NB, NS, GS, kdR, tpR hT, f_X12_isTrue, q']
  | some x =>
    rw [e] at q
    obtain ⟨b, n, t, q1, q2, q3⟩ := q
    exact ⟨_, isTrue_r hT hm q1 q2 q3 hE hA hf, ((Fr.i st 153 72 _).tr (Fr.i _ 153 71 _)).wd (by decide), hT.r rfl⟩
def P_cod (st : St) : Prop := QC (gR st 4 3) ∧ (∀ m, m < 8 → QC (gR st (8 + 2 * m) 12) ∧ gR st (8 + 2 * m) 12 ≠ gR st 4 3) ∧ ∀ m k, m < 8 → k < 8 → m ≠ k → gR st (8 + 2 * m) 12 ≠ gR st (8 + 2 * k) 12
def P_lk (st : St) : Prop := P_cod st ∧ ∃ L, LCk L st ∧ LRk L st
def S_lkc : List PL := [(4, some 3), (8, some 12), (10, some 12), (12, some 12), (14, some 12), (16, some 12), (18, some 12), (20, some 12), (22, some 12), (8, some 13), (10, some 13), (12, some 13), (14, some 13), (16, some 13), (18, some 13), (20, some 13), (22, some 13), (7, none), (9, none), (11, none), (13, none), (15, none), (17, none), (19, none), (21, none), (23, none)]
def S_lkr : List PL := [(211, none), (212, none), (213, none)]
theorem S_c1 {st u : St} (hs : Same S_lkc st u) {m : Nat} (hm : m < 8) : gR u (8 + 2 * m) 12 = gR st (8 + 2 * m) 12 ∧ gI u (8 + 2 * m) 13 = gI st (8 + 2 * m) 13 := by
  have d1 : ∀ m, m < 8 → S_lkc.any (covers · (8 + 2 * m) 12) = true ∧ S_lkc.any (covers · (8 + 2 * m) 13) = true := by decide
  obtain ⟨a, c⟩ := d1 m hm
  exact ⟨(hs _ _ a).2.2, (hs _ _ c).1⟩
theorem S_c2 {st u : St} (hs : Same S_lkc st u) {q : Nat} (hq : QC q) (k : Nat) : gI u q k = gI st q k := by
  obtain ⟨i, hi, rfl⟩ := hq
  have : ∀ i, i < 9 → (7 + 2 * i, (none : Option Nat)) ∈ S_lkc := by decide
  exact (hs _ k (List.any_eq_true.mpr ⟨_, this i hi, by simp [covers]⟩)).1
theorem P_cod.fr {st u : St} (h : P_cod st) (hs : Same S_lkc st u) : P_cod u := by
  obtain ⟨h1, h2, h3⟩ := h
  have e4 : gR u 4 3 = gR st 4 3 := (hs 4 3 (by decide)).2.2
  refine ⟨by rw [e4]; exact h1, fun m hm => by rw [(S_c1 hs hm).1, e4]; exact h2 m hm, fun m k hm hk => by rw [(S_c1 hs hm).1, (S_c1 hs hk).1]; exact h3 m k hm hk⟩
theorem CK.fr {m : Nat} (hm : m < 8) {c : List Nat} {st u : St} (h : CK m c st) (hq : QC (gR st (8 + 2 * m) 12)) (hs : Same S_lkc st u) : CK m c u := by
  obtain ⟨h1, h2, Q, h3, h4, h5, h6⟩ := h
  refine ⟨h1, by rw [(S_c1 hs hm).2]; exact h2, Q, by rw [(S_c1 hs hm).1]; exact h3, h4, h5, fun i hi => ?_⟩
  rw [S_c2 hs (by rw [← h3]; exact hq)]
  exact h6 i hi
theorem LCk.fr {L : Nat → Option LK} {st u : St} (h : LCk L st) (hc : P_cod st) (hs : Same S_lkc st u) : LCk L u := fun m hm => by
  have q := h m hm
  cases e : L m with
  | none => rw [e] at q; exact CK.fr hm q (hc.2.1 m hm).1 hs
  | some x => rw [e] at q; exact ⟨CK.fr hm q.1 (hc.2.1 m hm).1 hs, q.2⟩
theorem TKs.eq {b : BY} {n m t : Nat} {st u : St} (h : TKs b n m t st) (hm : ∀ i, i < 61 → gI u 212 (61 * m + i) = gI st 212 (61 * m + i) ∧ gL u 213 (61 * m + i) = gL st 213 (61 * m + i)) (ht : t ≤ 60) : TKs b n m t u := fun i hi => by
  obtain ⟨a, c⟩ := hm i (by omega)
  rw [a, c]
  exact h i hi
theorem pLock_t {b : BY} {n t : Nat} {x : LK} (hp : pLock b n = .inl (x, t)) : GD 0 x t := by
  obtain ⟨y, t1, h1, h2⟩ := pb_inl (show pb _ _ = _ from hp)
  by_cases c : so b n t1 = 0
  · rw [if_pos c] at h2
    injection h2 with h2
    injection h2 with e1 e2
    subst e1 e2
    exact pOr_i h1
  · rw [if_neg c] at h2; cases h2
theorem LRk.fr {L : Nat → Option LK} {st u : St} (h : LRk L st) (hs : Same S_lkr st u) : LRk L u := fun m hm => by
  have e1 : ∀ k, gI u 211 k = gI st 211 k := fun k => (hs 211 k (by simp [S_lkr, covers])).1
  have e2 : ∀ k, gI u 212 k = gI st 212 k := fun k => (hs 212 k (by simp [S_lkr, covers])).1
  have e3 : ∀ k, gL u 213 k = gL st 213 k := fun k => (hs 213 k (by simp [S_lkr, covers])).2.1
  have q := h m hm
  cases e : L m with
  | none => rw [e] at q; show gI u 211 m = nI 0; rw [e1]; exact q
  | some x =>
    rw [e] at q
    obtain ⟨b, n, t, q1, q2, q3⟩ := q
    exact ⟨b, n, t, q1, by rw [e1]; exact q2, q3.eq (fun i _ => ⟨e2 _, e3 _⟩) (pLock_t q1).2.1⟩
def S_lk : List PL := S_lkc ++ S_lkr
theorem Same.ll {S V : List PL} {st u : St} (h : Same (S ++ V) st u) : Same S st u := fun o k hk => h o k (by rw [List.any_append, hk, Bool.true_or])
theorem Same.rr {S V : List PL} {st u : St} (h : Same (S ++ V) st u) : Same V st u := fun o k hk => h o k (by rw [List.any_append, hk, Bool.or_true])
theorem P_lk.fr {st u : St} (h : P_lk st) (hs : Same S_lk st u) : P_lk u := by
  obtain ⟨h1, L, h2, h3⟩ := h
  exact ⟨h1.fr hs.ll, L, h2.fr h1 hs.ll, h3.fr hs.rr⟩
theorem P_lk.LKA {st : St} (hP : P_lk st) (hT : Top st) (hE : P_ev st) (hA : P_ax st) {fu : Nat} (hf : 100 ≤ fu) : LKA fu st := fun m hm => by
  obtain ⟨h1, L, h2, h3⟩ := hP
  have c := lkC h2 hT hE.2 hm hf
  obtain ⟨u, u1, u2, u3⟩ := lkR h3 hT (E := gI st 6) (A := axA st) (fun k _ => ⟨by rw [hE.1], hE.2 k⟩) (fun k hk => ⟨(hA.1 k 0 hk (by omega)).symm, (hA.1 k 8 hk (by omega)).symm, (hA.1 k 9 hk (by omega)).symm⟩) hm hf
  exact ⟨_, u, c, u1, u2, u3⟩
def V_lk : List PL := [(2, some 1), (2, some 2), (2, some 3), (2, some 4), (2, some 5), (2, some 6), (2, some 7), (2, some 8), (2, some 9), (4, some 3), (4, some 4), (8, some 12), (10, some 12), (12, some 12), (14, some 12), (16, some 12), (18, some 12), (20, some 12), (22, some 12), (8, some 13), (10, some 13), (12, some 13), (14, some 13), (16, some 13), (18, some 13), (20, some 13), (22, some 13), (7, none), (9, none), (11, none), (13, none), (15, none), (17, none), (19, none), (21, none), (23, none)]
def W_lk : List PL := V_lk ++ WkO
theorem V_q {q : Nat} (hq : QC q) {a b : St} (h : Fr ((2, some 7) :: WK q) a b) : Fr V_lk a b := by
  obtain ⟨i, hi, rfl⟩ := hq
  have : ∀ i, i < 9 → within' ((2, some 7) :: WK (7 + 2 * i)) V_lk = true := by decide
  exact h.wd (this i hi)
theorem V_m {m : Nat} (hm : m < 8) {a b : St} (h : Fr [(8 + 2 * m, some 12), (8 + 2 * m, some 13), (4, some 3)] a b) : Fr V_lk a b := by
  have : ∀ m, m < 8 → within' [(8 + 2 * m, some 12), (8 + 2 * m, some 13), (4, some 3)] V_lk = true := by decide
  exact h.wd (this m hm)
