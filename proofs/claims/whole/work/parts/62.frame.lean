/-! PURE: what a call leaves as it is. A place: (cell, some k), or a whole cell: (cell, none) -/
abbrev PL : Type := Nat × Option Nat
def covers (b : PL) (o k : Nat) : Bool := b.1 == o && (match b.2 with | none => true | some j => j == k)
/-- nothing but the places W has changed -/
def Fr (W : List PL) (st u : St) : Prop := ∀ o k, W.any (covers · o k) = false → gI u o k = gI st o k ∧ gL u o k = gL st o k ∧ gR u o k = gR st o k
def Same (S : List PL) (st u : St) : Prop := ∀ o k, S.any (covers · o k) = true → gI u o k = gI st o k ∧ gL u o k = gL st o k ∧ gR u o k = gR st o k
def apart (a b : PL) : Bool := !(a.1 == b.1) || (match a.2, b.2 with | some i, some j => !(i == j) | _, _ => false)
def disj (S W : List PL) : Bool := S.all (fun a => W.all (fun b => apart a b))
theorem apart_no {a b : PL} {o k : Nat} (h : apart a b = true) (ha : covers a o k = true) : covers b o k = false := by
  obtain ⟨a1, a2⟩ := a
  obtain ⟨b1, b2⟩ := b
  simp only [covers, Bool.and_eq_true, beq_iff_eq] at ha
  obtain ⟨rfl, ha2⟩ := ha
  simp only [apart, Bool.or_eq_true, Bool.not_eq_true', beq_eq_false_iff_ne] at h
  simp only [covers, Bool.and_eq_false_iff, beq_eq_false_iff_ne]
  rcases h with h | h
  · exact Or.inl (fun e => h e.symm)
  · cases a2 with
    | none => simp at h
    | some i =>
      cases b2 with
      | none => simp at h
      | some j =>
        simp at h ha2
        right
        simp
        omega
theorem Fr.same {S W : List PL} {st u : St} (h : Fr W st u) (hd : disj S W = true) : Same S st u := by
  intro o k hs
  obtain ⟨a, ha, hc⟩ := List.any_eq_true.mp hs
  refine h o k (List.any_eq_false.mpr fun b hb => ?_)
  have := List.all_eq_true.mp (List.all_eq_true.mp hd a ha) b hb
  rw [apart_no this hc]
  decide
theorem Fr.rf {W : List PL} {st : St} : Fr W st st := fun _ _ _ => ⟨rfl, rfl, rfl⟩
theorem Fr.tr {W V : List PL} {st u w : St} (h1 : Fr W st u) (h2 : Fr V u w) : Fr (W ++ V) st w := fun o k hk => by
  rw [List.any_append, Bool.or_eq_false_iff] at hk
  obtain ⟨a1, a2, a3⟩ := h1 o k hk.1
  obtain ⟨b1, b2, b3⟩ := h2 o k hk.2
  exact ⟨b1.trans a1, b2.trans a2, b3.trans a3⟩
/-- W may be widened -/
def within' (W V : List PL) : Bool := W.all (fun b => V.any (fun c => c.1 == b.1 && (match c.2 with | none => true | some j => b.2 == some j)))
theorem Fr.wd {W V : List PL} {st u : St} (h : Fr W st u) (hv : within' W V = true) : Fr V st u := by
  intro o k hk
  refine h o k (List.any_eq_false.mpr fun b hb => ?_)
  intro hc
  obtain ⟨c, hc1, hc2⟩ := List.any_eq_true.mp (List.all_eq_true.mp hv b hb)
  have hn := List.any_eq_false.mp hk c hc1
  apply hn
  obtain ⟨c1, c2⟩ := c
  obtain ⟨b1, b2⟩ := b
  simp only [covers, Bool.and_eq_true, beq_iff_eq] at hc ⊢
  simp only [Bool.and_eq_true, beq_iff_eq] at hc2
  refine ⟨hc2.1.trans hc.1, ?_⟩
  cases c2 with
  | none => rfl
  | some j =>
    have := hc2.2
    simp at this
    subst this
    exact hc.2
theorem Fr.i (st : St) (o k : Nat) (v : Int32) : Fr [(o, some k)] st (sI st o k v) := fun a b h => by
  simp [covers] at h
  refine ⟨?_, rfl, rfl⟩
  rw [gI_sI, if_neg]
  rintro ⟨rfl, rfl⟩
  exact h rfl rfl
theorem Fr.ia (st : St) (o k : Nat) (v : Int32) : Fr [(o, none)] st (sI st o k v) := (Fr.i st o k v).wd (by simp [within'])
theorem Fr.l (st : St) (o k : Nat) (v : Int64) : Fr [(o, some k)] st (sL st o k v) := fun a b h => by
  simp [covers] at h
  refine ⟨rfl, ?_, rfl⟩
  rw [gL_sL, if_neg]
  rintro ⟨rfl, rfl⟩
  exact h rfl rfl
theorem Fr.r (st : St) (o k : Nat) (v : Nat) : Fr [(o, some k)] st (sR st o k v) := fun a b h => by
  simp [covers] at h
  refine ⟨rfl, rfl, ?_⟩
  rw [gR_sR, if_neg]
  rintro ⟨rfl, rfl⟩
  exact h rfl rfl
theorem Same.i {S : List PL} {st u : St} (h : Same S st u) {o k : Nat} (hk : S.any (covers · o k) = true) : gI u o k = gI st o k := (h o k hk).1
theorem Same.fi {S : List PL} {st u : St} (h : Same S st u) {o : Nat} (hk : (o, none) ∈ S) : gI u o = gI st o := funext fun k => (h o k (List.any_eq_true.mpr ⟨_, hk, by simp [covers]⟩)).1
theorem Same.fl {S : List PL} {st u : St} (h : Same S st u) {o : Nat} (hk : (o, none) ∈ S) : gL u o = gL st o := funext fun k => (h o k (List.any_eq_true.mpr ⟨_, hk, by simp [covers]⟩)).2.1
theorem Same.l {S : List PL} {st u : St} (h : Same S st u) {o k : Nat} (hk : S.any (covers · o k) = true) : gL u o k = gL st o k := (h o k hk).2.1
theorem Same.r {S : List PL} {st u : St} (h : Same S st u) {o k : Nat} (hk : S.any (covers · o k) = true) : gR u o k = gR st o k := (h o k hk).2.2
def topS : List PL := topL.map fun q => (q.1, some q.2.1)
theorem Top.fr {st u : St} (h : Top st) (hs : Same topS st u) : Top u := fun q hq => by
  rw [hs.r (o := q.1) (k := q.2.1) (List.any_eq_true.mpr ⟨_, List.mem_map.mpr ⟨q, hq, rfl⟩, by simp [covers]⟩)]
  exact h q hq
