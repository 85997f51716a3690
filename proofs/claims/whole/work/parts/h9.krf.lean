/-! PURE: the text of a lock: reference. Behind a fault, or past the 60th token -/
def LG (b : BY) (n T f p M : Nat) (st : St) : Prop := p ≤ pl b n 60 ∧ 1 ≤ f ∧ f ≤ 2 ∧ (DM b n T f p M st ∨ (f = 2 ∧ p = pl b n 60 ∧ ∃ t, 60 < t ∧ pl b n 60 < pl b n t ∧ ((RS b n T t st ∧ T ≤ t + M) ∨ ∃ f' p' s, RfD b n T f' p' t s st ∧ pl b n 60 < p' ∧ (s = 1 ∨ T ≤ t + M))))
theorem LG.mono {b : BY} {n T f p M M' : Nat} {st : St} (h : LG b n T f p M st) (hm : M ≤ M') : LG b n T f p M' st := by
  obtain ⟨h1, h2, h3, h4⟩ := h
  refine ⟨h1, h2, h3, ?_⟩
  rcases h4 with q | ⟨a1, a2, t, a3, a4, q⟩
  · exact Or.inl (q.mono hm)
  · refine Or.inr ⟨a1, a2, t, a3, a4, ?_⟩
    rcases q with ⟨q1, q2⟩ | ⟨f', p', s, q1, q2, q3⟩
    · exact Or.inl ⟨q1, by omega⟩
    · exact Or.inr ⟨f', p', s, q1, q2, by omega⟩
theorem LG.d {b : BY} {n T f p M : Nat} {st u : St} (h : LG b n T f p M st) {M' : Nat} (hd : DM b n T f p M st → DM b n T f p M' u) (hs : ∀ t, RS b n T t st → T ≤ t + M → (RS b n T t u ∧ T ≤ t + M') ∨ (RS b n T (t + 1) u ∧ T ≤ t + 1 + M') ∨ (∃ f' s t', t ≤ t' ∧ RfD b n T f' (pl b n t) t' s u ∧ (s = 1 ∨ T ≤ t' + M'))) (hf : ∀ t f' p' s, RfD b n T f' p' t s st → (s = 1 ∨ T ≤ t + M) → ∃ t' s', t ≤ t' ∧ RfD b n T f' p' t' s' u ∧ (s' = 1 ∨ T ≤ t' + M')) : LG b n T f p M' u := by
  obtain ⟨h1, h2, h3, h4⟩ := h
  refine ⟨h1, h2, h3, ?_⟩
  rcases h4 with q | ⟨a1, a2, t, a3, a4, q⟩
  · exact Or.inl (hd q)
  · refine Or.inr ⟨a1, a2, ?_⟩
    rcases q with ⟨q1, q2⟩ | ⟨f', p', s, q1, q2, q3⟩
    · rcases hs t q1 q2 with ⟨r1, r2⟩ | ⟨r1, r2⟩ | ⟨f', s, t', r0, r1, r2⟩
      · exact ⟨t, a3, a4, Or.inl ⟨r1, r2⟩⟩
      · have := pl_m b n t
        exact ⟨t + 1, by omega, by omega, Or.inl ⟨r1, r2⟩⟩
      · have := pl_le (b := b) (n := n) r0
        exact ⟨t', by omega, by omega, Or.inr ⟨f', _, s, r1, a4, r2⟩⟩
    · obtain ⟨t', s', r0, r1, r2⟩ := hf t f' p' s q1 q3
      have := pl_le (b := b) (n := n) r0
      exact ⟨t', by omega, by omega, Or.inr ⟨f', p', s', r1, q2, r2⟩⟩
theorem takeS_G {st : St} (hT : Top st) {b : BY} {n T f p M : Nat} (h : LG b n T f p M st) (fu : Nat) {c : Nat} (hc : 3 < c) (hc2 : c < 200) : ∃ r u, f_X12_takeSign fu 153 (nI c) st = some (nI r, u) ∧ r ≤ 1 ∧ (r = 1 → 1 ≤ M) ∧ Fr W5 st u ∧ Top u ∧ LG b n T f p (if r = 1 then M - 1 else M) u := by
  obtain ⟨h1, h2, h3, h4⟩ := id h
  rcases h4 with q | ⟨a1, a2, t, a3, a4, q⟩
  · obtain ⟨r, u, e, r1, r2, fr, hTu, d⟩ := takeS_D hT q fu hc hc2
    exact ⟨r, u, e, r1, r2, fr, hTu, h1, h2, h3, Or.inl d⟩
  · rcases q with ⟨q1, q2⟩ | ⟨f', p', s, q1, q2, q3⟩
    · obtain ⟨y, z⟩ := takeS_s hT q1 fu hc hc2
      by_cases e : so b n t = c
      · obtain ⟨u, u1, u2, u3, u4⟩ := y e
        have tT := u4.2.2.1
        have := pl_m b n t
        exact ⟨1, u, u1, by omega, fun _ => by omega, u2, u3, h1, h2, h3, Or.inr ⟨a1, a2, t + 1, by omega, by omega, Or.inl ⟨u4, by rw [if_pos rfl]; omega⟩⟩⟩
      · obtain ⟨u, u1, u2, u3, u4⟩ := z e
        exact ⟨0, u, u1, by omega, fun h => absurd h (by decide), u2, u3, h1, h2, h3, Or.inr ⟨a1, a2, t, a3, a4, Or.inl ⟨u4, by rw [if_neg (by decide)]; omega⟩⟩⟩
    · obtain ⟨u, d⟩ := takeS_d hT q1 fu hc hc2
      rcases d with ⟨u1, u0, u2, u3, u4⟩ | ⟨u1, u2, u3, u4⟩
      · have tT := u4.1.2.2.1
        have := pl_m b n t
        exact ⟨1, u, u1, by omega, fun _ => by omega, u2, u3, h1, h2, h3, Or.inr ⟨a1, a2, t + 1, by omega, by omega, Or.inr ⟨f', p', s, u4, q2, by rw [if_pos rfl]; omega⟩⟩⟩
      · exact ⟨0, u, u1, by omega, fun h => absurd h (by decide), u2, u3, h1, h2, h3, Or.inr ⟨a1, a2, t, a3, a4, Or.inr ⟨f', p', s, u4, q2, by rw [if_neg (by decide)]; omega⟩⟩⟩
theorem takeW_G {st : St} (hT : Top st) {b : BY} {n T f p M : Nat} (h : LG b n T f p M st) {fu : Nat} (hf : 100 ≤ fu) {w : Nat} (hw : 1 ≤ w) (hw2 : w < 24) : ∃ r u, f_X12_takeWord fu 153 w st = some (nI r, u) ∧ r ≤ 1 ∧ Fr W5 st u ∧ Top u ∧ LG b n T f p M u := by
  obtain ⟨h1, h2, h3, h4⟩ := id h
  rcases h4 with q | ⟨a1, a2, t, a3, a4, q⟩
  · obtain ⟨r, u, e, r1, r2, fr, hTu, d⟩ := takeW_D hT q hf hw hw2
    exact ⟨r, u, e, r1, fr, hTu, h1, h2, h3, Or.inl (d.mono (by by_cases c : r = 1 <;> simp [c]))⟩
  · rcases q with ⟨q1, q2⟩ | ⟨f', p', s, q1, q2, q3⟩
    · obtain ⟨y, z⟩ := takeW_s hT q1 hf hw hw2
      by_cases e : isW b n t w
      · obtain ⟨u, u1, u2, u3, u4⟩ := y e
        have := pl_m b n t
        exact ⟨1, u, u1, by omega, u2, u3, h1, h2, h3, Or.inr ⟨a1, a2, t + 1, by omega, by omega, Or.inl ⟨u4, by omega⟩⟩⟩
      · obtain ⟨u, u1, u2, u3, u4⟩ := z e
        exact ⟨0, u, u1, by omega, u2, u3, h1, h2, h3, Or.inr ⟨a1, a2, t, a3, a4, Or.inl ⟨u4, by omega⟩⟩⟩
    · obtain ⟨u, d⟩ := takeW_d hT q1 hf hw hw2
      rcases d with ⟨u1, u0, u2, u3, u4⟩ | ⟨u1, u2, u3, u4⟩
      · have := pl_m b n t
        exact ⟨1, u, u1, by omega, u2, u3, h1, h2, h3, Or.inr ⟨a1, a2, t + 1, by omega, by omega, Or.inr ⟨f', p', s, u4, q2, by omega⟩⟩⟩
      · exact ⟨0, u, u1, by omega, u2, u3, h1, h2, h3, Or.inr ⟨a1, a2, t, a3, a4, Or.inr ⟨f', p', s, u4, q2, by omega⟩⟩⟩
theorem wrong_G {st : St} (hT : Top st) {b : BY} {n T f p M : Nat} (h : LG b n T f p M st) (fu : Nat) : ∃ u, f_X12_wrong fu 153 st = some u ∧ Fr W5 st u ∧ Top u ∧ LG b n T f p M u := by
  obtain ⟨h1, h2, h3, h4⟩ := id h
  rcases h4 with q | ⟨a1, a2, t, a3, a4, q⟩
  · obtain ⟨u, e, fr, hTu, d⟩ := wrong_D hT q fu
    exact ⟨u, e, fr, hTu, h1, h2, h3, Or.inl (d.mono (by omega))⟩
  · rcases q with ⟨q1, q2⟩ | ⟨f', p', s, q1, q2, q3⟩
    · obtain ⟨u, u1, u2, u3, u4⟩ := wrong_0 hT q1 fu
      exact ⟨u, u1, u2, u3, h1, h2, h3, Or.inr ⟨a1, a2, t, a3, a4, Or.inr ⟨1, _, 1, u4, a4, Or.inl rfl⟩⟩⟩
    · obtain ⟨u, u1, u2, u3, u4⟩ := wrong_d hT q1 fu
      exact ⟨u, u1, u2, u3, h1, h2, h3, Or.inr ⟨a1, a2, t, a3, a4, Or.inr ⟨f', p', 1, u4, q2, Or.inl rfl⟩⟩⟩
theorem num_G {st : St} (hT : Top st) {b : BY} {n T f p M : Nat} (h : LG b n T f p M st) (fu : Nat) {lo hi : Nat} (hl : lo ≤ 100000) (hh : hi ≤ 100000) : ∃ v u, f_X12_number fu 153 (nI lo) (nI hi) st = some (nI v, u) ∧ Fr W5 st u ∧ Top u ∧ LG b n T f p M u := by
  obtain ⟨h1, h2, h3, h4⟩ := id h
  rcases h4 with q | ⟨a1, a2, t, a3, a4, q⟩
  · obtain ⟨v, u, e, -, fr, hTu, d⟩ := num_D hT q fu hl hh
    exact ⟨v, u, e, fr, hTu, h1, h2, h3, Or.inl (d.mono (by omega))⟩
  · have := pl_m b n t
    rcases q with ⟨q1, q2⟩ | ⟨f', p', s, q1, q2, q3⟩
    · obtain ⟨N1, N2, N3⟩ := num_s hT q1 fu hl hh
      by_cases e : so b n t = 2
      · by_cases e2 : lo ≤ nvt b n t ∧ nvt b n t ≤ hi
        · obtain ⟨u, u1, u2, u3, u4⟩ := N1 e e2.1 e2.2
          exact ⟨_, u, u1, u2, u3, h1, h2, h3, Or.inr ⟨a1, a2, t + 1, by omega, by omega, Or.inl ⟨u4, by omega⟩⟩⟩
        · obtain ⟨u, u1, u2, u3, u4⟩ := N2 e e2
          exact ⟨_, u, u1, u2, u3, h1, h2, h3, Or.inr ⟨a1, a2, t + 1, by omega, by omega, Or.inr ⟨2, _, 0, u4, a4, by omega⟩⟩⟩
      · obtain ⟨u, u1, u2, u3, u4⟩ := N3 e
        exact ⟨_, u, u1, u2, u3, h1, h2, h3, Or.inr ⟨a1, a2, t, a3, a4, Or.inr ⟨1, _, 1, u4, a4, Or.inl rfl⟩⟩⟩
    · obtain ⟨u, v, v1, u1, u2⟩ := num_d hT q1 fu hl hh
      rcases u2 with ⟨e, b1, b2, b3⟩ | ⟨b1, b2, b3⟩
      · exact ⟨v, u, u1, b1, b2, h1, h2, h3, Or.inr ⟨a1, a2, t + 1, by omega, by omega, Or.inr ⟨f', p', 0, b3, q2, by omega⟩⟩⟩
      · exact ⟨v, u, u1, b1, b2, h1, h2, h3, Or.inr ⟨a1, a2, t, a3, a4, Or.inr ⟨f', p', 1, b3, q2, Or.inl rfl⟩⟩⟩
theorem needS_G {st : St} (hT : Top st) {b : BY} {n T f p M : Nat} (h : LG b n T f p M st) (fu : Nat) {c : Nat} (hc : 3 < c) (hc2 : c < 200) : ∃ u, f_X12_needSign fu 153 (nI c) st = some u ∧ Fr W5 st u ∧ Top u ∧ LG b n T f p M u := by
  obtain ⟨r, u, e, r1, -, fr, hTu, d⟩ := takeS_G hT h fu hc hc2
  have d' := d.mono (M' := M) (by by_cases c : r = 1 <;> simp [c])
  rw [needS_p, e, ca_s]
  by_cases c : r = 0
  · subst c
    obtain ⟨w, w1, w2, w3, w4⟩ := wrong_G hTu d' fu
    rw [if_pos (show nI 0 = 0 from rfl)]
    exact ⟨w, w1, fr.tt w2, w3, w4⟩
  · have : r = 1 := by omega
    subst this
    rw [if_neg (show ¬ nI 1 = 0 by decide)]
    exact ⟨u, rfl, fr, hTu, d'⟩
/-- too deep: told, and stopped -/
theorem RfA.stop {b : BY} {n T t f p s : Nat} {st : St} (h : RfA b n T t f p s st) (hT : Top st) : Fr W5 st (sI st 153 8 (nI 1)) ∧ Top (sI st 153 8 (nI 1)) ∧ RfA b n T t f p 1 (sI st 153 8 (nI 1)) := by
  have fr : Fr W5 st (sI st 153 8 (nI 1)) := (Fr.i st 153 8 (nI 1)).wd (by decide)
  obtain ⟨h1, h2, h3, h4, h5, h6, h7, h8, h9⟩ := h
  refine ⟨fr, hT.r rfl, h1.fr fr, ?_, h3, ?_, h5, ?_, h7, ?_, Nat.le_refl _⟩
  · rw [gI_sI, if_neg (by decide)]; exact h2
  · rw [gI_sI, if_neg (by decide)]; exact h4
  · rw [gI_sI, if_neg (by decide)]; exact h6
  · rw [gI_sI, if_pos (by decide)]
theorem deep_s {st : St} (hT : Top st) {b : BY} {n T t : Nat} (h : RS b n T t st) (fu : Nat) : ∃ s1, f_X12_tell fu 153 (nI 2) (nI (pl b n t)) st = some s1 ∧ Fr W5 st (sI s1 153 8 (nI 1)) ∧ Top (sI s1 153 8 (nI 1)) ∧ RfD b n T 2 (pl b n t) t 1 (sI s1 153 8 (nI 1)) := by
  obtain ⟨y, -⟩ := tell_r hT h fu (k := 2) (q := pl b n t) (by omega) (by omega) (pl_b b n t).2
  obtain ⟨s1, e, fr, hT1, h1⟩ := y (Or.inl rfl)
  obtain ⟨a1, a2, a3⟩ := h1.stop hT1
  exact ⟨s1, e, fr.tt a1, a2, a3, by omega, Or.inl rfl⟩
theorem deep_d {st : St} (hT : Top st) {b : BY} {n T f p t : Nat} (h : RfD b n T f p t 0 st) (fu : Nat) : f_X12_tell fu 153 (nI 2) (nI (pl b n t)) st = some st ∧ Fr W5 st (sI st 153 8 (nI 1)) ∧ Top (sI st 153 8 (nI 1)) ∧ RfD b n T f p t 1 (sI st 153 8 (nI 1)) := by
  obtain ⟨h1, h2, h3⟩ := h
  obtain ⟨a1, a2, a3⟩ := h1.stop hT
  refine ⟨(tell_r hT h1 fu (by omega) (by omega) (pl_b b n t).2).2 (by omega), a1, a2, a3, h2, Or.inl rfl⟩
/-- what notText sees of such a state -/
theorem LG.see {b : BY} {n T f p M : Nat} {st : St} (h : LG b n T f p M st) : gI st 153 8 = nI 1 ∨ ∃ t, gI st 153 8 = nI 0 ∧ gI st 153 5 = nI t ∧ t ≤ 4000 ∧ gI st 155 t = nI (so b n t) ∧ gI st 157 t = nI (pl b n t) ∧ so b n t < 200 ∧ pl b n t ≤ 4000 ∧ ∀ (fu : Nat), Top st → ∃ s1, f_X12_tell fu 153 (nI 2) (nI (pl b n t)) st = some s1 ∧ Fr W5 st (sI s1 153 8 (nI 1)) ∧ Top (sI s1 153 8 (nI 1)) ∧ LG b n T f p M (sI s1 153 8 (nI 1)) := by
  obtain ⟨h1, h2, h3, h4⟩ := id h
  rcases h4 with ⟨t, s, q1, q2⟩ | ⟨a1, a2, t, a3, a4, q⟩
  · obtain ⟨x1, x2, x3, x4, x5, x6, x7, x8, x9⟩ := q1.1.rd
    by_cases s1 : s = 1
    · subst s1; exact Or.inl x6
    · have s0 : s = 0 := by omega
      subst s0
      refine Or.inr ⟨t, x6, x1, x2, x3, x4, x5, x9, fun fu hT => ?_⟩
      obtain ⟨e, e1, e2, e3⟩ := deep_d hT q1 fu
      exact ⟨st, e, e1, e2, h1, h2, h3, Or.inl ⟨t, 1, e3, Or.inl rfl⟩⟩
  · rcases q with ⟨q1, q2⟩ | ⟨f', p', s, q1, q2, q3⟩
    · obtain ⟨x1, x2, x3, x4, x5, x6, x7, x8, x9⟩ := q1.rd
      refine Or.inr ⟨t, x6, x1, x2, x3, x4, x5, x9, fun fu hT => ?_⟩
      obtain ⟨s1, e, e1, e2, e3⟩ := deep_s hT q1 fu
      exact ⟨s1, e, e1, e2, h1, h2, h3, Or.inr ⟨a1, a2, t, a3, a4, Or.inr ⟨2, _, 1, e3, a4, Or.inl rfl⟩⟩⟩
    · obtain ⟨x1, x2, x3, x4, x5, x6, x7, x8, x9⟩ := q1.1.rd
      by_cases s1 : s = 1
      · subst s1; exact Or.inl x6
      · have s0 : s = 0 := by omega
        subst s0
        refine Or.inr ⟨t, x6, x1, x2, x3, x4, x5, x9, fun fu hT => ?_⟩
        obtain ⟨e, e1, e2, e3⟩ := deep_d hT q1 fu
        exact ⟨st, e, e1, e2, h1, h2, h3, Or.inr ⟨a1, a2, t, a3, a4, Or.inr ⟨f', p', 1, e3, q2, Or.inl rfl⟩⟩⟩
/-! in step -/
def ROl {α : Type} (b : BY) (n T : Nat) (r : PR α) (u : St) : Prop := match r with
  | .inl x => RS b n T x.2 u
  | .inr e => LG b n T e.1 e.2 T u
theorem tk_G {b : BY} {n T t : Nat} {u : St} (h : RS b n T (t + 1) u) (hs : so b n t ≠ 0) (ht : t ≤ 60) : ROl b n T (tk b n t fun t1 => .inl ((), t1)) u := by
  unfold tk
  by_cases c : t < 60
  · rw [if_pos c]; exact h
  · have : t = 60 := by omega
    subst this
    rw [if_neg (by omega)]
    exact ⟨Nat.le_refl _, by omega, by omega, Or.inr ⟨rfl, rfl, 61, by omega, pl_s hs, Or.inl ⟨h, by omega⟩⟩⟩
theorem OD.G {b : BY} {n T f t t' s : Nat} {st u : St} (h : OD b n T f (pl b n t) t' s st u) (hf : f ≤ 2) (ht : t ≤ 60) (h1 : 1 ≤ f) : Fr W5 st u ∧ Top u ∧ LG b n T f (pl b n t) T u := ⟨h.1, h.2.1, pl_le ht, h1, hf, Or.inl ⟨t', s, h.2.2, by omega⟩⟩
theorem num_k {st : St} (hT : Top st) {b : BY} {n T t : Nat} (h : RS b n T t st) (ht : t ≤ 60) (fu : Nat) {lo hi : Nat} (hl : lo ≤ 100000) (hh : hi ≤ 100000) : ∃ v u, f_X12_number fu 153 (nI lo) (nI hi) st = some (nI v, u) ∧ Fr W5 st u ∧ Top u ∧ ROl b n T (pN b n lo hi t) u := by
  obtain ⟨N1, N2, N3⟩ := num_s hT h fu hl hh
  unfold pN pNum
  by_cases e : so b n t = 2
  · rw [if_pos e]
    by_cases e2 : lo ≤ nvt b n t ∧ nvt b n t ≤ hi
    · rw [if_pos e2, pb_i]
      obtain ⟨u, u1, u2, u3, u4⟩ := N1 e e2.1 e2.2
      refine ⟨_, u, u1, u2, u3, ?_⟩
      have g := tk_G u4 (by omega) ht
      unfold tk at g ⊢
      by_cases c : t < 60
      · rw [if_pos c] at g ⊢; exact g
      · rw [if_neg c] at g ⊢; exact g
    · rw [if_neg e2]
      obtain ⟨u, u1, u2⟩ := N2 e e2
      exact ⟨_, u, u1, u2.G (by omega) ht (by omega)⟩
  · rw [if_neg e]
    obtain ⟨u, u1, u2⟩ := N3 e
    exact ⟨_, u, u1, u2.G (by omega) ht (by omega)⟩
theorem needS_k {st : St} (hT : Top st) {b : BY} {n T t : Nat} (h : RS b n T t st) (ht : t ≤ 60) (fu : Nat) {c : Nat} (hc : 3 < c) (hc2 : c < 200) : ∃ u, f_X12_needSign fu 153 (nI c) st = some u ∧ Fr W5 st u ∧ Top u ∧ ROl b n T (pS b n c t) u := by
  obtain ⟨a, d⟩ := needS_s hT h fu hc hc2
  unfold pS pSg
  by_cases h1 : so b n t = c
  · rw [if_pos h1]
    obtain ⟨u, u1, u2, u3, u4⟩ := a h1
    exact ⟨u, u1, u2, u3, tk_G u4 (by omega) ht⟩
  · rw [if_neg h1]
    obtain ⟨u, u1, u2⟩ := d h1
    exact ⟨u, u1, u2.G (by omega) ht (by omega)⟩
