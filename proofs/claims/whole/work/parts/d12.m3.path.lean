/-! PURE: x more along a path -/
/-- the flow after i arcs of a path have got x more: keys q, forward where b -/
def pu (q : Nat → Nat) (b : Nat → Bool) (x : Nat) (g : Nat → Nat) : Nat → Nat → Nat
  | 0 => g
  | i + 1 => fun a => if a = q i then (if b i = true then pu q b x g i a + x else pu q b x g i a - x) else pu q b x g i a
abbrev iN (g : Nat → Nat) : Nat → Int := fun a => (g a : Int)
theorem pu_o {q : Nat → Nat} {b : Nat → Bool} {x : Nat} {g : Nat → Nat} {a : Nat} : ∀ i, (∀ j, j < i → q j ≠ a) → pu q b x g i a = g a := by
  intro i
  induction i with
  | zero => intro _; rfl
  | succ i ih =>
    intro h
    show (if a = q i then _ else pu q b x g i a) = _
    rw [if_neg (fun e => h i (by omega) e.symm), ih fun j hj => h j (by omega)]
theorem pu_i {q : Nat → Nat} {b : Nat → Bool} {x : Nat} {g : Nat → Nat} {m : Nat} (hd : ∀ i j, i < j → j < m → q i ≠ q j) {j : Nat} : ∀ i, i ≤ m → j < i → pu q b x g i (q j) = if b j = true then g (q j) + x else g (q j) - x := by
  intro i
  induction i with
  | zero => intro _ h; omega
  | succ i ih =>
    intro hi hj
    show (if q j = q i then (if b i = true then pu q b x g i (q j) + x else pu q b x g i (q j) - x) else pu q b x g i (q j)) = _
    by_cases e : j = i
    · subst e
      rw [if_pos rfl, pu_o j fun k hk => hd k j hk (by omega)]
    · rw [if_neg (hd j i (by omega) (by omega)), ih (by omega) (by omega)]
theorem bal_c {K : Nat} {src dst : Nat → Nat} {g h : Nat → Int} (e : ∀ a, a < K → g a = h a) (s : Nat) : bal K src dst g s = bal K src dst h s := by
  unfold bal
  exact si_c fun a ha => by rw [e a ha]
/-- a path by T from spot p 0 to spot p m, with room for x -/
def Pth (G : NW) (T : Nat) (g : Nat → Nat) (p q : Nat → Nat) (b : Nat → Bool) (x m : Nat) : Prop := (∀ i, i < m → kV G T (q i) ∧ (b i = true → kS G (q i) = p i ∧ kD G (q i) = p (i + 1) ∧ (q i < 1020 → g (q i) + x ≤ G.wd (q i / 51))) ∧ (b i = false → kD G (q i) = p i ∧ kS G (q i) = p (i + 1) ∧ x ≤ g (q i))) ∧ ∀ i j, i < j → j < m → q i ≠ q j
theorem pu_bal {G : NW} {T : Nat} {g : Nat → Nat} {p q : Nat → Nat} {b : Nat → Bool} {x m : Nat} (h : Pth G T g p q b x m) (s : Nat) : ∀ i, i ≤ m → bl G (iN (pu q b x g i)) s = bl G (iN g) s + ((if p 0 = s then (x : Int) else 0) - (if p i = s then (x : Int) else 0)) := by
  intro i
  induction i with
  | zero => intro _; show bl G (iN g) s = _; omega
  | succ i ih =>
    intro hi
    obtain ⟨h1, h2, h3⟩ := h.1 i (by omega)
    have hk := h1.lt
    have e0 : pu q b x g i (q i) = g (q i) := pu_o i fun j hj => h.2 j i hj (by omega)
    have key : ∀ y : Int, (iN (pu q b x g (i + 1)) (q i) = iN (pu q b x g i) (q i) + y) → bl G (iN (pu q b x g (i + 1))) s = bl G (iN (pu q b x g i)) s + ((if kS G (q i) = s then y else 0) - (if kD G (q i) = s then y else 0)) := fun y hy => by
      rw [← bal_upd hk y s]
      refine bal_c (fun a _ => ?_) s
      unfold updI
      by_cases e : a = q i
      · rw [if_pos e, e, hy]
      · rw [if_neg e]
        show ((if a = q i then (if b i = true then pu q b x g i a + x else pu q b x g i a - x) else pu q b x g i a : Nat) : Int) = _
        rw [if_neg e]
    have ih := ih (by omega)
    by_cases hb : b i = true
    · obtain ⟨c1, c2, -⟩ := h2 hb
      rw [key (x : Int) (by
        show ((if q i = q i then (if b i = true then pu q b x g i (q i) + x else pu q b x g i (q i) - x) else pu q b x g i (q i) : Nat) : Int) = ((pu q b x g i (q i) : Nat) : Int) + x
        rw [if_pos rfl, if_pos hb]; omega), ih, c1, c2]
      omega
    · have hb : b i = false := by simpa using hb
      obtain ⟨c1, c2, c3⟩ := h3 hb
      rw [key (-(x : Int)) (by
        show ((if q i = q i then (if b i = true then pu q b x g i (q i) + x else pu q b x g i (q i) - x) else pu q b x g i (q i) : Nat) : Int) = ((pu q b x g i (q i) : Nat) : Int) + -(x : Int)
        rw [if_pos rfl, if_neg (by rw [hb]; decide), e0]; omega), ih, c1, c2]
      by_cases z1 : p (i + 1) = s <;> by_cases z2 : p i = s <;> simp [z1, z2] <;> omega
theorem pu_FI {G : NW} {T : Nat} {c l : Nat → Nat} {g : Nat → Nat} (hF : FI G T c l (iN g)) {p q : Nat → Nat} {b : Nat → Bool} {x m v : Nat} (h : Pth G T g p q b x m) (hv : v < 11) (h0 : p 0 = 51 * v) (hm : 561 ≤ p m) (hx : x ≤ l v) : FI G T c (fun u => if u = v then l u - x else l u) (iN (pu q b x g m)) := by
  have dec : ∀ a, (∀ j, j < m → q j ≠ a) ∨ ∃ j, j < m ∧ q j = a := fun a => by
    by_cases e : ∃ j, j < m ∧ q j = a
    · exact Or.inr e
    · exact Or.inl fun j hj e2 => e ⟨j, hj, e2⟩
  refine ⟨fun a _ => Int.natCast_nonneg _, fun a ha hk => ?_, fun a ha hk => ?_, fun s hs => ?_⟩
  · rcases dec a with e | ⟨j, hj, rfl⟩
    · show ((pu q b x g m a : Nat) : Int) ≤ _
      rw [pu_o m e]; exact hF.2.1 a ha hk
    · show ((pu q b x g m (q j) : Nat) : Int) ≤ _
      rw [pu_i h.2 m (Nat.le_refl _) hj]
      have := hF.2.1 (q j) ha hk
      have this : ((g (q j) : Nat) : Int) ≤ _ := this
      by_cases hb : b j = true
      · rw [if_pos hb]
        have := ((h.1 j hj).2.1 hb).2.2 ha
        omega
      · rw [if_neg hb]; omega
  · rcases dec a with e | ⟨j, hj, rfl⟩
    · show ((pu q b x g m a : Nat) : Int) = 0
      rw [pu_o m e]; exact hF.2.2.1 a ha hk
    · exact absurd (h.1 j hj).1 hk
  · rw [pu_bal h s m (Nat.le_refl _), hF.2.2.2 s hs, h0, if_neg (show ¬ p m = s by omega)]
    by_cases e : 51 * v = s
    · subst e
      rw [if_pos rfl, if_pos (by omega), if_pos (by omega), show 51 * v / 51 = v by omega]
      show _ = ((c v : Nat) : Int) - (((if v = v then l v - x else l v) : Nat) : Int)
      rw [if_pos rfl]; omega
    · rw [if_neg e]
      by_cases z : s % 51 = 0
      · rw [if_pos z, if_pos z]
        show _ = ((c (s / 51) : Nat) : Int) - (((if s / 51 = v then l (s / 51) - x else l (s / 51)) : Nat) : Int)
        rw [if_neg (by omega)]; omega
      · rw [if_neg z, if_neg z]; omega
/-- no key gets more than x more -/
theorem pu_up {G : NW} {T : Nat} {g : Nat → Nat} {p q : Nat → Nat} {b : Nat → Bool} {x m : Nat} (h : Pth G T g p q b x m) (a : Nat) : pu q b x g m a ≤ g a + x := by
  by_cases e : ∃ j, j < m ∧ q j = a
  · obtain ⟨j, hj, rfl⟩ := e
    rw [pu_i h.2 m (Nat.le_refl _) hj]
    by_cases hb : b j = true
    · rw [if_pos hb]; exact Nat.le_refl _
    · rw [if_neg hb]; omega
  · rw [pu_o m fun j hj e2 => e ⟨j, hj, e2⟩]; omega
