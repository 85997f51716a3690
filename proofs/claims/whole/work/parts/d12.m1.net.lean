/-! PURE: the house over time: keys 51 w + t (a way, entered at t), 1020 + 51 v + t (waiting at v from t on); spots 51 v + t -/
abbrev NW : Type := Nat × (Nat → Nat) × (Nat → Nat) × (Nat → Nat) × (Nat → Nat)
def NW.n (G : NW) : Nat := G.1
def NW.fr (G : NW) : Nat → Nat := G.2.1
def NW.to (G : NW) : Nat → Nat := G.2.2.1
def NW.wd (G : NW) : Nat → Nat := G.2.2.2.1
def NW.tm (G : NW) : Nat → Nat := G.2.2.2.2
def NW.ok (G : NW) : Prop := G.n ≤ 20 ∧ ∀ w, w < G.n → G.fr w ≤ 11 ∧ G.to w ≤ 11 ∧ G.fr w ≠ G.to w ∧ 1 ≤ G.wd w ∧ G.wd w ≤ 50 ∧ 1 ≤ G.tm w ∧ G.tm w ≤ 20
def kS (G : NW) (a : Nat) : Nat := if a < 1020 then 51 * G.fr (a / 51) + a % 51 else a - 1020
def kD (G : NW) (a : Nat) : Nat := if a < 1020 then 51 * G.to (a / 51) + (a % 51 + G.tm (a / 51)) else a - 1020 + 1
def kV (G : NW) (T a : Nat) : Prop := (a < 1020 ∧ a / 51 < G.n ∧ a % 51 + G.tm (a / 51) ≤ T) ∨ (1020 ≤ a ∧ a < 1632 ∧ (a - 1020) % 51 < T)
abbrev bl (G : NW) (g : Nat → Int) (s : Nat) : Int := bal 1632 (kS G) (kD G) g s
/-- a flow by T: c came, l are left -/
def FI (G : NW) (T : Nat) (c l : Nat → Nat) (g : Nat → Int) : Prop := (∀ a, a < 1632 → 0 ≤ g a) ∧ (∀ a, a < 1020 → kV G T a → g a ≤ (G.wd (a / 51) : Int)) ∧ (∀ a, a < 1632 → ¬ kV G T a → g a = 0) ∧ ∀ s, s < 561 → bl G g s = if s % 51 = 0 then (c (s / 51) : Int) - (l (s / 51) : Int) else 0
def Feas (G : NW) (c : Nat → Nat) (T : Nat) : Prop := ∃ f, FI G T c (fun _ => 0) f
/-- nobody who is left can get further -/
def Stuck (G : NW) (T : Nat) (l : Nat → Nat) (g : Nat → Int) : Prop := ∃ R : Nat → Bool, (∀ v, v < 11 → 0 < l v → R (51 * v) = true) ∧ (∀ s, 561 ≤ s → s < 612 → R s = false) ∧ (∀ a, kV G T a → R (kS G a) = true → (a < 1020 → g a < (G.wd (a / 51) : Int)) → R (kD G a) = true) ∧ ∀ a, kV G T a → R (kD G a) = true → 0 < g a → R (kS G a) = true
theorem kV.mono {G : NW} {T T' a : Nat} (h : kV G T a) (hT : T ≤ T') : kV G T' a := by
  rcases h with ⟨h1, h2, h3⟩ | ⟨h1, h2, h3⟩
  · exact Or.inl ⟨h1, h2, by omega⟩
  · exact Or.inr ⟨h1, h2, by omega⟩
theorem kV.lt {G : NW} {T a : Nat} (h : kV G T a) : a < 1632 := by
  rcases h with ⟨h1, h2, h3⟩ | ⟨h1, h2, h3⟩ <;> omega
theorem kV.dst {G : NW} (ok : G.ok) {T a : Nat} (hT : T ≤ 50) (h : kV G T a) : kD G a < 612 ∧ kS G a < 612 := by
  unfold kD kS
  rcases h with ⟨h1, h2, h3⟩ | ⟨h1, h2, h3⟩
  · rw [if_pos h1, if_pos h1]
    have := ok.2 _ h2
    omega
  · rw [if_neg (by omega), if_neg (by omega)]
    omega
theorem FI.b {G : NW} {T : Nat} {c l : Nat → Nat} {g : Nat → Int} (h : FI G T c l g) {s : Nat} (hs : s < 561) : bal 1632 (kS G) (kD G) g s = if s % 51 = 0 then (c (s / 51) : Int) - (l (s / 51) : Int) else 0 := h.2.2.2 s hs
theorem FI.cap {G : NW} {T : Nat} {c l : Nat → Nat} {g : Nat → Int} (h : FI G T c l g) {a : Nat} (ha : a < 1020) (hk : kV G T a) : g a ≤ (G.wd (a / 51) : Int) := h.2.1 a ha hk
theorem FI.mono {G : NW} {T T' : Nat} {c l : Nat → Nat} {g : Nat → Int} (h : FI G T c l g) (hT : T ≤ T') : FI G T' c l g := by
  refine ⟨h.1, fun a ha hk => ?_, fun a ha hk => h.2.2.1 a ha fun q => hk (q.mono hT), h.2.2.2⟩
  by_cases q : kV G T a
  · exact h.2.1 a ha q
  · rw [h.2.2.1 a (by omega) q]; exact Int.natCast_nonneg _
theorem si_pick {n : Nat} {f : Nat → Int} (h0 : ∀ i, i < n → 0 ≤ f i) (h : si n f ≤ 0) {k : Nat} (hk : k < n) : f k ≤ 0 := by
  have := si_ge h0 hk
  omega
theorem stuck_no {G : NW} (ok : G.ok) {T : Nat} (hT : T ≤ 50) {c l : Nat → Nat} {f g : Nat → Int} (hg : FI G T c l g) (hs : Stuck G T l g) (hf : FI G T c (fun _ => 0) f) : ∀ v, v < 11 → l v = 0 := by
  obtain ⟨R, r1, r2, r3, r4⟩ := hs
  have key := cut_le (K := 1632) (N := 561) (src := kS G) (dst := kD G) (f := f) (g := g) (R := R) ?_ ?_
  · rw [show si 561 (fun s => if R s then bal 1632 (kS G) (kD G) f s else 0) = si 561 (fun s => if R s then (if s % 51 = 0 then (c (s / 51) : Int) else 0) else 0) from si_c fun s hs => by
        by_cases q : R s = true
        · rw [if_pos q, if_pos q, hf.b hs]
          by_cases q2 : s % 51 = 0
          · rw [if_pos q2, if_pos q2]; omega
          · rw [if_neg q2, if_neg q2]
        · rw [if_neg q, if_neg q],
      show si 561 (fun s => if R s then bal 1632 (kS G) (kD G) g s else 0) = si 561 (fun s => (if R s then (if s % 51 = 0 then (c (s / 51) : Int) else 0) else 0) - (if R s then (if s % 51 = 0 then (l (s / 51) : Int) else 0) else 0)) from si_c fun s hs => by
        by_cases q : R s = true
        · rw [if_pos q, if_pos q, if_pos q, hg.b hs]
          by_cases q2 : s % 51 = 0
          · rw [if_pos q2, if_pos q2, if_pos q2]
          · rw [if_neg q2, if_neg q2, if_neg q2]; rfl
        · rw [if_neg q, if_neg q, if_neg q]; rfl, si_sub] at key
    intro v hv
    rcases Nat.eq_zero_or_pos (l v) with q | q
    · exact q
    · have h0 : ∀ i, i < 561 → 0 ≤ (if R i then (if i % 51 = 0 then (l (i / 51) : Int) else 0) else 0) := fun i _ => by
        by_cases q : R i = true
        · rw [if_pos q]
          by_cases q2 : i % 51 = 0
          · rw [if_pos q2]; omega
          · rw [if_neg q2]; omega
        · rw [if_neg q]; omega
      have := si_pick h0 (by omega) (k := 51 * v) (by omega)
      rw [if_pos (r1 v hv q), if_pos (by omega), show 51 * v / 51 = v by omega] at this
      omega
  · intro a ha h1 h2
    by_cases hk : kV G T a
    · have hd := (hk.dst ok hT).1
      have no : R (kD G a) = true → False := fun q => by
        rcases Nat.lt_or_ge (kD G a) 561 with w | w
        · exact h2 ⟨w, q⟩
        · rw [r2 _ w hd] at q; cases q
      by_cases h3 : a < 1020
      · by_cases h4 : g a < (G.wd (a / 51) : Int)
        · exact absurd (r3 a hk h1.2 fun _ => h4) no
        · have := hf.cap h3 hk
          omega
      · exact absurd (r3 a hk h1.2 fun q => absurd q h3) no
    · rw [hf.2.2.1 a ha hk, hg.2.2.1 a ha hk]; exact Int.le_refl _
  · intro a ha h1 h2
    have h0 := hf.1 a ha
    by_cases h3 : 0 < g a
    · have hk : kV G T a := Classical.byContradiction fun q => by rw [hg.2.2.1 a ha q] at h3; omega
      have hr := r4 a hk h2.2 h3
      have hd := (hk.dst ok hT).2
      rcases Nat.lt_or_ge (kS G a) 561 with w | w
      · exact absurd ⟨w, hr⟩ h1
      · rw [r2 _ w hd] at hr; cases hr
    · omega
/-- no time below a stable distance -/
theorem far_no {G : NW} (ok : G.ok) {T : Nat} (hT : T ≤ 50) {c : Nat → Nat} {f : Nat → Int} (hf : FI G T c (fun _ => 0) f) {d : Nat → Nat} (h11 : d 11 = 0) (hd : ∀ w, w < G.n → d (G.fr w) ≤ d (G.to w) + G.tm w) : ∀ v, v < 11 → 0 < c v → d v ≤ T := by
  have key := cut_le (K := 1632) (N := 561) (src := kS G) (dst := kD G) (f := f) (g := fun _ => 0) (R := fun s => decide (T < d (s / 51) + s % 51)) ?_ ?_
  · rw [show si 561 (fun s => if decide (T < d (s / 51) + s % 51) = true then bal 1632 (kS G) (kD G) (fun _ => 0) s else 0) = 0 from Eq.trans (si_c fun s _ => by
        have : bal 1632 (kS G) (kD G) (fun _ => 0) s = 0 := by unfold bal; refine Eq.trans (si_c fun a _ => ?_) (si_0 1632); simp
        rw [this]; simp) (si_0 561)] at key
    intro v hv hc
    rcases Nat.lt_or_ge T (d v) with q | q
    · have h0 : ∀ i, i < 561 → 0 ≤ (fun s => if decide (T < d (s / 51) + s % 51) = true then bal 1632 (kS G) (kD G) f s else 0) i := fun i hi => by
        show 0 ≤ (if decide (T < d (i / 51) + i % 51) = true then bal 1632 (kS G) (kD G) f i else 0)
        by_cases q : decide (T < d (i / 51) + i % 51) = true
        · rw [if_pos q, hf.b hi]
          by_cases q2 : i % 51 = 0
          · rw [if_pos q2]; omega
          · rw [if_neg q2]; omega
        · rw [if_neg q]; omega
      have := si_pick h0 key (k := 51 * v) (by omega)
      have e1 : decide (T < d (51 * v / 51) + 51 * v % 51) = true := decide_eq_true (by rw [show 51 * v / 51 = v by omega]; omega)
      have this : (if decide (T < d (51 * v / 51) + 51 * v % 51) = true then bal 1632 (kS G) (kD G) f (51 * v) else 0) ≤ 0 := this
      rw [if_pos e1, hf.b (by omega), if_pos (by omega), show 51 * v / 51 = v by omega] at this
      omega
    · exact q
  · intro a ha h1 h2
    by_cases hk : kV G T a
    · exfalso
      apply h2
      have hs := of_decide_eq_true h1.2
      rcases hk with ⟨k1, k2, k3⟩ | ⟨k1, k2, k3⟩
      · have eS : kS G a = 51 * G.fr (a / 51) + a % 51 := by unfold kS; rw [if_pos k1]
        have eD : kD G a = 51 * G.to (a / 51) + (a % 51 + G.tm (a / 51)) := by unfold kD; rw [if_pos k1]
        have o := ok.2 _ k2
        have st := hd _ k2
        rw [eS, show (51 * G.fr (a / 51) + a % 51) / 51 = G.fr (a / 51) by omega, show (51 * G.fr (a / 51) + a % 51) % 51 = a % 51 by omega] at hs
        have n11 : G.to (a / 51) ≠ 11 := fun e => by rw [e, h11] at st; omega
        rw [eD]
        refine ⟨by omega, decide_eq_true ?_⟩
        rw [show (51 * G.to (a / 51) + (a % 51 + G.tm (a / 51))) / 51 = G.to (a / 51) by omega, show (51 * G.to (a / 51) + (a % 51 + G.tm (a / 51))) % 51 = a % 51 + G.tm (a / 51) by omega]
        omega
      · have eS : kS G a = a - 1020 := by unfold kS; rw [if_neg (by omega)]
        have eD : kD G a = a - 1020 + 1 := by unfold kD; rw [if_neg (by omega)]
        rw [eS] at hs h1
        rw [eD]
        refine ⟨by omega, decide_eq_true ?_⟩
        rw [show (a - 1020 + 1) / 51 = (a - 1020) / 51 by omega, show (a - 1020 + 1) % 51 = (a - 1020) % 51 + 1 by omega]
        omega
    · rw [hf.2.2.1 a ha hk]; exact Int.le_refl _
  · intro a ha _ _
    exact hf.1 a ha
