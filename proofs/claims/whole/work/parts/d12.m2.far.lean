/-! PURE: shortest times by turns: after twelve turns nothing changes -/
def rx (G : NW) (d : Nat → Nat) : Nat → Nat → Nat
  | 0 => d
  | w + 1 => fun v => if v = G.fr w ∧ rx G d w (G.to w) + G.tm w < rx G d w (G.fr w) then rx G d w (G.to w) + G.tm w else rx G d w v
def tn (G : NW) (d : Nat → Nat) : Nat → Nat → Nat
  | 0 => d
  | k + 1 => rx G (tn G d k) G.n
theorem rx_le (G : NW) (d : Nat → Nat) (w v : Nat) : rx G d (w + 1) v ≤ rx G d w v := by
  show (if v = G.fr w ∧ rx G d w (G.to w) + G.tm w < rx G d w (G.fr w) then rx G d w (G.to w) + G.tm w else rx G d w v) ≤ _
  by_cases h : v = G.fr w ∧ rx G d w (G.to w) + G.tm w < rx G d w (G.fr w)
  · rw [if_pos h]; have := h.1; subst this; omega
  · rw [if_neg h]; exact Nat.le_refl _
theorem rx_anti (G : NW) (d : Nat → Nat) (v : Nat) {w w' : Nat} (h : w ≤ w') : rx G d w' v ≤ rx G d w v := by
  induction w' with
  | zero => have : w = 0 := by omega
            subst this; exact Nat.le_refl _
  | succ n ih =>
    by_cases e : w = n + 1
    · subst e; exact Nat.le_refl _
    · exact Nat.le_trans (rx_le G d n v) (ih (by omega))
theorem rx_w (G : NW) (d : Nat → Nat) {w : Nat} (h : w < G.n) : rx G d G.n (G.fr w) ≤ d (G.to w) + G.tm w := by
  refine Nat.le_trans (rx_anti G d (G.fr w) (show w + 1 ≤ G.n by omega)) ?_
  have h0 : rx G d w (G.to w) ≤ d (G.to w) := rx_anti G d (G.to w) (Nat.zero_le w)
  show (if G.fr w = G.fr w ∧ rx G d w (G.to w) + G.tm w < rx G d w (G.fr w) then rx G d w (G.to w) + G.tm w else rx G d w (G.fr w)) ≤ _
  by_cases q : G.fr w = G.fr w ∧ rx G d w (G.to w) + G.tm w < rx G d w (G.fr w)
  · rw [if_pos q]; omega
  · rw [if_neg q]
    have : ¬ rx G d w (G.to w) + G.tm w < rx G d w (G.fr w) := fun c => q ⟨rfl, c⟩
    omega
theorem rx_sup (G : NW) (d0 d : Nat → Nat) (h : ∀ v, d v = d0 v ∨ ∃ w, w < G.n ∧ G.fr w = v ∧ d (G.to w) + G.tm w ≤ d v) : ∀ k, k ≤ G.n → ∀ v, rx G d k v = d0 v ∨ ∃ w, w < G.n ∧ G.fr w = v ∧ rx G d k (G.to w) + G.tm w ≤ rx G d k v := by
  intro k
  induction k with
  | zero => intro _ v; exact h v
  | succ k ih =>
    intro hk v
    have le : ∀ u, rx G d (k + 1) u ≤ rx G d k u := rx_le G d k
    by_cases q : v = G.fr k ∧ rx G d k (G.to k) + G.tm k < rx G d k (G.fr k)
    · refine Or.inr ⟨k, by omega, q.1.symm, ?_⟩
      have e : rx G d (k + 1) v = rx G d k (G.to k) + G.tm k := by
        show (if v = G.fr k ∧ rx G d k (G.to k) + G.tm k < rx G d k (G.fr k) then rx G d k (G.to k) + G.tm k else rx G d k v) = _
        rw [if_pos q]
      rw [e]
      have := le (G.to k)
      omega
    · have e : rx G d (k + 1) v = rx G d k v := by
        show (if v = G.fr k ∧ rx G d k (G.to k) + G.tm k < rx G d k (G.fr k) then rx G d k (G.to k) + G.tm k else rx G d k v) = _
        rw [if_neg q]
      rw [e]
      rcases ih (by omega) v with a | ⟨w, a, b, c⟩
      · exact Or.inl a
      · refine Or.inr ⟨w, a, b, ?_⟩
        have := le (G.to w)
        omega
theorem tn_le (G : NW) (d : Nat → Nat) (k v : Nat) : tn G d (k + 1) v ≤ tn G d k v := rx_anti G (tn G d k) v (Nat.zero_le G.n)
theorem tn_anti (G : NW) (d : Nat → Nat) (v : Nat) {k k' : Nat} (h : k ≤ k') : tn G d k' v ≤ tn G d k v := by
  induction k' with
  | zero => have : k = 0 := by omega
            subst this; exact Nat.le_refl _
  | succ n ih =>
    by_cases e : k = n + 1
    · subst e; exact Nat.le_refl _
    · exact Nat.le_trans (tn_le G d n v) (ih (by omega))
theorem tn_sup (G : NW) (d : Nat → Nat) : ∀ k v, tn G d k v = d v ∨ ∃ w, w < G.n ∧ G.fr w = v ∧ tn G d k (G.to w) + G.tm w ≤ tn G d k v := by
  intro k
  induction k with
  | zero => intro v; exact Or.inl rfl
  | succ k ih => intro v; exact rx_sup G d (tn G d k) ih G.n (Nat.le_refl _) v
def sn : Nat → (Nat → Nat) → Nat
  | 0, _ => 0
  | n + 1, f => sn n f + f n
theorem sn_le {n : Nat} {f g : Nat → Nat} (h : ∀ i, i < n → f i ≤ g i) : sn n f ≤ sn n g := by
  induction n with
  | zero => exact Nat.le_refl _
  | succ n ih => show sn n f + f n ≤ sn n g + g n; have := ih fun i hi => h i (by omega); have := h n (by omega); omega
theorem sn_lt {n : Nat} {f g : Nat → Nat} (h : ∀ i, i < n → f i ≤ g i) {k : Nat} (hk : k < n) (hl : f k < g k) : sn n f < sn n g := by
  induction n with
  | zero => omega
  | succ n ih =>
    show sn n f + f n < sn n g + g n
    have a := h n (by omega)
    by_cases e : k = n
    · subst e; have := sn_le (n := k) (f := f) (g := g) fun i hi => h i (by omega); omega
    · have := ih (fun i hi => h i (by omega)) (by omega); omega
theorem tn_stop (G : NW) (d : Nat → Nat) : ∀ N, (∃ K, K ≤ N ∧ ∀ v, v < 12 → tn G d (K + 1) v = tn G d K v) ∨ sn 12 (tn G d (N + 1)) + N + 1 ≤ sn 12 d := by
  intro N
  have step : ∀ k, (∀ v, v < 12 → tn G d (k + 1) v = tn G d k v) ∨ sn 12 (tn G d (k + 1)) + 1 ≤ sn 12 (tn G d k) := fun k => by
    by_cases h : ∀ v, v < 12 → tn G d (k + 1) v = tn G d k v
    · exact Or.inl h
    · refine Or.inr ?_
      obtain ⟨v, hv⟩ := Classical.not_forall.mp h
      obtain ⟨h1, h2⟩ := Classical.not_imp.mp hv
      have := tn_le G d k v
      exact sn_lt (fun i _ => tn_le G d k i) h1 (by omega)
  induction N with
  | zero =>
    rcases step 0 with a | a
    · exact Or.inl ⟨0, Nat.le_refl _, a⟩
    · exact Or.inr (by have a : sn 12 (tn G d (0 + 1)) + 1 ≤ sn 12 d := a; omega)
  | succ N ih =>
    rcases ih with ⟨K, a, b⟩ | a
    · exact Or.inl ⟨K, by omega, b⟩
    · rcases step (N + 1) with c | c
      · exact Or.inl ⟨N + 1, Nat.le_refl _, c⟩
      · exact Or.inr (by omega)
theorem rx_c (G : NW) (ok : G.ok) {d e : Nat → Nat} (h : ∀ v, v < 12 → d v = e v) : ∀ k, k ≤ G.n → ∀ v, v < 12 → rx G d k v = rx G e k v := by
  intro k
  induction k with
  | zero => intro _; exact h
  | succ k ih =>
    intro hk v hv
    have o := ok.2 k (by omega)
    show (if v = G.fr k ∧ rx G d k (G.to k) + G.tm k < rx G d k (G.fr k) then rx G d k (G.to k) + G.tm k else rx G d k v) = (if v = G.fr k ∧ rx G e k (G.to k) + G.tm k < rx G e k (G.fr k) then rx G e k (G.to k) + G.tm k else rx G e k v)
    rw [ih (by omega) v hv, ih (by omega) (G.to k) (by omega), ih (by omega) (G.fr k) (by omega)]
def stable (G : NW) (d : Nat → Nat) : Prop := ∀ w, w < G.n → d (G.fr w) ≤ d (G.to w) + G.tm w
theorem stable_of {G : NW} (ok : G.ok) {d : Nat → Nat} (h : ∀ v, v < 12 → rx G d G.n v = d v) : stable G d := fun w hw => by
  have := rx_w G d hw
  rw [h _ (by have := ok.2 w hw; omega)] at this
  exact this
theorem tn_12 {G : NW} (ok : G.ok) (d : Nat → Nat) : stable G (tn G d 12) := by
  obtain ⟨K, hK⟩ : ∃ K, ∀ v, v < 12 → tn G d (K + 1) v = tn G d K v := by
    rcases tn_stop G d (sn 12 d) with ⟨K, -, h⟩ | h
    · exact ⟨K, h⟩
    · omega
  have fin : ∀ k, K ≤ k → ∀ v, v < 12 → tn G d k v = tn G d K v := by
    intro k
    induction k with
    | zero => intro h v hv; have : K = 0 := by omega
              subst this; rfl
    | succ k ih =>
      intro h v hv
      by_cases e : K = k + 1
      · subst e; rfl
      · have e1 : tn G d (k + 1) v = tn G d (K + 1) v := rx_c G ok (ih (by omega)) G.n (Nat.le_refl _) v hv
        rw [e1, hK v hv]
  have low : ∀ k v, v < 12 → tn G d K v ≤ tn G d k v := fun k v hv => by
    rcases Nat.lt_or_ge k K with h | h
    · exact tn_anti G d v (by omega)
    · rw [fin k h v hv]; exact Nat.le_refl _
  have main : ∀ k v, v < 12 → sn 12 (fun u => if tn G d K u < tn G d K v then 1 else 0) ≤ k → tn G d k v = tn G d K v := by
    intro k
    induction k with
    | zero =>
      intro v hv hr
      rcases tn_sup G d K v with a | ⟨w, a, b, c⟩
      · exact a.symm
      · have o := ok.2 w a
        have : (if tn G d K (G.to w) < tn G d K v then 1 else 0) ≤ sn 12 (fun u => if tn G d K u < tn G d K v then 1 else 0) := by
          have := sn_lt (n := 12) (f := fun _ => 0) (g := fun u => if tn G d K u < tn G d K v then 1 else 0) (fun _ _ => Nat.zero_le _) (k := G.to w) (by omega) (by show 0 < (if tn G d K (G.to w) < tn G d K v then 1 else 0); rw [if_pos (by omega)]; omega)
          rw [if_pos (by omega)]; omega
        rw [if_pos (by omega)] at this
        omega
    | succ k ih =>
      intro v hv hr
      rcases tn_sup G d K v with a | ⟨w, a, b, c⟩
      · have h1 := low (k + 1) v hv
        have h2 : tn G d (k + 1) v ≤ d v := tn_anti G d v (Nat.zero_le _)
        omega
      · have o := ok.2 w a
        have lt : sn 12 (fun u => if tn G d K u < tn G d K (G.to w) then 1 else 0) < sn 12 (fun u => if tn G d K u < tn G d K v then 1 else 0) := by
          refine sn_lt (fun u _ => ?_) (k := G.to w) (by omega) ?_
          · show (if tn G d K u < tn G d K (G.to w) then 1 else 0) ≤ (if tn G d K u < tn G d K v then 1 else 0)
            by_cases q : tn G d K u < tn G d K (G.to w)
            · rw [if_pos q, if_pos (by omega)]; exact Nat.le_refl _
            · rw [if_neg q]; exact Nat.zero_le _
          · show (if tn G d K (G.to w) < tn G d K (G.to w) then 1 else 0) < (if tn G d K (G.to w) < tn G d K v then 1 else 0)
            rw [if_neg (by omega), if_pos (by omega)]; omega
        have e := ih (G.to w) (by omega) (by omega)
        have le : tn G d (k + 1) (G.fr w) ≤ tn G d k (G.to w) + G.tm w := rx_w G (tn G d k) a
        rw [b, e] at le
        have := low (k + 1) v hv
        omega
  have rk : ∀ v, v < 12 → sn 12 (fun u => if tn G d K u < tn G d K v then 1 else 0) ≤ 12 := fun v _ => by
    have := sn_le (n := 12) (f := fun u => if tn G d K u < tn G d K v then 1 else 0) (g := fun _ => 1) fun i _ => by
      show (if tn G d K i < tn G d K v then 1 else 0) ≤ 1
      by_cases q : tn G d K i < tn G d K v
      · rw [if_pos q]; exact Nat.le_refl _
      · rw [if_neg q]; omega
    exact this
  refine stable_of ok fun v hv => ?_
  have h1 : rx G (tn G d 12) G.n v = tn G d 13 v := rfl
  have h2 := main 12 v hv (rk v hv)
  have h3 := low 13 v hv
  have h4 : tn G d 13 v ≤ tn G d 12 v := tn_le G d 12 v
  rw [h1]
  omega
