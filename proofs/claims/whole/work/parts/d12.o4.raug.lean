/-! PURE: what the reference's search says -/
theorem kV.sp {G : NW} (ok : G.ok) {T a : Nat} (hT : T ≤ 50) (h : kV G T a) : kD G a % 51 ≤ T ∧ kS G a % 51 ≤ T := by
  unfold kD kS
  rcases h with ⟨h1, h2, h3⟩ | ⟨h1, h2, h3⟩
  · rw [if_pos h1, if_pos h1]
    omega
  · rw [if_neg (by omega), if_neg (by omega)]
    omega
theorem rS0 {G : NW} {kap : Nat → Nat} (j : Nat) : rS G kap (2 * j) = kS G (kap j) := by unfold rS; rw [if_pos (by omega), show 2 * j / 2 = j by omega]
theorem rD0 {G : NW} {kap : Nat → Nat} (j : Nat) : rD G kap (2 * j) = kD G (kap j) := by unfold rD; rw [if_pos (by omega), show 2 * j / 2 = j by omega]
theorem rR0 {G : NW} {kap g : Nat → Nat} (j : Nat) : rR G kap g (2 * j) = cp G (kap j) - g (kap j) := by unfold rR; rw [if_pos (by omega), show 2 * j / 2 = j by omega]
theorem rS1 {G : NW} {kap : Nat → Nat} (j : Nat) : rS G kap (2 * j + 1) = kD G (kap j) := by unfold rS; rw [if_neg (by omega), show (2 * j + 1) / 2 = j by omega]
theorem rD1 {G : NW} {kap : Nat → Nat} (j : Nat) : rD G kap (2 * j + 1) = kS G (kap j) := by unfold rD; rw [if_neg (by omega), show (2 * j + 1) / 2 = j by omega]
theorem rR1 {G : NW} {kap g : Nat → Nat} (j : Nat) : rR G kap g (2 * j + 1) = g (kap j) := by unfold rR; rw [if_neg (by omega), show (2 * j + 1) / 2 = j by omega]
theorem si_sn {c l : Nat → Nat} (h : ∀ v, v < 11 → l v ≤ c v ∧ c v ≤ 60) : ∀ n, n ≤ 11 → si n (fun v => (c v : Int) - (l v : Int)) ≤ 60 * n := by
  intro n
  induction n with
  | zero => intro _; exact Int.le_refl _
  | succ n ih =>
    intro hn
    have a := ih (by omega)
    have b := h n (by omega)
    show si n (fun v => (c v : Int) - (l v : Int)) + ((c n : Int) - (l n : Int)) ≤ _
    omega
/-- a wait is never full -/
theorem wait_lt {G : NW} (ok : G.ok) {T : Nat} (hT : T ≤ 50) {c l g : Nat → Nat} (hF : FI G T c l (iN g)) (hO : ∀ s, 561 ≤ s → s < 612 → bl G (iN g) s ≤ 0) (hc : ∀ v, v < 11 → l v ≤ c v ∧ c v ≤ 60) {a : Nat} (ha : 1020 ≤ a) (hk : kV G T a) : g a < 6000 := by
  have h : a < 1632 ∧ (a - 1020) % 51 < T := by
    rcases hk with ⟨h1, h2, h3⟩ | ⟨h1, h2, h3⟩
    · omega
    · exact ⟨h2, h3⟩
  have q := t_cut ok hT hF hO (v := (a - 1020) / 51) (t := (a - 1020) % 51) (by omega) h.2
  rw [show 1020 + (51 * ((a - 1020) / 51) + (a - 1020) % 51) = a by omega] at q
  have q : ((g a : Nat) : Int) ≤ _ := q
  have r := si_sn hc 11 (Nat.le_refl _)
  omega
theorem stuck_r {G : NW} (ok : G.ok) {T : Nat} (hT : T ≤ 50) {c l g : Nat → Nat} (hF : FI G T c l (iN g)) (hO : ∀ s, 561 ≤ s → s < 612 → bl G (iN g) s ≤ 0) (hc : ∀ v, v < 11 → l v ≤ c v ∧ c v ≤ 60) {N : Nat} {kap : Nat → Nat} (hK : KA (kV G T) N kap) {C : Nat → Option (Option Nat)} {Q : Nat → Nat} {b : Nat} (hB : rB (2 * N) (rS G kap) (rD G kap) (rR G kap g) l C Q b) (hs : ∀ v, v < 11 → 0 < l v → C (51 * v) ≠ none) (hp : ∀ e, e < 2 * N → C (rS G kap e) ≠ none → 0 < rR G kap g e → C (rD G kap e) ≠ none) (hg : C (561 + T) = none) : Stuck G T l (iN g) := by
  have fw : ∀ a, kV G T a → C (kS G a) ≠ none → (a < 1020 → g a < G.wd (a / 51)) → C (kD G a) ≠ none := fun a hk h1 h2 => by
    obtain ⟨j, hj, rfl⟩ := hK.2.2 a hk
    have := hp (2 * j) (by omega) (by rw [rS0]; exact h1) (by
      rw [rR0]
      unfold cp
      by_cases q : kap j < 1020
      · rw [if_pos q]; have := h2 q; omega
      · rw [if_neg q]; have := wait_lt ok hT hF hO hc (by omega) hk; omega)
    rwa [rD0] at this
  have no : ∀ d t, t + d = T → C (561 + t) = none := by
    intro d
    induction d with
    | zero => intro t ht; rw [show t = T by omega]; exact hg
    | succ d ih =>
      intro t ht
      have n1 := ih (t + 1) (by omega)
      refine Classical.byContradiction fun q => ?_
      have hk : kV G T (1020 + (561 + t)) := Or.inr ⟨by omega, by omega, by omega⟩
      have eS : kS G (1020 + (561 + t)) = 561 + t := by unfold kS; rw [if_neg (by omega)]; omega
      have eD : kD G (1020 + (561 + t)) = 561 + (t + 1) := by unfold kD; rw [if_neg (by omega)]; omega
      have := fw _ hk (by rw [eS]; exact q) (fun c => by omega)
      rw [eD] at this
      exact this n1
  have out : ∀ s, 561 ≤ s → s < 612 → C s = none := fun s h1 h2 => by
    rcases Nat.lt_or_ge T (s - 561) with q | q
    · refine Classical.byContradiction fun c => ?_
      obtain ⟨i, hi, e⟩ := hB.2.2.1 s h2 c
      cases r : C s with
      | none => exact c r
      | some y =>
        cases y with
        | none => obtain ⟨v, v1, v2, -⟩ := hB.2.2.2.1 s h2 r; omega
        | some e' =>
          obtain ⟨x1, x2, -⟩ := hB.2.2.2.2 i e' hi (by rw [e]; exact r)
          have k := (hK.1 (e' / 2) (by omega)).sp ok hT
          rw [e] at x2
          unfold rD at x2
          by_cases z : e' % 2 = 0
          · rw [if_pos z] at x2; omega
          · rw [if_neg z] at x2; omega
    · have := no (T - (s - 561)) (s - 561) (by omega)
      rwa [show 561 + (s - 561) = s by omega] at this
  refine ⟨fun s => (C s).isSome, fun v hv hl => ?_, fun s h1 h2 => ?_, fun a hk h1 h2 => ?_, fun a hk h1 h2 => ?_⟩
  · exact Option.isSome_iff_ne_none.mpr (hs v hv hl)
  · show (C s).isSome = false
    rw [out s h1 h2]; rfl
  · refine Option.isSome_iff_ne_none.mpr (fw a hk (Option.isSome_iff_ne_none.mp h1) fun c => ?_)
    have : ((g a : Nat) : Int) < ((G.wd (a / 51) : Nat) : Int) := h2 c
    omega
  · have h2 : 0 < g a := by
      have : (0 : Int) < ((g a : Nat) : Int) := h2
      omega
    obtain ⟨j, hj, rfl⟩ := hK.2.2 a hk
    have := hp (2 * j + 1) (by omega) (by rw [rS1]; exact Option.isSome_iff_ne_none.mp h1) (by rw [rR1]; exact h2)
    rw [rD1] at this
    exact Option.isSome_iff_ne_none.mpr this
/-- along the way back goes x more -/
theorem aug_r {G : NW} {T : Nat} {c l g : Nat → Nat} (hF : FI G T c l (iN g)) (hO : ∀ s, 561 ≤ s → s < 612 → bl G (iN g) s ≤ 0) {N : Nat} {kap : Nat → Nat} (hK : KA (kV G T) N kap) (hgc : ∀ j, j < N → g (kap j) ≤ cp G (kap j)) {C : Nat → Option (Option Nat)} {Q : Nat → Nat} {b : Nat} (hB : rB (2 * N) (rS G kap) (rD G kap) (rR G kap g) l C Q b) {m : Nat} {P E : Nat → Nat} (hP : rP (2 * N) (rS G kap) (rD G kap) (rR G kap g) C Q b m P E) {v x : Nat} (hv : v < 11) (h0 : Q (P m) = 51 * v) (hm : 561 ≤ Q (P 0)) (hx : x ≤ l v) (hxr : ∀ j, j < m → x ≤ rR G kap g (E j)) : (∀ i j, i < j → j < m → kap (E i / 2) ≠ kap (E j / 2)) ∧ FI G T c (fun u => if u = v then l u - x else l u) (iN (pu (fun i => kap (E i / 2)) (fun i => decide (E i % 2 = 0)) x g m)) ∧ ∀ s, 561 ≤ s → s < 612 → bl G (iN (pu (fun i => kap (E i / 2)) (fun i => decide (E i % 2 = 0)) x g m)) s ≤ 0 := by
  have key : ∀ j, j < m → kV G T (kap (E j / 2)) ∧ (E j % 2 = 0 → kS G (kap (E j / 2)) = Q (P (j + 1)) ∧ kD G (kap (E j / 2)) = Q (P j) ∧ g (kap (E j / 2)) + x ≤ cp G (kap (E j / 2))) ∧ (E j % 2 ≠ 0 → kD G (kap (E j / 2)) = Q (P (j + 1)) ∧ kS G (kap (E j / 2)) = Q (P j) ∧ x ≤ g (kap (E j / 2))) := fun j hj => by
    obtain ⟨a1, a2, a3, a4, a5, a6⟩ := hP.2.1 j hj
    have r := hxr j hj
    have gc := hgc (E j / 2) (by omega)
    unfold rS at a3
    unfold rD at a4
    unfold rR at r a6
    refine ⟨hK.1 _ (by omega), fun z => ?_, fun z => ?_⟩
    · rw [if_pos z] at a3 a4 r a6
      exact ⟨a3, a4, by omega⟩
    · rw [if_neg z] at a3 a4 r a6
      exact ⟨a3, a4, r⟩
  have dis : ∀ i j, i < j → j ≤ m → Q (P (m - i)) ≠ Q (P (m - j)) := fun i j hi hj => by
    have a := hP.ne (j - i - 1) (m - j) (by omega)
    rw [show m - j + (j - i - 1 + 1) = m - i by omega] at a
    exact hB.2.1 _ _ a (hP.1 _ (by omega))
  have pt : Pth G T g (fun i => Q (P (m - i))) (fun i => kap (E (m - 1 - i) / 2)) (fun i => decide (E (m - 1 - i) % 2 = 0)) x m := by
    refine ⟨fun i hi => ?_, key_ne (G := G) (p := fun i => Q (P (m - i))) dis fun i hi => ?_⟩
    · obtain ⟨k1, k2, k3⟩ := key (m - 1 - i) (by omega)
      rw [show m - 1 - i + 1 = m - i by omega] at k2 k3
      refine ⟨k1, fun hb => ?_, fun hb => ?_⟩
      · obtain ⟨a1, a2, a3⟩ := k2 (of_decide_eq_true hb)
        refine ⟨a1, ?_, fun c => ?_⟩
        · show kD G (kap (E (m - 1 - i) / 2)) = Q (P (m - (i + 1)))
          rw [show m - (i + 1) = m - 1 - i by omega]; exact a2
        · unfold cp at a3
          have c : kap (E (m - 1 - i) / 2) < 1020 := c
          rw [if_pos c] at a3
          exact a3
      · obtain ⟨a1, a2, a3⟩ := k3 (of_decide_eq_false hb)
        refine ⟨a1, ?_, a3⟩
        show kS G (kap (E (m - 1 - i) / 2)) = Q (P (m - (i + 1)))
        rw [show m - (i + 1) = m - 1 - i by omega]; exact a2
    · obtain ⟨k1, k2, k3⟩ := key (m - 1 - i) (by omega)
      rw [show m - 1 - i + 1 = m - i by omega] at k2 k3
      show (kS G (kap (E (m - 1 - i) / 2)) = Q (P (m - i)) ∧ kD G (kap (E (m - 1 - i) / 2)) = Q (P (m - (i + 1)))) ∨ (kD G (kap (E (m - 1 - i) / 2)) = Q (P (m - i)) ∧ kS G (kap (E (m - 1 - i) / 2)) = Q (P (m - (i + 1))))
      rw [show m - (i + 1) = m - 1 - i by omega]
      by_cases z : E (m - 1 - i) % 2 = 0
      · exact Or.inl ⟨(k2 z).1, (k2 z).2.1⟩
      · exact Or.inr ⟨(k3 z).1, (k3 z).2.1⟩
  have dk : ∀ i j, i < j → j < m → kap (E i / 2) ≠ kap (E j / 2) := fun i j hi hj e => by
    have := pt.2 (m - 1 - j) (m - 1 - i) (by omega) (by omega)
    have this : kap (E (m - 1 - (m - 1 - j)) / 2) ≠ kap (E (m - 1 - (m - 1 - i)) / 2) := this
    rw [show m - 1 - (m - 1 - j) = j by omega, show m - 1 - (m - 1 - i) = i by omega] at this
    exact this e.symm
  have rev := pu_rev (q := fun i => kap (E i / 2)) (b := fun i => decide (E i % 2 = 0)) (x := x) (m := m) (g := g) dk
  have e0 : Q (P (m - 0)) = 51 * v := h0
  have em : 561 ≤ Q (P (m - m)) := by rw [Nat.sub_self]; exact hm
  refine ⟨dk, ?_, fun s h1 h2 => ?_⟩
  · rw [← rev]
    exact pu_FI hF pt hv e0 em hx
  · rw [← rev]
    have pb := pu_bal pt s m (Nat.le_refl _)
    have o := hO s h1 h2
    rw [pb]
    show bl G (iN g) s + ((if Q (P (m - 0)) = s then (x : Int) else 0) - (if Q (P (m - m)) = s then (x : Int) else 0)) ≤ 0
    rw [e0, if_neg (show ¬ 51 * v = s by omega)]
    by_cases z : Q (P (m - m)) = s
    · rw [if_pos z]; omega
    · rw [if_neg z]; omega
