/-! PURE: nobody waits but who came: over a time's edge goes no more than was sent -/
theorem si_ap (a b : Nat) (f : Nat → Int) : si (a + b) f = si a f + si b (fun i => f (a + i)) := by
  induction b with
  | zero => show si a f = si a f + 0; omega
  | succ b ih => show si (a + b) f + f (a + b) = si a f + (si b (fun i => f (a + i)) + f (a + b)); rw [ih]; omega
theorem si_51 (m : Nat) (f : Nat → Int) : si (51 * m) (fun s => if s % 51 = 0 then f (s / 51) else 0) = si m f := by
  induction m with
  | zero => rfl
  | succ m ih =>
    have e : si 51 (fun i => (if (51 * m + i) % 51 = 0 then f ((51 * m + i) / 51) else 0)) = f m := by
      rw [si_c (g := fun i => if 0 = i then f m else 0) fun i hi => by
        show (if (51 * m + i) % 51 = 0 then f ((51 * m + i) / 51) else 0) = (if 0 = i then f m else 0)
        by_cases q : i = 0
        · rw [if_pos (by omega), if_pos q.symm, show (51 * m + i) / 51 = m by omega]
        · rw [if_neg (by omega), if_neg fun c => q c.symm], si_one, if_pos (by omega)]
    rw [show 51 * (m + 1) = 51 * m + 51 by omega, si_ap, ih]
    show si m f + si 51 (fun i => (if (51 * m + i) % 51 = 0 then f ((51 * m + i) / 51) else 0)) = si m f + f m
    rw [e]
theorem t_cut {G : NW} (ok : G.ok) {T : Nat} (hT : T ≤ 50) {c l : Nat → Nat} {g : Nat → Int} (hF : FI G T c l g) (hO : ∀ s, 561 ≤ s → s < 612 → bl G g s ≤ 0) {v t : Nat} (hv : v < 12) (ht : t < T) : g (1020 + (51 * v + t)) ≤ si 11 (fun v => (c v : Int) - (l v : Int)) := by
  have key := bal_cut 1632 612 (kS G) (kD G) g (fun s => decide (s % 51 ≤ t))
  have e1 : si 612 (fun s => if decide (s % 51 ≤ t) = true then bal 1632 (kS G) (kD G) g s else 0) ≤ si 11 (fun v => (c v : Int) - (l v : Int)) := by
    rw [← si_51 11 (fun v => (c v : Int) - (l v : Int)), show (612 : Nat) = 51 * 11 + 51 from rfl, si_ap, si_c (n := 51 * 11) (g := fun s => if s % 51 = 0 then ((c (s / 51) : Int) - (l (s / 51) : Int)) else 0) fun s hs => by
      show (if decide (s % 51 ≤ t) = true then bal 1632 (kS G) (kD G) g s else 0) = _
      rw [hF.b (by omega)]
      by_cases q : s % 51 = 0
      · rw [if_pos (decide_eq_true (by omega)), if_pos q]
      · rw [if_neg q]; simp]
    have e3 := si_le (n := 51) (f := fun i => if decide ((51 * 11 + i) % 51 ≤ t) = true then bal 1632 (kS G) (kD G) g (51 * 11 + i) else 0) (g := fun _ => 0) fun i hi => by
      show (if decide ((51 * 11 + i) % 51 ≤ t) = true then bal 1632 (kS G) (kD G) g (51 * 11 + i) else 0) ≤ 0
      by_cases q : (51 * 11 + i) % 51 ≤ t
      · rw [if_pos (decide_eq_true q)]; exact hO (51 * 11 + i) (by omega) (by omega)
      · rw [if_neg fun c => q (of_decide_eq_true c)]; omega
    rw [si_0] at e3
    omega
  rw [key] at e1
  refine Int.le_trans ?_ e1
  have pos : ∀ a, a < 1632 → 0 ≤ (fun a => (if kS G a < 612 ∧ decide (kS G a % 51 ≤ t) = true then g a else 0) - (if kD G a < 612 ∧ decide (kD G a % 51 ≤ t) = true then g a else 0)) a := fun a ha => by
    show 0 ≤ (if kS G a < 612 ∧ decide (kS G a % 51 ≤ t) = true then g a else 0) - (if kD G a < 612 ∧ decide (kD G a % 51 ≤ t) = true then g a else 0)
    have g0 := hF.1 a ha
    by_cases hk : kV G T a
    · by_cases q : kD G a < 612 ∧ decide (kD G a % 51 ≤ t) = true
      · have q2 := of_decide_eq_true q.2
        have p : kS G a < 612 ∧ decide (kS G a % 51 ≤ t) = true := by
          refine ⟨(hk.dst ok hT).2, decide_eq_true ?_⟩
          rcases hk with ⟨k1, k2, k3⟩ | ⟨k1, k2, k3⟩
          · have o := ok.2 _ k2
            unfold kD at q2
            unfold kS
            rw [if_pos k1] at q2 ⊢
            omega
          · unfold kD at q2
            unfold kS
            rw [if_neg (by omega)] at q2 ⊢
            omega
        rw [if_pos q, if_pos p]; omega
      · rw [if_neg q]
        by_cases p : kS G a < 612 ∧ decide (kS G a % 51 ≤ t) = true
        · rw [if_pos p]; omega
        · rw [if_neg p]; omega
    · rw [hF.2.2.1 a ha hk]; simp
  have := si_ge pos (k := 1020 + (51 * v + t)) (by omega)
  refine Int.le_trans (Int.le_of_eq ?_) this
  show _ = (if kS G (1020 + (51 * v + t)) < 612 ∧ decide (kS G (1020 + (51 * v + t)) % 51 ≤ t) = true then g (1020 + (51 * v + t)) else 0) - (if kD G (1020 + (51 * v + t)) < 612 ∧ decide (kD G (1020 + (51 * v + t)) % 51 ≤ t) = true then g (1020 + (51 * v + t)) else 0)
  have eS : kS G (1020 + (51 * v + t)) = 51 * v + t := by unfold kS; rw [if_neg (by omega)]; omega
  have eD : kD G (1020 + (51 * v + t)) = 51 * v + t + 1 := by unfold kD; rw [if_neg (by omega)]; omega
  rw [eS, eD, if_pos ⟨by omega, decide_eq_true (by omega)⟩, if_neg fun c => by have := of_decide_eq_true c.2; omega]
  omega
