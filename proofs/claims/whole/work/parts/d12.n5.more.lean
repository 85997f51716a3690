/-! PURE: the class sends all it can by a time -/
theorem sn_upd {n v : Nat} {l l' : Nat → Nat} (hv : v < n) (h1 : ∀ w, w ≠ v → l' w = l w) (h2 : l' v ≤ l v) : sn n l' + (l v - l' v) = sn n l := by
  have e : l' = fun u => if u = v then l u - (l v - l' v) else l u := by
    funext u
    by_cases q : u = v
    · rw [if_pos q, q]; omega
    · rw [if_neg q]; exact h1 u q
  have := sn_dn (n := n) (l := l) (x := l v - l' v) hv (Nat.sub_le _ _)
  rw [← e] at this
  exact this
set_option maxRecDepth 100000 in
theorem more_in {G : NW} (ok : G.ok) {L : Nat → List Nat} (hL : LKs G L) (hS : sn 612 (aA L) ≤ 3264) {fu : Nat} (hf : 9000 ≤ fu) {T : Nat} (hT5 : T ≤ 50) {c : Nat → Nat} {la : Nat → Option Nat} (hb : ∀ u k, u < 612 → la u = some k → k ≤ 611) (ht : ∀ s, s < 612 → la s ≠ none → s % 51 ≤ T) {l0 g0 : Nat → Nat} (h0 : ∀ v, v < 11 → 0 < l0 v → la (51 * v) = some 0) (k4 : Nat → Int32 → Int32 → Int32 → St → Option (Int32 × St)) {K r : Nat} (hK : K ≤ 1000) (hr : r < 1000000) : ∀ F v (l g tr : Nat → Nat) (S : Nat) (st : St), v ≤ 11 → 11 - v < F → CI G L T c l g st → (∀ s, s < 612 → gI st 148 s = oE (la s)) → (∀ s, s < 612 → gI st 149 s = nI (tr s)) → (∀ s, s < 612 → tr s ≤ aA L s) → (∀ w, l w ≤ l0 w) → S + sn 11 l = K → (sn 11 l = sn 11 l0 → l = l0 ∧ g = g0 ∧ eDI (aN G L T g0) (aA L) la tr ∧ ∀ w, w < v → 0 < l0 w → aA L (51 * w) ≤ tr (51 * w)) → ∃ l' g' tr' S' u, CI G L T c l' g' u ∧ (∀ w, l' w ≤ l0 w) ∧ S' + sn 11 l' = K ∧ (sn 11 l' = sn 11 l0 → l' = l0 ∧ g' = g0 ∧ eDI (aN G L T g0) (aA L) la tr' ∧ ∀ w, w < 11 → 0 < l0 w → aA L (51 * w) ≤ tr' (51 * w)) ∧ Fr W_sd st u ∧ b_X10_sendMore_29 fu k4 F 139 (nI T) (nI S) (nI r) (nI v) st = k4 139 (nI T) (nI S') (nI (r + 1)) u := by
  intro F
  induction F with
  | zero => intro v l g tr S st _ h2; omega
  | succ F ih =>
    intro v l g tr S st h1 h2 hI h8 h9 hr' hle hSK hD
    have hT := hI.1
    by_cases e : v = 11
    · refine ⟨l, g, tr, S, st, hI, hle, hSK, fun q => ⟨(hD q).1, (hD q).2.1, (hD q).2.2.1, fun w hw => (hD q).2.2.2 w (by omega)⟩, Fr.rf, ?_⟩
      show b_X10_sendMore_29_b fu k4 (b_X10_sendMore_29 fu k4 F) 139 (nI T) (nI S) (nI r) (nI v) st = _
      rw [e]
      simp (disch := first | decide | omega) [↓bd_e, isb, ck_tt, NP, NF, NC, NB, NS, GS, kdC, tpC hT, b_X10_sendMore_29_b]
    · have v11 : v < 11 := by omega
      have c6 := hI.2.2.2.2.1 v v11
      have key : ∃ l' g' tr' u, CI G L T c l' g' u ∧ (∀ s, s < 612 → gI u 148 s = oE (la s)) ∧ (∀ s, s < 612 → gI u 149 s = nI (tr' s)) ∧ (∀ s, s < 612 → tr' s ≤ aA L s) ∧ Fr W_sd st u ∧ (∀ s, tr s ≤ tr' s) ∧ (∀ w, w ≠ v → l' w = l w) ∧ l' v ≤ l v ∧ (l' v = l v → g' = g ∧ l' = l ∧ ((sn 11 l = sn 11 l0) → eDI (aN G L T g) (aA L) la tr') ∧ (0 < l v → aA L (51 * v) ≤ tr' (51 * v))) ∧ f_X10_sendFrom fu 139 (nI v) (nI T) st = some (nI (l v - l' v), u) := by
        rcases Nat.eq_zero_or_pos (l v) with z | z
        · have l5 := hI.2.2.1 v v11
          rw [z] at l5
          refine ⟨l, g, tr, st, hI, h8, h9, hr', Fr.rf, fun _ => Nat.le_refl _, fun _ _ => rfl, Nat.le_refl _, fun _ => ⟨rfl, rfl, fun q => by obtain ⟨-, a, b, -⟩ := hD q; rw [a]; exact b, fun q => by omega⟩, ?_⟩
          show b_X10_sendFrom_5 fu fu 139 (nI v) (nI T) 0 0 st = _
          obtain ⟨f, rfl⟩ : ∃ f, fu = f + 1 := ⟨fu - 1, by omega⟩
          show b_X10_sendFrom_5_b (f + 1) (b_X10_sendFrom_5 (f + 1) f) 139 (nI v) (nI T) 0 0 st = _
          simp (disch := first | decide | omega) [↓bd_e, isb, ck_tt, NP, NF, NC, NB, NS, GS, kdC, tpC hT, b_X10_sendFrom_5_b, b_X10_sendFrom_117, l5, z]
        · obtain ⟨l', g', tr', u, a1, a2, a3, a4, a5, a6, a7, a8, a9, a10⟩ := from_l ok hL hS hf hT5 hb ht v11 (h0 v v11 (by have := hle v; omega)) fu (sn 11 l = sn 11 l0) l g tr 0 0 st (by omega) (by omega) (by omega) hI h8 h9 hr' (fun q => by obtain ⟨-, a, b, -⟩ := hD q; rw [a]; exact b)
          exact ⟨l', g', tr', u, a1, a2, a3, a4, a5, a6, a7, a8, a9, by rw [Nat.zero_add] at a10; exact a10⟩
      obtain ⟨l', g', tr', u, a1, a2, a3, a4, a5, a6, a7, a8, a9, a10⟩ := key
      have su := sn_upd (n := 11) v11 a7 a8
      have le' : ∀ w, l' w ≤ l0 w := fun w => by
        have := hle w
        by_cases q : w = v
        · rw [q] at this ⊢; omega
        · rw [a7 w q]; exact this
      have e2 : b_X10_sendMore_29 fu k4 (F + 1) 139 (nI T) (nI S) (nI r) (nI v) st = b_X10_sendMore_29 fu k4 F 139 (nI T) (nI (S + (l v - l' v))) (nI r) (nI (v + 1)) u := by
        show b_X10_sendMore_29_b fu k4 (b_X10_sendMore_29 fu k4 F) 139 (nI T) (nI S) (nI r) (nI v) st = _
        simp (disch := first | decide | omega) [↓bd_e, isb, ck_tt, NP, NF, NC, NB, NS, GS, kdC, tpC hT, b_X10_sendMore_29_b, ↓caO a10]
      rw [e2]
      obtain ⟨l2, g2, tr2, S2, u2, b1, b2, b3, b4, b5, b6⟩ := ih (v + 1) l' g' tr' (S + (l v - l' v)) u (by omega) (by omega) a1 a2 a3 a4 le' (by omega) (fun q => by
        have s1 : sn 11 l ≤ sn 11 l0 := sn_le fun i _ => hle i
        have q1 : sn 11 l = sn 11 l0 := by omega
        have q2 : l' v = l v := by omega
        obtain ⟨d1, d2, d3, d4⟩ := a9 q2
        obtain ⟨f1, f2, f3, f4⟩ := hD q1
        refine ⟨by rw [d2, f1], by rw [d1, f2], by rw [← f2]; exact d3 q1, fun w hw hp => ?_⟩
        by_cases qw : w = v
        · rw [qw] at hp ⊢; exact d4 (by rw [f1]; exact hp)
        · exact Nat.le_trans (f4 w (by omega) hp) (a6 _))
      exact ⟨l2, g2, tr2, S2, u2, b1, b2, b3, b4, (a5.tr b5).wd (by decide), b6⟩
set_option maxRecDepth 100000 in
theorem more_l {G : NW} (ok : G.ok) {L : Nat → List Nat} (hL : LKs G L) (hS : sn 612 (aA L) ≤ 3264) {fu : Nat} (hf : 9000 ≤ fu) {T : Nat} (hT5 : T ≤ 50) {c : Nat → Nat} {K : Nat} (hK : K ≤ 1000) : ∀ F (l g : Nat → Nat) (S r : Nat) (st : St), sn 11 l < F → r + sn 11 l < 1000000 → CI G L T c l g st → S + sn 11 l = K → ∃ l' g' u, CI G L T c l' g' u ∧ Stuck G T l' (iN g') ∧ sn 11 l' ≤ sn 11 l ∧ Fr W_sd st u ∧ b_X10_sendMore_4 fu F 139 (nI T) (nI S) (nI r) st = some (nI (K - sn 11 l'), u) := by
  intro F
  induction F with
  | zero => intro l g S r st h; omega
  | succ F ih =>
    intro l g S r st h1 h2 hI hSK
    obtain ⟨hT, hC, hl, hF, hc, hg⟩ := hI
    have hz : ∀ a, a < 1632 → ¬ kV G T a → g a = 0 := fun a ha hk => by
      have : ((g a : Nat) : Int) = 0 := hF.2.2.1 a ha hk
      omega
    obtain ⟨la, fo, u, a1, a2, a3, a4, a5, a6, a7, a8, a9⟩ := layer_c ok hL (fu := fu) (by omega) hT5 hz (fun v hv => by have := hc v hv; omega) hT hC hl
    have u5 : gI u 145 = gI st 145 := a8.fi 145 (by decide)
    have hI1 : CI G L T c l g u := ⟨a1, a2, fun v hv => by rw [u5]; exact hl v hv, hF, hc, hg⟩
    have fa : Fr W_sd st u := a8.wd (by decide)
    have b01 : fo = 0 ∨ fo = 1 := by omega
    rcases b01 with q | q
    · subst q
      refine ⟨l, g, u, hI1, ?_, Nat.le_refl _, fa, ?_⟩
      · have no : ∀ s, 561 ≤ s → s < 612 → la s = none := fun s s1 s2 => by
          cases e : la s with
          | none => rfl
          | some k => exact absurd (a7.mpr ⟨s, s1, s2, by rw [e]; exact fun c => by cases c⟩) (by omega)
        refine stuck_of (R := fun s => (la s).isSome) ok hL hT5 (fun v hv hp => ?_) (fun s s1 s2 => ?_) (fun s j s' s1 s2 s3 s4 => ?_)
        · show (la (51 * v)).isSome = true
          rw [a4.1 v hv hp]; rfl
        · show (la s).isSome = false
          rw [no s s1 s2]; rfl
        · have s2 : (la s).isSome = true := s2
          have ns : la s ≠ none := fun c => by rw [c] at s2; cases s2
          have := a4.2.2.2.1 s j s' s1 ns s3 s4
          show (la s').isSome = true
          cases e : la s' with
          | none => exact absurd e this
          | some k => rfl
      · show b_X10_sendMore_4_b fu (b_X10_sendMore_4 fu F) 139 (nI T) (nI S) (nI r) st = _
        rw [show K - sn 11 l = S by omega]
        simp (disch := first | decide | omega) [↓bd_e, isb, ck_tt, NP, NF, NC, NB, NS, GS, kdC, tpC hT, b_X10_sendMore_4_b, ↓caO a9, b_X10_sendMore_58]
    · subst q
      obtain ⟨u1, f1, f2, f3, f4⟩ := fill_c (o := 149) (N := 612) (by decide) (by omega) fu (by omega) 0 u
      have hT1 : Top u1 := a1.r f3
      have fr1 : Fr W_wk u u1 := f2.wd (by decide)
      have hI2 : CI G L T c l g u1 := ⟨hT1, a2.fr fr1, fun v hv => by rw [fr1.fi 145 (by decide)]; exact hI1.2.2.1 v hv, hF, hc, hg⟩
      have e1 : b_X10_sendMore_4 fu (F + 1) 139 (nI T) (nI S) (nI r) st = b_X10_sendMore_29 fu (b_X10_sendMore_4 fu F) fu 139 (nI T) (nI S) (nI r) (nI 0) u1 := by
        show b_X10_sendMore_4_b fu (b_X10_sendMore_4 fu F) 139 (nI T) (nI S) (nI r) st = _
        unfold b_X10_sendMore_4_b
        rw [if_neg (show ¬ (1000000 : Int32) ≤ nI r from fun c => absurd ((nI_leI (a := 1000000) (b := r) (by omega) (by omega)).mp c) (by omega)), ck_t (by decide), caO a9, if_neg (show ¬ nI 1 = 0 by decide), tp_139_9 a1, ck_t (by decide), ck_t (by decide), bd_e, cvO f1]
        rfl
      obtain ⟨l', g', tr', S', u2, b1, b2, b3, b4, b5, b6⟩ := more_in (l0 := l) (g0 := g) (r := r) ok hL hS hf hT5 a4.2.2.2.2 a5 a4.1 (b_X10_sendMore_4 fu F) hK (by omega) fu 0 l g (fun _ => 0) S u1 (by omega) (by omega) hI2 (fun s hs => by rw [f2.fi 148 (by decide)]; exact a3 s hs) (fun s hs => by rw [f4]; show (if s < 612 then (0 : Int32) else _) = _; rw [if_pos hs]; rfl) (fun s _ => Nat.zero_le _) (fun _ => Nat.le_refl _) hSK (fun _ => ⟨rfl, rfl, fun s j s' k _ c => absurd c (Nat.not_lt_zero _), fun w hw => absurd hw (Nat.not_lt_zero _)⟩)
      have le : sn 11 l' ≤ sn 11 l := sn_le fun i _ => b2 i
      have ne : sn 11 l' ≠ sn 11 l := fun q => by
        obtain ⟨d1, d2, d3, d4⟩ := b4 q
        obtain ⟨s, s1, s2, s3⟩ := a7.mp rfl
        cases e : la s with
        | none => exact s3 e
        | some k =>
          have := (a4.no d3 d4 k s s2 e).1
          omega
      obtain ⟨l2, g2, u3, c1, c2, c3, c4, c5⟩ := ih l' g' S' (r + 1) u2 (by omega) (by omega) b1 b3
      exact ⟨l2, g2, u3, c1, c2, by omega, (((fa.tr fr1).tr b5).tr c4).wd (by decide), by rw [e1, b6, c5]⟩
