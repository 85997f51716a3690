/-! PURE: the class's least time -/
/-- the answer: the least time by which all can be out, or none -/
def LTm (G : NW) (c : Nat → Nat) (r : Int32) : Prop := (∃ T, T ≤ 50 ∧ r = nI T ∧ Feas G c T ∧ ∀ T', T' < T → ¬ Feas G c T') ∨ (r = -nI 1 ∧ ∀ T, T ≤ 50 → ¬ Feas G c T)
theorem LTm.one {G : NW} {c : Nat → Nat} {r r' : Int32} (h : LTm G c r) (h' : LTm G c r') : r = r' := by
  rcases h with ⟨T, a1, a2, a3, a4⟩ | ⟨a1, a2⟩ <;> rcases h' with ⟨U, b1, b2, b3, b4⟩ | ⟨b1, b2⟩
  · have : T = U := by
      rcases Nat.lt_trichotomy T U with q | q | q
      · exact absurd a3 (b4 T q)
      · exact q
      · exact absurd b3 (a4 U q)
    rw [a2, b2, this]
  · exact absurd a3 (b2 T a1)
  · exact absurd b3 (a2 U b1)
  · rw [a1, b1]
theorem sn_z {n : Nat} {l : Nat → Nat} (h : sn n l = 0) : ∀ v, v < n → l v = 0 := by
  induction n with
  | zero => intro v hv; omega
  | succ n ih =>
    intro v hv
    have h : sn n l + l n = 0 := h
    by_cases e : v = n
    · subst e; omega
    · exact ih (by omega) v (by omega)
theorem z_sn {n : Nat} {l : Nat → Nat} (h : ∀ v, v < n → l v = 0) : sn n l = 0 := by
  induction n with
  | zero => rfl
  | succ n ih => show sn n l + l n = 0; rw [ih fun v hv => h v (by omega), h n (by omega)]
theorem FI.z {G : NW} {T : Nat} {c l : Nat → Nat} {g : Nat → Int} (h : FI G T c l g) (hl : ∀ v, v < 11 → l v = 0) : FI G T c (fun _ => 0) g := by
  refine ⟨h.1, h.2.1, h.2.2.1, fun s hs => ?_⟩
  rw [h.2.2.2 s hs, hl (s / 51) (by omega)]
theorem CI.mono {G : NW} {L : Nat → List Nat} {T T' : Nat} {c l g : Nat → Nat} {st : St} (h : CI G L T c l g st) (hT : T ≤ T') : CI G L T' c l g st := ⟨h.1, h.2.1, h.2.2.1, h.2.2.2.1.mono hT, h.2.2.2.2⟩
set_option maxRecDepth 100000 in
theorem least_l {G : NW} (ok : G.ok) {L : Nat → List Nat} (hL : LKs G L) (hS : sn 612 (aA L) ≤ 3264) {fu : Nat} (hf : 9000 ≤ fu) {c : Nat → Nat} : ∀ F T (l g : Nat → Nat) (st : St), 51 - T < F → T ≤ 1000000 → sn 11 l ≤ 660 → (T ≤ 50 → CI G L T c l g st) → Top st → (∀ T', T' < T → T' ≤ 50 → ¬ Feas G c T') → ∃ r u, LTm G c r ∧ Fr W_sd st u ∧ b_X10_leastTime_58 fu F 139 (nI (sn 11 l)) (nI T) st = some (r, u) := by
  intro F
  induction F with
  | zero => intro T l g st h; omega
  | succ F ih =>
    intro T l g st h1 hT6 hl6 hI hT hN
    rcases Nat.lt_or_ge 50 T with q | q
    · refine ⟨-nI 1, st, Or.inr ⟨rfl, fun U hU => hN U (by omega) hU⟩, Fr.rf, ?_⟩
      show b_X10_leastTime_58_b fu (b_X10_leastTime_58 fu F) 139 (nI (sn 11 l)) (nI T) st = _
      simp (disch := first | decide | omega) [↓bd_e, isb, ck_tt, NP, NF, NC, NB, NS, GS, kdC, tpC hT, b_X10_leastTime_58_b]
    · obtain ⟨l', g', u, a1, a2, a3, a4, a5⟩ := more_l ok hL hS hf q (K := sn 11 l) (by omega) fu l g 0 0 st (by omega) (by omega) (hI q) (by omega)
      have a5 : f_X10_sendMore fu 139 (nI T) st = some (nI (sn 11 l - sn 11 l'), u) := a5
      by_cases z : sn 11 l' = 0
      · refine ⟨nI T, u, Or.inl ⟨T, q, rfl, ⟨_, a1.2.2.2.1.z (sn_z z)⟩, fun U hU => hN U hU (by omega)⟩, a4, ?_⟩
        show b_X10_leastTime_58_b fu (b_X10_leastTime_58 fu F) 139 (nI (sn 11 l)) (nI T) st = _
        rw [z] at a5
        simp (disch := first | decide | omega) [↓bd_e, isb, ck_tt, NP, NF, NC, NB, NS, GS, kdC, tpC hT, b_X10_leastTime_58_b, ↓caO a5]
      · have nf : ¬ Feas G c T := fun ⟨f, hF⟩ => z (z_sn (stuck_no ok q a1.2.2.2.1 a2 hF))
        have e2 : b_X10_leastTime_58 fu (F + 1) 139 (nI (sn 11 l)) (nI T) st = b_X10_leastTime_58 fu F 139 (nI (sn 11 l')) (nI (T + 1)) u := by
          show b_X10_leastTime_58_b fu (b_X10_leastTime_58 fu F) 139 (nI (sn 11 l)) (nI T) st = _
          have z' : ¬ sn 11 l - (sn 11 l - sn 11 l') = 0 := by omega
          have z2 : sn 11 l - (sn 11 l - sn 11 l') = sn 11 l' := by omega
          simp (disch := first | decide | omega) [↓bd_e, isb, ck_tt, NP, NF, NC, NB, NS, GS, kdC, tpC hT, b_X10_leastTime_58_b, ↓caO a5, z2]
        obtain ⟨r, u2, b1, b2, b3⟩ := ih (T + 1) l' g' u (by omega) (by omega) (by omega) (fun _ => a1.mono (by omega)) a1.1 (fun U hU hU5 => by
          by_cases e : U = T
          · rw [e]; exact nf
          · exact hN U (by omega) hU5)
        exact ⟨r, u2, b1, (a4.tr b2).wd (by decide), by rw [e2]; exact b3⟩
